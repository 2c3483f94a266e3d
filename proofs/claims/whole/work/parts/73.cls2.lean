/-! THE CLASS: history -/
def shq (R : Nat → Nat → Option Nat) (T : List (Nat × Nat)) (q : Nat) : Prop := T[q]? = some (8, 4) ∧ R q 3 = some (q + 1) ∧ T[q + 1]? = some (24, 12)
theorem fx_kept {R : Nat → Nat → Option Nat} {T : List (Nat × Nat)} (hf : fx R T) (i : Nat) (hi : i < 20) : shq R T (5 + 2 * i) ∧ R 4 i = some (5 + 2 * i) := by
  have h1 : ∀ i, i < 20 → fx_T[5 + 2 * i]? = some (8, 4) ∧ fx_T[5 + 2 * i + 1]? = some (24, 12) ∧ ((5 + 2 * i, 3), 5 + 2 * i + 1) ∈ fx_RL ∧ ((4, i), 5 + 2 * i) ∈ fx_RL := by decide +kernel
  obtain ⟨a, b, c, e⟩ := h1 i hi
  exact ⟨⟨hf.2 _ _ a, hf.1 _ c, hf.2 _ _ b⟩, hf.1 _ e⟩
theorem fx_shed {R : Nat → Nat → Option Nat} {T : List (Nat × Nat)} (hf : fx R T) : shq R T 1 := ⟨ft_1 hf, fr_1_3 hf, ft_2 hf⟩
theorem fx_up {R : Nat → Nat → Option Nat} {T : List (Nat × Nat)} (hf : fx R T) {a k : Nat} {x : Option Nat} (ha : a = 2 ∨ ∃ i, i < 20 ∧ a = 6 + 2 * i) : fx (pm_up R a k x) T := by
  refine ⟨fun e he => ?_, hf.2⟩
  have h1 : ∀ e ∈ fx_RL, e.1.1 ≠ 2 ∧ ∀ i, i < 20 → e.1.1 ≠ 6 + 2 * i := by decide +kernel
  have h2 := h1 e he
  rw [pm_up_fr]
  · exact hf.1 e he
  · rcases ha with rfl | ⟨i, hi, rfl⟩
    · exact h2.1
    · exact h2.2 i hi
theorem fx_new {R R2 : Nat → Nat → Option Nat} {T T2 : List (Nat × Nat)} (hf : fx R T) (hR : ∀ q, q < 148 → R2 q = R q) (hT : ∀ (q : Nat) (z : Nat × Nat), T[q]? = some z → T2[q]? = some z) : fx R2 T2 := by
  refine ⟨fun e he => ?_, fun q z h => hT q z (hf.2 q z h)⟩
  have h1 : ∀ e ∈ fx_RL, e.1.1 < 148 := by decide +kernel
  rw [hR _ (h1 e he)]
  exact hf.1 e he
section
variable {d : Nat} {h : pm_H} {V V2 W : Nat → Nat → Int} {R R2 : Nat → Nat → Option Nat} {T T2 : List (Nat × Nat)} {n a p q : Nat} {A B : Nat → Int}
theorem pcO_keep (hV : ∀ q, 148 ≤ q → q < T.length → V2 q = V q) (hT : ∀ (q : Nat) (z : Nat × Nat), T[q]? = some z → T2[q]? = some z) (h : pcO V T a A p) : pcO V2 T2 a A p := by
  obtain ⟨h1, h2, h3, h4, h5, h6, h7, h8⟩ := h
  have hl := (List.getElem?_eq_some_iff.mp h1).1
  unfold pcO
  rw [hV a h8 hl]
  exact ⟨hT _ _ h1, h2, h3, h4, h5, h6, h7, h8⟩
theorem pcO_congr (he : ∀ j, j < 87 → A j = B j) (hp : p < 12) (h : pcO V T a A p) : pcO V T a B p := by
  unfold pcO at h ⊢
  rw [he (3 + p) (by omega), he (15 + p) (by omega), he (27 + p) (by omega), he (39 + p) (by omega), he (51 + p) (by omega), he (63 + p) (by omega), he (75 + p) (by omega)] at h
  exact h
theorem shO_keep (hq : V2 q = V q) (hR : R2 (q + 1) = R (q + 1)) (hV : ∀ q, 148 ≤ q → q < T.length → V2 q = V q) (hT : ∀ (q : Nat) (z : Nat × Nat), T[q]? = some z → T2[q]? = some z) (h : shO V R T q A n) : shO V2 R2 T2 q A n := by
  obtain ⟨h1, h2, h3, h4, h5⟩ := h
  unfold shO
  rw [hq, hR]
  exact ⟨h1, h2, h3, fun p hp => by
    obtain ⟨a, a1, a2⟩ := h4 p hp
    exact ⟨a, a1, pcO_keep hV hT a2⟩, h5⟩
theorem shO_congr (he : ∀ j, j < 87 → A j = B j) (hn : n ≤ 12) (h : shO V R T q A n) : shO V R T q B n := by
  obtain ⟨h1, h2, h3, h4, h5⟩ := h
  refine ⟨by rw [← he 0 (by decide)]; exact h1, by rw [← he 1 (by decide)]; exact h2, h3, fun p hp => ?_, h5⟩
  obtain ⟨a, a1, a2⟩ := h4 p hp
  exact ⟨a, a1, pcO_congr he (by omega) a2⟩
theorem wf_congr (he : ∀ j, j < 87 → A j = B j) (h : wf A n) : wf B n := by
  obtain ⟨h1, h2, h3, h4, h5⟩ := h
  refine ⟨h1, by rw [← he 2 (by decide)]; exact h2, by rw [← he 0 (by decide)]; exact h3, by rw [← he 1 (by decide)]; exact h4, fun p hp => ?_⟩
  have := h5 p hp
  rw [he (3 + p) (by omega), he (15 + p) (by omega), he (27 + p) (by omega), he (39 + p) (by omega), he (51 + p) (by omega), he (63 + p) (by omega), he (75 + p) (by omega)] at this
  exact this
theorem sh_tgs (h : shO V R T q A n) : ∀ j, j < 12 → ∀ a, R (q + 1) j = some a → pm_tgs (V2, R2, T) a [0, 2, 6, 9, 10] := by
  intro j hj a ha
  by_cases c : j < n
  · obtain ⟨b, b1, b2⟩ := h.2.2.2.1 j c
    rw [b1] at ha
    cases ha
    exact ⟨_, _, tgK_mem _, b2.1⟩
  · rw [h.2.2.2.2 j (by omega) hj] at ha
    cases ha
def cpQ (V : Nat → Nat → Int) (R : Nat → Nat → Option Nat) (T : List (Nat × Nat)) (q o : Nat) (r : Option pm_V) (h2 : pm_H) : Prop := ∃ V2 R2, h2 = (V2, R2, T) ∧ r = none ∧ (∀ a, a ≠ q → V2 a = V a) ∧ V2 q 0 = V o 0 ∧ V2 q 1 = V o 1 ∧ V2 q 2 = V o 2 ∧ (∀ a, a ≠ q + 1 → R2 a = R a) ∧ ∀ j, j < 12 → R2 (q + 1) j = R (o + 1) j
theorem c_copyFrom (hd : 1 ≤ d) {o : Nat} (hq : shq R T q) (ho : shq R T o) (h1 : q ≠ o) (h2 : q ≠ o + 1) (h3 : q + 1 ≠ o) (ht : ∀ j, j < 12 → ∀ a, R (o + 1) j = some a → ∀ (V2 : Nat → Nat → Int) (R2 : Nat → Nat → Option Nat), pm_tgs (V2, R2, T) a [0, 2, 6, 9, 10]) : pm_ok d 10 [.inr (.inr (some q)), .inr (.inr (some o))] (V, R, T) (cpQ V R T q o) := by
  obtain ⟨d, rfl⟩ : ∃ k, d = k + 1 := ⟨d - 1, by omega⟩
  refine pm_ok_iff.mpr ⟨(Nat.le_of_ble_eq_true rfl), ?_⟩
  show pm_w d 10 0 [some (.inr (.inr (some q))), some (.inr (.inr (some o))), none] [] (V, R, T) _
  have tq : ∀ (V : Nat → Nat → Int) (R : Nat → Nat → Option Nat), pm_tgs (V, R, T) q [8] := fun _ _ => ⟨_, _, by decide, hq.1⟩
  have to : ∀ (V : Nat → Nat → Int) (R : Nat → Nat → Option Nat), pm_tgs (V, R, T) o [8] := fun _ _ => ⟨_, _, by decide, ho.1⟩
  have bq : ∀ (V : Nat → Nat → Int) (R : Nat → Nat → Option Nat) (x : Int), pm_inb (V, R, T) (q + 1) 24 x ↔ 0 ≤ x ∧ x < 12 := fun _ _ _ => pm_inb_iff hq.2.2
  have bo : ∀ (V : Nat → Nat → Int) (R : Nat → Nat → Option Nat) (x : Int), pm_inb (V, R, T) (o + 1) 24 x ↔ 0 ≤ x ∧ x < 12 := fun _ _ _ => pm_inb_iff ho.2.2
  have e1 : ∀ k x, pm_up V q k x o = V o := fun k x => pm_up_fr (fun w => h1 w.symm)
  have e2 : ∀ k x k2 x2, pm_up (pm_up V q k x) q k2 x2 o = V o := fun k x k2 x2 => by rw [pm_up_fr (fun w => h1 w.symm), pm_up_fr (fun w => h1 w.symm)]
  simp only [ux_10_0, ux_10_1, ux_10_2, ux_10_5, ux_10_8, ux_10_9, ux_10_10, ux_10_13, ux_10_16, ux_10_17, ux_10_18, ux_10_21, ux_10_24, ux_10_25, ux_10_27, ux_10_29, ux_10_32, ux_10_33, ux_10_36, ux_10_37, ux_10_38, ux_10_41, ux_10_42, ux_10_43, ux_10_44, ux_10_47, ux_10_50, pm_i_c, pm_l_c, pm_q_c, pm_r_c, pm_li_0, pm_li_s, pm_ll_0, pm_ll_s, pm_lq_0, pm_lq_s, pm_s1, pm_s2, pm_kl, pm_wI, pm_wR, pm_pu_n, pm_pu_s, pm_wt, List.take_succ_cons, List.take_zero, List.take_nil, List.drop_succ_cons, List.drop_zero, List.reverse_cons, List.reverse_nil, List.nil_append, List.cons_append, List.length_cons, List.length_nil, true_and, and_true, true_implies, tn_l, tn_0, Int.reduceToNat, Int.reduceLE, Int.reduceLT, Int.reduceEq, Int.reduceAdd, Int.reduceSub, Int.reduceMul, Int.reduceNeg, Nat.reduceAdd, Nat.reduceLeDiff, Nat.reduceEqDiff, Nat.reduceSub, Option.some.injEq, Sum.inl.injEq, Sum.inr.injEq, or_true, true_or, reduceCtorEq, ne_eq, not_false_eq_true, not_true_eq_false, false_implies, implies_true, false_and, and_false, false_or, or_false, if_true, if_false, tq, to, e1, e2]
  generalize hV2 : pm_up (pm_up (pm_up V q 0 (V o 0)) q 1 (V o 1)) q 2 (V o 2) = V2
  have f1 : ∀ a, a ≠ q → V2 a = V a := fun a ha => by rw [← hV2, pm_up_fr ha, pm_up_fr ha, pm_up_fr ha]
  have f2 : V2 q 0 = V o 0 := by rw [← hV2, pm_up_ne (by omega), pm_up_ne (by omega)]; exact pm_up_eq
  have f3 : V2 q 1 = V o 1 := by rw [← hV2, pm_up_ne (by omega)]; exact pm_up_eq
  have f4 : V2 q 2 = V o 2 := by rw [← hV2]; exact pm_up_eq
  refine pm_up0 (fun i => ∀ R2, (∀ a, a ≠ q + 1 → R2 a = R a) → (∀ j, j < i → R2 (q + 1) j = R (o + 1) j) → pm_w d 10 26 [some (.inr (.inr (some q))), some (.inr (.inr (some o))), some (.inl (i : Int))] [] (V2, R2, T) (cpQ V R T q o)) 12 ?_ ?_ R (fun _ _ => rfl) (fun j hj => by omega)
  · intro R2 r1 r2
    rw [ux_10_26]
    simp only [ux_10_0, ux_10_1, ux_10_2, ux_10_5, ux_10_8, ux_10_9, ux_10_10, ux_10_13, ux_10_16, ux_10_17, ux_10_18, ux_10_21, ux_10_24, ux_10_25, ux_10_27, ux_10_29, ux_10_32, ux_10_33, ux_10_36, ux_10_37, ux_10_38, ux_10_41, ux_10_42, ux_10_43, ux_10_44, ux_10_47, ux_10_50, pm_i_c, pm_l_c, pm_q_c, pm_r_c, pm_li_0, pm_li_s, pm_ll_0, pm_ll_s, pm_lq_0, pm_lq_s, pm_s1, pm_s2, pm_kl, pm_wI, pm_wR, pm_pu_n, pm_pu_s, pm_wt, List.take_succ_cons, List.take_zero, List.take_nil, List.drop_succ_cons, List.drop_zero, List.reverse_cons, List.reverse_nil, List.nil_append, List.cons_append, List.length_cons, List.length_nil, true_and, and_true, true_implies, tn_l, tn_0, Int.reduceToNat, Int.reduceLE, Int.reduceLT, Int.reduceEq, Int.reduceAdd, Int.reduceSub, Int.reduceMul, Int.reduceNeg, Nat.reduceAdd, Nat.reduceLeDiff, Nat.reduceEqDiff, Nat.reduceSub, Option.some.injEq, Sum.inl.injEq, Sum.inr.injEq, or_true, true_or, reduceCtorEq, ne_eq, not_false_eq_true, not_true_eq_false, false_implies, implies_true, false_and, and_false, false_or, or_false, if_true, if_false]
    exact ⟨fun _ => ⟨V2, R2, rfl, rfl, f1, f2, f3, f4, r1, r2⟩, fun z => absurd (by decide) z⟩
  · intro i hi ih R2 r1 r2
    have eq3 : R2 q 3 = some (q + 1) := by rw [r1 q (by omega)]; exact hq.2.1
    have eo3 : R2 o 3 = some (o + 1) := by rw [r1 o (by omega)]; exact ho.2.1
    have eoi : R2 (o + 1) i = R (o + 1) i := by rw [r1 (o + 1) (by omega)]
    rw [ux_10_26]
    simp only [ux_10_0, ux_10_1, ux_10_2, ux_10_5, ux_10_8, ux_10_9, ux_10_10, ux_10_13, ux_10_16, ux_10_17, ux_10_18, ux_10_21, ux_10_24, ux_10_25, ux_10_27, ux_10_29, ux_10_32, ux_10_33, ux_10_36, ux_10_37, ux_10_38, ux_10_41, ux_10_42, ux_10_43, ux_10_44, ux_10_47, ux_10_50, pm_i_c, pm_l_c, pm_q_c, pm_r_c, pm_li_0, pm_li_s, pm_ll_0, pm_ll_s, pm_lq_0, pm_lq_s, pm_s1, pm_s2, pm_kl, pm_wI, pm_wR, pm_pu_n, pm_pu_s, pm_wt, List.take_succ_cons, List.take_zero, List.take_nil, List.drop_succ_cons, List.drop_zero, List.reverse_cons, List.reverse_nil, List.nil_append, List.cons_append, List.length_cons, List.length_nil, true_and, and_true, true_implies, tn_l, tn_0, Int.reduceToNat, Int.reduceLE, Int.reduceLT, Int.reduceEq, Int.reduceAdd, Int.reduceSub, Int.reduceMul, Int.reduceNeg, Nat.reduceAdd, Nat.reduceLeDiff, Nat.reduceEqDiff, Nat.reduceSub, Option.some.injEq, Sum.inl.injEq, Sum.inr.injEq, or_true, true_or, reduceCtorEq, ne_eq, not_false_eq_true, not_true_eq_false, false_implies, implies_true, false_and, and_false, false_or, or_false, if_true, if_false, tq, to, eq3, eo3, eoi, bq, bo]
    refine ⟨fun z => by omega, fun _ => ⟨Or.inr (Or.inl (by omega)), Or.inl ⟨by omega, fun a ha => ht i hi a ha _ _⟩, by unfold pm_I32; omega, ih _ (fun a ha => by rw [pm_up_fr ha]; exact r1 a ha) (fun j hj => ?_)⟩⟩
    rw [pm_up_row]
    dsimp only
    by_cases e : j = i
    · rw [if_pos e, e]
    · rw [if_neg e]; exact r2 j (by omega)
theorem cp_shO {o : Nat} (hqo : q ≠ o) (hq : q < 148) (ho : shO V R T o A n) (h1 : ∀ a, a ≠ q → V2 a = V a) (h2 : V2 q 0 = V o 0) (h3 : V2 q 1 = V o 1) (h4 : V2 q 2 = V o 2) (h5 : ∀ j, j < 12 → R2 (q + 1) j = R (o + 1) j) (hn : n ≤ 12) : shO V2 R2 T q A n := by
  obtain ⟨a1, a2, a3, a4, a5⟩ := ho
  refine ⟨h2.trans a1, h3.trans a2, h4.trans a3, fun p hp => ?_, fun p hp1 hp2 => by rw [h5 p hp2]; exact a5 p hp1 hp2⟩
  obtain ⟨a, b1, b2⟩ := a4 p hp
  exact ⟨a, by rw [h5 p (by omega)]; exact b1, pcO_keep (fun q hq _ => h1 q (by omega)) (fun _ _ z => z) b2⟩
/-- what is kept: H i, the oldest first -/
def hiO (V : Nat → Nat → Int) (R : Nat → Nat → Option Nat) (T : List (Nat × Nat)) (k nx : Nat) (H : Nat → Nat → Int) : Prop := V 3 2 = k ∧ k ≤ 20 ∧ V 3 1 = nx ∧ nx < 20 ∧ ∀ i, i < k → ∃ m, wf (H i) m ∧ shO V R T (5 + 2 * ((nx + 20 - k + i) % 20)) (H i) m
theorem hiO_keep {k nx : Nat} {H : Nat → Nat → Int} (h3 : V2 3 = V 3) (hV : ∀ q, 5 ≤ q → q ≤ 44 → V2 q = V q) (hR : ∀ q, 5 ≤ q → q ≤ 44 → R2 q = R q) (hV2 : ∀ q, 148 ≤ q → q < T.length → V2 q = V q) (hT : ∀ (q : Nat) (z : Nat × Nat), T[q]? = some z → T2[q]? = some z) (h : hiO V R T k nx H) : hiO V2 R2 T2 k nx H := by
  obtain ⟨a1, a2, a3, a4, a5⟩ := h
  refine ⟨by rw [h3]; exact a1, a2, by rw [h3]; exact a3, a4, fun i hi => ?_⟩
  obtain ⟨m, b1, b2⟩ := a5 i hi
  exact ⟨m, b1, shO_keep (hV _ (by omega) (by omega)) (hR _ (by omega) (by omega)) hV2 hT b2⟩
def hpu (H : Nat → Nat → Int) (A : Nat → Int) (k i : Nat) : Nat → Int := if k < 20 then (if i = k then A else H i) else if i = 19 then A else H (i + 1)
/-- what a change may touch ahead of itself: the kept sheds and the flags -/
def hfr (V V2 : Nat → Nat → Int) : Prop := ∀ q, (q = 1 ∨ q = 2 ∨ q = 4 ∨ (45 ≤ q ∧ q ≠ 119 ∧ q ≠ 125)) → V2 q = V q
def hfR (R R2 : Nat → Nat → Option Nat) : Prop := ∀ q, q < 6 ∨ 44 < q → R2 q = R q
def flg (V : Nat → Nat → Int) : Prop := V 0 4 = 0 ∧ V 0 5 = 0 ∧ V 0 6 = 0 ∧ V 0 10 = 0 ∧ V 119 0 = 0 ∧ V 125 0 = 0
def keQ (V : Nat → Nat → Int) (R : Nat → Nat → Option Nat) (T : List (Nat × Nat)) (A : Nat → Int) (k nx : Nat) (H : Nat → Nat → Int) (r : Option pm_V) (h2 : pm_H) : Prop := ∃ V2 R2, h2 = (V2, R2, T) ∧ r = none ∧ (∀ q, q < 3 ∨ q = 4 ∨ 44 < q → V2 q = V q) ∧ hfR R R2 ∧ fx R2 T ∧ hiO V2 R2 T (min (k + 1) 20) ((nx + 1) % 20) (hpu H A k)
theorem c_keep (hd : 2 ≤ d) (hf : fx R T) (hs : shO V R T 1 A n) (hw : wf A n) {k nx : Nat} {H : Nat → Nat → Int} (hh : hiO V R T k nx H) : pm_ok d 9 [.inr (.inr (some 3)), .inr (.inr (some 1))] (V, R, T) (keQ V R T A k nx H) := by
  obtain ⟨d, rfl⟩ : ∃ k, d = k + 1 := ⟨d - 1, by omega⟩
  refine pm_ok_iff.mpr ⟨(Nat.le_of_ble_eq_true rfl), ?_⟩
  show pm_w d 9 0 [some (.inr (.inr (some 3))), some (.inr (.inr (some 1))), none] [] (V, R, T) _
  obtain ⟨h1, h2, h3, h4, h5⟩ := id hh
  obtain ⟨s1, s2⟩ := fx_kept hf nx h4
  have hn := hw.1
  have s3 : pm_tg (V, R, T) (5 + 2 * nx) 8 := ⟨_, s1.1⟩
  simp only [ux_9_0, ux_9_1, ux_9_4, ux_9_5, ux_9_8, ux_9_9, ux_9_11, ux_9_14, ux_9_15, ux_9_16, ux_9_20, ux_9_21, ux_9_24, ux_9_25, ux_9_26, ux_9_28, ux_9_29, ux_9_32, ux_9_33, ux_9_34, ux_9_37, ux_9_38, ux_9_39, ux_9_41, ux_9_44, ux_9_47, pm_i_c, pm_l_c, pm_q_c, pm_r_c, pm_li_0, pm_li_s, pm_ll_0, pm_ll_s, pm_lq_0, pm_lq_s, pm_s1, pm_s2, pm_kl, pm_wI, pm_wR, pm_pu_n, pm_pu_s, pm_wt, List.take_succ_cons, List.take_zero, List.take_nil, List.drop_succ_cons, List.drop_zero, List.reverse_cons, List.reverse_nil, List.nil_append, List.cons_append, List.length_cons, List.length_nil, true_and, and_true, true_implies, tn_l, tn_0, Int.reduceToNat, Int.reduceLE, Int.reduceLT, Int.reduceEq, Int.reduceAdd, Int.reduceSub, Int.reduceMul, Int.reduceNeg, Nat.reduceAdd, Nat.reduceLeDiff, Nat.reduceEqDiff, Nat.reduceSub, Option.some.injEq, Sum.inl.injEq, Sum.inr.injEq, or_true, true_or, reduceCtorEq, ne_eq, not_false_eq_true, not_true_eq_false, false_implies, implies_true, false_and, and_false, false_or, or_false, if_true, if_false, fr_3_0 hf, fg_3 hf, fv_3 hf, fb_4 hf, h3, s2]
  refine ⟨Or.inr (Or.inr (by omega)), ?_⟩
  rw [ux_9_10]
  simp only [ux_9_0, ux_9_1, ux_9_4, ux_9_5, ux_9_8, ux_9_9, ux_9_11, ux_9_14, ux_9_15, ux_9_16, ux_9_20, ux_9_21, ux_9_24, ux_9_25, ux_9_26, ux_9_28, ux_9_29, ux_9_32, ux_9_33, ux_9_34, ux_9_37, ux_9_38, ux_9_39, ux_9_41, ux_9_44, ux_9_47, pm_i_c, pm_l_c, pm_q_c, pm_r_c, pm_li_0, pm_li_s, pm_ll_0, pm_ll_s, pm_lq_0, pm_lq_s, pm_s1, pm_s2, pm_kl, pm_wI, pm_wR, pm_pu_n, pm_pu_s, pm_wt, List.take_succ_cons, List.take_zero, List.take_nil, List.drop_succ_cons, List.drop_zero, List.reverse_cons, List.reverse_nil, List.nil_append, List.cons_append, List.length_cons, List.length_nil, true_and, and_true, true_implies, tn_l, tn_0, Int.reduceToNat, Int.reduceLE, Int.reduceLT, Int.reduceEq, Int.reduceAdd, Int.reduceSub, Int.reduceMul, Int.reduceNeg, Nat.reduceAdd, Nat.reduceLeDiff, Nat.reduceEqDiff, Nat.reduceSub, Option.some.injEq, Sum.inl.injEq, Sum.inr.injEq, or_true, true_or, reduceCtorEq, ne_eq, not_false_eq_true, not_true_eq_false, false_implies, implies_true, false_and, and_false, false_or, or_false, if_true, if_false, eq_true s3]
  refine pm_ok_mono (c_copyFrom (d := d) (by omega) s1 (fx_shed hf) (by omega) (by omega) (by omega) (fun j hj a ha V2 R2 => sh_tgs hs j hj a ha)) ?_
  rintro r h6 ⟨V2, R2, rfl, rfl, c1, c2, c3, c4, c5, c6⟩
  have fx2 : fx R2 T := by
    refine ⟨fun e he => ?_, hf.2⟩
    have g1 : ∀ e ∈ fx_RL, ∀ i, i < 20 → e.1.1 ≠ 5 + 2 * i + 1 := by decide +kernel
    rw [c5 _ (g1 e he nx h4)]
    exact hf.1 e he
  have v3 : V2 3 = V 3 := c1 3 (by omega)
  rw [pm_pu_n, ux_9_19]
  have g2 : ∀ x, pm_up V2 3 1 x 3 2 = k := fun x => by rw [pm_up_ne (by omega), v3]; exact h1
  simp only [ux_9_0, ux_9_1, ux_9_4, ux_9_5, ux_9_8, ux_9_9, ux_9_11, ux_9_14, ux_9_15, ux_9_16, ux_9_20, ux_9_21, ux_9_24, ux_9_25, ux_9_26, ux_9_28, ux_9_29, ux_9_32, ux_9_33, ux_9_34, ux_9_37, ux_9_38, ux_9_39, ux_9_41, ux_9_44, ux_9_47, pm_i_c, pm_l_c, pm_q_c, pm_r_c, pm_li_0, pm_li_s, pm_ll_0, pm_ll_s, pm_lq_0, pm_lq_s, pm_s1, pm_s2, pm_kl, pm_wI, pm_wR, pm_pu_n, pm_pu_s, pm_wt, List.take_succ_cons, List.take_zero, List.take_nil, List.drop_succ_cons, List.drop_zero, List.reverse_cons, List.reverse_nil, List.nil_append, List.cons_append, List.length_cons, List.length_nil, true_and, and_true, true_implies, tn_l, tn_0, Int.reduceToNat, Int.reduceLE, Int.reduceLT, Int.reduceEq, Int.reduceAdd, Int.reduceSub, Int.reduceMul, Int.reduceNeg, Nat.reduceAdd, Nat.reduceLeDiff, Nat.reduceEqDiff, Nat.reduceSub, Option.some.injEq, Sum.inl.injEq, Sum.inr.injEq, or_true, true_or, reduceCtorEq, ne_eq, not_false_eq_true, not_true_eq_false, false_implies, implies_true, false_and, and_false, false_or, or_false, if_true, if_false, fg_3 fx2, v3, h3, h1, g2]
  refine ⟨by unfold pm_I32; omega, by omega, by unfold pm_I32; omega, ?_⟩
  refine ⟨_, R2, rfl, rfl, fun q hq => ?_, fun q hq => c5 q (by omega), fx2, ?_⟩
  · rw [pm_up_fr (by omega), pm_up_fr (by omega)]; exact c1 q (by omega)
  · generalize hV3 : pm_up (pm_up V2 3 1 (((nx : Int) + 1) % 20)) 3 2 (min ((k : Int) + 1) 20) = V3
    have w3 : ∀ q, q ≠ 3 → V3 q = V2 q := fun q hq => by rw [← hV3, pm_up_fr hq, pm_up_fr hq]
    refine ⟨by rw [← hV3, pm_up_eq]; omega, by omega, by rw [← hV3, pm_up_ne (by omega), pm_up_eq]; omega, by omega, fun i hi => ?_⟩
    have new : shO V3 R2 T (5 + 2 * nx) A n := by
      have := cp_shO (V2 := V2) (R2 := R2) (q := 5 + 2 * nx) (o := 1) (by omega) (by omega) hs c1 c2 c3 c4 c6 hn
      exact shO_keep (w3 _ (by omega)) rfl (fun q hq _ => w3 q (by omega)) (fun _ _ z => z) this
    have old : ∀ j m B, j < 20 → j ≠ nx → shO V R T (5 + 2 * j) B m → shO V3 R2 T (5 + 2 * j) B m := by
      intro j m B hj hne hsh
      refine shO_keep ?_ (c5 _ (by omega)) (fun q hq _ => ?_) (fun _ _ z => z) hsh
      · rw [w3 _ (by omega)]; exact c1 _ (by omega)
      · rw [w3 _ (by omega)]; exact c1 _ (by omega)
    unfold hpu
    by_cases ck : k < 20
    · rw [if_pos ck]
      by_cases e : i = k
      · rw [if_pos e]
        refine ⟨n, hw, ?_⟩
        rw [show ((nx + 1) % 20 + 20 - min (k + 1) 20 + i) % 20 = nx by omega]
        exact new
      · rw [if_neg e]
        obtain ⟨m, b1, b2⟩ := h5 i (by omega)
        refine ⟨m, b1, ?_⟩
        rw [show ((nx + 1) % 20 + 20 - min (k + 1) 20 + i) % 20 = (nx + 20 - k + i) % 20 by omega]
        exact old _ m _ (by omega) (by omega) b2
    · rw [if_neg ck]
      by_cases e : i = 19
      · rw [if_pos e]
        refine ⟨n, hw, ?_⟩
        rw [show ((nx + 1) % 20 + 20 - min (k + 1) 20 + i) % 20 = nx by omega]
        exact new
      · rw [if_neg e]
        obtain ⟨m, b1, b2⟩ := h5 (i + 1) (by omega)
        refine ⟨m, b1, ?_⟩
        rw [show ((nx + 1) % 20 + 20 - min (k + 1) 20 + i) % 20 = (nx + 20 - k + (i + 1)) % 20 by omega]
        exact old _ m _ (by omega) (by omega) b2
theorem c_forget (hd : 1 ≤ d) (hf : fx R T) : pm_ok d 11 [.inr (.inr (some 0))] (V, R, T) (fun r h2 => ∃ V2, h2 = (V2, R, T) ∧ r = none ∧ (∀ q, q ≠ 0 → q ≠ 119 → q ≠ 125 → V2 q = V q) ∧ flg V2) := by
  obtain ⟨d, rfl⟩ : ∃ k, d = k + 1 := ⟨d - 1, by omega⟩
  refine pm_ok_iff.mpr ⟨(Nat.le_of_ble_eq_true rfl), ?_⟩
  show pm_w d 11 0 [some (.inr (.inr (some 0)))] [] (V, R, T) _
  simp only [ux_11_0, ux_11_1, ux_11_2, ux_11_5, ux_11_6, ux_11_7, ux_11_10, ux_11_11, ux_11_12, ux_11_15, ux_11_16, ux_11_17, ux_11_20, ux_11_21, ux_11_24, ux_11_25, ux_11_28, ux_11_29, ux_11_32, ux_11_33, ux_11_36, pm_i_c, pm_l_c, pm_q_c, pm_r_c, pm_li_0, pm_li_s, pm_ll_0, pm_ll_s, pm_lq_0, pm_lq_s, pm_s1, pm_s2, pm_kl, pm_wI, pm_wR, pm_pu_n, pm_pu_s, pm_wt, List.take_succ_cons, List.take_zero, List.take_nil, List.drop_succ_cons, List.drop_zero, List.reverse_cons, List.reverse_nil, List.nil_append, List.cons_append, List.length_cons, List.length_nil, true_and, and_true, true_implies, tn_l, tn_0, Int.reduceToNat, Int.reduceLE, Int.reduceLT, Int.reduceEq, Int.reduceAdd, Int.reduceSub, Int.reduceMul, Int.reduceNeg, Nat.reduceAdd, Nat.reduceLeDiff, Nat.reduceEqDiff, Nat.reduceSub, Option.some.injEq, Sum.inl.injEq, Sum.inr.injEq, or_true, true_or, reduceCtorEq, ne_eq, not_false_eq_true, not_true_eq_false, false_implies, implies_true, false_and, and_false, false_or, or_false, if_true, if_false, fr_0_0 hf, fr_0_1 hf, fr_0_2 hf, fr_0_3 hf, fr_0_7 hf, fr_0_8 hf, fr_0_11 hf, fr_0_12 hf, fg_0 hf, fv_0 hf, fr_119_2 hf, fr_119_3 hf, fr_119_4 hf, fr_119_5 hf, fr_119_6 hf, fg_119 hf, fv_119 hf, fr_125_4 hf, fr_125_5 hf, fr_125_6 hf, fr_125_7 hf, fr_125_8 hf, fg_125 hf, fv_125 hf]
  refine ⟨_, rfl, fun q a b c => ?_, ?_⟩
  · rw [pm_up_fr c, pm_up_fr b, pm_up_fr a, pm_up_fr a, pm_up_fr a, pm_up_fr a]
  · unfold flg
    simp only [pm_up_ap, Nat.reduceEqDiff, if_true, if_false, true_and, and_true]
def scQ (V : Nat → Nat → Int) (R : Nat → Nat → Option Nat) (T : List (Nat × Nat)) (A : Nat → Int) (k nx : Nat) (H : Nat → Nat → Int) (r : Option pm_V) (h2 : pm_H) : Prop := ∃ V2 R2, h2 = (V2, R2, T) ∧ r = none ∧ hfr V V2 ∧ hfR R R2 ∧ fx R2 T ∧ hiO V2 R2 T (min (k + 1) 20) ((nx + 1) % 20) (hpu H A k) ∧ flg V2
theorem c_startChange (hd : 3 ≤ d) (hf : fx R T) (hs : shO V R T 1 A n) (hw : wf A n) {k nx : Nat} {H : Nat → Nat → Int} (hh : hiO V R T k nx H) : pm_ok d 8 [.inr (.inr (some 0))] (V, R, T) (scQ V R T A k nx H) := by
  obtain ⟨d, rfl⟩ : ∃ k, d = k + 1 := ⟨d - 1, by omega⟩
  refine pm_ok_iff.mpr ⟨(Nat.le_of_ble_eq_true rfl), ?_⟩
  show pm_w d 8 0 [some (.inr (.inr (some 0)))] [] (V, R, T) _
  simp only [ux_8_0, ux_8_1, ux_8_4, ux_8_5, ux_8_8, ux_8_12, pm_i_c, pm_l_c, pm_q_c, pm_r_c, pm_li_0, pm_li_s, pm_ll_0, pm_ll_s, pm_lq_0, pm_lq_s, pm_s1, pm_s2, pm_kl, pm_wI, pm_wR, pm_pu_n, pm_pu_s, pm_wt, List.take_succ_cons, List.take_zero, List.take_nil, List.drop_succ_cons, List.drop_zero, List.reverse_cons, List.reverse_nil, List.nil_append, List.cons_append, List.length_cons, List.length_nil, true_and, and_true, true_implies, tn_l, tn_0, Int.reduceToNat, Int.reduceLE, Int.reduceLT, Int.reduceEq, Int.reduceAdd, Int.reduceSub, Int.reduceMul, Int.reduceNeg, Nat.reduceAdd, Nat.reduceLeDiff, Nat.reduceEqDiff, Nat.reduceSub, Option.some.injEq, Sum.inl.injEq, Sum.inr.injEq, or_true, true_or, reduceCtorEq, ne_eq, not_false_eq_true, not_true_eq_false, false_implies, implies_true, false_and, and_false, false_or, or_false, if_true, if_false, fr_0_0 hf, fr_0_1 hf, fr_0_2 hf, fr_0_3 hf, fr_0_7 hf, fr_0_8 hf, fr_0_11 hf, fr_0_12 hf, fg_0 hf, fv_0 hf, fr_1_3 hf, fg_1 hf, fv_1 hf, fr_3_0 hf, fg_3 hf, fv_3 hf]
  refine pm_ok_mono (c_keep (d := d) (by omega) hf hs hw hh) ?_
  rintro r h2 ⟨V2, R2, rfl, rfl, a1, a2, a3, a4⟩
  have hf2 := a3
  rw [pm_pu_n, ux_8_11]
  simp only [ux_8_0, ux_8_1, ux_8_4, ux_8_5, ux_8_8, ux_8_12, pm_i_c, pm_l_c, pm_q_c, pm_r_c, pm_li_0, pm_li_s, pm_ll_0, pm_ll_s, pm_lq_0, pm_lq_s, pm_s1, pm_s2, pm_kl, pm_wI, pm_wR, pm_pu_n, pm_pu_s, pm_wt, List.take_succ_cons, List.take_zero, List.take_nil, List.drop_succ_cons, List.drop_zero, List.reverse_cons, List.reverse_nil, List.nil_append, List.cons_append, List.length_cons, List.length_nil, true_and, and_true, true_implies, tn_l, tn_0, Int.reduceToNat, Int.reduceLE, Int.reduceLT, Int.reduceEq, Int.reduceAdd, Int.reduceSub, Int.reduceMul, Int.reduceNeg, Nat.reduceAdd, Nat.reduceLeDiff, Nat.reduceEqDiff, Nat.reduceSub, Option.some.injEq, Sum.inl.injEq, Sum.inr.injEq, or_true, true_or, reduceCtorEq, ne_eq, not_false_eq_true, not_true_eq_false, false_implies, implies_true, false_and, and_false, false_or, or_false, if_true, if_false, fv_0 hf2]
  refine pm_ok_mono (c_forget (d := d) (V := V2) (by omega) hf2) ?_
  rintro r h3 ⟨V3, rfl, rfl, b1, b2⟩
  rw [pm_pu_n, ux_8_15]
  refine ⟨rfl, V3, R2, rfl, rfl, fun q hq => ?_, a2, a3, hiO_keep (b1 3 (by decide) (by decide) (by decide)) (fun q h1 h2 => b1 q (by omega) (by omega) (by omega)) (fun _ _ _ => rfl) (fun q h1 _ => b1 q (by omega) (by omega) (by omega)) (fun _ _ z => z) a4, b2⟩
  rw [b1 q (by omega) (by omega) (by omega)]
  exact a1 q (by omega)
end
