/-! THE CLASS: days, the search -/
theorem bst_E {n D : Nat} {lo m0 m1 : Int} {ln a0 a1 : Nat → Int} {E E' : (Nat → Int) → Prop} (h : ∀ b, E b ↔ E' b) (hb : bst n D lo ln E m0 a0 m1 a1) : bst n D lo ln E' m0 a0 m1 a1 := by
  rw [show E' = E from funext fun b => propext (h b).symm]
  exact hb
section
variable {d : Nat} {h : pm_H} {V V2 W : Nat → Nat → Int} {R : Nat → Nat → Option Nat} {T : List (Nat × Nat)} {n D k : Nat} {A : Nat → Int} {ln : Nat → Int} {lo : Int}
theorem c_latestEnd (hd : 1 ≤ d) (hf : fx R T) (h1 : V 125 1 = D) (hD : D ≤ 4) (h2 : V 125 2 = lo) (hl : 0 ≤ lo ∧ lo ≤ 6) (hb : ∀ j, j < D → (0 ≤ V 127 j ∧ V 127 j ≤ 480) ∧ 0 ≤ V 128 j ∧ V 128 j ≤ 60) : pm_ev d 115 [.inr (.inr (some 125))] (V, R, T) (some (.inl (mxF (fun j => max (V 128 j * lo) (V 127 j)) D))) (V, R, T) := by
  refine pm_ev_of hd (Nat.le_of_ble_eq_true rfl) ?_
  show pm_w (d - 1) 115 0 [some (.inr (.inr (some 125))), none, none] [] (V, R, T) _
  simp only [ux_115_0, ux_115_1, ux_115_2, ux_115_3, ux_115_5, ux_115_6, ux_115_9, ux_115_12, ux_115_13, ux_115_14, ux_115_17, ux_115_18, ux_115_19, ux_115_20, ux_115_23, ux_115_24, ux_115_25, ux_115_28, ux_115_29, ux_115_30, ux_115_33, ux_115_36, ux_115_37, ux_115_40, ux_115_43, ux_115_44, pm_i_c, pm_l_c, pm_q_c, pm_r_c, pm_li_0, pm_li_s, pm_ll_0, pm_ll_s, pm_lq_0, pm_lq_s, pm_s1, pm_s2, pm_kl, pm_wI, pm_wR, pm_pu_n, pm_pu_s, pm_wt, List.take_succ_cons, List.take_zero, List.take_nil, List.drop_succ_cons, List.drop_zero, List.reverse_cons, List.reverse_nil, List.nil_append, List.cons_append, List.length_cons, List.length_nil, true_and, and_true, true_implies, tn_l, tn_0, Int.reduceToNat, Int.reduceLE, Int.reduceLT, Int.reduceEq, Int.reduceAdd, Int.reduceSub, Int.reduceMul, Int.reduceNeg, Nat.reduceAdd, Nat.reduceLeDiff, Nat.reduceEqDiff, Nat.reduceSub, Option.some.injEq, Sum.inl.injEq, Sum.inr.injEq, or_true, true_or, reduceCtorEq, ne_eq, not_false_eq_true, not_true_eq_false, false_implies, implies_true, false_and, and_false, false_or, or_false, if_true, if_false, fr_125_4 hf, fr_125_5 hf, fr_125_6 hf, fr_125_7 hf, fr_125_8 hf, fg_125 hf, fv_125 hf, fb_127 hf, fb_128 hf]
  refine pm_up0 (fun j => pm_w (d - 1) 115 4 [some (.inr (.inr (some 125))), some (.inl (mxF (fun j => max (V 128 j * lo) (V 127 j)) j)), some (.inl (j : Int))] [] (V, R, T) (fun r2 h2 => r2 = some (.inl (mxF (fun j => max (V 128 j * lo) (V 127 j)) D)) ∧ h2 = (V, R, T))) D ?_ ?_
  · rw [ux_115_4]
    simp only [ux_115_0, ux_115_1, ux_115_2, ux_115_3, ux_115_5, ux_115_6, ux_115_9, ux_115_12, ux_115_13, ux_115_14, ux_115_17, ux_115_18, ux_115_19, ux_115_20, ux_115_23, ux_115_24, ux_115_25, ux_115_28, ux_115_29, ux_115_30, ux_115_33, ux_115_36, ux_115_37, ux_115_40, ux_115_43, ux_115_44, pm_i_c, pm_l_c, pm_q_c, pm_r_c, pm_li_0, pm_li_s, pm_ll_0, pm_ll_s, pm_lq_0, pm_lq_s, pm_s1, pm_s2, pm_kl, pm_wI, pm_wR, pm_pu_n, pm_pu_s, pm_wt, List.take_succ_cons, List.take_zero, List.take_nil, List.drop_succ_cons, List.drop_zero, List.reverse_cons, List.reverse_nil, List.nil_append, List.cons_append, List.length_cons, List.length_nil, true_and, and_true, true_implies, tn_l, tn_0, Int.reduceToNat, Int.reduceLE, Int.reduceLT, Int.reduceEq, Int.reduceAdd, Int.reduceSub, Int.reduceMul, Int.reduceNeg, Nat.reduceAdd, Nat.reduceLeDiff, Nat.reduceEqDiff, Nat.reduceSub, Option.some.injEq, Sum.inl.injEq, Sum.inr.injEq, or_true, true_or, reduceCtorEq, ne_eq, not_false_eq_true, not_true_eq_false, false_implies, implies_true, false_and, and_false, false_or, or_false, if_true, if_false, fr_125_4 hf, fr_125_5 hf, fr_125_6 hf, fr_125_7 hf, fr_125_8 hf, fg_125 hf, fv_125 hf, fb_127 hf, fb_128 hf, h1]
    exact fun z => absurd (Int.le_refl _) z
  · intro j hj ih
    have b := hb j hj
    have m := mulbd (x := V 128 j) (y := lo) (a := 60) (b := 6) b.2.1 b.2.2 hl.1 hl.2
    rw [ux_115_4]
    simp only [ux_115_0, ux_115_1, ux_115_2, ux_115_3, ux_115_5, ux_115_6, ux_115_9, ux_115_12, ux_115_13, ux_115_14, ux_115_17, ux_115_18, ux_115_19, ux_115_20, ux_115_23, ux_115_24, ux_115_25, ux_115_28, ux_115_29, ux_115_30, ux_115_33, ux_115_36, ux_115_37, ux_115_40, ux_115_43, ux_115_44, pm_i_c, pm_l_c, pm_q_c, pm_r_c, pm_li_0, pm_li_s, pm_ll_0, pm_ll_s, pm_lq_0, pm_lq_s, pm_s1, pm_s2, pm_kl, pm_wI, pm_wR, pm_pu_n, pm_pu_s, pm_wt, List.take_succ_cons, List.take_zero, List.take_nil, List.drop_succ_cons, List.drop_zero, List.reverse_cons, List.reverse_nil, List.nil_append, List.cons_append, List.length_cons, List.length_nil, true_and, and_true, true_implies, tn_l, tn_0, Int.reduceToNat, Int.reduceLE, Int.reduceLT, Int.reduceEq, Int.reduceAdd, Int.reduceSub, Int.reduceMul, Int.reduceNeg, Nat.reduceAdd, Nat.reduceLeDiff, Nat.reduceEqDiff, Nat.reduceSub, Option.some.injEq, Sum.inl.injEq, Sum.inr.injEq, or_true, true_or, reduceCtorEq, ne_eq, not_false_eq_true, not_true_eq_false, false_implies, implies_true, false_and, and_false, false_or, or_false, if_true, if_false, fr_125_4 hf, fr_125_5 hf, fr_125_6 hf, fr_125_7 hf, fr_125_8 hf, fg_125 hf, fv_125 hf, fb_127 hf, fb_128 hf, h1, h2]
    refine ⟨fun z => by omega, fun _ => ⟨by omega, by unfold pm_I32; omega, by omega, by unfold pm_I32; omega, ih⟩⟩
def kbQ (V : Nat → Nat → Int) (R : Nat → Nat → Option Nat) (T : List (Nat × Nat)) (n : Nat) (e : Int) (r : Option pm_V) (h2 : pm_H) : Prop := ∃ W, h2 = (W, R, T) ∧ r = none ∧ (∀ q, q ≠ 125 → q ≠ 130 → W q = V q) ∧ (∀ j, j ≠ 9 → W 125 j = V 125 j) ∧ W 125 9 = e ∧ ∀ p, p < n → W 130 p = V 129 p
theorem c_keepBest (hd : 1 ≤ d) (hf : fx R T) (h3 : V 125 3 = n) (hn : n ≤ 8) (e : Int) : pm_ok d 116 [.inr (.inr (some 125)), .inl e] (V, R, T) (kbQ V R T n e) := by
  obtain ⟨d, rfl⟩ : ∃ k, d = k + 1 := ⟨d - 1, by omega⟩
  refine pm_ok_iff.mpr ⟨(Nat.le_of_ble_eq_true rfl), ?_⟩
  show pm_w d 116 0 [some (.inr (.inr (some 125))), some (.inl e), none] [] (V, R, T) _
  simp only [ux_116_0, ux_116_1, ux_116_2, ux_116_5, ux_116_6, ux_116_8, ux_116_9, ux_116_12, ux_116_15, ux_116_16, ux_116_19, ux_116_20, ux_116_21, ux_116_24, ux_116_25, ux_116_26, ux_116_27, ux_116_30, ux_116_33, pm_i_c, pm_l_c, pm_q_c, pm_r_c, pm_li_0, pm_li_s, pm_ll_0, pm_ll_s, pm_lq_0, pm_lq_s, pm_s1, pm_s2, pm_kl, pm_wI, pm_wR, pm_pu_n, pm_pu_s, pm_wt, List.take_succ_cons, List.take_zero, List.take_nil, List.drop_succ_cons, List.drop_zero, List.reverse_cons, List.reverse_nil, List.nil_append, List.cons_append, List.length_cons, List.length_nil, true_and, and_true, true_implies, tn_l, tn_0, Int.reduceToNat, Int.reduceLE, Int.reduceLT, Int.reduceEq, Int.reduceAdd, Int.reduceSub, Int.reduceMul, Int.reduceNeg, Nat.reduceAdd, Nat.reduceLeDiff, Nat.reduceEqDiff, Nat.reduceSub, Option.some.injEq, Sum.inl.injEq, Sum.inr.injEq, or_true, true_or, reduceCtorEq, ne_eq, not_false_eq_true, not_true_eq_false, false_implies, implies_true, false_and, and_false, false_or, or_false, if_true, if_false, fr_125_4 hf, fr_125_5 hf, fr_125_6 hf, fr_125_7 hf, fr_125_8 hf, fg_125 hf, fv_125 hf]
  generalize hV1 : pm_up V 125 9 e = V1
  have v1 : ∀ q, q ≠ 125 → V1 q = V q := fun q hq => by rw [← hV1, pm_up_fr hq]
  have v2 : ∀ j, j ≠ 9 → V1 125 j = V 125 j := fun j hj => by rw [← hV1, pm_up_ne (by omega)]
  have v3 : V1 125 9 = e := by rw [← hV1]; exact pm_up_eq
  clear hV1
  refine pm_up0 (fun p => ∀ (W : Nat → Nat → Int), (∀ q, q ≠ 130 → W q = V1 q) → (∀ j, j < p → W 130 j = V 129 j) → pm_w d 116 7 [some (.inr (.inr (some 125))), some (.inl e), some (.inl (p : Int))] [] (W, R, T) (kbQ V R T n e)) n ?_ ?_ V1 (fun _ _ => rfl) (fun j hj => by omega)
  · intro W w1 w2
    have e3 : W 125 3 = n := by rw [w1 125 (by decide), v2 3 (by decide)]; exact h3
    rw [ux_116_7]
    simp only [ux_116_0, ux_116_1, ux_116_2, ux_116_5, ux_116_6, ux_116_8, ux_116_9, ux_116_12, ux_116_15, ux_116_16, ux_116_19, ux_116_20, ux_116_21, ux_116_24, ux_116_25, ux_116_26, ux_116_27, ux_116_30, ux_116_33, pm_i_c, pm_l_c, pm_q_c, pm_r_c, pm_li_0, pm_li_s, pm_ll_0, pm_ll_s, pm_lq_0, pm_lq_s, pm_s1, pm_s2, pm_kl, pm_wI, pm_wR, pm_pu_n, pm_pu_s, pm_wt, List.take_succ_cons, List.take_zero, List.take_nil, List.drop_succ_cons, List.drop_zero, List.reverse_cons, List.reverse_nil, List.nil_append, List.cons_append, List.length_cons, List.length_nil, true_and, and_true, true_implies, tn_l, tn_0, Int.reduceToNat, Int.reduceLE, Int.reduceLT, Int.reduceEq, Int.reduceAdd, Int.reduceSub, Int.reduceMul, Int.reduceNeg, Nat.reduceAdd, Nat.reduceLeDiff, Nat.reduceEqDiff, Nat.reduceSub, Option.some.injEq, Sum.inl.injEq, Sum.inr.injEq, or_true, true_or, reduceCtorEq, ne_eq, not_false_eq_true, not_true_eq_false, false_implies, implies_true, false_and, and_false, false_or, or_false, if_true, if_false, fr_125_4 hf, fr_125_5 hf, fr_125_6 hf, fr_125_7 hf, fr_125_8 hf, fg_125 hf, fv_125 hf, e3]
    refine ⟨fun _ => ⟨W, rfl, rfl, fun q a b => (w1 q b).trans (v1 q a), fun j hj => by rw [w1 125 (by decide)]; exact v2 j hj, by rw [w1 125 (by decide)]; exact v3, w2⟩, fun z => absurd (Int.le_refl _) z⟩
  · intro p hp ih W w1 w2
    have e3 : W 125 3 = n := by rw [w1 125 (by decide), v2 3 (by decide)]; exact h3
    have e9 : W 129 p = V 129 p := by rw [w1 129 (by decide), v1 129 (by decide)]
    rw [ux_116_7]
    simp only [ux_116_0, ux_116_1, ux_116_2, ux_116_5, ux_116_6, ux_116_8, ux_116_9, ux_116_12, ux_116_15, ux_116_16, ux_116_19, ux_116_20, ux_116_21, ux_116_24, ux_116_25, ux_116_26, ux_116_27, ux_116_30, ux_116_33, pm_i_c, pm_l_c, pm_q_c, pm_r_c, pm_li_0, pm_li_s, pm_ll_0, pm_ll_s, pm_lq_0, pm_lq_s, pm_s1, pm_s2, pm_kl, pm_wI, pm_wR, pm_pu_n, pm_pu_s, pm_wt, List.take_succ_cons, List.take_zero, List.take_nil, List.drop_succ_cons, List.drop_zero, List.reverse_cons, List.reverse_nil, List.nil_append, List.cons_append, List.length_cons, List.length_nil, true_and, and_true, true_implies, tn_l, tn_0, Int.reduceToNat, Int.reduceLE, Int.reduceLT, Int.reduceEq, Int.reduceAdd, Int.reduceSub, Int.reduceMul, Int.reduceNeg, Nat.reduceAdd, Nat.reduceLeDiff, Nat.reduceEqDiff, Nat.reduceSub, Option.some.injEq, Sum.inl.injEq, Sum.inr.injEq, or_true, true_or, reduceCtorEq, ne_eq, not_false_eq_true, not_true_eq_false, false_implies, implies_true, false_and, and_false, false_or, or_false, if_true, if_false, fr_125_4 hf, fr_125_5 hf, fr_125_6 hf, fr_125_7 hf, fr_125_8 hf, fg_125 hf, fv_125 hf, fb_129 hf, fb_130 hf, e3, e9]
    refine ⟨fun z => by omega, fun _ => ⟨by omega, by omega, by unfold pm_I32; omega, ih _ (fun q hq => by rw [pm_up_fr hq]; exact w1 q hq) (fun j hj => ?_)⟩⟩
    rw [pm_up_row]
    dsimp only
    by_cases c : j = p
    · subst c; rw [if_pos rfl]
    · rw [if_neg c]; exact w2 j (by omega)
theorem c_sput (hd : 1 ≤ d) (hf : fx R T) (k j : Nat) (hk : k < 8) (hj : j < 4) {x y z : Int} (hx : V 126 k = x) (hy : V 127 j = y) (hz : V 128 j = z) (b1 : 0 ≤ x ∧ x ≤ 60) (b2 : 0 ≤ y ∧ y ≤ 480) : pm_ev d 117 [.inr (.inr (some 125)), .inl (k : Int), .inl (j : Int)] (V, R, T) none (pm_up (pm_up (pm_up V 129 k (j : Int)) 127 j (y + x)) 128 j (max z x), R, T) := by
  refine pm_ev_of hd (Nat.le_of_ble_eq_true rfl) ?_
  show pm_w (d - 1) 117 0 [some (.inr (.inr (some 125))), some (.inl (k : Int)), some (.inl (j : Int))] [] (V, R, T) _
  have e1 : pm_up V 129 k (j : Int) 127 j = y := by rw [pm_up_fr (by decide)]; exact hy
  have e2 : pm_up V 129 k (j : Int) 126 k = x := by rw [pm_up_fr (by decide)]; exact hx
  have e3 : pm_up (pm_up V 129 k (j : Int)) 127 j (y + x) 128 j = z := by rw [pm_up_fr (by decide), pm_up_fr (by decide)]; exact hz
  have e4 : pm_up (pm_up V 129 k (j : Int)) 127 j (y + x) 126 k = x := by rw [pm_up_fr (by decide)]; exact e2
  simp only [ux_117_0, ux_117_1, ux_117_4, ux_117_5, ux_117_6, ux_117_7, ux_117_8, ux_117_11, ux_117_12, ux_117_13, ux_117_14, ux_117_15, ux_117_18, ux_117_19, ux_117_20, ux_117_21, ux_117_22, ux_117_23, ux_117_26, ux_117_27, ux_117_28, ux_117_31, ux_117_32, ux_117_33, ux_117_34, ux_117_37, ux_117_38, ux_117_39, ux_117_42, ux_117_43, pm_i_c, pm_l_c, pm_q_c, pm_r_c, pm_li_0, pm_li_s, pm_ll_0, pm_ll_s, pm_lq_0, pm_lq_s, pm_s1, pm_s2, pm_kl, pm_wI, pm_wR, pm_pu_n, pm_pu_s, pm_wt, List.take_succ_cons, List.take_zero, List.take_nil, List.drop_succ_cons, List.drop_zero, List.reverse_cons, List.reverse_nil, List.nil_append, List.cons_append, List.length_cons, List.length_nil, true_and, and_true, true_implies, tn_l, tn_0, Int.reduceToNat, Int.reduceLE, Int.reduceLT, Int.reduceEq, Int.reduceAdd, Int.reduceSub, Int.reduceMul, Int.reduceNeg, Nat.reduceAdd, Nat.reduceLeDiff, Nat.reduceEqDiff, Nat.reduceSub, Option.some.injEq, Sum.inl.injEq, Sum.inr.injEq, or_true, true_or, reduceCtorEq, ne_eq, not_false_eq_true, not_true_eq_false, false_implies, implies_true, false_and, and_false, false_or, or_false, if_true, if_false, fr_125_4 hf, fr_125_5 hf, fr_125_6 hf, fr_125_7 hf, fr_125_8 hf, fg_125 hf, fv_125 hf, fb_126 hf, fb_127 hf, fb_128 hf, fb_129 hf, e1, e2, e3, e4]
  exact ⟨by omega, by omega, by omega, by unfold pm_I32; omega, by omega, by omega, by omega, by omega⟩
/-- where the search stands -/
def sgI (V : Nat → Nat → Int) (n D : Nat) (lo : Int) (ln : Nat → Int) (k : Nat) : Prop := V 125 1 = D ∧ V 125 2 = lo ∧ V 125 3 = n ∧ (∀ p, p < n → V 126 p = ln p) ∧ (∀ j : Nat, j < D → V 127 j = sm (fun p => if V 129 p = (j : Int) then ln p else 0) k ∧ V 128 j = mxF (fun p => if V 129 p = (j : Int) then ln p else 0) k) ∧ ∀ p, p < k → 0 ≤ V 129 p ∧ V 129 p ≤ usF (V 129) p ∧ V 129 p < D
def sgF (V W : Nat → Nat → Int) (k : Nat) : Prop := (∀ q, q < 125 ∨ 130 < q → W q = V q) ∧ (∀ j, j ≠ 9 → W 125 j = V 125 j) ∧ W 126 = V 126 ∧ (∀ j, W 127 j = V 127 j ∧ W 128 j = V 128 j) ∧ ∀ p, p < k → W 129 p = V 129 p
theorem sgI_keep (hF : sgF V W k) (hI : sgI V n D lo ln k) : sgI W n D lo ln k := by
  obtain ⟨f1, f2, f3, f4, f5⟩ := hF
  obtain ⟨i1, i2, i3, i4, i5, i6⟩ := hI
  refine ⟨(f2 1 (by decide)).trans i1, (f2 2 (by decide)).trans i2, (f2 3 (by decide)).trans i3, by rw [f3]; exact i4, fun j hj => ?_, fun p hp => ?_⟩
  · rw [(f4 j).1, (f4 j).2, (i5 j hj).1, (i5 j hj).2]
    exact ⟨sm_congr fun p hp => by rw [f5 p hp], mxF_congr fun p hp => by rw [f5 p hp]⟩
  · rw [f5 p hp, usF_congr (b := V 129) (fun q hq => f5 q (by omega))]
    exact i6 p hp
def sgQ (V : Nat → Nat → Int) (R : Nat → Nat → Option Nat) (T : List (Nat × Nat)) (n D : Nat) (lo : Int) (ln : Nat → Int) (k : Nat) (r : Option pm_V) (h2 : pm_H) : Prop := ∃ W, h2 = (W, R, T) ∧ r = none ∧ sgF V W k ∧ bst n D lo ln (fun b => rgW n D b ∧ ∀ p, p < k → b p = V 129 p) (V 125 9) (V 130) (W 125 9) (W 130)
theorem c_share (hf : fx R T) (hn : n ≤ 8) (hD : 0 < D) (hD4 : D ≤ 4) (hl : ∀ p, p < n → 1 ≤ ln p ∧ ln p ≤ 60) (hlo : 0 ≤ lo ∧ lo ≤ 6) : ∀ (r k d : Nat) (V : Nat → Nat → Int), k + r = n → r + 3 ≤ d → sgI V n D lo ln k → pm_ok d 114 [.inr (.inr (some 125)), .inl (k : Int), .inl (usF (V 129) k)] (V, R, T) (sgQ V R T n D lo ln k) := by
  intro r
  induction r with
  | zero =>
    intro k d V hk hd hI
    obtain ⟨d, rfl⟩ : ∃ k, d = k + 1 := ⟨d - 1, by omega⟩
    refine pm_ok_iff.mpr ⟨(Nat.le_of_ble_eq_true rfl), ?_⟩
    show pm_w d 114 0 [some (.inr (.inr (some 125))), some (.inl (k : Int)), some (.inl (usF (V 129) k)), none, none, none] [] (V, R, T) _
    obtain ⟨i1, i2, i3, i4, i5, i6⟩ := hI
    have hkn : k = n := by omega
    subst hkn
    have bb : ∀ j, j < D → (0 ≤ V 127 j ∧ V 127 j ≤ 480) ∧ 0 ≤ V 128 j ∧ V 128 j ≤ 60 := fun j hj => by
      rw [(i5 j hj).1, (i5 j hj).2]
      have := dyF_bd (a := V 129) (d := j) hl hlo.1 hlo.2 hn
      exact ⟨this.2.1, this.1⟩
    have elat : mxF (fun j => max (V 128 j * lo) (V 127 j)) D = latF k D lo ln (V 129) := mxF_congr fun j hj => by rw [(i5 j hj).1, (i5 j hj).2]; rfl
    have ev := c_latestEnd (d := d) (V := V) (by omega) hf i1 hD4 i2 hlo bb
    rw [elat] at ev
    simp only [ux_114_0, ux_114_1, ux_114_4, ux_114_5, ux_114_6, ux_114_7, ux_114_10, ux_114_13, ux_114_15, ux_114_16, ux_114_19, ux_114_22, ux_114_23, ux_114_24, ux_114_27, ux_114_29, ux_114_33, ux_114_34, ux_114_37, ux_114_39, ux_114_40, ux_114_43, ux_114_46, ux_114_47, ux_114_50, ux_114_52, ux_114_53, ux_114_55, ux_114_56, ux_114_57, ux_114_59, ux_114_62, ux_114_63, ux_114_64, ux_114_65, ux_114_66, ux_114_67, ux_114_69, ux_114_70, ux_114_71, ux_114_74, ux_114_77, ux_114_78, ux_114_81, ux_114_83, ux_114_84, ux_114_85, ux_114_86, ux_114_89, ux_114_90, ux_114_91, ux_114_92, ux_114_93, ux_114_94, ux_114_97, ux_114_99, ux_114_101, ux_114_102, ux_114_105, ux_114_108, pm_i_c, pm_l_c, pm_q_c, pm_r_c, pm_li_0, pm_li_s, pm_ll_0, pm_ll_s, pm_lq_0, pm_lq_s, pm_s1, pm_s2, pm_kl, pm_wI, pm_wR, pm_pu_n, pm_pu_s, pm_wt, List.take_succ_cons, List.take_zero, List.take_nil, List.drop_succ_cons, List.drop_zero, List.reverse_cons, List.reverse_nil, List.nil_append, List.cons_append, List.length_cons, List.length_nil, true_and, and_true, true_implies, tn_l, tn_0, Int.reduceToNat, Int.reduceLE, Int.reduceLT, Int.reduceEq, Int.reduceAdd, Int.reduceSub, Int.reduceMul, Int.reduceNeg, Nat.reduceAdd, Nat.reduceLeDiff, Nat.reduceEqDiff, Nat.reduceSub, Option.some.injEq, Sum.inl.injEq, Sum.inr.injEq, or_true, true_or, reduceCtorEq, ne_eq, not_false_eq_true, not_true_eq_false, false_implies, implies_true, false_and, and_false, false_or, or_false, if_true, if_false, fr_125_4 hf, fr_125_5 hf, fr_125_6 hf, fr_125_7 hf, fr_125_8 hf, fg_125 hf, fv_125 hf, pm_ok_ev ev]
    refine ⟨fun c => ?_, fun c => ?_⟩
    · rw [ux_114_14]
      simp only [ux_114_0, ux_114_1, ux_114_4, ux_114_5, ux_114_6, ux_114_7, ux_114_10, ux_114_13, ux_114_15, ux_114_16, ux_114_19, ux_114_22, ux_114_23, ux_114_24, ux_114_29, ux_114_33, ux_114_34, ux_114_37, ux_114_39, ux_114_40, ux_114_43, ux_114_46, ux_114_47, ux_114_50, ux_114_52, ux_114_53, ux_114_55, ux_114_56, ux_114_57, ux_114_59, ux_114_62, ux_114_63, ux_114_64, ux_114_65, ux_114_66, ux_114_67, ux_114_69, ux_114_70, ux_114_71, ux_114_74, ux_114_77, ux_114_78, ux_114_81, ux_114_83, ux_114_84, ux_114_85, ux_114_86, ux_114_89, ux_114_90, ux_114_91, ux_114_92, ux_114_93, ux_114_94, ux_114_97, ux_114_99, ux_114_101, ux_114_102, ux_114_105, ux_114_108, pm_i_c, pm_l_c, pm_q_c, pm_r_c, pm_li_0, pm_li_s, pm_ll_0, pm_ll_s, pm_lq_0, pm_lq_s, pm_s1, pm_s2, pm_kl, pm_wI, pm_wR, pm_pu_n, pm_pu_s, pm_wt, List.take_succ_cons, List.take_zero, List.take_nil, List.drop_succ_cons, List.drop_zero, List.reverse_cons, List.reverse_nil, List.nil_append, List.cons_append, List.length_cons, List.length_nil, true_and, and_true, true_implies, tn_l, tn_0, Int.reduceToNat, Int.reduceLE, Int.reduceLT, Int.reduceEq, Int.reduceAdd, Int.reduceSub, Int.reduceMul, Int.reduceNeg, Nat.reduceAdd, Nat.reduceLeDiff, Nat.reduceEqDiff, Nat.reduceSub, Option.some.injEq, Sum.inl.injEq, Sum.inr.injEq, or_true, true_or, reduceCtorEq, ne_eq, not_false_eq_true, not_true_eq_false, false_implies, implies_true, false_and, and_false, false_or, or_false, if_true, if_false, fr_125_4 hf, fr_125_5 hf, fr_125_6 hf, fr_125_7 hf, fr_125_8 hf, fg_125 hf, fv_125 hf, i3]
      refine ⟨fun z => by omega, fun _ => ?_⟩
      refine pm_ok_mono (c_keepBest (d := d) (V := V) (by omega) hf i3 hn (latF k D lo ln (V 129))) ?_
      rintro r h2 ⟨W, rfl, rfl, w1, w2, w3, w4⟩
      rw [pm_pu_n, ux_114_27]
      refine ⟨rfl, W, rfl, rfl, ⟨fun q hq => w1 q (by omega) (by omega), w2, w1 126 (by decide) (by decide), fun j => ⟨by rw [w1 127 (by decide) (by decide)], by rw [w1 128 (by decide) (by decide)]⟩, fun p _ => by rw [w1 129 (by decide) (by decide)]⟩, ?_⟩
      have el : latF k D lo ln (W 130) = latF k D lo ln (V 129) := latF_congr w4
      rw [w3]
      refine ⟨by omega, fun b ⟨e1, e2⟩ => ?_, Or.inr ⟨c, ⟨fun p hp => ?_, w4⟩, el.symm, fun b ⟨e1, e2⟩ _ => Or.inl fun p hp => ?_⟩⟩
      · rw [latF_congr e2]
        exact Int.le_refl _
      · rw [w4 p hp, usF_congr (b := V 129) (fun q hq => w4 q (by omega))]
        exact i6 p hp
      · rw [w4 p hp, e2 p hp]
    · refine ⟨V, rfl, rfl, ⟨fun _ _ => rfl, fun _ _ => rfl, rfl, fun _ => ⟨rfl, rfl⟩, fun _ _ => rfl⟩, Int.le_refl _, fun b ⟨e1, e2⟩ => ?_, Or.inl ⟨rfl, fun _ _ => rfl⟩⟩
      rw [latF_congr e2]
      omega
  | succ r ih =>
    intro k d V hk hd hI
    obtain ⟨d, rfl⟩ : ∃ k, d = k + 1 := ⟨d - 1, by omega⟩
    refine pm_ok_iff.mpr ⟨(Nat.le_of_ble_eq_true rfl), ?_⟩
    show pm_w d 114 0 [some (.inr (.inr (some 125))), some (.inl (k : Int)), some (.inl (usF (V 129) k)), none, none, none] [] (V, R, T) _
    have hI0 := hI
    obtain ⟨i1, i2, i3, i4, i5, i6⟩ := hI
    have hkn : k < n := by omega
    have hlk : ∀ p, p < k → 1 ≤ ln p ∧ ln p ≤ 60 := fun p hp => hl p (by omega)
    have bb : ∀ j, j < D → (0 ≤ V 127 j ∧ V 127 j ≤ 480) ∧ 0 ≤ V 128 j ∧ V 128 j ≤ 60 := fun j hj => by
      rw [(i5 j hj).1, (i5 j hj).2]
      have := dyF_bd (a := V 129) (d := j) hlk hlo.1 hlo.2 (by omega)
      exact ⟨this.2.1, this.1⟩
    have elat : mxF (fun j => max (V 128 j * lo) (V 127 j)) D = latF k D lo ln (V 129) := mxF_congr fun j hj => by rw [(i5 j hj).1, (i5 j hj).2]; rfl
    have ev := c_latestEnd (d := d) (V := V) (by omega) hf i1 hD4 i2 hlo bb
    rw [elat] at ev
    have ub1 := usF_nn (b := V 129) k
    have ub2 := usF_le (b := V 129) (D := D) (by omega) (fun p hp => (i6 p hp).2.2)
    generalize hu : usF (V 129) k = u at *
    simp only [ux_114_0, ux_114_1, ux_114_4, ux_114_5, ux_114_6, ux_114_7, ux_114_10, ux_114_13, ux_114_15, ux_114_16, ux_114_19, ux_114_22, ux_114_23, ux_114_24, ux_114_27, ux_114_29, ux_114_33, ux_114_34, ux_114_37, ux_114_39, ux_114_40, ux_114_43, ux_114_46, ux_114_47, ux_114_50, ux_114_52, ux_114_53, ux_114_55, ux_114_56, ux_114_57, ux_114_59, ux_114_62, ux_114_63, ux_114_64, ux_114_65, ux_114_66, ux_114_67, ux_114_69, ux_114_70, ux_114_71, ux_114_74, ux_114_77, ux_114_78, ux_114_81, ux_114_83, ux_114_84, ux_114_85, ux_114_86, ux_114_89, ux_114_90, ux_114_91, ux_114_92, ux_114_93, ux_114_94, ux_114_97, ux_114_99, ux_114_101, ux_114_102, ux_114_105, ux_114_108, pm_i_c, pm_l_c, pm_q_c, pm_r_c, pm_li_0, pm_li_s, pm_ll_0, pm_ll_s, pm_lq_0, pm_lq_s, pm_s1, pm_s2, pm_kl, pm_wI, pm_wR, pm_pu_n, pm_pu_s, pm_wt, List.take_succ_cons, List.take_zero, List.take_nil, List.drop_succ_cons, List.drop_zero, List.reverse_cons, List.reverse_nil, List.nil_append, List.cons_append, List.length_cons, List.length_nil, true_and, and_true, true_implies, tn_l, tn_0, Int.reduceToNat, Int.reduceLE, Int.reduceLT, Int.reduceEq, Int.reduceAdd, Int.reduceSub, Int.reduceMul, Int.reduceNeg, Nat.reduceAdd, Nat.reduceLeDiff, Nat.reduceEqDiff, Nat.reduceSub, Option.some.injEq, Sum.inl.injEq, Sum.inr.injEq, or_true, true_or, reduceCtorEq, ne_eq, not_false_eq_true, not_true_eq_false, false_implies, implies_true, false_and, and_false, false_or, or_false, if_true, if_false, fr_125_4 hf, fr_125_5 hf, fr_125_6 hf, fr_125_7 hf, fr_125_8 hf, fg_125 hf, fv_125 hf, pm_ok_ev ev]
    refine ⟨fun c => ?_, fun c => ?_⟩
    · rw [ux_114_14]
      simp only [ux_114_0, ux_114_1, ux_114_4, ux_114_5, ux_114_6, ux_114_7, ux_114_10, ux_114_13, ux_114_15, ux_114_16, ux_114_19, ux_114_22, ux_114_23, ux_114_24, ux_114_29, ux_114_33, ux_114_34, ux_114_37, ux_114_39, ux_114_40, ux_114_43, ux_114_46, ux_114_47, ux_114_50, ux_114_52, ux_114_53, ux_114_55, ux_114_56, ux_114_57, ux_114_59, ux_114_62, ux_114_63, ux_114_64, ux_114_65, ux_114_66, ux_114_67, ux_114_69, ux_114_70, ux_114_71, ux_114_74, ux_114_77, ux_114_78, ux_114_81, ux_114_83, ux_114_84, ux_114_85, ux_114_86, ux_114_89, ux_114_90, ux_114_91, ux_114_92, ux_114_93, ux_114_94, ux_114_97, ux_114_99, ux_114_101, ux_114_102, ux_114_105, ux_114_108, pm_i_c, pm_l_c, pm_q_c, pm_r_c, pm_li_0, pm_li_s, pm_ll_0, pm_ll_s, pm_lq_0, pm_lq_s, pm_s1, pm_s2, pm_kl, pm_wI, pm_wR, pm_pu_n, pm_pu_s, pm_wt, List.take_succ_cons, List.take_zero, List.take_nil, List.drop_succ_cons, List.drop_zero, List.reverse_cons, List.reverse_nil, List.nil_append, List.cons_append, List.length_cons, List.length_nil, true_and, and_true, true_implies, tn_l, tn_0, Int.reduceToNat, Int.reduceLE, Int.reduceLT, Int.reduceEq, Int.reduceAdd, Int.reduceSub, Int.reduceMul, Int.reduceNeg, Nat.reduceAdd, Nat.reduceLeDiff, Nat.reduceEqDiff, Nat.reduceSub, Option.some.injEq, Sum.inl.injEq, Sum.inr.injEq, or_true, true_or, reduceCtorEq, ne_eq, not_false_eq_true, not_true_eq_false, false_implies, implies_true, false_and, and_false, false_or, or_false, if_true, if_false, fr_125_4 hf, fr_125_5 hf, fr_125_6 hf, fr_125_7 hf, fr_125_8 hf, fg_125 hf, fv_125 hf, i3]
      refine ⟨fun _ => ?_, fun z => absurd (by omega) z⟩
      rw [ux_114_28]
      simp only [ux_114_0, ux_114_1, ux_114_4, ux_114_5, ux_114_6, ux_114_7, ux_114_10, ux_114_13, ux_114_15, ux_114_16, ux_114_19, ux_114_22, ux_114_23, ux_114_24, ux_114_29, ux_114_33, ux_114_34, ux_114_37, ux_114_39, ux_114_40, ux_114_43, ux_114_46, ux_114_47, ux_114_50, ux_114_52, ux_114_53, ux_114_55, ux_114_56, ux_114_57, ux_114_59, ux_114_62, ux_114_63, ux_114_64, ux_114_65, ux_114_66, ux_114_67, ux_114_69, ux_114_70, ux_114_71, ux_114_78, ux_114_81, ux_114_83, ux_114_84, ux_114_85, ux_114_86, ux_114_89, ux_114_90, ux_114_91, ux_114_92, ux_114_93, ux_114_94, ux_114_97, ux_114_99, ux_114_101, ux_114_102, ux_114_105, pm_i_c, pm_l_c, pm_q_c, pm_r_c, pm_li_0, pm_li_s, pm_ll_0, pm_ll_s, pm_lq_0, pm_lq_s, pm_s1, pm_s2, pm_kl, pm_wI, pm_wR, pm_pu_n, pm_pu_s, pm_wt, List.take_succ_cons, List.take_zero, List.take_nil, List.drop_succ_cons, List.drop_zero, List.reverse_cons, List.reverse_nil, List.nil_append, List.cons_append, List.length_cons, List.length_nil, true_and, and_true, true_implies, tn_l, tn_0, Int.reduceToNat, Int.reduceLE, Int.reduceLT, Int.reduceEq, Int.reduceAdd, Int.reduceSub, Int.reduceMul, Int.reduceNeg, Nat.reduceAdd, Nat.reduceLeDiff, Nat.reduceEqDiff, Nat.reduceSub, Option.some.injEq, Sum.inl.injEq, Sum.inr.injEq, or_true, true_or, reduceCtorEq, ne_eq, not_false_eq_true, not_true_eq_false, false_implies, implies_true, false_and, and_false, false_or, or_false, if_true, if_false, fr_125_4 hf, fr_125_5 hf, fr_125_6 hf, fr_125_7 hf, fr_125_8 hf, fg_125 hf, fv_125 hf]
      generalize latF k D lo ln (V 129) = lt at *
      have key : ∀ (s j : Nat) (W : Nat → Nat → Int) (y5 : Option pm_V), j + s = D → (j : Int) ≤ u + 1 → sgF V W k → bst n D lo ln (fun b => rgW n D b ∧ (∀ p, p < k → b p = V 129 p) ∧ b k < (j : Int)) (V 125 9) (V 130) (W 125 9) (W 130) → pm_w d 114 31 [some (.inr (.inr (some 125))), some (.inl (k : Int)), some (.inl u), some (.inl lt), some (.inl (j : Int)), y5] [] (W, R, T) (sgQ V R T n D lo ln k) := by
        have out : ∀ (j : Nat) (W : Nat → Nat → Int) (ls : List (Option pm_V)), (u < (j : Int) ∨ D ≤ j) → sgF V W k → bst n D lo ln (fun b => rgW n D b ∧ (∀ p, p < k → b p = V 129 p) ∧ b k < (j : Int)) (V 125 9) (V 130) (W 125 9) (W 130) → pm_w d 114 108 ls [] (W, R, T) (sgQ V R T n D lo ln k) := by
          intro j W ls hj hF hb
          rw [ux_114_108]
          refine ⟨rfl, W, rfl, rfl, hF, bst_E (fun b => ⟨fun z => ⟨z.1, z.2.1⟩, fun z => ⟨z.1, z.2, ?_⟩⟩) hb⟩
          have g := z.1 k hkn
          rw [usF_congr (b := V 129) z.2, hu] at g
          omega
        intro s
        induction s with
        | zero =>
          intro j W y5 hj hju hF hb
          have e1 : W 125 1 = D := (hF.2.1 1 (by decide)).trans i1
          rw [ux_114_31]
          simp only [ux_114_0, ux_114_1, ux_114_4, ux_114_5, ux_114_6, ux_114_7, ux_114_10, ux_114_13, ux_114_15, ux_114_16, ux_114_19, ux_114_22, ux_114_23, ux_114_24, ux_114_29, ux_114_33, ux_114_34, ux_114_37, ux_114_39, ux_114_40, ux_114_43, ux_114_46, ux_114_47, ux_114_50, ux_114_52, ux_114_53, ux_114_55, ux_114_56, ux_114_57, ux_114_59, ux_114_62, ux_114_63, ux_114_64, ux_114_65, ux_114_66, ux_114_67, ux_114_69, ux_114_70, ux_114_71, ux_114_78, ux_114_81, ux_114_83, ux_114_84, ux_114_85, ux_114_86, ux_114_89, ux_114_90, ux_114_91, ux_114_92, ux_114_93, ux_114_94, ux_114_97, ux_114_99, ux_114_101, ux_114_102, ux_114_105, pm_i_c, pm_l_c, pm_q_c, pm_r_c, pm_li_0, pm_li_s, pm_ll_0, pm_ll_s, pm_lq_0, pm_lq_s, pm_s1, pm_s2, pm_kl, pm_wI, pm_wR, pm_pu_n, pm_pu_s, pm_wt, List.take_succ_cons, List.take_zero, List.take_nil, List.drop_succ_cons, List.drop_zero, List.reverse_cons, List.reverse_nil, List.nil_append, List.cons_append, List.length_cons, List.length_nil, true_and, and_true, true_implies, tn_l, tn_0, Int.reduceToNat, Int.reduceLE, Int.reduceLT, Int.reduceEq, Int.reduceAdd, Int.reduceSub, Int.reduceMul, Int.reduceNeg, Nat.reduceAdd, Nat.reduceLeDiff, Nat.reduceEqDiff, Nat.reduceSub, Option.some.injEq, Sum.inl.injEq, Sum.inr.injEq, or_true, true_or, reduceCtorEq, ne_eq, not_false_eq_true, not_true_eq_false, false_implies, implies_true, false_and, and_false, false_or, or_false, if_true, if_false, fr_125_4 hf, fr_125_5 hf, fr_125_6 hf, fr_125_7 hf, fr_125_8 hf, fg_125 hf, fv_125 hf, e1]
          refine ⟨fun _ => out j W _ (by omega) hF hb, fun _ => ⟨fun _ => out j W _ (by omega) hF hb, fun z => absurd (by omega) z⟩⟩
        | succ s ihs =>
          intro j W y5 hj hju hF hb
          have hIW := sgI_keep hF hI0
          have e1 : W 125 1 = D := (hF.2.1 1 (by decide)).trans i1
          have e6 : W 126 k = ln k := hIW.2.2.2.1 k hkn
          have b7 := bb j (by omega)
          rw [← (hF.2.2.2.1 j).1, ← (hF.2.2.2.1 j).2] at b7
          have bk := hl k hkn
          have evp := c_sput (d := d) (V := W) (by omega) hf k j (by omega) (by omega) e6 rfl rfl (by omega) b7.1
          rw [ux_114_31]
          simp only [ux_114_0, ux_114_1, ux_114_4, ux_114_5, ux_114_6, ux_114_7, ux_114_10, ux_114_13, ux_114_15, ux_114_16, ux_114_19, ux_114_22, ux_114_23, ux_114_24, ux_114_29, ux_114_33, ux_114_34, ux_114_37, ux_114_39, ux_114_40, ux_114_43, ux_114_46, ux_114_47, ux_114_50, ux_114_52, ux_114_53, ux_114_55, ux_114_56, ux_114_57, ux_114_59, ux_114_62, ux_114_63, ux_114_64, ux_114_65, ux_114_66, ux_114_67, ux_114_69, ux_114_70, ux_114_71, ux_114_78, ux_114_81, ux_114_83, ux_114_84, ux_114_85, ux_114_86, ux_114_89, ux_114_90, ux_114_91, ux_114_92, ux_114_93, ux_114_94, ux_114_97, ux_114_99, ux_114_101, ux_114_102, ux_114_105, pm_i_c, pm_l_c, pm_q_c, pm_r_c, pm_li_0, pm_li_s, pm_ll_0, pm_ll_s, pm_lq_0, pm_lq_s, pm_s1, pm_s2, pm_kl, pm_wI, pm_wR, pm_pu_n, pm_pu_s, pm_wt, List.take_succ_cons, List.take_zero, List.take_nil, List.drop_succ_cons, List.drop_zero, List.reverse_cons, List.reverse_nil, List.nil_append, List.cons_append, List.length_cons, List.length_nil, true_and, and_true, true_implies, tn_l, tn_0, Int.reduceToNat, Int.reduceLE, Int.reduceLT, Int.reduceEq, Int.reduceAdd, Int.reduceSub, Int.reduceMul, Int.reduceNeg, Nat.reduceAdd, Nat.reduceLeDiff, Nat.reduceEqDiff, Nat.reduceSub, Option.some.injEq, Sum.inl.injEq, Sum.inr.injEq, or_true, true_or, reduceCtorEq, ne_eq, not_false_eq_true, not_true_eq_false, false_implies, implies_true, false_and, and_false, false_or, or_false, if_true, if_false, fr_125_4 hf, fr_125_5 hf, fr_125_6 hf, fr_125_7 hf, fr_125_8 hf, fg_125 hf, fv_125 hf, fb_128 hf, e1, pm_ok_ev evp]
          refine ⟨fun _ => out j W _ (by omega) hF hb, fun cu => ⟨fun z => absurd z (by omega), fun _ => ⟨by omega, by unfold pm_I32; omega, by unfold pm_I32; omega, ?_⟩⟩⟩
          generalize hW2 : pm_up (pm_up (pm_up W 129 k (j : Int)) 127 j (W 127 j + ln k)) 128 j (max (W 128 j) (ln k)) = W2
          have r9 : W2 129 = fun p => if p = k then (j : Int) else W 129 p := by rw [← hW2, pm_up_fr (by decide), pm_up_fr (by decide), pm_up_row]
          have r7 : W2 127 = fun p => if p = j then W 127 j + ln k else W 127 p := by rw [← hW2, pm_up_fr (by decide), pm_up_row, pm_up_fr (by decide)]
          have r8 : W2 128 = fun p => if p = j then max (W 128 j) (ln k) else W 128 p := by rw [← hW2, pm_up_row, pm_up_fr (by decide), pm_up_fr (by decide)]
          have rO : ∀ q, q ≠ 127 → q ≠ 128 → q ≠ 129 → W2 q = W q := fun q a b c => by rw [← hW2, pm_up_fr b, pm_up_fr a, pm_up_fr c]
          have p9 : ∀ p, p < k → W2 129 p = V 129 p := fun p hp => by rw [r9]; dsimp only; rw [if_neg (by omega)]; exact hF.2.2.2.2 p hp
          have k9 : W2 129 k = (j : Int) := by rw [r9]; dsimp only; rw [if_pos rfl]
          have eus : usF (W2 129) (k + 1) = max u ((j : Int) + 1) := by
            show max (usF (W2 129) k) (W2 129 k + 1) = _
            rw [usF_congr p9, hu, k9]
          have hI2 : sgI W2 n D lo ln (k + 1) := by
            obtain ⟨x1, x2, x3, x4, x5, x6⟩ := hIW
            refine ⟨by rw [rO 125 (by decide) (by decide) (by decide)]; exact x1, by rw [rO 125 (by decide) (by decide) (by decide)]; exact x2, by rw [rO 125 (by decide) (by decide) (by decide)]; exact x3, by rw [rO 126 (by decide) (by decide) (by decide)]; exact x4, fun i hi => ?_, fun p hp => ?_⟩
            · have q1 : sm (fun p => if W2 129 p = (i : Int) then ln p else 0) k = W 127 i := by
                rw [(x5 i hi).1]
                exact sm_congr fun p hp => by rw [(p9 p hp).trans (hF.2.2.2.2 p hp).symm]
              have q2 : mxF (fun p => if W2 129 p = (i : Int) then ln p else 0) k = W 128 i := by
                rw [(x5 i hi).2]
                exact mxF_congr fun p hp => by rw [(p9 p hp).trans (hF.2.2.2.2 p hp).symm]
              show W2 127 i = sm (fun p => if W2 129 p = (i : Int) then ln p else 0) k + (if W2 129 k = (i : Int) then ln k else 0) ∧ W2 128 i = max (mxF (fun p => if W2 129 p = (i : Int) then ln p else 0) k) (if W2 129 k = (i : Int) then ln k else 0)
              rw [q1, q2, k9, r7, r8]
              dsimp only
              by_cases c : i = j
              · subst c
                rw [if_pos rfl, if_pos rfl, if_pos rfl]
                exact ⟨rfl, rfl⟩
              · rw [if_neg c, if_neg c, if_neg (by omega)]
                have := (x5 i hi).2
                have nn := mxF_nn (f := fun p => if W 129 p = (i : Int) then ln p else 0) k
                omega
            · by_cases c : p = k
              · subst c
                rw [k9, usF_congr p9, hu]
                omega
              · rw [p9 p (by omega), usF_congr (b := V 129) (fun q hq => p9 q (by omega))]
                exact i6 p (by omega)
          rw [ux_114_74]
          simp only [ux_114_0, ux_114_1, ux_114_4, ux_114_5, ux_114_6, ux_114_7, ux_114_10, ux_114_13, ux_114_15, ux_114_16, ux_114_19, ux_114_22, ux_114_23, ux_114_24, ux_114_29, ux_114_33, ux_114_34, ux_114_37, ux_114_39, ux_114_40, ux_114_43, ux_114_46, ux_114_47, ux_114_50, ux_114_52, ux_114_53, ux_114_55, ux_114_56, ux_114_57, ux_114_59, ux_114_62, ux_114_63, ux_114_64, ux_114_65, ux_114_66, ux_114_67, ux_114_69, ux_114_70, ux_114_71, ux_114_78, ux_114_81, ux_114_83, ux_114_84, ux_114_85, ux_114_86, ux_114_89, ux_114_90, ux_114_91, ux_114_92, ux_114_93, ux_114_94, ux_114_97, ux_114_99, ux_114_101, ux_114_102, ux_114_105, pm_i_c, pm_l_c, pm_q_c, pm_r_c, pm_li_0, pm_li_s, pm_ll_0, pm_ll_s, pm_lq_0, pm_lq_s, pm_s1, pm_s2, pm_kl, pm_wI, pm_wR, pm_pu_n, pm_pu_s, pm_wt, List.take_succ_cons, List.take_zero, List.take_nil, List.drop_succ_cons, List.drop_zero, List.reverse_cons, List.reverse_nil, List.nil_append, List.cons_append, List.length_cons, List.length_nil, true_and, and_true, true_implies, tn_l, tn_0, Int.reduceToNat, Int.reduceLE, Int.reduceLT, Int.reduceEq, Int.reduceAdd, Int.reduceSub, Int.reduceMul, Int.reduceNeg, Nat.reduceAdd, Nat.reduceLeDiff, Nat.reduceEqDiff, Nat.reduceSub, Option.some.injEq, Sum.inl.injEq, Sum.inr.injEq, or_true, true_or, reduceCtorEq, ne_eq, not_false_eq_true, not_true_eq_false, false_implies, implies_true, false_and, and_false, false_or, or_false, if_true, if_false, fr_125_4 hf, fr_125_5 hf, fr_125_6 hf, fr_125_7 hf, fr_125_8 hf, fg_125 hf, fv_125 hf]
          have hrec := ih (k + 1) d W2 (by omega) (by omega) hI2
          rw [eus] at hrec
          refine pm_ok_mono hrec ?_
          rintro r0 h2 ⟨W3, rfl, rfl, g, hb3⟩
          have s7 : W3 127 j = W 127 j + ln k := by rw [(g.2.2.2.1 j).1, r7]; dsimp only; rw [if_pos rfl]
          have s6 : W3 126 k = ln k := by rw [g.2.2.1, rO 126 (by decide) (by decide) (by decide)]; exact e6
          have e0 : W 127 j + ln k - ln k = W 127 j := by omega
          rw [pm_pu_n, ux_114_77]
          simp only [ux_114_0, ux_114_1, ux_114_4, ux_114_5, ux_114_6, ux_114_7, ux_114_10, ux_114_13, ux_114_15, ux_114_16, ux_114_19, ux_114_22, ux_114_23, ux_114_24, ux_114_29, ux_114_33, ux_114_34, ux_114_37, ux_114_39, ux_114_40, ux_114_43, ux_114_46, ux_114_47, ux_114_50, ux_114_52, ux_114_53, ux_114_55, ux_114_56, ux_114_57, ux_114_59, ux_114_62, ux_114_63, ux_114_64, ux_114_65, ux_114_66, ux_114_67, ux_114_69, ux_114_70, ux_114_71, ux_114_78, ux_114_81, ux_114_83, ux_114_84, ux_114_85, ux_114_86, ux_114_89, ux_114_90, ux_114_91, ux_114_92, ux_114_93, ux_114_94, ux_114_97, ux_114_99, ux_114_101, ux_114_102, ux_114_105, pm_i_c, pm_l_c, pm_q_c, pm_r_c, pm_li_0, pm_li_s, pm_ll_0, pm_ll_s, pm_lq_0, pm_lq_s, pm_s1, pm_s2, pm_kl, pm_wI, pm_wR, pm_pu_n, pm_pu_s, pm_wt, List.take_succ_cons, List.take_zero, List.take_nil, List.drop_succ_cons, List.drop_zero, List.reverse_cons, List.reverse_nil, List.nil_append, List.cons_append, List.length_cons, List.length_nil, true_and, and_true, true_implies, tn_l, tn_0, Int.reduceToNat, Int.reduceLE, Int.reduceLT, Int.reduceEq, Int.reduceAdd, Int.reduceSub, Int.reduceMul, Int.reduceNeg, Nat.reduceAdd, Nat.reduceLeDiff, Nat.reduceEqDiff, Nat.reduceSub, Option.some.injEq, Sum.inl.injEq, Sum.inr.injEq, or_true, true_or, reduceCtorEq, ne_eq, not_false_eq_true, not_true_eq_false, false_implies, implies_true, false_and, and_false, false_or, or_false, if_true, if_false, fr_125_4 hf, fr_125_5 hf, fr_125_6 hf, fr_125_7 hf, fr_125_8 hf, fg_125 hf, fv_125 hf, fb_126 hf, fb_127 hf, fb_128 hf, s6, s7, e0]
          refine ⟨by omega, by omega, by unfold pm_I32; omega, by omega, by omega, by unfold pm_I32; omega, ?_⟩
          refine ihs (j + 1) _ _ (by omega) (by omega) ?_ ?_
          · refine ⟨fun q hq => ?_, fun i hi => ?_, ?_, fun i => ?_, fun p hp => ?_⟩
            · rw [pm_up_fr (by omega), pm_up_fr (by omega), g.1 q hq, rO q (by omega) (by omega) (by omega)]
              exact hF.1 q hq
            · rw [pm_up_fr (by decide), pm_up_fr (by decide), g.2.1 i hi, rO 125 (by decide) (by decide) (by decide)]
              exact hF.2.1 i hi
            · rw [pm_up_fr (by decide), pm_up_fr (by decide), g.2.2.1, rO 126 (by decide) (by decide) (by decide)]
              exact hF.2.2.1
            · rw [pm_up_fr (show 127 ≠ 128 by decide), pm_up_row, pm_up_row, pm_up_fr (show 128 ≠ 127 by decide)]
              dsimp only
              have f := hF.2.2.2.1 i
              have g4 := g.2.2.2.1 i
              rw [r7, r8] at g4
              dsimp only at g4
              by_cases c : i = j
              · subst c
                rw [if_pos rfl, if_pos rfl]
                exact f
              · rw [if_neg c, if_neg c, g4.1, g4.2, if_neg c, if_neg c]
                exact f
            · rw [pm_up_fr (by decide), pm_up_fr (by decide), g.2.2.2.2 p (by omega)]
              exact p9 p hp
          · rw [pm_up_fr (show 125 ≠ 128 by decide), pm_up_fr (show 125 ≠ 127 by decide), pm_up_fr (show 130 ≠ 128 by decide), pm_up_fr (show 130 ≠ 127 by decide)]
            rw [rO 125 (by decide) (by decide) (by decide), rO 130 (by decide) (by decide) (by decide)] at hb3
            refine bst_day hkn hb (bst_E (fun b => ⟨fun z => ⟨z.1, fun p hp => (z.2 p (by omega)).trans (p9 p hp), (z.2 k (by omega)).trans k9⟩, fun z => ⟨z.1, fun p hp => ?_⟩⟩) hb3)
            by_cases c : p = k
            · subst c; rw [k9]; exact z.2.2
            · rw [p9 p (by omega)]; exact z.2.1 p (by omega)
      exact key D 0 V none (by omega) (by omega) ⟨fun _ _ => rfl, fun _ _ => rfl, rfl, fun _ => ⟨rfl, rfl⟩, fun _ _ => rfl⟩ ⟨Int.le_refl _, fun b ⟨e1, _, e3⟩ => by have := (e1 k hkn).1; omega, Or.inl ⟨rfl, fun _ _ => rfl⟩⟩
    · refine ⟨V, rfl, rfl, ⟨fun _ _ => rfl, fun _ _ => rfl, rfl, fun _ => ⟨rfl, rfl⟩, fun _ _ => rfl⟩, Int.le_refl _, fun b ⟨e1, e2⟩ => ?_, Or.inl ⟨rfl, fun _ _ => rfl⟩⟩
      have h3 := lat_up (D := D) (lo := lo) (b := b) hl hlo.1 (show k ≤ n by omega)
      rw [latF_congr e2] at h3
      omega
end
