/-! THE CLASS: changes -/
def grw (T T2 : List (Nat × Nat)) : Prop := T2.length ≤ T.length + 1 ∧ (T2.map fun z => z.2).sum ≤ (T.map fun z => z.2).sum + 5 ∧ ∀ (q : Nat) (z : Nat × Nat), T[q]? = some z → T2[q]? = some z
theorem grw_rf {T : List (Nat × Nat)} : grw T T := ⟨by omega, by omega, fun _ _ z => z⟩
theorem grw_new {T : List (Nat × Nat)} {z : Nat × Nat} (h : z.2 ≤ 5) : grw T (T ++ [z]) := by
  refine ⟨by rw [List.length_append]; simp, ?_, fun q y hq => ?_⟩
  · rw [List.map_append, List.sum_append]; simp; exact h
  · rw [List.getElem?_append_left (List.getElem?_eq_some_iff.mp hq).1]; exact hq
def pcA (A : Nat → Int) (n : Nat) (k l f t : Int) : Nat → Int := pcV (fun _ => A) n k l f t 132
def dpA (A : Nat → Int) (n p : Nat) : Nat → Int := fun j => if j = 2 then ((n - 1 : Nat) : Int) else drA A n p 7 0 j
theorem pcV_132 {W : Nat → Nat → Int} {n : Nat} {k l f t : Int} : pcV W n k l f t 132 = pcA (W 132) n k l f t := by
  unfold pcA pcV
  simp only [pm_up_row]
theorem pcA_old {A : Nat → Int} {n q : Nat} {k l f t : Int} (hq : q < n) (hn : n < 12) : pcA A n k l f t (3 + q) = A (3 + q) ∧ pcA A n k l f t (15 + q) = A (15 + q) ∧ pcA A n k l f t (27 + q) = A (27 + q) ∧ pcA A n k l f t (39 + q) = A (39 + q) ∧ pcA A n k l f t (51 + q) = A (51 + q) ∧ pcA A n k l f t (63 + q) = A (63 + q) ∧ pcA A n k l f t (75 + q) = A (75 + q) := by
  unfold pcA pcV
  refine ⟨?_, ?_, ?_, ?_, ?_, ?_, ?_⟩ <;> (rw [pm_up_ne (by omega), pm_up_ne (by omega), pm_up_ne (by omega), pm_up_ne (by omega), pm_up_ne (by omega), pm_up_ne (by omega), pm_up_ne (by omega), pm_up_ne (by omega)])
theorem pcA_new {A : Nat → Int} {n : Nat} {k l f t : Int} (hn : n < 12) : pcA A n k l f t (3 + n) = k ∧ pcA A n k l f t (15 + n) = (if k = 1 then t - f else l) ∧ pcA A n k l f t (27 + n) = (if k = 2 then 0 else f) ∧ pcA A n k l f t (39 + n) = (if k = 2 then 0 else t) ∧ pcA A n k l f t (51 + n) = (if k = 3 then 2 else 1) ∧ pcA A n k l f t (63 + n) = (if k = 4 then 0 else -3) ∧ pcA A n k l f t (75 + n) = (if k = 4 then 1 else -3) := by
  unfold pcA pcV
  refine ⟨?_, ?_, ?_, ?_, ?_, ?_, ?_⟩
  · rw [pm_up_ne (by omega), pm_up_ne (by omega), pm_up_ne (by omega), pm_up_ne (by omega), pm_up_ne (by omega), pm_up_ne (by omega), pm_up_ne (by omega), pm_up_eq]
  · rw [pm_up_ne (by omega), pm_up_ne (by omega), pm_up_ne (by omega), pm_up_ne (by omega), pm_up_ne (by omega), pm_up_ne (by omega), pm_up_eq]
  · rw [pm_up_ne (by omega), pm_up_ne (by omega), pm_up_ne (by omega), pm_up_ne (by omega), pm_up_ne (by omega), pm_up_eq]
  · rw [pm_up_ne (by omega), pm_up_ne (by omega), pm_up_ne (by omega), pm_up_ne (by omega), pm_up_eq]
  · rw [pm_up_ne (by omega), pm_up_ne (by omega), pm_up_ne (by omega), pm_up_eq]
  · rw [pm_up_ne (by omega), pm_up_ne (by omega), pm_up_eq]
  · rw [pm_up_ne (by omega), pm_up_eq]
theorem pcA_hd {A : Nat → Int} {n : Nat} {k l f t : Int} : pcA A n k l f t 0 = A 0 ∧ pcA A n k l f t 1 = A 1 ∧ pcA A n k l f t 2 = ((n + 1 : Nat) : Int) := by
  unfold pcA pcV
  refine ⟨?_, ?_, pm_up_eq⟩ <;> (rw [pm_up_ne (by omega), pm_up_ne (by omega), pm_up_ne (by omega), pm_up_ne (by omega), pm_up_ne (by omega), pm_up_ne (by omega), pm_up_ne (by omega), pm_up_ne (by omega)])
theorem pcA_wf {A : Nat → Int} {n : Nat} {k l f t : Int} (hw : wf A n) (hn : n < 12) (hk : pcK k l f t) : wf (pcA A n k l f t) (n + 1) := by
  obtain ⟨h1, h2, h3, h4, h5⟩ := hw
  obtain ⟨a0, a1, a2⟩ := pcA_hd (A := A) (n := n) (k := k) (l := l) (f := f) (t := t)
  refine ⟨by omega, a2, by rw [a0]; exact h3, by rw [a1]; exact h4, fun p hp => ?_⟩
  by_cases e : p = n
  · subst e
    obtain ⟨b1, b2, b3, b4, b5, b6, b7⟩ := pcA_new (A := A) (n := p) (k := k) (l := l) (f := f) (t := t) hn
    rw [b1, b2, b3, b4, b5, b6, b7]
    obtain ⟨c1, c2, c3⟩ := hk
    have : k = 0 ∨ k = 1 ∨ k = 2 ∨ k = 3 ∨ k = 4 := by omega
    rcases this with rfl | rfl | rfl | rfl | rfl <;> simp only [Int.reduceEq, if_true, if_false] <;> (repeat' (first | apply And.intro | intro _)) <;> first | omega | contradiction | decide | trivial
  · obtain ⟨b1, b2, b3, b4, b5, b6, b7⟩ := pcA_old (A := A) (n := n) (q := p) (k := k) (l := l) (f := f) (t := t) (by omega) hn
    rw [b1, b2, b3, b4, b5, b6, b7]
    exact h5 p (by omega)
theorem dpA_at {A : Nat → Int} {n p q r : Nat} (hq : q + 1 < n) (hn : n ≤ 12) (hr : r < 7) : dpA A n p (3 + 12 * r + q) = if p ≤ q then A (3 + 12 * r + (q + 1)) else A (3 + 12 * r + q) := by
  unfold dpA drA
  rw [if_neg (by omega)]
  have e : (3 + 12 * r + q - 3) % 12 = q := by omega
  rw [e]
  by_cases c : p ≤ q
  · rw [if_pos c, if_pos (Or.inl ⟨by omega, by omega, c, hq⟩)]; rfl
  · rw [if_neg c, if_neg (by omega)]
theorem dpA_all {A : Nat → Int} {n p q : Nat} (hq : q + 1 < n) (hn : n ≤ 12) : ∃ z, (z = if p ≤ q then q + 1 else q) ∧ dpA A n p (3 + q) = A (3 + z) ∧ dpA A n p (15 + q) = A (15 + z) ∧ dpA A n p (27 + q) = A (27 + z) ∧ dpA A n p (39 + q) = A (39 + z) ∧ dpA A n p (51 + q) = A (51 + z) ∧ dpA A n p (63 + q) = A (63 + z) ∧ dpA A n p (75 + q) = A (75 + z) := by
  refine ⟨_, rfl, ?_⟩
  have h := fun r hr => dpA_at (A := A) (p := p) (r := r) hq hn hr
  have h0 := h 0 (by decide)
  have h1 := h 1 (by decide)
  have h2 := h 2 (by decide)
  have h3 := h 3 (by decide)
  have h4 := h 4 (by decide)
  have h5 := h 5 (by decide)
  have h6 := h 6 (by decide)
  by_cases c : p ≤ q
  · rw [if_pos c] at h0 h1 h2 h3 h4 h5 h6 ⊢
    exact ⟨h0, h1, h2, h3, h4, h5, h6⟩
  · rw [if_neg c] at h0 h1 h2 h3 h4 h5 h6 ⊢
    exact ⟨h0, h1, h2, h3, h4, h5, h6⟩
theorem dpA_wf {A : Nat → Int} {n p : Nat} (hw : wf A n) (hp : p < n) : wf (dpA A n p) (n - 1) := by
  obtain ⟨h1, h2, h3, h4, h5⟩ := hw
  have d0 : dpA A n p 0 = A 0 := by unfold dpA drA; rw [if_neg (by decide), if_neg (by omega)]
  have d1 : dpA A n p 1 = A 1 := by unfold dpA drA; rw [if_neg (by decide), if_neg (by omega)]
  refine ⟨by omega, if_pos rfl, by rw [d0]; exact h3, by rw [d1]; exact h4, fun q hq => ?_⟩
  obtain ⟨z, z1, b1, b2, b3, b4, b5, b6, b7⟩ := dpA_all (A := A) (p := p) (q := q) (n := n) (by omega) h1
  rw [b1, b2, b3, b4, b5, b6, b7]
  exact h5 z (by split at z1 <;> omega)
section
variable {d : Nat} {h : pm_H} {V V2 W : Nat → Nat → Int} {R R2 : Nat → Nat → Option Nat} {T T2 : List (Nat × Nat)} {n a p q k nx : Nat} {A B : Nat → Int} {H : Nat → Nat → Int}
def ckQ (V : Nat → Nat → Int) (T : List (Nat × Nat)) (A A2 : Nat → Int) (n2 k nx : Nat) (H : Nat → Nat → Int) (v : Int) (r : Option pm_V) (h2 : pm_H) : Prop := ∃ V2 R2 T2, h2 = (V2, R2, T2) ∧ r = some (.inl v) ∧ fx R2 T2 ∧ (∀ q, 131 ≤ q → q ≤ 147 → V2 q = V q) ∧ shO V2 R2 T2 1 A2 n2 ∧ hiO V2 R2 T2 (min (k + 1) 20) ((nx + 1) % 20) (hpu H A k) ∧ flg V2 ∧ grw T T2
theorem pcO_of (e1 : B (3 + q) = A (3 + p)) (e2 : B (15 + q) = A (15 + p)) (e3 : B (27 + q) = A (27 + p)) (e4 : B (39 + q) = A (39 + p)) (e5 : B (51 + q) = A (51 + p)) (e6 : B (63 + q) = A (63 + p)) (e7 : B (75 + q) = A (75 + p)) (h : pcO V T a A p) : pcO V T a B q := by
  unfold pcO at h ⊢
  rw [e1, e2, e3, e4, e5, e6, e7]
  exact h
/-- behind startChange the shed is as it was -/
theorem sc_sh (hs : shO V R T 1 A n) (h1 : hfr V V2) (h2 : hfR R R2) : shO V2 R2 T 1 A n := shO_keep (h1 1 (by omega)) (h2 2 (by omega)) (fun q hq _ => h1 q (by omega)) (fun _ _ z => z) hs
theorem c_looms_bad (hd : 1 ≤ d) (x : Int) (hx : ¬ (1 ≤ x ∧ x ≤ 6)) : pm_ev d 7 [.inr (.inr (some 0)), .inl x] h (some (.inl (-1))) h := by
  refine pm_ev_of hd (Nat.le_of_ble_eq_true rfl) ?_
  show pm_w (d - 1) 7 0 [some (.inr (.inr (some 0))), some (.inl x), none] [] h _
  simp only [ux_7_0, ux_7_1, ux_7_2, ux_7_5, ux_7_6, ux_7_8, ux_7_11, ux_7_12, ux_7_14, ux_7_17, ux_7_20, ux_7_21, ux_7_22, ux_7_25, ux_7_26, ux_7_29, ux_7_30, ux_7_33, ux_7_34, pm_i_c, pm_l_c, pm_q_c, pm_r_c, pm_li_0, pm_li_s, pm_ll_0, pm_ll_s, pm_lq_0, pm_lq_s, pm_s1, pm_s2, pm_kl, pm_wI, pm_wR, pm_pu_n, pm_pu_s, pm_wt, List.take_succ_cons, List.take_zero, List.take_nil, List.drop_succ_cons, List.drop_zero, List.reverse_cons, List.reverse_nil, List.nil_append, List.cons_append, List.length_cons, List.length_nil, true_and, and_true, true_implies, tn_l, tn_0, Int.reduceToNat, Int.reduceLE, Int.reduceLT, Int.reduceEq, Int.reduceAdd, Int.reduceSub, Int.reduceMul, Int.reduceNeg, Nat.reduceAdd, Nat.reduceLeDiff, Nat.reduceEqDiff, Nat.reduceSub, Option.some.injEq, Sum.inl.injEq, Sum.inr.injEq, or_true, true_or, reduceCtorEq, ne_eq, not_false_eq_true, not_true_eq_false, false_implies, implies_true, false_and, and_false, false_or, or_false, if_true, if_false]
  exact fun z z2 => absurd ⟨by omega, z2⟩ hx
theorem c_looms (hd : 4 ≤ d) (hf : fx R T) (hs : shO V R T 1 A n) (hw : wf A n) (hh : hiO V R T k nx H) (x : Int) (hx : 1 ≤ x ∧ x ≤ 6) : pm_ok d 7 [.inr (.inr (some 0)), .inl x] (V, R, T) (ckQ V T A (fun j => if j = 0 then x else A j) n k nx H (A 0)) := by
  obtain ⟨d, rfl⟩ : ∃ k, d = k + 1 := ⟨d - 1, by omega⟩
  refine pm_ok_iff.mpr ⟨(Nat.le_of_ble_eq_true rfl), ?_⟩
  show pm_w d 7 0 [some (.inr (.inr (some 0))), some (.inl x), none] [] (V, R, T) _
  simp only [ux_7_0, ux_7_1, ux_7_2, ux_7_5, ux_7_6, ux_7_8, ux_7_11, ux_7_12, ux_7_14, ux_7_17, ux_7_20, ux_7_21, ux_7_22, ux_7_26, ux_7_29, ux_7_30, ux_7_33, ux_7_34, pm_i_c, pm_l_c, pm_q_c, pm_r_c, pm_li_0, pm_li_s, pm_ll_0, pm_ll_s, pm_lq_0, pm_lq_s, pm_s1, pm_s2, pm_kl, pm_wI, pm_wR, pm_pu_n, pm_pu_s, pm_wt, List.take_succ_cons, List.take_zero, List.take_nil, List.drop_succ_cons, List.drop_zero, List.reverse_cons, List.reverse_nil, List.nil_append, List.cons_append, List.length_cons, List.length_nil, true_and, and_true, true_implies, tn_l, tn_0, Int.reduceToNat, Int.reduceLE, Int.reduceLT, Int.reduceEq, Int.reduceAdd, Int.reduceSub, Int.reduceMul, Int.reduceNeg, Nat.reduceAdd, Nat.reduceLeDiff, Nat.reduceEqDiff, Nat.reduceSub, Option.some.injEq, Sum.inl.injEq, Sum.inr.injEq, or_true, true_or, reduceCtorEq, ne_eq, not_false_eq_true, not_true_eq_false, false_implies, implies_true, false_and, and_false, false_or, or_false, if_true, if_false, fr_0_0 hf, fr_0_1 hf, fr_0_2 hf, fr_0_3 hf, fr_0_7 hf, fr_0_8 hf, fr_0_11 hf, fr_0_12 hf, fg_0 hf, fv_0 hf, fr_1_3 hf, fg_1 hf, fv_1 hf]
  refine ⟨fun z => by omega, fun z => ⟨fun z2 => ?_, fun z2 => absurd hx.2 z2⟩⟩
  rw [ux_7_13]
  simp only [ux_7_0, ux_7_1, ux_7_2, ux_7_5, ux_7_6, ux_7_8, ux_7_11, ux_7_12, ux_7_14, ux_7_17, ux_7_20, ux_7_21, ux_7_22, ux_7_26, ux_7_29, ux_7_30, ux_7_33, ux_7_34, pm_i_c, pm_l_c, pm_q_c, pm_r_c, pm_li_0, pm_li_s, pm_ll_0, pm_ll_s, pm_lq_0, pm_lq_s, pm_s1, pm_s2, pm_kl, pm_wI, pm_wR, pm_pu_n, pm_pu_s, pm_wt, List.take_succ_cons, List.take_zero, List.take_nil, List.drop_succ_cons, List.drop_zero, List.reverse_cons, List.reverse_nil, List.nil_append, List.cons_append, List.length_cons, List.length_nil, true_and, and_true, true_implies, tn_l, tn_0, Int.reduceToNat, Int.reduceLE, Int.reduceLT, Int.reduceEq, Int.reduceAdd, Int.reduceSub, Int.reduceMul, Int.reduceNeg, Nat.reduceAdd, Nat.reduceLeDiff, Nat.reduceEqDiff, Nat.reduceSub, Option.some.injEq, Sum.inl.injEq, Sum.inr.injEq, or_true, true_or, reduceCtorEq, ne_eq, not_false_eq_true, not_true_eq_false, false_implies, implies_true, false_and, and_false, false_or, or_false, if_true, if_false, fr_0_0 hf, fr_0_1 hf, fr_0_2 hf, fr_0_3 hf, fr_0_7 hf, fr_0_8 hf, fr_0_11 hf, fr_0_12 hf, fg_0 hf, fv_0 hf, fr_1_3 hf, fg_1 hf, fv_1 hf]
  refine pm_ok_mono (c_startChange (d := d) (by omega) hf hs hw hh) ?_
  rintro r h2 ⟨V2, R2, rfl, rfl, a1, a2, hf2, a4, a5⟩
  have hs2 := sc_sh hs a1 a2
  rw [pm_pu_n, ux_7_25]
  simp only [ux_7_0, ux_7_1, ux_7_2, ux_7_5, ux_7_6, ux_7_8, ux_7_11, ux_7_12, ux_7_14, ux_7_17, ux_7_20, ux_7_21, ux_7_22, ux_7_26, ux_7_29, ux_7_30, ux_7_33, ux_7_34, pm_i_c, pm_l_c, pm_q_c, pm_r_c, pm_li_0, pm_li_s, pm_ll_0, pm_ll_s, pm_lq_0, pm_lq_s, pm_s1, pm_s2, pm_kl, pm_wI, pm_wR, pm_pu_n, pm_pu_s, pm_wt, List.take_succ_cons, List.take_zero, List.take_nil, List.drop_succ_cons, List.drop_zero, List.reverse_cons, List.reverse_nil, List.nil_append, List.cons_append, List.length_cons, List.length_nil, true_and, and_true, true_implies, tn_l, tn_0, Int.reduceToNat, Int.reduceLE, Int.reduceLT, Int.reduceEq, Int.reduceAdd, Int.reduceSub, Int.reduceMul, Int.reduceNeg, Nat.reduceAdd, Nat.reduceLeDiff, Nat.reduceEqDiff, Nat.reduceSub, Option.some.injEq, Sum.inl.injEq, Sum.inr.injEq, or_true, true_or, reduceCtorEq, ne_eq, not_false_eq_true, not_true_eq_false, false_implies, implies_true, false_and, and_false, false_or, or_false, if_true, if_false, fr_0_0 hf2, fg_0 hf2, fg_1 hf2]
  have e : ∀ q, q ≠ 1 → pm_up V2 1 0 x q = V2 q := fun q hq => pm_up_fr hq
  refine ⟨_, R2, T, rfl, by rw [hs.1], hf2, fun q h1 h2 => ?_, ⟨pm_up_eq, ?_, ?_, ?_, hs2.2.2.2.2⟩, hiO_keep (e 3 (by decide)) (fun q h1 _ => e q (by omega)) (fun _ _ _ => rfl) (fun q h1 _ => e q (by omega)) (fun _ _ z => z) a4, ?_, grw_rf⟩
  · rw [e q (by omega)]; exact a1 q (by omega)
  · rw [pm_up_ne (by omega)]; exact hs2.2.1
  · rw [pm_up_ne (by omega)]; exact hs2.2.2.1
  · intro p hp
    obtain ⟨a, b1, b2⟩ := hs2.2.2.2.1 p hp
    refine ⟨a, b1, ?_⟩
    have := pcO_keep (V2 := pm_up V2 1 0 x) (T2 := T) (fun q hq _ => e q (by omega)) (fun _ _ z => z) b2
    exact pcO_of (if_neg (by omega)) (if_neg (by omega)) (if_neg (by omega)) (if_neg (by omega)) (if_neg (by omega)) (if_neg (by omega)) (if_neg (by omega)) this
  · unfold flg at *
    rw [e 0 (by decide), e 119 (by decide), e 125 (by decide)]
    exact a5
theorem c_end_bad (hd : 1 ≤ d) (x : Int) (hx : ¬ (1 ≤ x ∧ x ≤ 60)) : pm_ev d 12 [.inr (.inr (some 0)), .inl x] h (some (.inl (-1))) h := by
  refine pm_ev_of hd (Nat.le_of_ble_eq_true rfl) ?_
  show pm_w (d - 1) 12 0 [some (.inr (.inr (some 0))), some (.inl x), none] [] h _
  simp only [ux_12_0, ux_12_1, ux_12_2, ux_12_5, ux_12_6, ux_12_8, ux_12_11, ux_12_12, ux_12_14, ux_12_17, ux_12_20, ux_12_21, ux_12_22, ux_12_25, ux_12_26, ux_12_29, ux_12_30, ux_12_33, ux_12_34, pm_i_c, pm_l_c, pm_q_c, pm_r_c, pm_li_0, pm_li_s, pm_ll_0, pm_ll_s, pm_lq_0, pm_lq_s, pm_s1, pm_s2, pm_kl, pm_wI, pm_wR, pm_pu_n, pm_pu_s, pm_wt, List.take_succ_cons, List.take_zero, List.take_nil, List.drop_succ_cons, List.drop_zero, List.reverse_cons, List.reverse_nil, List.nil_append, List.cons_append, List.length_cons, List.length_nil, true_and, and_true, true_implies, tn_l, tn_0, Int.reduceToNat, Int.reduceLE, Int.reduceLT, Int.reduceEq, Int.reduceAdd, Int.reduceSub, Int.reduceMul, Int.reduceNeg, Nat.reduceAdd, Nat.reduceLeDiff, Nat.reduceEqDiff, Nat.reduceSub, Option.some.injEq, Sum.inl.injEq, Sum.inr.injEq, or_true, true_or, reduceCtorEq, ne_eq, not_false_eq_true, not_true_eq_false, false_implies, implies_true, false_and, and_false, false_or, or_false, if_true, if_false]
  exact fun z z2 => absurd ⟨by omega, z2⟩ hx
theorem c_end (hd : 4 ≤ d) (hf : fx R T) (hs : shO V R T 1 A n) (hw : wf A n) (hh : hiO V R T k nx H) (x : Int) (hx : 1 ≤ x ∧ x ≤ 60) : pm_ok d 12 [.inr (.inr (some 0)), .inl x] (V, R, T) (ckQ V T A (fun j => if j = 1 then x else A j) n k nx H (A 1)) := by
  obtain ⟨d, rfl⟩ : ∃ k, d = k + 1 := ⟨d - 1, by omega⟩
  refine pm_ok_iff.mpr ⟨(Nat.le_of_ble_eq_true rfl), ?_⟩
  show pm_w d 12 0 [some (.inr (.inr (some 0))), some (.inl x), none] [] (V, R, T) _
  simp only [ux_12_0, ux_12_1, ux_12_2, ux_12_5, ux_12_6, ux_12_8, ux_12_11, ux_12_12, ux_12_14, ux_12_17, ux_12_20, ux_12_21, ux_12_22, ux_12_26, ux_12_29, ux_12_30, ux_12_33, ux_12_34, pm_i_c, pm_l_c, pm_q_c, pm_r_c, pm_li_0, pm_li_s, pm_ll_0, pm_ll_s, pm_lq_0, pm_lq_s, pm_s1, pm_s2, pm_kl, pm_wI, pm_wR, pm_pu_n, pm_pu_s, pm_wt, List.take_succ_cons, List.take_zero, List.take_nil, List.drop_succ_cons, List.drop_zero, List.reverse_cons, List.reverse_nil, List.nil_append, List.cons_append, List.length_cons, List.length_nil, true_and, and_true, true_implies, tn_l, tn_0, Int.reduceToNat, Int.reduceLE, Int.reduceLT, Int.reduceEq, Int.reduceAdd, Int.reduceSub, Int.reduceMul, Int.reduceNeg, Nat.reduceAdd, Nat.reduceLeDiff, Nat.reduceEqDiff, Nat.reduceSub, Option.some.injEq, Sum.inl.injEq, Sum.inr.injEq, or_true, true_or, reduceCtorEq, ne_eq, not_false_eq_true, not_true_eq_false, false_implies, implies_true, false_and, and_false, false_or, or_false, if_true, if_false, fr_0_0 hf, fr_0_1 hf, fr_0_2 hf, fr_0_3 hf, fr_0_7 hf, fr_0_8 hf, fr_0_11 hf, fr_0_12 hf, fg_0 hf, fv_0 hf, fr_1_3 hf, fg_1 hf, fv_1 hf]
  refine ⟨fun z => by omega, fun z => ⟨fun z2 => ?_, fun z2 => absurd hx.2 z2⟩⟩
  rw [ux_12_13]
  simp only [ux_12_0, ux_12_1, ux_12_2, ux_12_5, ux_12_6, ux_12_8, ux_12_11, ux_12_12, ux_12_14, ux_12_17, ux_12_20, ux_12_21, ux_12_22, ux_12_26, ux_12_29, ux_12_30, ux_12_33, ux_12_34, pm_i_c, pm_l_c, pm_q_c, pm_r_c, pm_li_0, pm_li_s, pm_ll_0, pm_ll_s, pm_lq_0, pm_lq_s, pm_s1, pm_s2, pm_kl, pm_wI, pm_wR, pm_pu_n, pm_pu_s, pm_wt, List.take_succ_cons, List.take_zero, List.take_nil, List.drop_succ_cons, List.drop_zero, List.reverse_cons, List.reverse_nil, List.nil_append, List.cons_append, List.length_cons, List.length_nil, true_and, and_true, true_implies, tn_l, tn_0, Int.reduceToNat, Int.reduceLE, Int.reduceLT, Int.reduceEq, Int.reduceAdd, Int.reduceSub, Int.reduceMul, Int.reduceNeg, Nat.reduceAdd, Nat.reduceLeDiff, Nat.reduceEqDiff, Nat.reduceSub, Option.some.injEq, Sum.inl.injEq, Sum.inr.injEq, or_true, true_or, reduceCtorEq, ne_eq, not_false_eq_true, not_true_eq_false, false_implies, implies_true, false_and, and_false, false_or, or_false, if_true, if_false, fr_0_0 hf, fr_0_1 hf, fr_0_2 hf, fr_0_3 hf, fr_0_7 hf, fr_0_8 hf, fr_0_11 hf, fr_0_12 hf, fg_0 hf, fv_0 hf, fr_1_3 hf, fg_1 hf, fv_1 hf]
  refine pm_ok_mono (c_startChange (d := d) (by omega) hf hs hw hh) ?_
  rintro r h2 ⟨V2, R2, rfl, rfl, a1, a2, hf2, a4, a5⟩
  have hs2 := sc_sh hs a1 a2
  rw [pm_pu_n, ux_12_25]
  simp only [ux_12_0, ux_12_1, ux_12_2, ux_12_5, ux_12_6, ux_12_8, ux_12_11, ux_12_12, ux_12_14, ux_12_17, ux_12_20, ux_12_21, ux_12_22, ux_12_26, ux_12_29, ux_12_30, ux_12_33, ux_12_34, pm_i_c, pm_l_c, pm_q_c, pm_r_c, pm_li_0, pm_li_s, pm_ll_0, pm_ll_s, pm_lq_0, pm_lq_s, pm_s1, pm_s2, pm_kl, pm_wI, pm_wR, pm_pu_n, pm_pu_s, pm_wt, List.take_succ_cons, List.take_zero, List.take_nil, List.drop_succ_cons, List.drop_zero, List.reverse_cons, List.reverse_nil, List.nil_append, List.cons_append, List.length_cons, List.length_nil, true_and, and_true, true_implies, tn_l, tn_0, Int.reduceToNat, Int.reduceLE, Int.reduceLT, Int.reduceEq, Int.reduceAdd, Int.reduceSub, Int.reduceMul, Int.reduceNeg, Nat.reduceAdd, Nat.reduceLeDiff, Nat.reduceEqDiff, Nat.reduceSub, Option.some.injEq, Sum.inl.injEq, Sum.inr.injEq, or_true, true_or, reduceCtorEq, ne_eq, not_false_eq_true, not_true_eq_false, false_implies, implies_true, false_and, and_false, false_or, or_false, if_true, if_false, fr_0_0 hf2, fg_0 hf2, fg_1 hf2]
  have e : ∀ q, q ≠ 1 → pm_up V2 1 1 x q = V2 q := fun q hq => pm_up_fr hq
  refine ⟨_, R2, T, rfl, by rw [hs.2.1], hf2, fun q h1 h2 => ?_, ⟨?_, pm_up_eq, ?_, ?_, hs2.2.2.2.2⟩, hiO_keep (e 3 (by decide)) (fun q h1 _ => e q (by omega)) (fun _ _ _ => rfl) (fun q h1 _ => e q (by omega)) (fun _ _ z => z) a4, ?_, grw_rf⟩
  · rw [e q (by omega)]; exact a1 q (by omega)
  · rw [pm_up_ne (by omega)]; exact hs2.1
  · rw [pm_up_ne (by omega)]; exact hs2.2.2.1
  · intro p hp
    obtain ⟨a, b1, b2⟩ := hs2.2.2.2.1 p hp
    refine ⟨a, b1, ?_⟩
    have := pcO_keep (V2 := pm_up V2 1 1 x) (T2 := T) (fun q hq _ => e q (by omega)) (fun _ _ z => z) b2
    exact pcO_of (if_neg (by omega)) (if_neg (by omega)) (if_neg (by omega)) (if_neg (by omega)) (if_neg (by omega)) (if_neg (by omega)) (if_neg (by omega)) this
  · unfold flg at *
    rw [e 0 (by decide), e 119 (by decide), e 125 (by decide)]
    exact a5
/-- new pieces -/
theorem k_18 (hd : 1 ≤ d) (ht : T[a]? = some (6, 3) ∨ T[a]? = some (10, 3) ∨ T[a]? = some (2, 3) ∨ T[a]? = some (9, 4) ∨ T[a]? = some (0, 5)) (x y z : Int) : pm_ev d 18 [.inr (.inr (some a)), .inl x, .inl y, .inl z] (V, R, T) none (pm_up (pm_up (pm_up V a 0 x) a 1 y) a 2 z, R, T) := by
  refine pm_ev_of hd (Nat.le_of_ble_eq_true rfl) ?_
  show pm_w (d - 1) 18 0 [some (.inr (.inr (some a))), some (.inl x), some (.inl y), some (.inl z)] [] (V, R, T) _
  have : ∀ V : Nat → Nat → Int, pm_tgs (V, R, T) a [0, 2, 6, 9, 10] := by
    intro V
    rcases ht with h | h | h | h | h <;> exact ⟨_, _, by decide, h⟩
  simp only [ux_18_0, ux_18_1, ux_18_4, ux_18_5, ux_18_6, ux_18_9, ux_18_10, ux_18_11, ux_18_14, ux_18_15, ux_18_16, ux_18_19, pm_i_c, pm_l_c, pm_q_c, pm_r_c, pm_li_0, pm_li_s, pm_ll_0, pm_ll_s, pm_lq_0, pm_lq_s, pm_s1, pm_s2, pm_kl, pm_wI, pm_wR, pm_pu_n, pm_pu_s, pm_wt, List.take_succ_cons, List.take_zero, List.take_nil, List.drop_succ_cons, List.drop_zero, List.reverse_cons, List.reverse_nil, List.nil_append, List.cons_append, List.length_cons, List.length_nil, true_and, and_true, true_implies, tn_l, tn_0, Int.reduceToNat, Int.reduceLE, Int.reduceLT, Int.reduceEq, Int.reduceAdd, Int.reduceSub, Int.reduceMul, Int.reduceNeg, Nat.reduceAdd, Nat.reduceLeDiff, Nat.reduceEqDiff, Nat.reduceSub, Option.some.injEq, Sum.inl.injEq, Sum.inr.injEq, or_true, true_or, reduceCtorEq, ne_eq, not_false_eq_true, not_true_eq_false, false_implies, implies_true, false_and, and_false, false_or, or_false, if_true, if_false, this]
theorem k_17 (hd : 2 ≤ d) (ht : T[a]? = some (10, 3)) (x y : Int) (hb : pm_I32 (y - x)) : pm_ev d 17 [.inr (.inr (some a)), .inl x, .inl y] (V, R, T) none (pm_up (pm_up (pm_up V a 0 (y - x)) a 1 x) a 2 y, R, T) := by
  refine pm_ev_of (by omega) (Nat.le_of_ble_eq_true rfl) ?_
  show pm_w (d - 1) 17 0 [some (.inr (.inr (some a))), some (.inl x), some (.inl y)] [] (V, R, T) _
  simp only [ux_17_0, ux_17_1, ux_17_2, ux_17_3, ux_17_4, ux_17_5, ux_17_6, ux_17_9, pm_i_c, pm_l_c, pm_q_c, pm_r_c, pm_li_0, pm_li_s, pm_ll_0, pm_ll_s, pm_lq_0, pm_lq_s, pm_s1, pm_s2, pm_kl, pm_wI, pm_wR, pm_pu_n, pm_pu_s, pm_wt, List.take_succ_cons, List.take_zero, List.take_nil, List.drop_succ_cons, List.drop_zero, List.reverse_cons, List.reverse_nil, List.nil_append, List.cons_append, List.length_cons, List.length_nil, true_and, and_true, true_implies, tn_l, tn_0, Int.reduceToNat, Int.reduceLE, Int.reduceLT, Int.reduceEq, Int.reduceAdd, Int.reduceSub, Int.reduceMul, Int.reduceNeg, Nat.reduceAdd, Nat.reduceLeDiff, Nat.reduceEqDiff, Nat.reduceSub, Option.some.injEq, Sum.inl.injEq, Sum.inr.injEq, or_true, true_or, reduceCtorEq, ne_eq, not_false_eq_true, not_true_eq_false, false_implies, implies_true, false_and, and_false, false_or, or_false, if_true, if_false, pm_ok_ev (k_18 (d := d - 1) (V := V) (R := R) (T := T) (by omega) (Or.inr (Or.inl ht)) _ _ _), eq_true hb]
theorem k_19 (hd : 2 ≤ d) (ht : T[a]? = some (2, 3)) (x : Int) : pm_ev d 19 [.inr (.inr (some a)), .inl x] (V, R, T) none (pm_up (pm_up (pm_up V a 0 x) a 1 0) a 2 60, R, T) := by
  refine pm_ev_of (by omega) (Nat.le_of_ble_eq_true rfl) ?_
  show pm_w (d - 1) 19 0 [some (.inr (.inr (some a))), some (.inl x)] [] (V, R, T) _
  simp only [ux_19_0, ux_19_1, ux_19_2, ux_19_3, ux_19_5, ux_19_8, pm_i_c, pm_l_c, pm_q_c, pm_r_c, pm_li_0, pm_li_s, pm_ll_0, pm_ll_s, pm_lq_0, pm_lq_s, pm_s1, pm_s2, pm_kl, pm_wI, pm_wR, pm_pu_n, pm_pu_s, pm_wt, List.take_succ_cons, List.take_zero, List.take_nil, List.drop_succ_cons, List.drop_zero, List.reverse_cons, List.reverse_nil, List.nil_append, List.cons_append, List.length_cons, List.length_nil, true_and, and_true, true_implies, tn_l, tn_0, Int.reduceToNat, Int.reduceLE, Int.reduceLT, Int.reduceEq, Int.reduceAdd, Int.reduceSub, Int.reduceMul, Int.reduceNeg, Nat.reduceAdd, Nat.reduceLeDiff, Nat.reduceEqDiff, Nat.reduceSub, Option.some.injEq, Sum.inl.injEq, Sum.inr.injEq, or_true, true_or, reduceCtorEq, ne_eq, not_false_eq_true, not_true_eq_false, false_implies, implies_true, false_and, and_false, false_or, or_false, if_true, if_false, pm_ok_ev (k_18 (d := d - 1) (V := V) (R := R) (T := T) (by omega) (Or.inr (Or.inr (Or.inl ht))) _ _ _)]
theorem k_20 (hd : 2 ≤ d) (ht : T[a]? = some (9, 4)) (x y z w : Int) : pm_ev d 20 [.inr (.inr (some a)), .inl x, .inl y, .inl z, .inl w] (V, R, T) none (pm_up (pm_up (pm_up (pm_up V a 0 x) a 1 y) a 2 z) a 3 w, R, T) := by
  refine pm_ev_of (by omega) (Nat.le_of_ble_eq_true rfl) ?_
  show pm_w (d - 1) 20 0 [some (.inr (.inr (some a))), some (.inl x), some (.inl y), some (.inl z), some (.inl w)] [] (V, R, T) _
  have : ∀ V : Nat → Nat → Int, pm_tgs (V, R, T) a [9] := fun V => ⟨_, _, by decide, ht⟩
  simp only [ux_20_0, ux_20_1, ux_20_2, ux_20_3, ux_20_4, ux_20_7, ux_20_8, ux_20_10, ux_20_13, pm_i_c, pm_l_c, pm_q_c, pm_r_c, pm_li_0, pm_li_s, pm_ll_0, pm_ll_s, pm_lq_0, pm_lq_s, pm_s1, pm_s2, pm_kl, pm_wI, pm_wR, pm_pu_n, pm_pu_s, pm_wt, List.take_succ_cons, List.take_zero, List.take_nil, List.drop_succ_cons, List.drop_zero, List.reverse_cons, List.reverse_nil, List.nil_append, List.cons_append, List.length_cons, List.length_nil, true_and, and_true, true_implies, tn_l, tn_0, Int.reduceToNat, Int.reduceLE, Int.reduceLT, Int.reduceEq, Int.reduceAdd, Int.reduceSub, Int.reduceMul, Int.reduceNeg, Nat.reduceAdd, Nat.reduceLeDiff, Nat.reduceEqDiff, Nat.reduceSub, Option.some.injEq, Sum.inl.injEq, Sum.inr.injEq, or_true, true_or, reduceCtorEq, ne_eq, not_false_eq_true, not_true_eq_false, false_implies, implies_true, false_and, and_false, false_or, or_false, if_true, if_false, pm_ok_ev (k_18 (d := d - 1) (V := V) (R := R) (T := T) (by omega) (Or.inr (Or.inr (Or.inr (Or.inl ht)))) _ _ _), this]
theorem k_21 (hd : 2 ≤ d) (ht : T[a]? = some (0, 5)) (x y z w u : Int) : pm_ev d 21 [.inr (.inr (some a)), .inl x, .inl y, .inl z, .inl w, .inl u] (V, R, T) none (pm_up (pm_up (pm_up (pm_up (pm_up V a 0 x) a 1 y) a 2 z) a 3 w) a 4 u, R, T) := by
  refine pm_ev_of (by omega) (Nat.le_of_ble_eq_true rfl) ?_
  show pm_w (d - 1) 21 0 [some (.inr (.inr (some a))), some (.inl x), some (.inl y), some (.inl z), some (.inl w), some (.inl u)] [] (V, R, T) _
  have : ∀ V : Nat → Nat → Int, pm_tgs (V, R, T) a [0] := fun V => ⟨_, _, by decide, ht⟩
  simp only [ux_21_0, ux_21_1, ux_21_2, ux_21_3, ux_21_4, ux_21_7, ux_21_8, ux_21_10, ux_21_13, ux_21_14, ux_21_16, ux_21_19, pm_i_c, pm_l_c, pm_q_c, pm_r_c, pm_li_0, pm_li_s, pm_ll_0, pm_ll_s, pm_lq_0, pm_lq_s, pm_s1, pm_s2, pm_kl, pm_wI, pm_wR, pm_pu_n, pm_pu_s, pm_wt, List.take_succ_cons, List.take_zero, List.take_nil, List.drop_succ_cons, List.drop_zero, List.reverse_cons, List.reverse_nil, List.nil_append, List.cons_append, List.length_cons, List.length_nil, true_and, and_true, true_implies, tn_l, tn_0, Int.reduceToNat, Int.reduceLE, Int.reduceLT, Int.reduceEq, Int.reduceAdd, Int.reduceSub, Int.reduceMul, Int.reduceNeg, Nat.reduceAdd, Nat.reduceLeDiff, Nat.reduceEqDiff, Nat.reduceSub, Option.some.injEq, Sum.inl.injEq, Sum.inr.injEq, or_true, true_or, reduceCtorEq, ne_eq, not_false_eq_true, not_true_eq_false, false_implies, implies_true, false_and, and_false, false_or, or_false, if_true, if_false, pm_ok_ev (k_18 (d := d - 1) (V := V) (R := R) (T := T) (by omega) (Or.inr (Or.inr (Or.inr (Or.inr ht)))) _ _ _), this]
/-- a heap with one more object -/
def nwO (V V2 : Nat → Nat → Int) (R R2 : Nat → Nat → Option Nat) (T : List (Nat × Nat)) : Prop := (∀ q, q ≠ T.length → V2 q = V q) ∧ ∀ q, q ≠ T.length → R2 q = R q
theorem nw_V {z : Nat × Nat} : pm_nw (V, R, T) z.1 z.2 = ((fun q j => if q = T.length then 0 else V q j), (fun q j => if q = T.length then none else R q j), T ++ [z]) := rfl
theorem nw_at {z : Nat × Nat} : (T ++ [z])[T.length]? = some z := by
  rw [List.getElem?_append_right (Nat.le_refl _), Nat.sub_self]; rfl
theorem nw_R : ∀ q, q ≠ T.length → (fun (q j : Nat) => if q = T.length then none else R q j) q = R q := fun q hq => funext fun j => if_neg hq
theorem nw_Vq : ∀ q, q ≠ T.length → (fun (q j : Nat) => if q = T.length then (0 : Int) else V q j) q = V q := fun q hq => funext fun j => if_neg hq
def npQ (V : Nat → Nat → Int) (R : Nat → Nat → Option Nat) (T : List (Nat × Nat)) (n : Nat) (k l f t : Int) (r : Option pm_V) (h2 : pm_H) : Prop := ∃ V2 R2, h2 = (V2, R2, T ++ [tgK k]) ∧ r = some (.inr (.inr (some T.length))) ∧ nwO V V2 R R2 T ∧ ∀ A : Nat → Int, pcO V2 (T ++ [tgK k]) T.length (pcA A n k l f t) n
theorem c_newPiece (hd : 3 ≤ d) (hn : n < 12) (hT : 148 ≤ T.length) (k l f t : Int) (hk : pcK k l f t) : pm_ok d 16 [.inl k, .inl l, .inl f, .inl t] (V, R, T) (npQ V R T n k l f t) := by
  obtain ⟨d, rfl⟩ : ∃ k, d = k + 1 := ⟨d - 1, by omega⟩
  refine pm_ok_iff.mpr ⟨(Nat.le_of_ble_eq_true rfl), ?_⟩
  show pm_w d 16 0 [some (.inl k), some (.inl l), some (.inl f), some (.inl t)] [] (V, R, T) _
  obtain ⟨c1, c2, c3⟩ := hk
  have rows : ∀ A : Nat → Int, _ := fun A => pcA_new (A := A) (n := n) (k := k) (l := l) (f := f) (t := t) hn
  have : k = 0 ∨ k = 1 ∨ k = 2 ∨ k = 3 ∨ k = 4 := by omega
  simp only [ux_16_0, ux_16_1, ux_16_35, ux_16_36, ux_16_37, ux_16_38, ux_16_41, ux_16_45, ux_16_46, ux_16_47, ux_16_50, ux_16_54, ux_16_55, ux_16_56, ux_16_57, ux_16_58, ux_16_59, ux_16_62, ux_16_66, ux_16_67, ux_16_68, ux_16_69, ux_16_70, ux_16_71, ux_16_72, ux_16_75, ux_16_79, ux_16_80, ux_16_81, ux_16_82, ux_16_83, ux_16_86, pm_i_c, pm_l_c, pm_q_c, pm_r_c, pm_li_0, pm_li_s, pm_ll_0, pm_ll_s, pm_lq_0, pm_lq_s, pm_s1, pm_s2, pm_kl, pm_wI, pm_wR, pm_pu_n, pm_pu_s, pm_wt, List.take_succ_cons, List.take_zero, List.take_nil, List.drop_succ_cons, List.drop_zero, List.reverse_cons, List.reverse_nil, List.nil_append, List.cons_append, List.length_cons, List.length_nil, true_and, and_true, true_implies, tn_l, tn_0, Int.reduceToNat, Int.reduceLE, Int.reduceLT, Int.reduceEq, Int.reduceAdd, Int.reduceSub, Int.reduceMul, Int.reduceNeg, Nat.reduceAdd, Nat.reduceLeDiff, Nat.reduceEqDiff, Nat.reduceSub, Option.some.injEq, Sum.inl.injEq, Sum.inr.injEq, or_true, true_or, reduceCtorEq, ne_eq, not_false_eq_true, not_true_eq_false, false_implies, implies_true, false_and, and_false, false_or, or_false, if_true, if_false]
  rcases this with rfl | rfl | rfl | rfl | rfl
  · rw [if_pos (by decide)]
    show pm_w d 16 76 _ _ _ _
    rw [ux_16_76]
    show pm_w d 16 79 _ _ (pm_nw (V, R, T) (tgK 0).1 (tgK 0).2) _
    rw [nw_V]
    simp only [ux_16_0, ux_16_1, ux_16_35, ux_16_36, ux_16_37, ux_16_38, ux_16_41, ux_16_45, ux_16_46, ux_16_47, ux_16_50, ux_16_54, ux_16_55, ux_16_56, ux_16_57, ux_16_58, ux_16_59, ux_16_62, ux_16_66, ux_16_67, ux_16_68, ux_16_69, ux_16_70, ux_16_71, ux_16_72, ux_16_75, ux_16_79, ux_16_80, ux_16_81, ux_16_82, ux_16_83, ux_16_86, pm_i_c, pm_l_c, pm_q_c, pm_r_c, pm_li_0, pm_li_s, pm_ll_0, pm_ll_s, pm_lq_0, pm_lq_s, pm_s1, pm_s2, pm_kl, pm_wI, pm_wR, pm_pu_n, pm_pu_s, pm_wt, List.take_succ_cons, List.take_zero, List.take_nil, List.drop_succ_cons, List.drop_zero, List.reverse_cons, List.reverse_nil, List.nil_append, List.cons_append, List.length_cons, List.length_nil, true_and, and_true, true_implies, tn_l, tn_0, Int.reduceToNat, Int.reduceLE, Int.reduceLT, Int.reduceEq, Int.reduceAdd, Int.reduceSub, Int.reduceMul, Int.reduceNeg, Nat.reduceAdd, Nat.reduceLeDiff, Nat.reduceEqDiff, Nat.reduceSub, Option.some.injEq, Sum.inl.injEq, Sum.inr.injEq, or_true, true_or, reduceCtorEq, ne_eq, not_false_eq_true, not_true_eq_false, false_implies, implies_true, false_and, and_false, false_or, or_false, if_true, if_false, pm_ok_ev (k_18 (d := d) (a := T.length) (T := T ++ [tgK 0]) (by omega) (Or.inl nw_at) _ _ _)]
    refine ⟨_, _, rfl, rfl, ⟨fun q hq => ?_, nw_R⟩, fun A => ?_⟩
    · rw [pm_up_fr hq, pm_up_fr hq, pm_up_fr hq]; exact nw_Vq q hq
    · obtain ⟨b1, b2, b3, b4, b5, b6, b7⟩ := rows A
      unfold pcO
      rw [b1, b2, b3, b4, b5, b6, b7]
      refine ⟨nw_at, by omega, ?_, ?_, fun _ => ?_, fun z => absurd z (by decide), fun z => absurd z (by decide), hT⟩
      · rw [pm_up_ne (by omega), pm_up_ne (by omega), pm_up_eq]; rfl
      · rw [pm_up_ne (by omega), pm_up_eq]; rfl
      · rw [pm_up_eq]; rfl
  · rw [if_neg (by decide)]
    show pm_w d 16 32 _ _ _ _
    rw [ux_16_32]
    show pm_w d 16 35 _ _ (pm_nw (V, R, T) (tgK 1).1 (tgK 1).2) _
    rw [nw_V]
    simp only [ux_16_0, ux_16_1, ux_16_35, ux_16_36, ux_16_37, ux_16_38, ux_16_41, ux_16_45, ux_16_46, ux_16_47, ux_16_50, ux_16_54, ux_16_55, ux_16_56, ux_16_57, ux_16_58, ux_16_59, ux_16_62, ux_16_66, ux_16_67, ux_16_68, ux_16_69, ux_16_70, ux_16_71, ux_16_72, ux_16_75, ux_16_79, ux_16_80, ux_16_81, ux_16_82, ux_16_83, ux_16_86, pm_i_c, pm_l_c, pm_q_c, pm_r_c, pm_li_0, pm_li_s, pm_ll_0, pm_ll_s, pm_lq_0, pm_lq_s, pm_s1, pm_s2, pm_kl, pm_wI, pm_wR, pm_pu_n, pm_pu_s, pm_wt, List.take_succ_cons, List.take_zero, List.take_nil, List.drop_succ_cons, List.drop_zero, List.reverse_cons, List.reverse_nil, List.nil_append, List.cons_append, List.length_cons, List.length_nil, true_and, and_true, true_implies, tn_l, tn_0, Int.reduceToNat, Int.reduceLE, Int.reduceLT, Int.reduceEq, Int.reduceAdd, Int.reduceSub, Int.reduceMul, Int.reduceNeg, Nat.reduceAdd, Nat.reduceLeDiff, Nat.reduceEqDiff, Nat.reduceSub, Option.some.injEq, Sum.inl.injEq, Sum.inr.injEq, or_true, true_or, reduceCtorEq, ne_eq, not_false_eq_true, not_true_eq_false, false_implies, implies_true, false_and, and_false, false_or, or_false, if_true, if_false, pm_ok_ev (k_17 (d := d) (a := T.length) (T := T ++ [tgK 1]) (by omega) nw_at f t (by unfold pm_I32; omega))]
    refine ⟨_, _, rfl, rfl, ⟨fun q hq => ?_, nw_R⟩, fun A => ?_⟩
    · rw [pm_up_fr hq, pm_up_fr hq, pm_up_fr hq]; exact nw_Vq q hq
    · obtain ⟨b1, b2, b3, b4, b5, b6, b7⟩ := rows A
      unfold pcO
      rw [b1, b2, b3, b4, b5, b6, b7]
      refine ⟨nw_at, by omega, ?_, ?_, fun _ => ?_, fun z => absurd z (by decide), fun z => absurd z (by decide), hT⟩
      · rw [pm_up_ne (by omega), pm_up_ne (by omega), pm_up_eq]; rfl
      · rw [pm_up_ne (by omega), pm_up_eq]; rfl
      · rw [pm_up_eq]; rfl
  · rw [if_neg (by decide)]
    show pm_w d 16 42 _ _ _ _
    rw [ux_16_42]
    show pm_w d 16 45 _ _ (pm_nw (V, R, T) (tgK 2).1 (tgK 2).2) _
    rw [nw_V]
    simp only [ux_16_0, ux_16_1, ux_16_35, ux_16_36, ux_16_37, ux_16_38, ux_16_41, ux_16_45, ux_16_46, ux_16_47, ux_16_50, ux_16_54, ux_16_55, ux_16_56, ux_16_57, ux_16_58, ux_16_59, ux_16_62, ux_16_66, ux_16_67, ux_16_68, ux_16_69, ux_16_70, ux_16_71, ux_16_72, ux_16_75, ux_16_79, ux_16_80, ux_16_81, ux_16_82, ux_16_83, ux_16_86, pm_i_c, pm_l_c, pm_q_c, pm_r_c, pm_li_0, pm_li_s, pm_ll_0, pm_ll_s, pm_lq_0, pm_lq_s, pm_s1, pm_s2, pm_kl, pm_wI, pm_wR, pm_pu_n, pm_pu_s, pm_wt, List.take_succ_cons, List.take_zero, List.take_nil, List.drop_succ_cons, List.drop_zero, List.reverse_cons, List.reverse_nil, List.nil_append, List.cons_append, List.length_cons, List.length_nil, true_and, and_true, true_implies, tn_l, tn_0, Int.reduceToNat, Int.reduceLE, Int.reduceLT, Int.reduceEq, Int.reduceAdd, Int.reduceSub, Int.reduceMul, Int.reduceNeg, Nat.reduceAdd, Nat.reduceLeDiff, Nat.reduceEqDiff, Nat.reduceSub, Option.some.injEq, Sum.inl.injEq, Sum.inr.injEq, or_true, true_or, reduceCtorEq, ne_eq, not_false_eq_true, not_true_eq_false, false_implies, implies_true, false_and, and_false, false_or, or_false, if_true, if_false, pm_ok_ev (k_19 (d := d) (a := T.length) (T := T ++ [tgK 2]) (by omega) nw_at l)]
    refine ⟨_, _, rfl, rfl, ⟨fun q hq => ?_, nw_R⟩, fun A => ?_⟩
    · rw [pm_up_fr hq, pm_up_fr hq, pm_up_fr hq]; exact nw_Vq q hq
    · obtain ⟨b1, b2, b3, b4, b5, b6, b7⟩ := rows A
      unfold pcO
      rw [b1, b2, b3, b4, b5, b6, b7]
      refine ⟨nw_at, by omega, ?_, ?_, fun z => absurd rfl z, fun z => absurd z (by decide), fun z => absurd z (by decide), hT⟩
      · rw [pm_up_ne (by omega), pm_up_ne (by omega), pm_up_eq]; rfl
      · rw [pm_up_ne (by omega), pm_up_eq]; rfl
  · rw [if_neg (by decide)]
    show pm_w d 16 51 _ _ _ _
    rw [ux_16_51]
    show pm_w d 16 54 _ _ (pm_nw (V, R, T) (tgK 3).1 (tgK 3).2) _
    rw [nw_V]
    simp only [ux_16_0, ux_16_1, ux_16_35, ux_16_36, ux_16_37, ux_16_38, ux_16_41, ux_16_45, ux_16_46, ux_16_47, ux_16_50, ux_16_54, ux_16_55, ux_16_56, ux_16_57, ux_16_58, ux_16_59, ux_16_62, ux_16_66, ux_16_67, ux_16_68, ux_16_69, ux_16_70, ux_16_71, ux_16_72, ux_16_75, ux_16_79, ux_16_80, ux_16_81, ux_16_82, ux_16_83, ux_16_86, pm_i_c, pm_l_c, pm_q_c, pm_r_c, pm_li_0, pm_li_s, pm_ll_0, pm_ll_s, pm_lq_0, pm_lq_s, pm_s1, pm_s2, pm_kl, pm_wI, pm_wR, pm_pu_n, pm_pu_s, pm_wt, List.take_succ_cons, List.take_zero, List.take_nil, List.drop_succ_cons, List.drop_zero, List.reverse_cons, List.reverse_nil, List.nil_append, List.cons_append, List.length_cons, List.length_nil, true_and, and_true, true_implies, tn_l, tn_0, Int.reduceToNat, Int.reduceLE, Int.reduceLT, Int.reduceEq, Int.reduceAdd, Int.reduceSub, Int.reduceMul, Int.reduceNeg, Nat.reduceAdd, Nat.reduceLeDiff, Nat.reduceEqDiff, Nat.reduceSub, Option.some.injEq, Sum.inl.injEq, Sum.inr.injEq, or_true, true_or, reduceCtorEq, ne_eq, not_false_eq_true, not_true_eq_false, false_implies, implies_true, false_and, and_false, false_or, or_false, if_true, if_false, pm_ok_ev (k_20 (d := d) (a := T.length) (T := T ++ [tgK 3]) (by omega) nw_at l f t 2)]
    refine ⟨_, _, rfl, rfl, ⟨fun q hq => ?_, nw_R⟩, fun A => ?_⟩
    · rw [pm_up_fr hq, pm_up_fr hq, pm_up_fr hq, pm_up_fr hq]; exact nw_Vq q hq
    · obtain ⟨b1, b2, b3, b4, b5, b6, b7⟩ := rows A
      unfold pcO
      rw [b1, b2, b3, b4, b5, b6, b7]
      refine ⟨nw_at, by omega, ?_, ?_, fun _ => ?_, fun _ => ?_, fun z => absurd z (by decide), hT⟩
      · rw [pm_up_ne (by omega), pm_up_ne (by omega), pm_up_ne (by omega), pm_up_eq]; rfl
      · rw [pm_up_ne (by omega), pm_up_ne (by omega), pm_up_eq]; rfl
      · rw [pm_up_ne (by omega), pm_up_eq]; rfl
      · rw [pm_up_eq]; rfl
  · rw [if_neg (by decide)]
    show pm_w d 16 63 _ _ _ _
    rw [ux_16_63]
    show pm_w d 16 66 _ _ (pm_nw (V, R, T) (tgK 4).1 (tgK 4).2) _
    rw [nw_V]
    simp only [ux_16_0, ux_16_1, ux_16_35, ux_16_36, ux_16_37, ux_16_38, ux_16_41, ux_16_45, ux_16_46, ux_16_47, ux_16_50, ux_16_54, ux_16_55, ux_16_56, ux_16_57, ux_16_58, ux_16_59, ux_16_62, ux_16_66, ux_16_67, ux_16_68, ux_16_69, ux_16_70, ux_16_71, ux_16_72, ux_16_75, ux_16_79, ux_16_80, ux_16_81, ux_16_82, ux_16_83, ux_16_86, pm_i_c, pm_l_c, pm_q_c, pm_r_c, pm_li_0, pm_li_s, pm_ll_0, pm_ll_s, pm_lq_0, pm_lq_s, pm_s1, pm_s2, pm_kl, pm_wI, pm_wR, pm_pu_n, pm_pu_s, pm_wt, List.take_succ_cons, List.take_zero, List.take_nil, List.drop_succ_cons, List.drop_zero, List.reverse_cons, List.reverse_nil, List.nil_append, List.cons_append, List.length_cons, List.length_nil, true_and, and_true, true_implies, tn_l, tn_0, Int.reduceToNat, Int.reduceLE, Int.reduceLT, Int.reduceEq, Int.reduceAdd, Int.reduceSub, Int.reduceMul, Int.reduceNeg, Nat.reduceAdd, Nat.reduceLeDiff, Nat.reduceEqDiff, Nat.reduceSub, Option.some.injEq, Sum.inl.injEq, Sum.inr.injEq, or_true, true_or, reduceCtorEq, ne_eq, not_false_eq_true, not_true_eq_false, false_implies, implies_true, false_and, and_false, false_or, or_false, if_true, if_false, pm_ok_ev (k_21 (d := d) (a := T.length) (T := T ++ [tgK 4]) (by omega) nw_at l f t 0 1)]
    refine ⟨_, _, rfl, rfl, ⟨fun q hq => ?_, nw_R⟩, fun A => ?_⟩
    · rw [pm_up_fr hq, pm_up_fr hq, pm_up_fr hq, pm_up_fr hq, pm_up_fr hq]; exact nw_Vq q hq
    · obtain ⟨b1, b2, b3, b4, b5, b6, b7⟩ := rows A
      unfold pcO
      rw [b1, b2, b3, b4, b5, b6, b7]
      refine ⟨nw_at, by omega, ?_, ?_, fun _ => ?_, fun z => absurd z (by decide), fun _ => ⟨?_, ?_⟩, hT⟩
      · rw [pm_up_ne (by omega), pm_up_ne (by omega), pm_up_ne (by omega), pm_up_ne (by omega), pm_up_eq]; rfl
      · rw [pm_up_ne (by omega), pm_up_ne (by omega), pm_up_ne (by omega), pm_up_eq]; rfl
      · rw [pm_up_ne (by omega), pm_up_ne (by omega), pm_up_eq]; rfl
      · rw [pm_up_ne (by omega), pm_up_eq]; rfl
      · rw [pm_up_eq]; rfl
end
