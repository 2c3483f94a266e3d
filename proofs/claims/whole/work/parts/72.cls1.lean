/-! THE CLASS: pieces as objects, a shed -/
def tgK (k : Int) : Nat × Nat := if k = 0 then (6, 3) else if k = 1 then (10, 3) else if k = 2 then (2, 3) else if k = 3 then (9, 4) else (0, 5)
def pcO (V : Nat → Nat → Int) (T : List (Nat × Nat)) (a : Nat) (A : Nat → Int) (p : Nat) : Prop := T[a]? = some (tgK (A (3 + p))) ∧ (0 ≤ A (3 + p) ∧ A (3 + p) ≤ 4) ∧ V a 0 = A (15 + p) ∧ V a 1 = A (27 + p) ∧ (A (3 + p) ≠ 2 → V a 2 = A (39 + p)) ∧ (A (3 + p) = 3 → V a 3 = A (51 + p)) ∧ (A (3 + p) = 4 → V a 3 = A (63 + p) ∧ V a 4 = A (75 + p)) ∧ 148 ≤ a
def shO (V : Nat → Nat → Int) (R : Nat → Nat → Option Nat) (T : List (Nat × Nat)) (q : Nat) (A : Nat → Int) (n : Nat) : Prop := V q 0 = A 0 ∧ V q 1 = A 1 ∧ V q 2 = n ∧ (∀ p, p < n → ∃ a, R (q + 1) p = some a ∧ pcO V T a A p) ∧ ∀ p, n ≤ p → p < 12 → R (q + 1) p = none
theorem tgK_mem (k : Int) : (tgK k).1 ∈ [0, 2, 6, 9, 10] := by
  unfold tgK
  split
  · decide
  · split
    · decide
    · split
      · decide
      · split <;> decide
theorem cn_spl {k : Int} : (if pm_cn (tgK k).1 = "LoomShed$Split" then (1 : Int) else 0) = if k = 3 then 1 else 0 := by
  unfold tgK
  by_cases h0 : k = 0
  · subst h0; decide +kernel
  · rw [if_neg h0]
    by_cases h1 : k = 1
    · subst h1; decide +kernel
    · rw [if_neg h1]
      by_cases h2 : k = 2
      · subst h2; decide +kernel
      · rw [if_neg h2]
        by_cases h3 : k = 3
        · subst h3; decide +kernel
        · rw [if_neg h3, if_neg h3]; decide +kernel
theorem cn_bar {k : Int} (h : 0 ≤ k ∧ k ≤ 4) : (if pm_cn (tgK k).1 = "LoomShed$Barred" then (1 : Int) else 0) = if k = 4 then 1 else 0 := by
  have : k = 0 ∨ k = 1 ∨ k = 2 ∨ k = 3 ∨ k = 4 := by omega
  rcases this with rfl | rfl | rfl | rfl | rfl <;> decide +kernel
section
variable {d : Nat} {h : pm_H} {V W : Nat → Nat → Int} {R : Nat → Nat → Option Nat} {T : List (Nat × Nat)} {n a p : Nat} {A : Nat → Int} {Q : Option pm_V → pm_H → Prop}
theorem pc_tgs (h : pcO V T a A p) : pm_tgs (V, R, T) a [0, 2, 6, 9, 10] := ⟨_, _, tgK_mem _, h.1⟩
theorem k_31 (hd : 1 ≤ d) : pm_ev d 31 [.inr (.inr (some a))] h (some (.inl 4)) h := by
  refine pm_ev_of hd (Nat.le_of_ble_eq_true rfl) ?_
  show pm_w (d - 1) 31 0 [some (.inr (.inr (some a)))] [] h _
  simp only [ux_31_0, ux_31_1, pm_i_c, pm_l_c, pm_q_c, pm_r_c, pm_li_0, pm_li_s, pm_ll_0, pm_ll_s, pm_lq_0, pm_lq_s, pm_s1, pm_s2, pm_kl, pm_wI, pm_wR, pm_pu_n, pm_pu_s, pm_wt, List.take_succ_cons, List.take_zero, List.take_nil, List.drop_succ_cons, List.drop_zero, List.reverse_cons, List.reverse_nil, List.nil_append, List.cons_append, List.length_cons, List.length_nil, true_and, and_true, true_implies, tn_l, tn_0, Int.reduceToNat, Int.reduceLE, Int.reduceLT, Int.reduceEq, Int.reduceAdd, Int.reduceSub, Int.reduceMul, Int.reduceNeg, Nat.reduceAdd, Nat.reduceLeDiff, Nat.reduceEqDiff, Nat.reduceSub, Option.some.injEq, Sum.inl.injEq, Sum.inr.injEq, or_true, true_or, reduceCtorEq, ne_eq, not_false_eq_true, not_true_eq_false, false_implies, implies_true, false_and, and_false, false_or, or_false, if_true, if_false]
theorem k_32 (hd : 1 ≤ d) : pm_ev d 32 [.inr (.inr (some a))] h (some (.inl 2)) h := by
  refine pm_ev_of hd (Nat.le_of_ble_eq_true rfl) ?_
  show pm_w (d - 1) 32 0 [some (.inr (.inr (some a)))] [] h _
  simp only [ux_32_0, ux_32_1, pm_i_c, pm_l_c, pm_q_c, pm_r_c, pm_li_0, pm_li_s, pm_ll_0, pm_ll_s, pm_lq_0, pm_lq_s, pm_s1, pm_s2, pm_kl, pm_wI, pm_wR, pm_pu_n, pm_pu_s, pm_wt, List.take_succ_cons, List.take_zero, List.take_nil, List.drop_succ_cons, List.drop_zero, List.reverse_cons, List.reverse_nil, List.nil_append, List.cons_append, List.length_cons, List.length_nil, true_and, and_true, true_implies, tn_l, tn_0, Int.reduceToNat, Int.reduceLE, Int.reduceLT, Int.reduceEq, Int.reduceAdd, Int.reduceSub, Int.reduceMul, Int.reduceNeg, Nat.reduceAdd, Nat.reduceLeDiff, Nat.reduceEqDiff, Nat.reduceSub, Option.some.injEq, Sum.inl.injEq, Sum.inr.injEq, or_true, true_or, reduceCtorEq, ne_eq, not_false_eq_true, not_true_eq_false, false_implies, implies_true, false_and, and_false, false_or, or_false, if_true, if_false]
theorem k_33 (hd : 1 ≤ d) : pm_ev d 33 [.inr (.inr (some a))] h (some (.inl 3)) h := by
  refine pm_ev_of hd (Nat.le_of_ble_eq_true rfl) ?_
  show pm_w (d - 1) 33 0 [some (.inr (.inr (some a)))] [] h _
  simp only [ux_33_0, ux_33_1, pm_i_c, pm_l_c, pm_q_c, pm_r_c, pm_li_0, pm_li_s, pm_ll_0, pm_ll_s, pm_lq_0, pm_lq_s, pm_s1, pm_s2, pm_kl, pm_wI, pm_wR, pm_pu_n, pm_pu_s, pm_wt, List.take_succ_cons, List.take_zero, List.take_nil, List.drop_succ_cons, List.drop_zero, List.reverse_cons, List.reverse_nil, List.nil_append, List.cons_append, List.length_cons, List.length_nil, true_and, and_true, true_implies, tn_l, tn_0, Int.reduceToNat, Int.reduceLE, Int.reduceLT, Int.reduceEq, Int.reduceAdd, Int.reduceSub, Int.reduceMul, Int.reduceNeg, Nat.reduceAdd, Nat.reduceLeDiff, Nat.reduceEqDiff, Nat.reduceSub, Option.some.injEq, Sum.inl.injEq, Sum.inr.injEq, or_true, true_or, reduceCtorEq, ne_eq, not_false_eq_true, not_true_eq_false, false_implies, implies_true, false_and, and_false, false_or, or_false, if_true, if_false]
theorem k_34 (hd : 1 ≤ d) : pm_ev d 34 [.inr (.inr (some a))] h (some (.inl 1)) h := by
  refine pm_ev_of hd (Nat.le_of_ble_eq_true rfl) ?_
  show pm_w (d - 1) 34 0 [some (.inr (.inr (some a)))] [] h _
  simp only [ux_34_0, ux_34_1, pm_i_c, pm_l_c, pm_q_c, pm_r_c, pm_li_0, pm_li_s, pm_ll_0, pm_ll_s, pm_lq_0, pm_lq_s, pm_s1, pm_s2, pm_kl, pm_wI, pm_wR, pm_pu_n, pm_pu_s, pm_wt, List.take_succ_cons, List.take_zero, List.take_nil, List.drop_succ_cons, List.drop_zero, List.reverse_cons, List.reverse_nil, List.nil_append, List.cons_append, List.length_cons, List.length_nil, true_and, and_true, true_implies, tn_l, tn_0, Int.reduceToNat, Int.reduceLE, Int.reduceLT, Int.reduceEq, Int.reduceAdd, Int.reduceSub, Int.reduceMul, Int.reduceNeg, Nat.reduceAdd, Nat.reduceLeDiff, Nat.reduceEqDiff, Nat.reduceSub, Option.some.injEq, Sum.inl.injEq, Sum.inr.injEq, or_true, true_or, reduceCtorEq, ne_eq, not_false_eq_true, not_true_eq_false, false_implies, implies_true, false_and, and_false, false_or, or_false, if_true, if_false]
theorem k_35 (hd : 1 ≤ d) : pm_ev d 35 [.inr (.inr (some a))] h (some (.inl 0)) h := by
  refine pm_ev_of hd (Nat.le_of_ble_eq_true rfl) ?_
  show pm_w (d - 1) 35 0 [some (.inr (.inr (some a)))] [] h _
  simp only [ux_35_0, ux_35_1, pm_i_c, pm_l_c, pm_q_c, pm_r_c, pm_li_0, pm_li_s, pm_ll_0, pm_ll_s, pm_lq_0, pm_lq_s, pm_s1, pm_s2, pm_kl, pm_wI, pm_wR, pm_pu_n, pm_pu_s, pm_wt, List.take_succ_cons, List.take_zero, List.take_nil, List.drop_succ_cons, List.drop_zero, List.reverse_cons, List.reverse_nil, List.nil_append, List.cons_append, List.length_cons, List.length_nil, true_and, and_true, true_implies, tn_l, tn_0, Int.reduceToNat, Int.reduceLE, Int.reduceLT, Int.reduceEq, Int.reduceAdd, Int.reduceSub, Int.reduceMul, Int.reduceNeg, Nat.reduceAdd, Nat.reduceLeDiff, Nat.reduceEqDiff, Nat.reduceSub, Option.some.injEq, Sum.inl.injEq, Sum.inr.injEq, or_true, true_or, reduceCtorEq, ne_eq, not_false_eq_true, not_true_eq_false, false_implies, implies_true, false_and, and_false, false_or, or_false, if_true, if_false]
theorem k_36 (hd : 1 ≤ d) (x : Int) : pm_ev d 36 [.inr (.inr (some a)), .inl x] h (some (.inl x)) h := by
  refine pm_ev_of hd (Nat.le_of_ble_eq_true rfl) ?_
  show pm_w (d - 1) 36 0 [some (.inr (.inr (some a))), some (.inl x)] [] h _
  simp only [ux_36_0, ux_36_1, pm_i_c, pm_l_c, pm_q_c, pm_r_c, pm_li_0, pm_li_s, pm_ll_0, pm_ll_s, pm_lq_0, pm_lq_s, pm_s1, pm_s2, pm_kl, pm_wI, pm_wR, pm_pu_n, pm_pu_s, pm_wt, List.take_succ_cons, List.take_zero, List.take_nil, List.drop_succ_cons, List.drop_zero, List.reverse_cons, List.reverse_nil, List.nil_append, List.cons_append, List.length_cons, List.length_nil, true_and, and_true, true_implies, tn_l, tn_0, Int.reduceToNat, Int.reduceLE, Int.reduceLT, Int.reduceEq, Int.reduceAdd, Int.reduceSub, Int.reduceMul, Int.reduceNeg, Nat.reduceAdd, Nat.reduceLeDiff, Nat.reduceEqDiff, Nat.reduceSub, Option.some.injEq, Sum.inl.injEq, Sum.inr.injEq, or_true, true_or, reduceCtorEq, ne_eq, not_false_eq_true, not_true_eq_false, false_implies, implies_true, false_and, and_false, false_or, or_false, if_true, if_false]
theorem k_37 (hd : 1 ≤ d) (ht : pm_tgs (V, R, T) a [0, 2, 6, 9, 10]) (x : Int) : pm_ev d 37 [.inr (.inr (some a)), .inl x] (V, R, T) (some (.inl (V a 2))) (V, R, T) := by
  refine pm_ev_of hd (Nat.le_of_ble_eq_true rfl) ?_
  show pm_w (d - 1) 37 0 [some (.inr (.inr (some a))), some (.inl x)] [] (V, R, T) _
  simp only [ux_37_0, ux_37_1, ux_37_4, pm_i_c, pm_l_c, pm_q_c, pm_r_c, pm_li_0, pm_li_s, pm_ll_0, pm_ll_s, pm_lq_0, pm_lq_s, pm_s1, pm_s2, pm_kl, pm_wI, pm_wR, pm_pu_n, pm_pu_s, pm_wt, List.take_succ_cons, List.take_zero, List.take_nil, List.drop_succ_cons, List.drop_zero, List.reverse_cons, List.reverse_nil, List.nil_append, List.cons_append, List.length_cons, List.length_nil, true_and, and_true, true_implies, tn_l, tn_0, Int.reduceToNat, Int.reduceLE, Int.reduceLT, Int.reduceEq, Int.reduceAdd, Int.reduceSub, Int.reduceMul, Int.reduceNeg, Nat.reduceAdd, Nat.reduceLeDiff, Nat.reduceEqDiff, Nat.reduceSub, Option.some.injEq, Sum.inl.injEq, Sum.inr.injEq, or_true, true_or, reduceCtorEq, ne_eq, not_false_eq_true, not_true_eq_false, false_implies, implies_true, false_and, and_false, false_or, or_false, if_true, if_false, eq_true ht]
theorem k_38 (hd : 1 ≤ d) (ht : T[a]? = some (9, 4)) : pm_ev d 38 [.inr (.inr (some a))] (V, R, T) (some (.inl (V a 3))) (V, R, T) := by
  refine pm_ev_of hd (Nat.le_of_ble_eq_true rfl) ?_
  show pm_w (d - 1) 38 0 [some (.inr (.inr (some a)))] [] (V, R, T) _
  have : pm_tgs (V, R, T) a [9] := ⟨_, _, by decide, ht⟩
  simp only [ux_38_0, ux_38_1, ux_38_4, pm_i_c, pm_l_c, pm_q_c, pm_r_c, pm_li_0, pm_li_s, pm_ll_0, pm_ll_s, pm_lq_0, pm_lq_s, pm_s1, pm_s2, pm_kl, pm_wI, pm_wR, pm_pu_n, pm_pu_s, pm_wt, List.take_succ_cons, List.take_zero, List.take_nil, List.drop_succ_cons, List.drop_zero, List.reverse_cons, List.reverse_nil, List.nil_append, List.cons_append, List.length_cons, List.length_nil, true_and, and_true, true_implies, tn_l, tn_0, Int.reduceToNat, Int.reduceLE, Int.reduceLT, Int.reduceEq, Int.reduceAdd, Int.reduceSub, Int.reduceMul, Int.reduceNeg, Nat.reduceAdd, Nat.reduceLeDiff, Nat.reduceEqDiff, Nat.reduceSub, Option.some.injEq, Sum.inl.injEq, Sum.inr.injEq, or_true, true_or, reduceCtorEq, ne_eq, not_false_eq_true, not_true_eq_false, false_implies, implies_true, false_and, and_false, false_or, or_false, if_true, if_false, eq_true this]
theorem k_39 (hd : 1 ≤ d) : pm_ev d 39 [.inr (.inr (some a))] h (some (.inl 1)) h := by
  refine pm_ev_of hd (Nat.le_of_ble_eq_true rfl) ?_
  show pm_w (d - 1) 39 0 [some (.inr (.inr (some a)))] [] h _
  simp only [ux_39_0, ux_39_1, pm_i_c, pm_l_c, pm_q_c, pm_r_c, pm_li_0, pm_li_s, pm_ll_0, pm_ll_s, pm_lq_0, pm_lq_s, pm_s1, pm_s2, pm_kl, pm_wI, pm_wR, pm_pu_n, pm_pu_s, pm_wt, List.take_succ_cons, List.take_zero, List.take_nil, List.drop_succ_cons, List.drop_zero, List.reverse_cons, List.reverse_nil, List.nil_append, List.cons_append, List.length_cons, List.length_nil, true_and, and_true, true_implies, tn_l, tn_0, Int.reduceToNat, Int.reduceLE, Int.reduceLT, Int.reduceEq, Int.reduceAdd, Int.reduceSub, Int.reduceMul, Int.reduceNeg, Nat.reduceAdd, Nat.reduceLeDiff, Nat.reduceEqDiff, Nat.reduceSub, Option.some.injEq, Sum.inl.injEq, Sum.inr.injEq, or_true, true_or, reduceCtorEq, ne_eq, not_false_eq_true, not_true_eq_false, false_implies, implies_true, false_and, and_false, false_or, or_false, if_true, if_false]
theorem k_40 (hd : 1 ≤ d) (ht : T[a]? = some (0, 5)) : pm_ev d 40 [.inr (.inr (some a))] (V, R, T) (some (.inl (V a 3))) (V, R, T) := by
  refine pm_ev_of hd (Nat.le_of_ble_eq_true rfl) ?_
  show pm_w (d - 1) 40 0 [some (.inr (.inr (some a)))] [] (V, R, T) _
  have : pm_tgs (V, R, T) a [0] := ⟨_, _, by decide, ht⟩
  simp only [ux_40_0, ux_40_1, ux_40_4, pm_i_c, pm_l_c, pm_q_c, pm_r_c, pm_li_0, pm_li_s, pm_ll_0, pm_ll_s, pm_lq_0, pm_lq_s, pm_s1, pm_s2, pm_kl, pm_wI, pm_wR, pm_pu_n, pm_pu_s, pm_wt, List.take_succ_cons, List.take_zero, List.take_nil, List.drop_succ_cons, List.drop_zero, List.reverse_cons, List.reverse_nil, List.nil_append, List.cons_append, List.length_cons, List.length_nil, true_and, and_true, true_implies, tn_l, tn_0, Int.reduceToNat, Int.reduceLE, Int.reduceLT, Int.reduceEq, Int.reduceAdd, Int.reduceSub, Int.reduceMul, Int.reduceNeg, Nat.reduceAdd, Nat.reduceLeDiff, Nat.reduceEqDiff, Nat.reduceSub, Option.some.injEq, Sum.inl.injEq, Sum.inr.injEq, or_true, true_or, reduceCtorEq, ne_eq, not_false_eq_true, not_true_eq_false, false_implies, implies_true, false_and, and_false, false_or, or_false, if_true, if_false, eq_true this]
theorem k_41 (hd : 1 ≤ d) : pm_ev d 41 [.inr (.inr (some a))] h (some (.inl (-3))) h := by
  refine pm_ev_of hd (Nat.le_of_ble_eq_true rfl) ?_
  show pm_w (d - 1) 41 0 [some (.inr (.inr (some a)))] [] h _
  simp only [ux_41_0, ux_41_2, pm_i_c, pm_l_c, pm_q_c, pm_r_c, pm_li_0, pm_li_s, pm_ll_0, pm_ll_s, pm_lq_0, pm_lq_s, pm_s1, pm_s2, pm_kl, pm_wI, pm_wR, pm_pu_n, pm_pu_s, pm_wt, List.take_succ_cons, List.take_zero, List.take_nil, List.drop_succ_cons, List.drop_zero, List.reverse_cons, List.reverse_nil, List.nil_append, List.cons_append, List.length_cons, List.length_nil, true_and, and_true, true_implies, tn_l, tn_0, Int.reduceToNat, Int.reduceLE, Int.reduceLT, Int.reduceEq, Int.reduceAdd, Int.reduceSub, Int.reduceMul, Int.reduceNeg, Nat.reduceAdd, Nat.reduceLeDiff, Nat.reduceEqDiff, Nat.reduceSub, Option.some.injEq, Sum.inl.injEq, Sum.inr.injEq, or_true, true_or, reduceCtorEq, ne_eq, not_false_eq_true, not_true_eq_false, false_implies, implies_true, false_and, and_false, false_or, or_false, if_true, if_false]
theorem k_42 (hd : 1 ≤ d) (ht : T[a]? = some (0, 5)) : pm_ev d 42 [.inr (.inr (some a))] (V, R, T) (some (.inl (V a 4))) (V, R, T) := by
  refine pm_ev_of hd (Nat.le_of_ble_eq_true rfl) ?_
  show pm_w (d - 1) 42 0 [some (.inr (.inr (some a)))] [] (V, R, T) _
  have : pm_tgs (V, R, T) a [0] := ⟨_, _, by decide, ht⟩
  simp only [ux_42_0, ux_42_1, ux_42_4, pm_i_c, pm_l_c, pm_q_c, pm_r_c, pm_li_0, pm_li_s, pm_ll_0, pm_ll_s, pm_lq_0, pm_lq_s, pm_s1, pm_s2, pm_kl, pm_wI, pm_wR, pm_pu_n, pm_pu_s, pm_wt, List.take_succ_cons, List.take_zero, List.take_nil, List.drop_succ_cons, List.drop_zero, List.reverse_cons, List.reverse_nil, List.nil_append, List.cons_append, List.length_cons, List.length_nil, true_and, and_true, true_implies, tn_l, tn_0, Int.reduceToNat, Int.reduceLE, Int.reduceLT, Int.reduceEq, Int.reduceAdd, Int.reduceSub, Int.reduceMul, Int.reduceNeg, Nat.reduceAdd, Nat.reduceLeDiff, Nat.reduceEqDiff, Nat.reduceSub, Option.some.injEq, Sum.inl.injEq, Sum.inr.injEq, or_true, true_or, reduceCtorEq, ne_eq, not_false_eq_true, not_true_eq_false, false_implies, implies_true, false_and, and_false, false_or, or_false, if_true, if_false, eq_true this]
theorem k_43 (hd : 1 ≤ d) : pm_ev d 43 [.inr (.inr (some a))] h (some (.inl (-3))) h := by
  refine pm_ev_of hd (Nat.le_of_ble_eq_true rfl) ?_
  show pm_w (d - 1) 43 0 [some (.inr (.inr (some a)))] [] h _
  simp only [ux_43_0, ux_43_2, pm_i_c, pm_l_c, pm_q_c, pm_r_c, pm_li_0, pm_li_s, pm_ll_0, pm_ll_s, pm_lq_0, pm_lq_s, pm_s1, pm_s2, pm_kl, pm_wI, pm_wR, pm_pu_n, pm_pu_s, pm_wt, List.take_succ_cons, List.take_zero, List.take_nil, List.drop_succ_cons, List.drop_zero, List.reverse_cons, List.reverse_nil, List.nil_append, List.cons_append, List.length_cons, List.length_nil, true_and, and_true, true_implies, tn_l, tn_0, Int.reduceToNat, Int.reduceLE, Int.reduceLT, Int.reduceEq, Int.reduceAdd, Int.reduceSub, Int.reduceMul, Int.reduceNeg, Nat.reduceAdd, Nat.reduceLeDiff, Nat.reduceEqDiff, Nat.reduceSub, Option.some.injEq, Sum.inl.injEq, Sum.inr.injEq, or_true, true_or, reduceCtorEq, ne_eq, not_false_eq_true, not_true_eq_false, false_implies, implies_true, false_and, and_false, false_or, or_false, if_true, if_false]
theorem k_53 (hd : 1 ≤ d) (ht : T[a]? = some (0, 5)) (x y : Int) : pm_ev d 53 [.inr (.inr (some a)), .inl x, .inl y] (V, R, T) (some (.inl (if V a 3 < y ∧ x < V a 4 then 1 else 0))) (V, R, T) := by
  refine pm_ev_of hd (Nat.le_of_ble_eq_true rfl) ?_
  show pm_w (d - 1) 53 0 [some (.inr (.inr (some a))), some (.inl x), some (.inl y)] [] (V, R, T) _
  have : pm_tgs (V, R, T) a [0] := ⟨_, _, by decide, ht⟩
  simp only [ux_53_0, ux_53_1, ux_53_4, ux_53_5, ux_53_8, ux_53_9, ux_53_10, ux_53_13, ux_53_16, ux_53_17, ux_53_20, ux_53_21, pm_i_c, pm_l_c, pm_q_c, pm_r_c, pm_li_0, pm_li_s, pm_ll_0, pm_ll_s, pm_lq_0, pm_lq_s, pm_s1, pm_s2, pm_kl, pm_wI, pm_wR, pm_pu_n, pm_pu_s, pm_wt, List.take_succ_cons, List.take_zero, List.take_nil, List.drop_succ_cons, List.drop_zero, List.reverse_cons, List.reverse_nil, List.nil_append, List.cons_append, List.length_cons, List.length_nil, true_and, and_true, true_implies, tn_l, tn_0, Int.reduceToNat, Int.reduceLE, Int.reduceLT, Int.reduceEq, Int.reduceAdd, Int.reduceSub, Int.reduceMul, Int.reduceNeg, Nat.reduceAdd, Nat.reduceLeDiff, Nat.reduceEqDiff, Nat.reduceSub, Option.some.injEq, Sum.inl.injEq, Sum.inr.injEq, or_true, true_or, reduceCtorEq, ne_eq, not_false_eq_true, not_true_eq_false, false_implies, implies_true, false_and, and_false, false_or, or_false, if_true, if_false, eq_true this]
  refine ⟨fun z => by rw [if_neg (by omega)], fun z => ⟨fun z2 => by rw [if_neg (by omega)], fun z2 => by rw [if_pos (by omega)]⟩⟩
theorem k_54 (hd : 1 ≤ d) (x y : Int) : pm_ev d 54 [.inr (.inr (some a)), .inl x, .inl y] h (some (.inl 0)) h := by
  refine pm_ev_of hd (Nat.le_of_ble_eq_true rfl) ?_
  show pm_w (d - 1) 54 0 [some (.inr (.inr (some a))), some (.inl x), some (.inl y)] [] h _
  simp only [ux_54_0, ux_54_1, pm_i_c, pm_l_c, pm_q_c, pm_r_c, pm_li_0, pm_li_s, pm_ll_0, pm_ll_s, pm_lq_0, pm_lq_s, pm_s1, pm_s2, pm_kl, pm_wI, pm_wR, pm_pu_n, pm_pu_s, pm_wt, List.take_succ_cons, List.take_zero, List.take_nil, List.drop_succ_cons, List.drop_zero, List.reverse_cons, List.reverse_nil, List.nil_append, List.cons_append, List.length_cons, List.length_nil, true_and, and_true, true_implies, tn_l, tn_0, Int.reduceToNat, Int.reduceLE, Int.reduceLT, Int.reduceEq, Int.reduceAdd, Int.reduceSub, Int.reduceMul, Int.reduceNeg, Nat.reduceAdd, Nat.reduceLeDiff, Nat.reduceEqDiff, Nat.reduceSub, Option.some.injEq, Sum.inl.injEq, Sum.inr.injEq, or_true, true_or, reduceCtorEq, ne_eq, not_false_eq_true, not_true_eq_false, false_implies, implies_true, false_and, and_false, false_or, or_false, if_true, if_false]
/-- virtual calls -/
theorem v_kind (hd : 1 ≤ d) (h : pcO V T a A p) (hq : Q (some (.inl (A (3 + p)))) (V, R, T)) : ∃ t n j, T[a]? = some (t, n) ∧ List.lookup t [(0, 31), (2, 32), (6, 35), (9, 33), (10, 34)] = some j ∧ pm_ok d j [.inr (.inr (some a))] (V, R, T) Q := by
  obtain ⟨h1, h2, -⟩ := h
  have : A (3 + p) = 0 ∨ A (3 + p) = 1 ∨ A (3 + p) = 2 ∨ A (3 + p) = 3 ∨ A (3 + p) = 4 := by omega
  rcases this with e | e | e | e | e <;> rw [e] at h1 hq
  · exact ⟨6, 3, 35, h1, rfl, (pm_ok_ev (k_35 hd)).mpr hq⟩
  · exact ⟨10, 3, 34, h1, rfl, (pm_ok_ev (k_34 hd)).mpr hq⟩
  · exact ⟨2, 3, 32, h1, rfl, (pm_ok_ev (k_32 hd)).mpr hq⟩
  · exact ⟨9, 4, 33, h1, rfl, (pm_ok_ev (k_33 hd)).mpr hq⟩
  · exact ⟨0, 5, 31, h1, rfl, (pm_ok_ev (k_31 hd)).mpr hq⟩
theorem v_last (hd : 1 ≤ d) (h : pcO V T a A p) {x : Int} (hx : x = A 1) (hq : Q (some (.inl (lsA A 0 p))) (V, R, T)) : ∃ t n j, T[a]? = some (t, n) ∧ List.lookup t [(0, 37), (2, 36), (6, 37), (9, 37), (10, 37)] = some j ∧ pm_ok d j [.inr (.inr (some a)), .inl x] (V, R, T) Q := by
  have ht := pc_tgs (R := R) h
  obtain ⟨h1, h2, h3, h4, h5, h6, h7, h8⟩ := h
  have : A (3 + p) = 0 ∨ A (3 + p) = 1 ∨ A (3 + p) = 2 ∨ A (3 + p) = 3 ∨ A (3 + p) = 4 := by omega
  unfold lsA at hq
  rw [Int.add_zero] at hq
  rcases this with e | e | e | e | e <;> rw [e] at h1 hq
  · rw [if_neg (by decide), ← h5 (by omega)] at hq
    exact ⟨6, 3, 37, h1, rfl, (pm_ok_ev (k_37 hd ht _)).mpr hq⟩
  · rw [if_neg (by decide), ← h5 (by omega)] at hq
    exact ⟨10, 3, 37, h1, rfl, (pm_ok_ev (k_37 hd ht _)).mpr hq⟩
  · rw [if_pos rfl, ← hx] at hq
    exact ⟨2, 3, 36, h1, rfl, (pm_ok_ev (k_36 hd _)).mpr hq⟩
  · rw [if_neg (by decide), ← h5 (by omega)] at hq
    exact ⟨9, 4, 37, h1, rfl, (pm_ok_ev (k_37 hd ht _)).mpr hq⟩
  · rw [if_neg (by decide), ← h5 (by omega)] at hq
    exact ⟨0, 5, 37, h1, rfl, (pm_ok_ev (k_37 hd ht _)).mpr hq⟩
theorem v_ways (hd : 1 ≤ d) (hw : A (3 + p) ≠ 3 → A (51 + p) = 1) (h : pcO V T a A p) (hq : Q (some (.inl (A (51 + p)))) (V, R, T)) : ∃ t n j, T[a]? = some (t, n) ∧ List.lookup t [(0, 39), (2, 39), (6, 39), (9, 38), (10, 39)] = some j ∧ pm_ok d j [.inr (.inr (some a))] (V, R, T) Q := by
  obtain ⟨h1, h2, h3, h4, h5, h6, h7, h8⟩ := h
  have : A (3 + p) = 0 ∨ A (3 + p) = 1 ∨ A (3 + p) = 2 ∨ A (3 + p) = 3 ∨ A (3 + p) = 4 := by omega
  rcases this with e | e | e | e | e <;> rw [e] at h1
  · rw [hw (by omega)] at hq
    exact ⟨6, 3, 39, h1, rfl, (pm_ok_ev (k_39 hd)).mpr hq⟩
  · rw [hw (by omega)] at hq
    exact ⟨10, 3, 39, h1, rfl, (pm_ok_ev (k_39 hd)).mpr hq⟩
  · rw [hw (by omega)] at hq
    exact ⟨2, 3, 39, h1, rfl, (pm_ok_ev (k_39 hd)).mpr hq⟩
  · rw [← h6 e] at hq
    exact ⟨9, 4, 38, h1, rfl, (pm_ok_ev (k_38 hd h1)).mpr hq⟩
  · rw [hw (by omega)] at hq
    exact ⟨0, 5, 39, h1, rfl, (pm_ok_ev (k_39 hd)).mpr hq⟩
theorem v_beg (hd : 1 ≤ d) (hw : A (3 + p) ≠ 4 → A (63 + p) = -3 ∧ A (75 + p) = -3) (h : pcO V T a A p) (hq : Q (some (.inl (A (63 + p)))) (V, R, T)) : ∃ t n j, T[a]? = some (t, n) ∧ List.lookup t [(0, 40), (2, 41), (6, 41), (9, 41), (10, 41)] = some j ∧ pm_ok d j [.inr (.inr (some a))] (V, R, T) Q := by
  obtain ⟨h1, h2, h3, h4, h5, h6, h7, h8⟩ := h
  have : A (3 + p) = 0 ∨ A (3 + p) = 1 ∨ A (3 + p) = 2 ∨ A (3 + p) = 3 ∨ A (3 + p) = 4 := by omega
  rcases this with e | e | e | e | e <;> rw [e] at h1
  · rw [(hw (by omega)).1] at hq
    exact ⟨6, 3, 41, h1, rfl, (pm_ok_ev (k_41 hd)).mpr hq⟩
  · rw [(hw (by omega)).1] at hq
    exact ⟨10, 3, 41, h1, rfl, (pm_ok_ev (k_41 hd)).mpr hq⟩
  · rw [(hw (by omega)).1] at hq
    exact ⟨2, 3, 41, h1, rfl, (pm_ok_ev (k_41 hd)).mpr hq⟩
  · rw [(hw (by omega)).1] at hq
    exact ⟨9, 4, 41, h1, rfl, (pm_ok_ev (k_41 hd)).mpr hq⟩
  · rw [← (h7 e).1] at hq
    exact ⟨0, 5, 40, h1, rfl, (pm_ok_ev (k_40 hd h1)).mpr hq⟩
theorem v_stp (hd : 1 ≤ d) (hw : A (3 + p) ≠ 4 → A (63 + p) = -3 ∧ A (75 + p) = -3) (h : pcO V T a A p) (hq : Q (some (.inl (A (75 + p)))) (V, R, T)) : ∃ t n j, T[a]? = some (t, n) ∧ List.lookup t [(0, 42), (2, 43), (6, 43), (9, 43), (10, 43)] = some j ∧ pm_ok d j [.inr (.inr (some a))] (V, R, T) Q := by
  obtain ⟨h1, h2, h3, h4, h5, h6, h7, h8⟩ := h
  have : A (3 + p) = 0 ∨ A (3 + p) = 1 ∨ A (3 + p) = 2 ∨ A (3 + p) = 3 ∨ A (3 + p) = 4 := by omega
  rcases this with e | e | e | e | e <;> rw [e] at h1
  · rw [(hw (by omega)).2] at hq
    exact ⟨6, 3, 43, h1, rfl, (pm_ok_ev (k_43 hd)).mpr hq⟩
  · rw [(hw (by omega)).2] at hq
    exact ⟨10, 3, 43, h1, rfl, (pm_ok_ev (k_43 hd)).mpr hq⟩
  · rw [(hw (by omega)).2] at hq
    exact ⟨2, 3, 43, h1, rfl, (pm_ok_ev (k_43 hd)).mpr hq⟩
  · rw [(hw (by omega)).2] at hq
    exact ⟨9, 4, 43, h1, rfl, (pm_ok_ev (k_43 hd)).mpr hq⟩
  · rw [← (h7 e).2] at hq
    exact ⟨0, 5, 42, h1, rfl, (pm_ok_ev (k_42 hd h1)).mpr hq⟩
theorem v_isb (hd : 1 ≤ d) (h : pcO V T a A p) {x y : Int} (hq : Q (some (.inl (if A (3 + p) = 4 ∧ A (63 + p) < y ∧ x < A (75 + p) then 1 else 0))) (V, R, T)) : ∃ t n j, T[a]? = some (t, n) ∧ List.lookup t [(0, 53), (2, 54), (6, 54), (9, 54), (10, 54)] = some j ∧ pm_ok d j [.inr (.inr (some a)), .inl x, .inl y] (V, R, T) Q := by
  obtain ⟨h1, h2, h3, h4, h5, h6, h7, h8⟩ := h
  have : A (3 + p) = 0 ∨ A (3 + p) = 1 ∨ A (3 + p) = 2 ∨ A (3 + p) = 3 ∨ A (3 + p) = 4 := by omega
  rcases this with e | e | e | e | e <;> rw [e] at h1
  · rw [if_neg (by omega)] at hq
    exact ⟨6, 3, 54, h1, rfl, (pm_ok_ev (k_54 hd _ _)).mpr hq⟩
  · rw [if_neg (by omega)] at hq
    exact ⟨10, 3, 54, h1, rfl, (pm_ok_ev (k_54 hd _ _)).mpr hq⟩
  · rw [if_neg (by omega)] at hq
    exact ⟨2, 3, 54, h1, rfl, (pm_ok_ev (k_54 hd _ _)).mpr hq⟩
  · rw [if_neg (by omega)] at hq
    exact ⟨9, 4, 54, h1, rfl, (pm_ok_ev (k_54 hd _ _)).mpr hq⟩
  · refine ⟨0, 5, 53, h1, rfl, (pm_ok_ev (k_53 hd h1 _ _)).mpr ?_⟩
    rw [(h7 e).1, (h7 e).2]
    by_cases c : A (63 + p) < y ∧ x < A (75 + p)
    · rw [if_pos ⟨e, c⟩] at hq
      rw [if_pos c]; exact hq
    · rw [if_neg (fun w => c w.2)] at hq
      rw [if_neg c]; exact hq
/-- the shed -/
theorem c_pieceAt (hd : 1 ≤ d) (hf : fx R T) (h2 : V 1 2 = n) (hn : n ≤ 12) (x : Int) : pm_ev d 25 [.inr (.inr (some 1)), .inl x] (V, R, T) (some (.inr (.inr (if 0 ≤ x ∧ x < n then R 2 x.toNat else none)))) (V, R, T) := by
  refine pm_ev_of hd (Nat.le_of_ble_eq_true rfl) ?_
  show pm_w (d - 1) 25 0 [some (.inr (.inr (some 1))), some (.inl x)] [] (V, R, T) _
  simp only [ux_25_0, ux_25_1, ux_25_4, ux_25_5, ux_25_6, ux_25_9, ux_25_12, ux_25_13, ux_25_15, ux_25_18, ux_25_19, ux_25_22, ux_25_23, ux_25_24, ux_25_27, ux_25_28, pm_i_c, pm_l_c, pm_q_c, pm_r_c, pm_li_0, pm_li_s, pm_ll_0, pm_ll_s, pm_lq_0, pm_lq_s, pm_s1, pm_s2, pm_kl, pm_wI, pm_wR, pm_pu_n, pm_pu_s, pm_wt, List.take_succ_cons, List.take_zero, List.take_nil, List.drop_succ_cons, List.drop_zero, List.reverse_cons, List.reverse_nil, List.nil_append, List.cons_append, List.length_cons, List.length_nil, true_and, and_true, true_implies, tn_l, tn_0, Int.reduceToNat, Int.reduceLE, Int.reduceLT, Int.reduceEq, Int.reduceAdd, Int.reduceSub, Int.reduceMul, Int.reduceNeg, Nat.reduceAdd, Nat.reduceLeDiff, Nat.reduceEqDiff, Nat.reduceSub, Option.some.injEq, Sum.inl.injEq, Sum.inr.injEq, or_true, true_or, reduceCtorEq, ne_eq, not_false_eq_true, not_true_eq_false, false_implies, implies_true, false_and, and_false, false_or, or_false, if_true, if_false, fr_1_3 hf, fg_1 hf, fv_1 hf, fb_2 hf, h2]
  refine ⟨fun z => by rw [if_neg (by omega)], fun z => ⟨fun z2 => by rw [if_neg (by omega)], fun z2 => ⟨fun z3 => by omega, fun z3 => ⟨Or.inr (Or.inl (by omega)), by rw [if_pos (by omega)]⟩⟩⟩⟩
theorem c_has (hd : 2 ≤ d) (hf : fx R T) (hs : shO V R T 1 A n) (hn : n ≤ 12) (x : Int) : pm_ev d 24 [.inr (.inr (some 1)), .inl x] (V, R, T) (some (.inl (if 0 ≤ x ∧ x < n then 1 else 0))) (V, R, T) := by
  refine pm_ev_of (by omega) (Nat.le_of_ble_eq_true rfl) ?_
  show pm_w (d - 1) 24 0 [some (.inr (.inr (some 1))), some (.inl x)] [] (V, R, T) _
  simp only [ux_24_0, ux_24_1, ux_24_2, ux_24_5, ux_24_8, ux_24_9, ux_24_12, ux_24_13, pm_i_c, pm_l_c, pm_q_c, pm_r_c, pm_li_0, pm_li_s, pm_ll_0, pm_ll_s, pm_lq_0, pm_lq_s, pm_s1, pm_s2, pm_kl, pm_wI, pm_wR, pm_pu_n, pm_pu_s, pm_wt, List.take_succ_cons, List.take_zero, List.take_nil, List.drop_succ_cons, List.drop_zero, List.reverse_cons, List.reverse_nil, List.nil_append, List.cons_append, List.length_cons, List.length_nil, true_and, and_true, true_implies, tn_l, tn_0, Int.reduceToNat, Int.reduceLE, Int.reduceLT, Int.reduceEq, Int.reduceAdd, Int.reduceSub, Int.reduceMul, Int.reduceNeg, Nat.reduceAdd, Nat.reduceLeDiff, Nat.reduceEqDiff, Nat.reduceSub, Option.some.injEq, Sum.inl.injEq, Sum.inr.injEq, or_true, true_or, reduceCtorEq, ne_eq, not_false_eq_true, not_true_eq_false, false_implies, implies_true, false_and, and_false, false_or, or_false, if_true, if_false, fr_1_3 hf, fg_1 hf, fv_1 hf, fb_2 hf, pm_ok_ev (c_pieceAt (d := d - 1) (by omega) hf hs.2.2.1 hn x)]
  by_cases c : 0 ≤ x ∧ x < n
  · obtain ⟨a, e, -⟩ := hs.2.2.2.1 x.toNat (by omega)
    rw [if_pos c, if_pos c]
    have e : R 2 x.toNat = some a := e
    rw [e]
    exact ⟨fun z => (by cases z), fun _ => rfl⟩
  · rw [if_neg c, if_neg c]
    exact ⟨fun _ => rfl, fun z => absurd rfl z⟩
theorem c_lengthOf (hd : 2 ≤ d) (hf : fx R T) (hs : shO V R T 1 A n) (hn : n ≤ 12) (hp : p < n) : pm_ev d 51 [.inr (.inr (some 1)), .inl (p : Int)] (V, R, T) (some (.inl (A (15 + p)))) (V, R, T) := by
  refine pm_ev_of (by omega) (Nat.le_of_ble_eq_true rfl) ?_
  show pm_w (d - 1) 51 0 [some (.inr (.inr (some 1))), some (.inl (p : Int)), none] [] (V, R, T) _
  obtain ⟨a, e, ho⟩ := hs.2.2.2.1 p hp
  have e : R 2 p = some a := e
  have ev := c_pieceAt (d := d - 1) (by omega) hf hs.2.2.1 hn (p : Int)
  rw [if_pos (by omega), Int.toNat_natCast, e] at ev
  simp only [ux_51_0, ux_51_1, ux_51_2, ux_51_5, ux_51_6, ux_51_7, ux_51_10, ux_51_11, ux_51_14, ux_51_15, ux_51_18, pm_i_c, pm_l_c, pm_q_c, pm_r_c, pm_li_0, pm_li_s, pm_ll_0, pm_ll_s, pm_lq_0, pm_lq_s, pm_s1, pm_s2, pm_kl, pm_wI, pm_wR, pm_pu_n, pm_pu_s, pm_wt, List.take_succ_cons, List.take_zero, List.take_nil, List.drop_succ_cons, List.drop_zero, List.reverse_cons, List.reverse_nil, List.nil_append, List.cons_append, List.length_cons, List.length_nil, true_and, and_true, true_implies, tn_l, tn_0, Int.reduceToNat, Int.reduceLE, Int.reduceLT, Int.reduceEq, Int.reduceAdd, Int.reduceSub, Int.reduceMul, Int.reduceNeg, Nat.reduceAdd, Nat.reduceLeDiff, Nat.reduceEqDiff, Nat.reduceSub, Option.some.injEq, Sum.inl.injEq, Sum.inr.injEq, or_true, true_or, reduceCtorEq, ne_eq, not_false_eq_true, not_true_eq_false, false_implies, implies_true, false_and, and_false, false_or, or_false, if_true, if_false, fr_1_3 hf, fg_1 hf, fv_1 hf, fb_2 hf, pm_ok_ev ev, eq_true (pc_tgs (R := R) ho), ho.2.2.1]
theorem c_allLengths (hd : 3 ≤ d) (hf : fx R T) (hs : shO V R T 1 A n) (hw : wf A n) : pm_ev d 55 [.inr (.inr (some 1))] (V, R, T) (some (.inl (sm (fun j => A (15 + j)) n))) (V, R, T) := by
  refine pm_ev_of (by omega) (Nat.le_of_ble_eq_true rfl) ?_
  show pm_w (d - 1) 55 0 [some (.inr (.inr (some 1))), none, none] [] (V, R, T) _
  have hn := hw.1
  have h2 := hs.2.2.1
  simp only [ux_55_0, ux_55_1, ux_55_2, ux_55_3, ux_55_5, ux_55_6, ux_55_9, ux_55_12, ux_55_13, ux_55_14, ux_55_15, ux_55_18, ux_55_19, ux_55_20, ux_55_23, ux_55_26, ux_55_27, pm_i_c, pm_l_c, pm_q_c, pm_r_c, pm_li_0, pm_li_s, pm_ll_0, pm_ll_s, pm_lq_0, pm_lq_s, pm_s1, pm_s2, pm_kl, pm_wI, pm_wR, pm_pu_n, pm_pu_s, pm_wt, List.take_succ_cons, List.take_zero, List.take_nil, List.drop_succ_cons, List.drop_zero, List.reverse_cons, List.reverse_nil, List.nil_append, List.cons_append, List.length_cons, List.length_nil, true_and, and_true, true_implies, tn_l, tn_0, Int.reduceToNat, Int.reduceLE, Int.reduceLT, Int.reduceEq, Int.reduceAdd, Int.reduceSub, Int.reduceMul, Int.reduceNeg, Nat.reduceAdd, Nat.reduceLeDiff, Nat.reduceEqDiff, Nat.reduceSub, Option.some.injEq, Sum.inl.injEq, Sum.inr.injEq, or_true, true_or, reduceCtorEq, ne_eq, not_false_eq_true, not_true_eq_false, false_implies, implies_true, false_and, and_false, false_or, or_false, if_true, if_false, fr_1_3 hf, fg_1 hf, fv_1 hf, fb_2 hf]
  refine pm_up0 (fun p => pm_w (d - 1) 55 4 [some (.inr (.inr (some 1))), some (.inl (sm (fun j => A (15 + j)) p)), some (.inl (p : Int))] [] (V, R, T) _) n ?_ ?_
  · rw [ux_55_4]
    simp only [ux_55_0, ux_55_1, ux_55_2, ux_55_3, ux_55_5, ux_55_6, ux_55_9, ux_55_12, ux_55_13, ux_55_14, ux_55_15, ux_55_18, ux_55_19, ux_55_20, ux_55_23, ux_55_26, ux_55_27, pm_i_c, pm_l_c, pm_q_c, pm_r_c, pm_li_0, pm_li_s, pm_ll_0, pm_ll_s, pm_lq_0, pm_lq_s, pm_s1, pm_s2, pm_kl, pm_wI, pm_wR, pm_pu_n, pm_pu_s, pm_wt, List.take_succ_cons, List.take_zero, List.take_nil, List.drop_succ_cons, List.drop_zero, List.reverse_cons, List.reverse_nil, List.nil_append, List.cons_append, List.length_cons, List.length_nil, true_and, and_true, true_implies, tn_l, tn_0, Int.reduceToNat, Int.reduceLE, Int.reduceLT, Int.reduceEq, Int.reduceAdd, Int.reduceSub, Int.reduceMul, Int.reduceNeg, Nat.reduceAdd, Nat.reduceLeDiff, Nat.reduceEqDiff, Nat.reduceSub, Option.some.injEq, Sum.inl.injEq, Sum.inr.injEq, or_true, true_or, reduceCtorEq, ne_eq, not_false_eq_true, not_true_eq_false, false_implies, implies_true, false_and, and_false, false_or, or_false, if_true, if_false, fr_1_3 hf, fg_1 hf, fv_1 hf, fb_2 hf, h2]
    exact fun z => absurd (Int.le_refl _) z
  · intro p hp ih
    have b1 := (hw.2.2.2.2 p hp).2.1
    have b2 := sm_bd (n := p) (f := fun j => A (15 + j)) (B := 60) (fun j hj => by have := (hw.2.2.2.2 j (by omega)).2.1; omega)
    rw [ux_55_4]
    simp only [ux_55_0, ux_55_1, ux_55_2, ux_55_3, ux_55_5, ux_55_6, ux_55_9, ux_55_12, ux_55_13, ux_55_14, ux_55_15, ux_55_18, ux_55_19, ux_55_20, ux_55_23, ux_55_26, ux_55_27, pm_i_c, pm_l_c, pm_q_c, pm_r_c, pm_li_0, pm_li_s, pm_ll_0, pm_ll_s, pm_lq_0, pm_lq_s, pm_s1, pm_s2, pm_kl, pm_wI, pm_wR, pm_pu_n, pm_pu_s, pm_wt, List.take_succ_cons, List.take_zero, List.take_nil, List.drop_succ_cons, List.drop_zero, List.reverse_cons, List.reverse_nil, List.nil_append, List.cons_append, List.length_cons, List.length_nil, true_and, and_true, true_implies, tn_l, tn_0, Int.reduceToNat, Int.reduceLE, Int.reduceLT, Int.reduceEq, Int.reduceAdd, Int.reduceSub, Int.reduceMul, Int.reduceNeg, Nat.reduceAdd, Nat.reduceLeDiff, Nat.reduceEqDiff, Nat.reduceSub, Option.some.injEq, Sum.inl.injEq, Sum.inr.injEq, or_true, true_or, reduceCtorEq, ne_eq, not_false_eq_true, not_true_eq_false, false_implies, implies_true, false_and, and_false, false_or, or_false, if_true, if_false, fr_1_3 hf, fg_1 hf, fv_1 hf, fb_2 hf, h2, pm_ok_ev (c_lengthOf (d := d - 1) (by omega) hf hs hn hp)]
    exact ⟨fun z => by omega, fun _ => ⟨by unfold pm_I32; omega, by unfold pm_I32; omega, ih⟩⟩
theorem c_hasSplit (hd : 2 ≤ d) (hf : fx R T) (hs : shO V R T 1 A n) (hn : n ≤ 12) : pm_ev d 103 [.inr (.inr (some 1))] (V, R, T) (some (.inl (@ite _ (∃ q, q < n ∧ 2 < A (3 + q)) (Classical.propDecidable _) 1 0))) (V, R, T) := by
  refine pm_ev_of (by omega) (Nat.le_of_ble_eq_true rfl) ?_
  show pm_w (d - 1) 103 0 [some (.inr (.inr (some 1))), none, none] [] (V, R, T) _
  have h2 := hs.2.2.1
  simp only [ux_103_0, ux_103_1, ux_103_3, ux_103_4, ux_103_7, ux_103_10, ux_103_11, ux_103_12, ux_103_15, ux_103_16, ux_103_17, ux_103_20, ux_103_23, ux_103_24, ux_103_27, ux_103_30, ux_103_31, ux_103_32, ux_103_35, ux_103_38, ux_103_39, pm_i_c, pm_l_c, pm_q_c, pm_r_c, pm_li_0, pm_li_s, pm_ll_0, pm_ll_s, pm_lq_0, pm_lq_s, pm_s1, pm_s2, pm_kl, pm_wI, pm_wR, pm_pu_n, pm_pu_s, pm_wt, List.take_succ_cons, List.take_zero, List.take_nil, List.drop_succ_cons, List.drop_zero, List.reverse_cons, List.reverse_nil, List.nil_append, List.cons_append, List.length_cons, List.length_nil, true_and, and_true, true_implies, tn_l, tn_0, Int.reduceToNat, Int.reduceLE, Int.reduceLT, Int.reduceEq, Int.reduceAdd, Int.reduceSub, Int.reduceMul, Int.reduceNeg, Nat.reduceAdd, Nat.reduceLeDiff, Nat.reduceEqDiff, Nat.reduceSub, Option.some.injEq, Sum.inl.injEq, Sum.inr.injEq, or_true, true_or, reduceCtorEq, ne_eq, not_false_eq_true, not_true_eq_false, false_implies, implies_true, false_and, and_false, false_or, or_false, if_true, if_false, fr_1_3 hf, fg_1 hf, fv_1 hf, fb_2 hf]
  refine pm_up0 (fun p => (∀ q, q < p → ¬ 2 < A (3 + q)) → ∀ y, pm_w (d - 1) 103 2 [some (.inr (.inr (some 1))), some (.inl (p : Int)), y] [] (V, R, T) (fun r2 h2 => r2 = some (.inl (@ite _ (∃ q, q < n ∧ 2 < A (3 + q)) (Classical.propDecidable _) 1 0)) ∧ h2 = (V, R, T))) n ?_ ?_ (fun q hq => by omega) none
  · intro hN y
    rw [ux_103_2]
    simp only [ux_103_0, ux_103_1, ux_103_3, ux_103_4, ux_103_7, ux_103_10, ux_103_11, ux_103_12, ux_103_15, ux_103_16, ux_103_17, ux_103_20, ux_103_23, ux_103_24, ux_103_27, ux_103_30, ux_103_31, ux_103_32, ux_103_35, ux_103_38, ux_103_39, pm_i_c, pm_l_c, pm_q_c, pm_r_c, pm_li_0, pm_li_s, pm_ll_0, pm_ll_s, pm_lq_0, pm_lq_s, pm_s1, pm_s2, pm_kl, pm_wI, pm_wR, pm_pu_n, pm_pu_s, pm_wt, List.take_succ_cons, List.take_zero, List.take_nil, List.drop_succ_cons, List.drop_zero, List.reverse_cons, List.reverse_nil, List.nil_append, List.cons_append, List.length_cons, List.length_nil, true_and, and_true, true_implies, tn_l, tn_0, Int.reduceToNat, Int.reduceLE, Int.reduceLT, Int.reduceEq, Int.reduceAdd, Int.reduceSub, Int.reduceMul, Int.reduceNeg, Nat.reduceAdd, Nat.reduceLeDiff, Nat.reduceEqDiff, Nat.reduceSub, Option.some.injEq, Sum.inl.injEq, Sum.inr.injEq, or_true, true_or, reduceCtorEq, ne_eq, not_false_eq_true, not_true_eq_false, false_implies, implies_true, false_and, and_false, false_or, or_false, if_true, if_false, fr_1_3 hf, fg_1 hf, fv_1 hf, fb_2 hf, h2]
    refine ⟨fun _ => ?_, fun z => absurd (Int.le_refl _) z⟩
    rw [if_neg (fun ⟨q, a, b⟩ => hN q a b)]
  · intro p hp ih hN y
    obtain ⟨a, e, ho⟩ := hs.2.2.2.1 p hp
    have e : R 2 p = some a := e
    have ev := c_pieceAt (d := d - 1) (by omega) hf hs.2.2.1 hn (p : Int)
    rw [if_pos (by omega), Int.toNat_natCast, e] at ev
    have hk := ho.2.1
    rw [ux_103_2]
    simp only [ux_103_0, ux_103_1, ux_103_3, ux_103_4, ux_103_7, ux_103_10, ux_103_11, ux_103_12, ux_103_15, ux_103_17, ux_103_20, ux_103_23, ux_103_27, ux_103_31, ux_103_35, ux_103_38, ux_103_39, pm_i_c, pm_l_c, pm_q_c, pm_r_c, pm_li_0, pm_li_s, pm_ll_0, pm_ll_s, pm_lq_0, pm_lq_s, pm_s1, pm_s2, pm_kl, pm_wI, pm_wR, pm_pu_n, pm_pu_s, pm_wt, List.take_succ_cons, List.take_zero, List.take_nil, List.drop_succ_cons, List.drop_zero, List.reverse_cons, List.reverse_nil, List.nil_append, List.cons_append, List.length_cons, List.length_nil, true_and, and_true, true_implies, tn_l, tn_0, Int.reduceToNat, Int.reduceLE, Int.reduceLT, Int.reduceEq, Int.reduceAdd, Int.reduceSub, Int.reduceMul, Int.reduceNeg, Nat.reduceAdd, Nat.reduceLeDiff, Nat.reduceEqDiff, Nat.reduceSub, Option.some.injEq, Sum.inl.injEq, Sum.inr.injEq, or_true, true_or, reduceCtorEq, ne_eq, not_false_eq_true, not_true_eq_false, false_implies, implies_true, false_and, and_false, false_or, or_false, if_true, if_false, fr_1_3 hf, fg_1 hf, fv_1 hf, fb_2 hf, h2, pm_ok_ev ev]
    refine ⟨fun z => by omega, fun _ => ?_⟩
    have yes : 2 < A (3 + p) → pm_w (d - 1) 103 30 [some (.inr (.inr (some 1))), some (.inl (p : Int)), some (.inr (.inr (some a)))] [] (V, R, T) (fun r2 h2 => r2 = some (.inl (@ite _ (∃ q, q < n ∧ 2 < A (3 + q)) (Classical.propDecidable _) 1 0)) ∧ h2 = (V, R, T)) := by
      intro c
      rw [ux_103_30]
      simp only [ux_103_0, ux_103_1, ux_103_3, ux_103_4, ux_103_7, ux_103_10, ux_103_11, ux_103_12, ux_103_15, ux_103_16, ux_103_17, ux_103_20, ux_103_23, ux_103_24, ux_103_27, ux_103_30, ux_103_31, ux_103_32, ux_103_35, ux_103_38, ux_103_39, pm_i_c, pm_l_c, pm_q_c, pm_r_c, pm_li_0, pm_li_s, pm_ll_0, pm_ll_s, pm_lq_0, pm_lq_s, pm_s1, pm_s2, pm_kl, pm_wI, pm_wR, pm_pu_n, pm_pu_s, pm_wt, List.take_succ_cons, List.take_zero, List.take_nil, List.drop_succ_cons, List.drop_zero, List.reverse_cons, List.reverse_nil, List.nil_append, List.cons_append, List.length_cons, List.length_nil, true_and, and_true, true_implies, tn_l, tn_0, Int.reduceToNat, Int.reduceLE, Int.reduceLT, Int.reduceEq, Int.reduceAdd, Int.reduceSub, Int.reduceMul, Int.reduceNeg, Nat.reduceAdd, Nat.reduceLeDiff, Nat.reduceEqDiff, Nat.reduceSub, Option.some.injEq, Sum.inl.injEq, Sum.inr.injEq, or_true, true_or, reduceCtorEq, ne_eq, not_false_eq_true, not_true_eq_false, false_implies, implies_true, false_and, and_false, false_or, or_false, if_true, if_false, fr_1_3 hf, fg_1 hf, fv_1 hf, fb_2 hf]
      rw [if_pos ⟨p, hp, c⟩]
    rw [ux_103_16]
    simp only [ux_103_0, ux_103_1, ux_103_3, ux_103_4, ux_103_7, ux_103_10, ux_103_11, ux_103_12, ux_103_15, ux_103_17, ux_103_20, ux_103_23, ux_103_27, ux_103_31, ux_103_35, ux_103_38, ux_103_39, pm_i_c, pm_l_c, pm_q_c, pm_r_c, pm_li_0, pm_li_s, pm_ll_0, pm_ll_s, pm_lq_0, pm_lq_s, pm_s1, pm_s2, pm_kl, pm_wI, pm_wR, pm_pu_n, pm_pu_s, pm_wt, List.take_succ_cons, List.take_zero, List.take_nil, List.drop_succ_cons, List.drop_zero, List.reverse_cons, List.reverse_nil, List.nil_append, List.cons_append, List.length_cons, List.length_nil, true_and, and_true, true_implies, tn_l, tn_0, Int.reduceToNat, Int.reduceLE, Int.reduceLT, Int.reduceEq, Int.reduceAdd, Int.reduceSub, Int.reduceMul, Int.reduceNeg, Nat.reduceAdd, Nat.reduceLeDiff, Nat.reduceEqDiff, Nat.reduceSub, Option.some.injEq, Sum.inl.injEq, Sum.inr.injEq, or_true, true_or, reduceCtorEq, ne_eq, not_false_eq_true, not_true_eq_false, false_implies, implies_true, false_and, and_false, false_or, or_false, if_true, if_false, fr_1_3 hf, fg_1 hf, fv_1 hf, fb_2 hf]
    intro a' ha'
    cases ha'
    refine ⟨(tgK (A (3 + p))).1, (tgK (A (3 + p))).2, ho.1, tgK_mem _, ?_⟩
    rw [cn_spl]
    by_cases c3 : A (3 + p) = 3
    · rw [if_pos c3]
      exact ⟨fun _ => yes (by omega), fun z => absurd (by decide) z⟩
    · rw [if_neg c3]
      refine ⟨fun z => absurd rfl z, fun _ => ?_⟩
      rw [ux_103_24]
      simp only [ux_103_0, ux_103_1, ux_103_3, ux_103_4, ux_103_7, ux_103_10, ux_103_11, ux_103_12, ux_103_15, ux_103_17, ux_103_20, ux_103_23, ux_103_27, ux_103_31, ux_103_35, ux_103_38, ux_103_39, pm_i_c, pm_l_c, pm_q_c, pm_r_c, pm_li_0, pm_li_s, pm_ll_0, pm_ll_s, pm_lq_0, pm_lq_s, pm_s1, pm_s2, pm_kl, pm_wI, pm_wR, pm_pu_n, pm_pu_s, pm_wt, List.take_succ_cons, List.take_zero, List.take_nil, List.drop_succ_cons, List.drop_zero, List.reverse_cons, List.reverse_nil, List.nil_append, List.cons_append, List.length_cons, List.length_nil, true_and, and_true, true_implies, tn_l, tn_0, Int.reduceToNat, Int.reduceLE, Int.reduceLT, Int.reduceEq, Int.reduceAdd, Int.reduceSub, Int.reduceMul, Int.reduceNeg, Nat.reduceAdd, Nat.reduceLeDiff, Nat.reduceEqDiff, Nat.reduceSub, Option.some.injEq, Sum.inl.injEq, Sum.inr.injEq, or_true, true_or, reduceCtorEq, ne_eq, not_false_eq_true, not_true_eq_false, false_implies, implies_true, false_and, and_false, false_or, or_false, if_true, if_false, fr_1_3 hf, fg_1 hf, fv_1 hf, fb_2 hf]
      intro a' ha'
      cases ha'
      refine ⟨(tgK (A (3 + p))).1, (tgK (A (3 + p))).2, ho.1, tgK_mem _, ?_⟩
      rw [cn_bar hk]
      by_cases c4 : A (3 + p) = 4
      · rw [if_pos c4]
        exact ⟨fun z => absurd z (by decide), fun _ => yes (by omega)⟩
      · rw [if_neg c4]
        refine ⟨fun _ => ?_, fun z => absurd rfl z⟩
        rw [ux_103_32]
        simp only [ux_103_0, ux_103_1, ux_103_3, ux_103_4, ux_103_7, ux_103_10, ux_103_11, ux_103_12, ux_103_15, ux_103_16, ux_103_17, ux_103_20, ux_103_23, ux_103_24, ux_103_27, ux_103_30, ux_103_31, ux_103_32, ux_103_35, ux_103_38, ux_103_39, pm_i_c, pm_l_c, pm_q_c, pm_r_c, pm_li_0, pm_li_s, pm_ll_0, pm_ll_s, pm_lq_0, pm_lq_s, pm_s1, pm_s2, pm_kl, pm_wI, pm_wR, pm_pu_n, pm_pu_s, pm_wt, List.take_succ_cons, List.take_zero, List.take_nil, List.drop_succ_cons, List.drop_zero, List.reverse_cons, List.reverse_nil, List.nil_append, List.cons_append, List.length_cons, List.length_nil, true_and, and_true, true_implies, tn_l, tn_0, Int.reduceToNat, Int.reduceLE, Int.reduceLT, Int.reduceEq, Int.reduceAdd, Int.reduceSub, Int.reduceMul, Int.reduceNeg, Nat.reduceAdd, Nat.reduceLeDiff, Nat.reduceEqDiff, Nat.reduceSub, Option.some.injEq, Sum.inl.injEq, Sum.inr.injEq, or_true, true_or, reduceCtorEq, ne_eq, not_false_eq_true, not_true_eq_false, false_implies, implies_true, false_and, and_false, false_or, or_false, if_true, if_false, fr_1_3 hf, fg_1 hf, fv_1 hf, fb_2 hf]
        refine ⟨by unfold pm_I32; omega, ih (fun q hq => ?_) _⟩
        by_cases e2 : q = p
        · subst e2; omega
        · exact hN q (by omega)
end
