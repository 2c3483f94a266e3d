/-! THE CONSTRUCTORS -/
section
variable {d : Nat} {V : Nat → Nat → Int} {R : Nat → Nat → Option Nat} {T : List (Nat × Nat)} {q : Nat}
def nsQ (V : Nat → Nat → Int) (R : Nat → Nat → Option Nat) (T : List (Nat × Nat)) (q : Nat) (r : Option pm_V) (h2 : pm_H) : Prop := r = none ∧ ∃ V2 R2, h2 = (V2, R2, T ++ [(24, 12)]) ∧ (∀ w, w ≠ q → w < T.length → V2 w = V w ∧ R2 w = R w) ∧ (V2 q 0 = 1 ∧ V2 q 1 = 24 ∧ ∀ j, j ≠ 0 → j ≠ 1 → V2 q j = V q j) ∧ R2 q 3 = some T.length ∧ (∀ j, j ≠ 3 → R2 q j = R q j) ∧ ∀ j, V2 T.length j = 0 ∧ R2 T.length j = none
theorem n_shed (hd : 1 ≤ d) (hq : T[q]? = some (8, 4)) : pm_ok d 1 [.inr (.inr (some q))] (V, R, T) (nsQ V R T q) := by
  obtain ⟨d, rfl⟩ : ∃ k, d = k + 1 := ⟨d - 1, by omega⟩
  refine pm_ok_iff.mpr ⟨(Nat.le_of_ble_eq_true rfl), ?_⟩
  show pm_w d 1 0 [some (.inr (.inr (some q)))] [] (V, R, T) _
  have hl : q < T.length := (List.getElem?_eq_some_iff.mp hq).1
  have t1 : ∀ (V : Nat → Nat → Int) (R : Nat → Nat → Option Nat), pm_tgs (V, R, T) q [8] := fun _ _ => ⟨_, _, by decide, hq⟩
  have t2 : ∀ (V : Nat → Nat → Int) (R : Nat → Nat → Option Nat), pm_tgs (V, R, T ++ [(24, 12)]) q [8] := fun _ _ => ⟨8, 4, by decide, by show (T ++ [(24, 12)])[q]? = _; rw [List.getElem?_append_left hl]; exact hq⟩
  simp only [ux_1_0, ux_1_1, ux_1_4, ux_1_5, ux_1_6, ux_1_9, ux_1_10, ux_1_12, ux_1_15, ux_1_16, ux_1_18, ux_1_21, ux_1_24, pm_i_c, pm_l_c, pm_q_c, pm_r_c, pm_li_0, pm_li_s, pm_ll_0, pm_ll_s, pm_lq_0, pm_lq_s, pm_s1, pm_s2, pm_kl, pm_wI, pm_wR, pm_pu_n, pm_pu_s, pm_wt, List.take_succ_cons, List.take_zero, List.take_nil, List.drop_succ_cons, List.drop_zero, List.reverse_cons, List.reverse_nil, List.nil_append, List.cons_append, List.length_cons, List.length_nil, true_and, and_true, true_implies, tn_l, tn_0, Int.reduceToNat, Int.reduceLE, Int.reduceLT, Int.reduceEq, Int.reduceAdd, Int.reduceSub, Int.reduceMul, Int.reduceNeg, Nat.reduceAdd, Nat.reduceLeDiff, Nat.reduceEqDiff, Nat.reduceSub, Option.some.injEq, Sum.inl.injEq, Sum.inr.injEq, or_true, true_or, reduceCtorEq, ne_eq, not_false_eq_true, not_true_eq_false, false_implies, implies_true, false_and, and_false, false_or, or_false, if_true, if_false, eq_true (t1 _ _)]
  have hv : ∀ w j, w < T.length → (pm_nw (pm_up (pm_up V q 0 1) q 1 24, R, T) 24 12).1 w j = pm_up (pm_up V q 0 1) q 1 24 w j := fun w j h => if_neg (Nat.ne_of_lt h)
  have hr : ∀ w j, w < T.length → (pm_nw (pm_up (pm_up V q 0 1) q 1 24, R, T) 24 12).2.1 w j = R w j := fun w j h => if_neg (Nat.ne_of_lt h)
  refine ⟨t2 _ _, rfl, _, _, rfl, fun w a b => ⟨?_, ?_⟩, ⟨?_, ?_, fun j a b => ?_⟩, pm_up_eq, fun j a => ?_, fun j => ⟨if_pos rfl, ?_⟩⟩
  · funext j
    rw [hv w j b, pm_up_fr a, pm_up_fr a]
  · rw [pm_up_fr a]
    funext j
    exact hr w j b
  · rw [hv q 0 hl, pm_up_ne (by omega), pm_up_eq]
  · rw [hv q 1 hl, pm_up_eq]
  · rw [hv q j hl, pm_up_ne (by omega), pm_up_ne (by omega)]
  · rw [pm_up_ne (by omega)]
    exact hr q j hl
  · rw [pm_up_fr (by omega)]
    exact if_pos rfl
end
