/-! THE CLASS: bar, drop, undo, told -/
section
variable {d : Nat} {h : pm_H} {V V2 W : Nat → Nat → Int} {R R2 : Nat → Nat → Option Nat} {T T2 : List (Nat × Nat)} {n a p q k nx : Nat} {A B : Nat → Int} {H : Nat → Nat → Int}
theorem c_bar_bad (hd : 3 ≤ d) (hf : fx R T) (hs : shO V R T 1 A n) (hn : n ≤ 12) (x y z : Int) (hb : ¬ ((0 ≤ x ∧ x < n) ∧ 0 ≤ y ∧ y < z ∧ z ≤ 60)) : pm_ev d 27 [.inr (.inr (some 0)), .inl x, .inl y, .inl z] (V, R, T) (some (.inl (-1))) (V, R, T) := by
  refine pm_ev_of (by omega) (Nat.le_of_ble_eq_true rfl) ?_
  show pm_w (d - 1) 27 0 [some (.inr (.inr (some 0))), some (.inl x), some (.inl y), some (.inl z), none, none] [] (V, R, T) _
  simp only [ux_27_0, ux_27_1, ux_27_4, ux_27_5, ux_27_8, ux_27_11, ux_27_12, ux_27_13, ux_27_16, ux_27_19, ux_27_20, ux_27_22, ux_27_25, ux_27_26, ux_27_29, ux_27_31, ux_27_33, ux_27_36, ux_27_39, ux_27_41, ux_27_44, ux_27_46, ux_27_47, ux_27_50, ux_27_51, ux_27_54, ux_27_55, ux_27_58, ux_27_59, ux_27_61, ux_27_64, ux_27_66, ux_27_69, ux_27_71, ux_27_74, ux_27_75, ux_27_76, ux_27_79, ux_27_82, ux_27_83, ux_27_84, ux_27_86, pm_i_c, pm_l_c, pm_q_c, pm_r_c, pm_li_0, pm_li_s, pm_ll_0, pm_ll_s, pm_lq_0, pm_lq_s, pm_s1, pm_s2, pm_kl, pm_wI, pm_wR, pm_pu_n, pm_pu_s, pm_wt, List.take_succ_cons, List.take_zero, List.take_nil, List.drop_succ_cons, List.drop_zero, List.reverse_cons, List.reverse_nil, List.nil_append, List.cons_append, List.length_cons, List.length_nil, true_and, and_true, true_implies, tn_l, tn_0, Int.reduceToNat, Int.reduceLE, Int.reduceLT, Int.reduceEq, Int.reduceAdd, Int.reduceSub, Int.reduceMul, Int.reduceNeg, Nat.reduceAdd, Nat.reduceLeDiff, Nat.reduceEqDiff, Nat.reduceSub, Option.some.injEq, Sum.inl.injEq, Sum.inr.injEq, or_true, true_or, reduceCtorEq, ne_eq, not_false_eq_true, not_true_eq_false, false_implies, implies_true, false_and, and_false, false_or, or_false, if_true, if_false, fr_0_0 hf, fr_0_1 hf, fr_0_2 hf, fr_0_3 hf, fr_0_7 hf, fr_0_8 hf, fr_0_11 hf, fr_0_12 hf, fg_0 hf, fv_0 hf, fr_1_3 hf, fg_1 hf, fv_1 hf, pm_ok_ev (c_has (d := d - 1) (by omega) hf hs hn x), pm_ok_ev (c_isSpan (d := d - 1) (by omega) y z)]
  by_cases c : 0 ≤ x ∧ x < n
  · rw [if_pos c, if_neg (fun w => hb ⟨c, w⟩)]
    exact fun _ z => absurd rfl z
  · rw [if_neg c]
    exact fun z => absurd rfl z
theorem c_bar_cast (hd : 3 ≤ d) (hf : fx R T) (hs : shO V R T 1 A n) (hn : n ≤ 12) (hp : p < n) (y z : Int) (hy : 0 ≤ y ∧ y < z ∧ z ≤ 60) (hk : A (3 + p) ≠ 4) : pm_ev d 27 [.inr (.inr (some 0)), .inl (p : Int), .inl y, .inl z] (V, R, T) (some (.inl (-13))) (V, R, T) := by
  refine pm_ev_of (by omega) (Nat.le_of_ble_eq_true rfl) ?_
  show pm_w (d - 1) 27 0 [some (.inr (.inr (some 0))), some (.inl (p : Int)), some (.inl y), some (.inl z), none, none] [] (V, R, T) _
  obtain ⟨a, e, ho⟩ := hs.2.2.2.1 p hp
  have e : R 2 p = some a := e
  have ev := c_pieceAt (d := d - 1) (by omega) hf hs.2.2.1 hn (p : Int)
  rw [if_pos (by omega), Int.toNat_natCast, e] at ev
  have ev2 := c_has (d := d - 1) (by omega) hf hs hn (p : Int)
  rw [if_pos (by omega)] at ev2
  have ev3 := c_isSpan (d := d - 1) (h := (V, R, T)) (by omega) y z
  rw [if_pos hy] at ev3
  simp only [ux_27_0, ux_27_1, ux_27_4, ux_27_5, ux_27_8, ux_27_11, ux_27_12, ux_27_13, ux_27_16, ux_27_19, ux_27_20, ux_27_22, ux_27_25, ux_27_26, ux_27_29, ux_27_31, ux_27_33, ux_27_36, ux_27_39, ux_27_41, ux_27_44, ux_27_46, ux_27_47, ux_27_50, ux_27_51, ux_27_54, ux_27_55, ux_27_58, ux_27_59, ux_27_61, ux_27_64, ux_27_66, ux_27_69, ux_27_71, ux_27_74, ux_27_75, ux_27_76, ux_27_79, ux_27_82, ux_27_83, ux_27_84, ux_27_86, pm_i_c, pm_l_c, pm_q_c, pm_r_c, pm_li_0, pm_li_s, pm_ll_0, pm_ll_s, pm_lq_0, pm_lq_s, pm_s1, pm_s2, pm_kl, pm_wI, pm_wR, pm_pu_n, pm_pu_s, pm_wt, List.take_succ_cons, List.take_zero, List.take_nil, List.drop_succ_cons, List.drop_zero, List.reverse_cons, List.reverse_nil, List.nil_append, List.cons_append, List.length_cons, List.length_nil, true_and, and_true, true_implies, tn_l, tn_0, Int.reduceToNat, Int.reduceLE, Int.reduceLT, Int.reduceEq, Int.reduceAdd, Int.reduceSub, Int.reduceMul, Int.reduceNeg, Nat.reduceAdd, Nat.reduceLeDiff, Nat.reduceEqDiff, Nat.reduceSub, Option.some.injEq, Sum.inl.injEq, Sum.inr.injEq, or_true, true_or, reduceCtorEq, ne_eq, not_false_eq_true, not_true_eq_false, false_implies, implies_true, false_and, and_false, false_or, or_false, if_true, if_false, fr_0_0 hf, fr_0_1 hf, fr_0_2 hf, fr_0_3 hf, fr_0_7 hf, fr_0_8 hf, fr_0_11 hf, fr_0_12 hf, fg_0 hf, fv_0 hf, fr_1_3 hf, fg_1 hf, fv_1 hf, pm_ok_ev ev2, pm_ok_ev ev3]
  rw [ux_27_21]
  simp only [ux_27_0, ux_27_1, ux_27_4, ux_27_5, ux_27_8, ux_27_11, ux_27_12, ux_27_13, ux_27_16, ux_27_19, ux_27_20, ux_27_22, ux_27_25, ux_27_26, ux_27_29, ux_27_31, ux_27_36, ux_27_41, ux_27_44, ux_27_46, ux_27_47, ux_27_50, ux_27_51, ux_27_54, ux_27_55, ux_27_58, ux_27_59, ux_27_61, ux_27_64, ux_27_66, ux_27_69, ux_27_71, ux_27_74, ux_27_75, ux_27_76, ux_27_79, ux_27_82, ux_27_83, ux_27_86, pm_i_c, pm_l_c, pm_q_c, pm_r_c, pm_li_0, pm_li_s, pm_ll_0, pm_ll_s, pm_lq_0, pm_lq_s, pm_s1, pm_s2, pm_kl, pm_wI, pm_wR, pm_pu_n, pm_pu_s, pm_wt, List.take_succ_cons, List.take_zero, List.take_nil, List.drop_succ_cons, List.drop_zero, List.reverse_cons, List.reverse_nil, List.nil_append, List.cons_append, List.length_cons, List.length_nil, true_and, and_true, true_implies, tn_l, tn_0, Int.reduceToNat, Int.reduceLE, Int.reduceLT, Int.reduceEq, Int.reduceAdd, Int.reduceSub, Int.reduceMul, Int.reduceNeg, Nat.reduceAdd, Nat.reduceLeDiff, Nat.reduceEqDiff, Nat.reduceSub, Option.some.injEq, Sum.inl.injEq, Sum.inr.injEq, or_true, true_or, reduceCtorEq, ne_eq, not_false_eq_true, not_true_eq_false, false_implies, implies_true, false_and, and_false, false_or, or_false, if_true, if_false, fr_0_0 hf, fr_0_1 hf, fr_0_2 hf, fr_0_3 hf, fr_0_7 hf, fr_0_8 hf, fr_0_11 hf, fr_0_12 hf, fg_0 hf, fv_0 hf, fr_1_3 hf, fg_1 hf, fv_1 hf, pm_ok_ev ev]
  rw [ux_27_33]
  simp only [ux_27_0, ux_27_1, ux_27_4, ux_27_5, ux_27_8, ux_27_11, ux_27_12, ux_27_13, ux_27_16, ux_27_19, ux_27_20, ux_27_22, ux_27_25, ux_27_26, ux_27_29, ux_27_31, ux_27_36, ux_27_41, ux_27_44, ux_27_46, ux_27_47, ux_27_50, ux_27_51, ux_27_54, ux_27_55, ux_27_58, ux_27_59, ux_27_61, ux_27_64, ux_27_66, ux_27_69, ux_27_71, ux_27_74, ux_27_75, ux_27_76, ux_27_79, ux_27_82, ux_27_83, ux_27_86, pm_i_c, pm_l_c, pm_q_c, pm_r_c, pm_li_0, pm_li_s, pm_ll_0, pm_ll_s, pm_lq_0, pm_lq_s, pm_s1, pm_s2, pm_kl, pm_wI, pm_wR, pm_pu_n, pm_pu_s, pm_wt, List.take_succ_cons, List.take_zero, List.take_nil, List.drop_succ_cons, List.drop_zero, List.reverse_cons, List.reverse_nil, List.nil_append, List.cons_append, List.length_cons, List.length_nil, true_and, and_true, true_implies, tn_l, tn_0, Int.reduceToNat, Int.reduceLE, Int.reduceLT, Int.reduceEq, Int.reduceAdd, Int.reduceSub, Int.reduceMul, Int.reduceNeg, Nat.reduceAdd, Nat.reduceLeDiff, Nat.reduceEqDiff, Nat.reduceSub, Option.some.injEq, Sum.inl.injEq, Sum.inr.injEq, or_true, true_or, reduceCtorEq, ne_eq, not_false_eq_true, not_true_eq_false, false_implies, implies_true, false_and, and_false, false_or, or_false, if_true, if_false, fr_0_0 hf, fr_0_1 hf, fr_0_2 hf, fr_0_3 hf, fr_0_7 hf, fr_0_8 hf, fr_0_11 hf, fr_0_12 hf, fg_0 hf, fv_0 hf, fr_1_3 hf, fg_1 hf, fv_1 hf]
  intro a' ha'
  cases ha'
  refine ⟨(tgK (A (3 + p))).1, (tgK (A (3 + p))).2, ho.1, tgK_mem _, ?_⟩
  rw [cn_bar ho.2.1, if_neg hk]
  refine ⟨fun _ => ?_, fun z => absurd rfl z⟩
  rw [ux_27_84]
  simp only [ux_27_0, ux_27_1, ux_27_4, ux_27_5, ux_27_8, ux_27_11, ux_27_12, ux_27_13, ux_27_16, ux_27_19, ux_27_20, ux_27_22, ux_27_25, ux_27_26, ux_27_29, ux_27_31, ux_27_36, ux_27_41, ux_27_44, ux_27_46, ux_27_47, ux_27_50, ux_27_51, ux_27_54, ux_27_55, ux_27_58, ux_27_59, ux_27_61, ux_27_64, ux_27_66, ux_27_69, ux_27_71, ux_27_74, ux_27_75, ux_27_76, ux_27_79, ux_27_82, ux_27_83, ux_27_86, pm_i_c, pm_l_c, pm_q_c, pm_r_c, pm_li_0, pm_li_s, pm_ll_0, pm_ll_s, pm_lq_0, pm_lq_s, pm_s1, pm_s2, pm_kl, pm_wI, pm_wR, pm_pu_n, pm_pu_s, pm_wt, List.take_succ_cons, List.take_zero, List.take_nil, List.drop_succ_cons, List.drop_zero, List.reverse_cons, List.reverse_nil, List.nil_append, List.cons_append, List.length_cons, List.length_nil, true_and, and_true, true_implies, tn_l, tn_0, Int.reduceToNat, Int.reduceLE, Int.reduceLT, Int.reduceEq, Int.reduceAdd, Int.reduceSub, Int.reduceMul, Int.reduceNeg, Nat.reduceAdd, Nat.reduceLeDiff, Nat.reduceEqDiff, Nat.reduceSub, Option.some.injEq, Sum.inl.injEq, Sum.inr.injEq, or_true, true_or, reduceCtorEq, ne_eq, not_false_eq_true, not_true_eq_false, false_implies, implies_true, false_and, and_false, false_or, or_false, if_true, if_false]
theorem c_bar (hd : 4 ≤ d) (hf : fx R T) (hs : shO V R T 1 A n) (hw : wf A n) (hh : hiO V R T k nx H) (hp : p < n) (y z : Int) (hy : 0 ≤ y ∧ y < z ∧ z ≤ 60) (hk : A (3 + p) = 4) : pm_ok d 27 [.inr (.inr (some 0)), .inl (p : Int), .inl y, .inl z] (V, R, T) (ckQ V T A (fun j => if j = 75 + p then z else if j = 63 + p then y else A j) n k nx H 1) := by
  obtain ⟨d, rfl⟩ : ∃ k, d = k + 1 := ⟨d - 1, by omega⟩
  refine pm_ok_iff.mpr ⟨(Nat.le_of_ble_eq_true rfl), ?_⟩
  show pm_w d 27 0 [some (.inr (.inr (some 0))), some (.inl (p : Int)), some (.inl y), some (.inl z), none, none] [] (V, R, T) _
  have hn := hw.1
  have hT := fx_len hf
  obtain ⟨a, e, ho⟩ := hs.2.2.2.1 p hp
  have e : R 2 p = some a := e
  have ev := c_pieceAt (d := d) (by omega) hf hs.2.2.1 hn (p : Int)
  rw [if_pos (by omega), Int.toNat_natCast, e] at ev
  have ev2 := c_has (d := d) (by omega) hf hs hn (p : Int)
  rw [if_pos (by omega)] at ev2
  have ev3 := c_isSpan (d := d) (h := (V, R, T)) (by omega) y z
  rw [if_pos hy] at ev3
  simp only [ux_27_0, ux_27_1, ux_27_4, ux_27_5, ux_27_8, ux_27_11, ux_27_12, ux_27_13, ux_27_16, ux_27_19, ux_27_20, ux_27_22, ux_27_25, ux_27_26, ux_27_29, ux_27_31, ux_27_33, ux_27_36, ux_27_39, ux_27_41, ux_27_44, ux_27_46, ux_27_47, ux_27_50, ux_27_51, ux_27_54, ux_27_55, ux_27_58, ux_27_59, ux_27_61, ux_27_64, ux_27_66, ux_27_69, ux_27_71, ux_27_74, ux_27_75, ux_27_76, ux_27_79, ux_27_82, ux_27_83, ux_27_84, ux_27_86, pm_i_c, pm_l_c, pm_q_c, pm_r_c, pm_li_0, pm_li_s, pm_ll_0, pm_ll_s, pm_lq_0, pm_lq_s, pm_s1, pm_s2, pm_kl, pm_wI, pm_wR, pm_pu_n, pm_pu_s, pm_wt, List.take_succ_cons, List.take_zero, List.take_nil, List.drop_succ_cons, List.drop_zero, List.reverse_cons, List.reverse_nil, List.nil_append, List.cons_append, List.length_cons, List.length_nil, true_and, and_true, true_implies, tn_l, tn_0, Int.reduceToNat, Int.reduceLE, Int.reduceLT, Int.reduceEq, Int.reduceAdd, Int.reduceSub, Int.reduceMul, Int.reduceNeg, Nat.reduceAdd, Nat.reduceLeDiff, Nat.reduceEqDiff, Nat.reduceSub, Option.some.injEq, Sum.inl.injEq, Sum.inr.injEq, or_true, true_or, reduceCtorEq, ne_eq, not_false_eq_true, not_true_eq_false, false_implies, implies_true, false_and, and_false, false_or, or_false, if_true, if_false, fr_0_0 hf, fr_0_1 hf, fr_0_2 hf, fr_0_3 hf, fr_0_7 hf, fr_0_8 hf, fr_0_11 hf, fr_0_12 hf, fg_0 hf, fv_0 hf, fr_1_3 hf, fg_1 hf, fv_1 hf, pm_ok_ev ev2, pm_ok_ev ev3]
  rw [ux_27_21]
  simp only [ux_27_0, ux_27_1, ux_27_4, ux_27_5, ux_27_8, ux_27_11, ux_27_12, ux_27_13, ux_27_16, ux_27_19, ux_27_20, ux_27_22, ux_27_25, ux_27_26, ux_27_29, ux_27_31, ux_27_36, ux_27_41, ux_27_44, ux_27_46, ux_27_47, ux_27_50, ux_27_51, ux_27_54, ux_27_55, ux_27_58, ux_27_59, ux_27_61, ux_27_64, ux_27_66, ux_27_69, ux_27_71, ux_27_74, ux_27_75, ux_27_76, ux_27_79, ux_27_82, ux_27_83, ux_27_86, pm_i_c, pm_l_c, pm_q_c, pm_r_c, pm_li_0, pm_li_s, pm_ll_0, pm_ll_s, pm_lq_0, pm_lq_s, pm_s1, pm_s2, pm_kl, pm_wI, pm_wR, pm_pu_n, pm_pu_s, pm_wt, List.take_succ_cons, List.take_zero, List.take_nil, List.drop_succ_cons, List.drop_zero, List.reverse_cons, List.reverse_nil, List.nil_append, List.cons_append, List.length_cons, List.length_nil, true_and, and_true, true_implies, tn_l, tn_0, Int.reduceToNat, Int.reduceLE, Int.reduceLT, Int.reduceEq, Int.reduceAdd, Int.reduceSub, Int.reduceMul, Int.reduceNeg, Nat.reduceAdd, Nat.reduceLeDiff, Nat.reduceEqDiff, Nat.reduceSub, Option.some.injEq, Sum.inl.injEq, Sum.inr.injEq, or_true, true_or, reduceCtorEq, ne_eq, not_false_eq_true, not_true_eq_false, false_implies, implies_true, false_and, and_false, false_or, or_false, if_true, if_false, fr_0_0 hf, fr_0_1 hf, fr_0_2 hf, fr_0_3 hf, fr_0_7 hf, fr_0_8 hf, fr_0_11 hf, fr_0_12 hf, fg_0 hf, fv_0 hf, fr_1_3 hf, fg_1 hf, fv_1 hf, pm_ok_ev ev]
  rw [ux_27_33]
  simp only [ux_27_0, ux_27_1, ux_27_4, ux_27_5, ux_27_8, ux_27_11, ux_27_12, ux_27_13, ux_27_16, ux_27_19, ux_27_20, ux_27_22, ux_27_25, ux_27_26, ux_27_29, ux_27_31, ux_27_36, ux_27_41, ux_27_44, ux_27_46, ux_27_47, ux_27_50, ux_27_51, ux_27_54, ux_27_55, ux_27_58, ux_27_59, ux_27_61, ux_27_64, ux_27_66, ux_27_69, ux_27_71, ux_27_74, ux_27_75, ux_27_76, ux_27_79, ux_27_82, ux_27_83, ux_27_86, pm_i_c, pm_l_c, pm_q_c, pm_r_c, pm_li_0, pm_li_s, pm_ll_0, pm_ll_s, pm_lq_0, pm_lq_s, pm_s1, pm_s2, pm_kl, pm_wI, pm_wR, pm_pu_n, pm_pu_s, pm_wt, List.take_succ_cons, List.take_zero, List.take_nil, List.drop_succ_cons, List.drop_zero, List.reverse_cons, List.reverse_nil, List.nil_append, List.cons_append, List.length_cons, List.length_nil, true_and, and_true, true_implies, tn_l, tn_0, Int.reduceToNat, Int.reduceLE, Int.reduceLT, Int.reduceEq, Int.reduceAdd, Int.reduceSub, Int.reduceMul, Int.reduceNeg, Nat.reduceAdd, Nat.reduceLeDiff, Nat.reduceEqDiff, Nat.reduceSub, Option.some.injEq, Sum.inl.injEq, Sum.inr.injEq, or_true, true_or, reduceCtorEq, ne_eq, not_false_eq_true, not_true_eq_false, false_implies, implies_true, false_and, and_false, false_or, or_false, if_true, if_false, fr_0_0 hf, fr_0_1 hf, fr_0_2 hf, fr_0_3 hf, fr_0_7 hf, fr_0_8 hf, fr_0_11 hf, fr_0_12 hf, fg_0 hf, fv_0 hf, fr_1_3 hf, fg_1 hf, fv_1 hf]
  intro a' ha'
  cases ha'
  refine ⟨(tgK (A (3 + p))).1, (tgK (A (3 + p))).2, ho.1, tgK_mem _, ?_⟩
  rw [cn_bar ho.2.1, if_pos hk]
  refine ⟨fun z => absurd z (by decide), fun _ => ?_⟩
  have h05 : T[a]? = some (0, 5) := by have := ho.1; rw [hk] at this; exact this
  rw [ux_27_39]
  simp only [ux_27_0, ux_27_1, ux_27_4, ux_27_5, ux_27_8, ux_27_11, ux_27_12, ux_27_13, ux_27_16, ux_27_19, ux_27_20, ux_27_22, ux_27_25, ux_27_26, ux_27_29, ux_27_31, ux_27_36, ux_27_41, ux_27_44, ux_27_46, ux_27_47, ux_27_51, ux_27_54, ux_27_55, ux_27_58, ux_27_59, ux_27_61, ux_27_64, ux_27_66, ux_27_69, ux_27_71, ux_27_74, ux_27_75, ux_27_76, ux_27_79, ux_27_82, ux_27_83, ux_27_86, pm_i_c, pm_l_c, pm_q_c, pm_r_c, pm_li_0, pm_li_s, pm_ll_0, pm_ll_s, pm_lq_0, pm_lq_s, pm_s1, pm_s2, pm_kl, pm_wI, pm_wR, pm_pu_n, pm_pu_s, pm_wt, List.take_succ_cons, List.take_zero, List.take_nil, List.drop_succ_cons, List.drop_zero, List.reverse_cons, List.reverse_nil, List.nil_append, List.cons_append, List.length_cons, List.length_nil, true_and, and_true, true_implies, tn_l, tn_0, Int.reduceToNat, Int.reduceLE, Int.reduceLT, Int.reduceEq, Int.reduceAdd, Int.reduceSub, Int.reduceMul, Int.reduceNeg, Nat.reduceAdd, Nat.reduceLeDiff, Nat.reduceEqDiff, Nat.reduceSub, Option.some.injEq, Sum.inl.injEq, Sum.inr.injEq, or_true, true_or, reduceCtorEq, ne_eq, not_false_eq_true, not_true_eq_false, false_implies, implies_true, false_and, and_false, false_or, or_false, if_true, if_false, fv_0 hf]
  refine ⟨0, 5, h05, ⟨by decide, by decide +kernel⟩, ?_⟩
  refine pm_ok_mono (c_startChange (d := d) (by omega) hf hs hw hh) ?_
  rintro r h2 ⟨V2, R2, rfl, rfl, a1, a2, hf2, a4, a5⟩
  have hs2 := sc_sh hs a1 a2
  have tga : ∀ (V : Nat → Nat → Int) (R : Nat → Nat → Option Nat) (z : Nat × Nat), pm_tgs (V, R, T ++ [z]) a [0, 2, 6, 9, 10] := fun V R z => ⟨0, 5, by decide, by rw [List.getElem?_append_left (List.getElem?_eq_some_iff.mp h05).1]; exact h05⟩
  have tg0 : ∀ (V : Nat → Nat → Int) (R : Nat → Nat → Option Nat) (z : Nat × Nat), pm_tgs (V, R, T ++ [z]) a [0] := fun V R z => ⟨0, 5, by decide, by rw [List.getElem?_append_left (List.getElem?_eq_some_iff.mp h05).1]; exact h05⟩
  have hal2 : a < T.length := (List.getElem?_eq_some_iff.mp h05).1
  have ha148 := ho.2.2.2.2.2.2.2
  rw [pm_pu_n, ux_27_50]
  simp only [ux_27_0, ux_27_1, ux_27_4, ux_27_5, ux_27_8, ux_27_11, ux_27_12, ux_27_13, ux_27_16, ux_27_19, ux_27_20, ux_27_22, ux_27_25, ux_27_26, ux_27_29, ux_27_31, ux_27_36, ux_27_41, ux_27_44, ux_27_46, ux_27_47, ux_27_51, ux_27_54, ux_27_58, ux_27_59, ux_27_61, ux_27_64, ux_27_66, ux_27_69, ux_27_71, ux_27_74, ux_27_75, ux_27_76, ux_27_79, ux_27_82, ux_27_83, ux_27_86, pm_i_c, pm_l_c, pm_q_c, pm_r_c, pm_li_0, pm_li_s, pm_ll_0, pm_ll_s, pm_lq_0, pm_lq_s, pm_s1, pm_s2, pm_kl, pm_wI, pm_wR, pm_pu_n, pm_pu_s, pm_wt, List.take_succ_cons, List.take_zero, List.take_nil, List.drop_succ_cons, List.drop_zero, List.reverse_cons, List.reverse_nil, List.nil_append, List.cons_append, List.length_cons, List.length_nil, true_and, and_true, true_implies, tn_l, tn_0, Int.reduceToNat, Int.reduceLE, Int.reduceLT, Int.reduceEq, Int.reduceAdd, Int.reduceSub, Int.reduceMul, Int.reduceNeg, Nat.reduceAdd, Nat.reduceLeDiff, Nat.reduceEqDiff, Nat.reduceSub, Option.some.injEq, Sum.inl.injEq, Sum.inr.injEq, or_true, true_or, reduceCtorEq, ne_eq, not_false_eq_true, not_true_eq_false, false_implies, implies_true, false_and, and_false, false_or, or_false, if_true, if_false, fr_0_0 hf2, fg_0 hf2]
  rw [ux_27_55]
  show pm_w d 27 58 _ _ (pm_nw (V2, R2, T) (tgK 4).1 (tgK 4).2) _
  rw [nw_V]
  simp only [ux_27_0, ux_27_1, ux_27_4, ux_27_5, ux_27_8, ux_27_11, ux_27_12, ux_27_13, ux_27_16, ux_27_19, ux_27_20, ux_27_22, ux_27_25, ux_27_26, ux_27_29, ux_27_31, ux_27_36, ux_27_41, ux_27_44, ux_27_46, ux_27_47, ux_27_51, ux_27_54, ux_27_58, ux_27_59, ux_27_61, ux_27_64, ux_27_66, ux_27_69, ux_27_71, ux_27_74, ux_27_75, ux_27_76, ux_27_82, ux_27_83, ux_27_86, pm_i_c, pm_l_c, pm_q_c, pm_r_c, pm_li_0, pm_li_s, pm_ll_0, pm_ll_s, pm_lq_0, pm_lq_s, pm_s1, pm_s2, pm_kl, pm_wI, pm_wR, pm_pu_n, pm_pu_s, pm_wt, List.take_succ_cons, List.take_zero, List.take_nil, List.drop_succ_cons, List.drop_zero, List.reverse_cons, List.reverse_nil, List.nil_append, List.cons_append, List.length_cons, List.length_nil, true_and, and_true, true_implies, tn_l, tn_0, Int.reduceToNat, Int.reduceLE, Int.reduceLT, Int.reduceEq, Int.reduceAdd, Int.reduceSub, Int.reduceMul, Int.reduceNeg, Nat.reduceAdd, Nat.reduceLeDiff, Nat.reduceEqDiff, Nat.reduceSub, Option.some.injEq, Sum.inl.injEq, Sum.inr.injEq, or_true, true_or, reduceCtorEq, ne_eq, not_false_eq_true, not_true_eq_false, false_implies, implies_true, false_and, and_false, false_or, or_false, if_true, if_false, tga, tg0, pm_ok_ev (k_21 (d := d) (a := T.length) (T := T ++ [tgK 4]) (by omega) nw_at _ _ _ _ _)]
  simp only [if_neg (show ¬ a = T.length by omega), a1 a (by omega)]
  generalize hV3 : pm_up (pm_up (pm_up (pm_up (pm_up (fun q j => if q = T.length then (0 : Int) else V2 q j) T.length 0 (V a 0)) T.length 1 (V a 1)) T.length 2 (V a 2)) T.length 3 y) T.length 4 z = V3
  generalize hR3 : (fun (q j : Nat) => if q = T.length then none else R2 q j) = R3
  have hno : nwO V2 V3 R2 R3 T := by
    refine ⟨fun q hq => ?_, fun q hq => ?_⟩
    · rw [← hV3, pm_up_fr hq, pm_up_fr hq, pm_up_fr hq, pm_up_fr hq, pm_up_fr hq]; exact nw_Vq q hq
    · rw [← hR3]; exact nw_R q hq
  obtain ⟨s3, f3, h3, fl3, g3⟩ := new_ck (z := tgK 4) hT hs2 hf2 a4 a5 hno (tg_len 4)
  have hob : ∀ (V : Nat → Nat → Int) (R : Nat → Nat → Option Nat), pm_tgs (V, R, T ++ [tgK 4]) T.length [0, 2, 6, 9, 10] := fun _ _ => ⟨_, _, tgK_mem 4, nw_at⟩
  rw [ux_27_79]
  simp only [ux_27_0, ux_27_1, ux_27_4, ux_27_5, ux_27_8, ux_27_11, ux_27_12, ux_27_13, ux_27_16, ux_27_19, ux_27_20, ux_27_22, ux_27_25, ux_27_26, ux_27_29, ux_27_31, ux_27_36, ux_27_41, ux_27_44, ux_27_46, ux_27_47, ux_27_51, ux_27_54, ux_27_58, ux_27_59, ux_27_61, ux_27_64, ux_27_66, ux_27_69, ux_27_71, ux_27_74, ux_27_75, ux_27_76, ux_27_82, ux_27_83, ux_27_86, pm_i_c, pm_l_c, pm_q_c, pm_r_c, pm_li_0, pm_li_s, pm_ll_0, pm_ll_s, pm_lq_0, pm_lq_s, pm_s1, pm_s2, pm_kl, pm_wI, pm_wR, pm_pu_n, pm_pu_s, pm_wt, List.take_succ_cons, List.take_zero, List.take_nil, List.drop_succ_cons, List.drop_zero, List.reverse_cons, List.reverse_nil, List.nil_append, List.cons_append, List.length_cons, List.length_nil, true_and, and_true, true_implies, tn_l, tn_0, Int.reduceToNat, Int.reduceLE, Int.reduceLT, Int.reduceEq, Int.reduceAdd, Int.reduceSub, Int.reduceMul, Int.reduceNeg, Nat.reduceAdd, Nat.reduceLeDiff, Nat.reduceEqDiff, Nat.reduceSub, Option.some.injEq, Sum.inl.injEq, Sum.inr.injEq, or_true, true_or, reduceCtorEq, ne_eq, not_false_eq_true, not_true_eq_false, false_implies, implies_true, false_and, and_false, false_or, or_false, if_true, if_false, fv_1 f3, pm_ok_ev (c_put (d := d) (V := V3) (R := R3) (by omega) f3 s3 hn hp hob)]
  refine ⟨_, _, _, rfl, rfl, fx_up f3 (Or.inl rfl), fun q h1 h2 => ?_, ⟨?_, ?_, s3.2.2.1, fun q hq => ?_, fun q h1 h2 => ?_⟩, hiO_keep rfl (fun _ _ _ => rfl) (fun q h1 h2 => pm_up_fr (by omega)) (fun _ _ _ => rfl) (fun _ _ z => z) h3, fl3, g3⟩
  · rw [hno.1 q (by omega)]; exact a1 q (by omega)
  · dsimp only; rw [if_neg (by omega), if_neg (by omega)]; exact s3.1
  · dsimp only; rw [if_neg (by omega), if_neg (by omega)]; exact s3.2.1
  · by_cases ep : q = p
    · subst ep
      refine ⟨T.length, by rw [pm_up_row]; exact if_pos rfl, ?_⟩
      have o := ho
      obtain ⟨o1, o2, o3, o4, o5, o6, o7, o8⟩ := o
      have c : ∀ j, j ≠ 75 + q → j ≠ 63 + q → (if j = 75 + q then z else if j = 63 + q then y else A j) = A j := fun j h1 h2 => by rw [if_neg h1, if_neg h2]
      unfold pcO
      dsimp only
      rw [c (3 + q) (by omega) (by omega), c (15 + q) (by omega) (by omega), c (27 + q) (by omega) (by omega), c (39 + q) (by omega) (by omega), c (51 + q) (by omega) (by omega), if_neg (show ¬ 63 + q = 75 + q by omega), if_pos rfl, if_pos rfl, hk]
      refine ⟨nw_at, by omega, ?_, ?_, fun _ => ?_, fun z => absurd z (by decide), fun _ => ⟨?_, ?_⟩, hT⟩
      · rw [← hV3, pm_up_ne (by omega), pm_up_ne (by omega), pm_up_ne (by omega), pm_up_ne (by omega), pm_up_eq]; exact o3
      · rw [← hV3, pm_up_ne (by omega), pm_up_ne (by omega), pm_up_ne (by omega), pm_up_eq]; exact o4
      · rw [← hV3, pm_up_ne (by omega), pm_up_ne (by omega), pm_up_eq]; exact o5 (by omega)
      · rw [← hV3, pm_up_ne (by omega), pm_up_eq]
      · rw [← hV3, pm_up_eq]
    · obtain ⟨b, c1, c2⟩ := s3.2.2.2.1 q hq
      have c : ∀ j, j ≠ 75 + p → j ≠ 63 + p → (if j = 75 + p then z else if j = 63 + p then y else A j) = A j := fun j h1 h2 => by rw [if_neg h1, if_neg h2]
      refine ⟨b, by rw [pm_up_ne (by omega)]; exact c1, ?_⟩
      exact pcO_of (c _ (by omega) (by omega)) (c _ (by omega) (by omega)) (c _ (by omega) (by omega)) (c _ (by omega) (by omega)) (c _ (by omega) (by omega)) (c _ (by omega) (by omega)) (c _ (by omega) (by omega)) c2
  · rw [pm_up_ne (by omega)]
    exact s3.2.2.2.2 q h1 h2
/-- drop -/
def rmQ (V : Nat → Nat → Int) (R : Nat → Nat → Option Nat) (T : List (Nat × Nat)) (n p : Nat) (r : Option pm_V) (h2 : pm_H) : Prop := ∃ R2, h2 = (pm_up V 1 2 ((n - 1 : Nat) : Int), R2, T) ∧ r = none ∧ (∀ q, q ≠ 2 → R2 q = R q) ∧ ∀ j, j < 12 → R2 2 j = if j = n - 1 then none else if p ≤ j ∧ j + 1 < n then R 2 (j + 1) else R 2 j
theorem c_remove (hd : 3 ≤ d) (hf : fx R T) (hs : shO V R T 1 A n) (hn : n ≤ 12) (hp : p < n) : pm_ok d 29 [.inr (.inr (some 1)), .inl (p : Int)] (V, R, T) (rmQ V R T n p) := by
  obtain ⟨d, rfl⟩ : ∃ k, d = k + 1 := ⟨d - 1, by omega⟩
  refine pm_ok_iff.mpr ⟨(Nat.le_of_ble_eq_true rfl), ?_⟩
  show pm_w d 29 0 [some (.inr (.inr (some 1))), some (.inl (p : Int)), none] [] (V, R, T) _
  have ev2 := c_has (d := d) (by omega) hf hs hn (p : Int)
  rw [if_pos (by omega)] at ev2
  have h2 := hs.2.2.1
  simp only [ux_29_0, ux_29_1, ux_29_2, ux_29_5, ux_29_8, ux_29_9, ux_29_10, ux_29_11, ux_29_12, ux_29_14, ux_29_15, ux_29_18, ux_29_21, ux_29_22, ux_29_25, ux_29_26, ux_29_27, ux_29_28, ux_29_29, ux_29_32, ux_29_33, ux_29_34, ux_29_35, ux_29_38, ux_29_41, ux_29_42, ux_29_43, ux_29_46, ux_29_47, ux_29_48, ux_29_51, ux_29_52, ux_29_55, ux_29_56, ux_29_59, ux_29_60, ux_29_61, pm_i_c, pm_l_c, pm_q_c, pm_r_c, pm_li_0, pm_li_s, pm_ll_0, pm_ll_s, pm_lq_0, pm_lq_s, pm_s1, pm_s2, pm_kl, pm_wI, pm_wR, pm_pu_n, pm_pu_s, pm_wt, List.take_succ_cons, List.take_zero, List.take_nil, List.drop_succ_cons, List.drop_zero, List.reverse_cons, List.reverse_nil, List.nil_append, List.cons_append, List.length_cons, List.length_nil, true_and, and_true, true_implies, tn_l, tn_0, Int.reduceToNat, Int.reduceLE, Int.reduceLT, Int.reduceEq, Int.reduceAdd, Int.reduceSub, Int.reduceMul, Int.reduceNeg, Nat.reduceAdd, Nat.reduceLeDiff, Nat.reduceEqDiff, Nat.reduceSub, Option.some.injEq, Sum.inl.injEq, Sum.inr.injEq, or_true, true_or, reduceCtorEq, ne_eq, not_false_eq_true, not_true_eq_false, false_implies, implies_true, false_and, and_false, false_or, or_false, if_true, if_false, fr_1_3 hf, fg_1 hf, fv_1 hf, fb_2 hf, pm_ok_ev ev2]
  refine ⟨by unfold pm_I32; omega, ?_⟩
  have hfx : ∀ R2 : Nat → Nat → Option Nat, (∀ q, q ≠ 2 → R2 q = R q) → fx R2 T := by
    intro R2 hr
    refine ⟨fun e he => ?_, hf.2⟩
    have g1 : ∀ e ∈ fx_RL, e.1.1 ≠ 2 := by decide +kernel
    rw [hr _ (g1 e he)]
    exact hf.1 e he
  have key : ∀ (j i : Nat) (R2 : Nat → Nat → Option Nat), i + j = n → p < i → (∀ q, q ≠ 2 → R2 q = R q) → (∀ j, j < 12 → R2 2 j = if p ≤ j ∧ j + 1 < i then R 2 (j + 1) else R 2 j) → pm_w d 29 13 [some (.inr (.inr (some 1))), some (.inl (p : Int)), some (.inl (i : Int))] [] (V, R2, T) (rmQ V R T n p) := by
    intro j
    induction j with
    | zero =>
      intro i R2 hi hpi r1 r2
      have f2 := hfx R2 r1
      have ei : i = n := by omega
      subst ei
      have e1 : ((i : Int) - 1) = ((i - 1 : Nat) : Int) := by omega
      rw [ux_29_13]
      simp only [ux_29_0, ux_29_1, ux_29_2, ux_29_5, ux_29_8, ux_29_9, ux_29_10, ux_29_11, ux_29_12, ux_29_14, ux_29_15, ux_29_18, ux_29_21, ux_29_22, ux_29_25, ux_29_26, ux_29_27, ux_29_28, ux_29_29, ux_29_32, ux_29_33, ux_29_34, ux_29_35, ux_29_38, ux_29_41, ux_29_42, ux_29_43, ux_29_46, ux_29_47, ux_29_48, ux_29_51, ux_29_52, ux_29_55, ux_29_56, ux_29_59, ux_29_60, ux_29_61, pm_i_c, pm_l_c, pm_q_c, pm_r_c, pm_li_0, pm_li_s, pm_ll_0, pm_ll_s, pm_lq_0, pm_lq_s, pm_s1, pm_s2, pm_kl, pm_wI, pm_wR, pm_pu_n, pm_pu_s, pm_wt, List.take_succ_cons, List.take_zero, List.take_nil, List.drop_succ_cons, List.drop_zero, List.reverse_cons, List.reverse_nil, List.nil_append, List.cons_append, List.length_cons, List.length_nil, true_and, and_true, true_implies, tn_l, tn_0, Int.reduceToNat, Int.reduceLE, Int.reduceLT, Int.reduceEq, Int.reduceAdd, Int.reduceSub, Int.reduceMul, Int.reduceNeg, Nat.reduceAdd, Nat.reduceLeDiff, Nat.reduceEqDiff, Nat.reduceSub, Option.some.injEq, Sum.inl.injEq, Sum.inr.injEq, or_true, true_or, reduceCtorEq, ne_eq, not_false_eq_true, not_true_eq_false, false_implies, implies_true, false_and, and_false, false_or, or_false, if_true, if_false, fr_1_3 f2, fg_1 f2, fb_2 f2, h2, e1, pm_up_eq]
      refine ⟨fun _ => ⟨by unfold pm_I32; omega, Or.inl (by omega), _, rfl, rfl, fun q hq => by rw [pm_up_fr hq]; exact r1 q hq, fun j hj => ?_⟩, fun z => absurd (Int.le_refl _) z⟩
      rw [pm_up_row]
      dsimp only
      by_cases c : j = i - 1
      · rw [if_pos c, if_pos c]
      · rw [if_neg c, if_neg c]; exact r2 j hj
    | succ j ih =>
      intro i R2 hi hpi r1 r2
      have f2 := hfx R2 r1
      have e1 : ((i : Int) - 1) = ((i - 1 : Nat) : Int) := by omega
      rw [ux_29_13]
      simp only [ux_29_0, ux_29_1, ux_29_2, ux_29_5, ux_29_8, ux_29_9, ux_29_10, ux_29_11, ux_29_12, ux_29_14, ux_29_15, ux_29_18, ux_29_21, ux_29_22, ux_29_25, ux_29_26, ux_29_27, ux_29_28, ux_29_29, ux_29_32, ux_29_33, ux_29_34, ux_29_35, ux_29_38, ux_29_41, ux_29_42, ux_29_43, ux_29_46, ux_29_47, ux_29_48, ux_29_51, ux_29_52, ux_29_55, ux_29_56, ux_29_59, ux_29_60, ux_29_61, pm_i_c, pm_l_c, pm_q_c, pm_r_c, pm_li_0, pm_li_s, pm_ll_0, pm_ll_s, pm_lq_0, pm_lq_s, pm_s1, pm_s2, pm_kl, pm_wI, pm_wR, pm_pu_n, pm_pu_s, pm_wt, List.take_succ_cons, List.take_zero, List.take_nil, List.drop_succ_cons, List.drop_zero, List.reverse_cons, List.reverse_nil, List.nil_append, List.cons_append, List.length_cons, List.length_nil, true_and, and_true, true_implies, tn_l, tn_0, Int.reduceToNat, Int.reduceLE, Int.reduceLT, Int.reduceEq, Int.reduceAdd, Int.reduceSub, Int.reduceMul, Int.reduceNeg, Nat.reduceAdd, Nat.reduceLeDiff, Nat.reduceEqDiff, Nat.reduceSub, Option.some.injEq, Sum.inl.injEq, Sum.inr.injEq, or_true, true_or, reduceCtorEq, ne_eq, not_false_eq_true, not_true_eq_false, false_implies, implies_true, false_and, and_false, false_or, or_false, if_true, if_false, fr_1_3 f2, fg_1 f2, fb_2 f2, h2, e1]
      have evi : R2 2 i = R 2 i := by rw [r2 i (by omega), if_neg (by omega)]
      refine ⟨fun z => by omega, fun _ => ⟨by unfold pm_I32; omega, Or.inr (Or.inl (by omega)), Or.inl ⟨by omega, fun q hq => ?_⟩, by unfold pm_I32; omega, ih (i + 1) _ (by omega) (by omega) (fun q hq => by rw [pm_up_fr hq]; exact r1 q hq) (fun j hj => ?_)⟩⟩
      · rw [evi] at hq
        exact sh_tgs hs i (by omega) q hq
      · rw [pm_up_row]
        dsimp only
        by_cases c : j = i - 1
        · rw [if_pos c, if_pos (by omega), evi, show j + 1 = i by omega]
        · rw [if_neg c, r2 j hj]
          by_cases c2 : p ≤ j ∧ j + 1 < i
          · rw [if_pos c2, if_pos (by omega)]
          · rw [if_neg c2, if_neg (by omega)]
  exact key (n - (p + 1)) (p + 1) R (by omega) (by omega) (fun _ _ => rfl) (fun j hj => by rw [if_neg (by omega)])
theorem c_drop_bad (hd : 3 ≤ d) (hf : fx R T) (hs : shO V R T 1 A n) (hn : n ≤ 12) (x : Int) (hb : ¬ (0 ≤ x ∧ x < n)) : pm_ev d 28 [.inr (.inr (some 0)), .inl x] (V, R, T) (some (.inl (-1))) (V, R, T) := by
  refine pm_ev_of (by omega) (Nat.le_of_ble_eq_true rfl) ?_
  show pm_w (d - 1) 28 0 [some (.inr (.inr (some 0))), some (.inl x)] [] (V, R, T) _
  have ev2 := c_has (d := d - 1) (by omega) hf hs hn x
  rw [if_neg hb] at ev2
  simp only [ux_28_0, ux_28_1, ux_28_4, ux_28_5, ux_28_8, ux_28_11, ux_28_12, ux_28_14, ux_28_17, ux_28_18, ux_28_21, ux_28_22, ux_28_25, ux_28_26, ux_28_29, ux_28_32, pm_i_c, pm_l_c, pm_q_c, pm_r_c, pm_li_0, pm_li_s, pm_ll_0, pm_ll_s, pm_lq_0, pm_lq_s, pm_s1, pm_s2, pm_kl, pm_wI, pm_wR, pm_pu_n, pm_pu_s, pm_wt, List.take_succ_cons, List.take_zero, List.take_nil, List.drop_succ_cons, List.drop_zero, List.reverse_cons, List.reverse_nil, List.nil_append, List.cons_append, List.length_cons, List.length_nil, true_and, and_true, true_implies, tn_l, tn_0, Int.reduceToNat, Int.reduceLE, Int.reduceLT, Int.reduceEq, Int.reduceAdd, Int.reduceSub, Int.reduceMul, Int.reduceNeg, Nat.reduceAdd, Nat.reduceLeDiff, Nat.reduceEqDiff, Nat.reduceSub, Option.some.injEq, Sum.inl.injEq, Sum.inr.injEq, or_true, true_or, reduceCtorEq, ne_eq, not_false_eq_true, not_true_eq_false, false_implies, implies_true, false_and, and_false, false_or, or_false, if_true, if_false, fr_0_0 hf, fr_0_1 hf, fr_0_2 hf, fr_0_3 hf, fr_0_7 hf, fr_0_8 hf, fr_0_11 hf, fr_0_12 hf, fg_0 hf, fv_0 hf, fr_1_3 hf, fg_1 hf, fv_1 hf, pm_ok_ev ev2]
theorem c_drop (hd : 4 ≤ d) (hf : fx R T) (hs : shO V R T 1 A n) (hw : wf A n) (hh : hiO V R T k nx H) (hp : p < n) : pm_ok d 28 [.inr (.inr (some 0)), .inl (p : Int)] (V, R, T) (ckQ V T A (dpA A n p) (n - 1) k nx H ((n - 1 : Nat) : Int)) := by
  obtain ⟨d, rfl⟩ : ∃ k, d = k + 1 := ⟨d - 1, by omega⟩
  refine pm_ok_iff.mpr ⟨(Nat.le_of_ble_eq_true rfl), ?_⟩
  show pm_w d 28 0 [some (.inr (.inr (some 0))), some (.inl (p : Int))] [] (V, R, T) _
  have hn := hw.1
  have ev2 := c_has (d := d) (by omega) hf hs hn (p : Int)
  rw [if_pos (by omega)] at ev2
  simp only [ux_28_0, ux_28_1, ux_28_4, ux_28_5, ux_28_8, ux_28_11, ux_28_12, ux_28_13, ux_28_14, ux_28_18, ux_28_21, ux_28_22, ux_28_25, ux_28_26, ux_28_29, ux_28_32, pm_i_c, pm_l_c, pm_q_c, pm_r_c, pm_li_0, pm_li_s, pm_ll_0, pm_ll_s, pm_lq_0, pm_lq_s, pm_s1, pm_s2, pm_kl, pm_wI, pm_wR, pm_pu_n, pm_pu_s, pm_wt, List.take_succ_cons, List.take_zero, List.take_nil, List.drop_succ_cons, List.drop_zero, List.reverse_cons, List.reverse_nil, List.nil_append, List.cons_append, List.length_cons, List.length_nil, true_and, and_true, true_implies, tn_l, tn_0, Int.reduceToNat, Int.reduceLE, Int.reduceLT, Int.reduceEq, Int.reduceAdd, Int.reduceSub, Int.reduceMul, Int.reduceNeg, Nat.reduceAdd, Nat.reduceLeDiff, Nat.reduceEqDiff, Nat.reduceSub, Option.some.injEq, Sum.inl.injEq, Sum.inr.injEq, or_true, true_or, reduceCtorEq, ne_eq, not_false_eq_true, not_true_eq_false, false_implies, implies_true, false_and, and_false, false_or, or_false, if_true, if_false, fr_0_0 hf, fr_0_1 hf, fr_0_2 hf, fr_0_3 hf, fr_0_7 hf, fr_0_8 hf, fr_0_11 hf, fr_0_12 hf, fg_0 hf, fv_0 hf, fr_1_3 hf, fg_1 hf, fv_1 hf, pm_ok_ev ev2]
  refine pm_ok_mono (c_startChange (d := d) (by omega) hf hs hw hh) ?_
  rintro r h2 ⟨V2, R2, rfl, rfl, a1, a2, hf2, a4, a5⟩
  have hs2 := sc_sh hs a1 a2
  rw [pm_pu_n, ux_28_17]
  simp only [ux_28_0, ux_28_1, ux_28_4, ux_28_5, ux_28_8, ux_28_11, ux_28_12, ux_28_13, ux_28_14, ux_28_18, ux_28_21, ux_28_22, ux_28_26, ux_28_29, ux_28_32, pm_i_c, pm_l_c, pm_q_c, pm_r_c, pm_li_0, pm_li_s, pm_ll_0, pm_ll_s, pm_lq_0, pm_lq_s, pm_s1, pm_s2, pm_kl, pm_wI, pm_wR, pm_pu_n, pm_pu_s, pm_wt, List.take_succ_cons, List.take_zero, List.take_nil, List.drop_succ_cons, List.drop_zero, List.reverse_cons, List.reverse_nil, List.nil_append, List.cons_append, List.length_cons, List.length_nil, true_and, and_true, true_implies, tn_l, tn_0, Int.reduceToNat, Int.reduceLE, Int.reduceLT, Int.reduceEq, Int.reduceAdd, Int.reduceSub, Int.reduceMul, Int.reduceNeg, Nat.reduceAdd, Nat.reduceLeDiff, Nat.reduceEqDiff, Nat.reduceSub, Option.some.injEq, Sum.inl.injEq, Sum.inr.injEq, or_true, true_or, reduceCtorEq, ne_eq, not_false_eq_true, not_true_eq_false, false_implies, implies_true, false_and, and_false, false_or, or_false, if_true, if_false, fr_0_0 hf2, fg_0 hf2, fv_1 hf2]
  refine pm_ok_mono (c_remove (d := d) (V := V2) (by omega) hf2 hs2 hn hp) ?_
  rintro r h3 ⟨R3, rfl, rfl, b1, b2⟩
  have f3 : fx R3 T := by
    refine ⟨fun e he => ?_, hf2.2⟩
    have g1 : ∀ e ∈ fx_RL, e.1.1 ≠ 2 := by decide +kernel
    rw [b1 _ (g1 e he)]
    exact hf2.1 e he
  have e : ∀ q, q ≠ 1 → pm_up V2 1 2 ((n - 1 : Nat) : Int) q = V2 q := fun q hq => pm_up_fr hq
  rw [pm_pu_n, ux_28_25]
  simp only [ux_28_0, ux_28_1, ux_28_4, ux_28_5, ux_28_8, ux_28_11, ux_28_12, ux_28_13, ux_28_14, ux_28_18, ux_28_21, ux_28_22, ux_28_26, ux_28_29, ux_28_32, pm_i_c, pm_l_c, pm_q_c, pm_r_c, pm_li_0, pm_li_s, pm_ll_0, pm_ll_s, pm_lq_0, pm_lq_s, pm_s1, pm_s2, pm_kl, pm_wI, pm_wR, pm_pu_n, pm_pu_s, pm_wt, List.take_succ_cons, List.take_zero, List.take_nil, List.drop_succ_cons, List.drop_zero, List.reverse_cons, List.reverse_nil, List.nil_append, List.cons_append, List.length_cons, List.length_nil, true_and, and_true, true_implies, tn_l, tn_0, Int.reduceToNat, Int.reduceLE, Int.reduceLT, Int.reduceEq, Int.reduceAdd, Int.reduceSub, Int.reduceMul, Int.reduceNeg, Nat.reduceAdd, Nat.reduceLeDiff, Nat.reduceEqDiff, Nat.reduceSub, Option.some.injEq, Sum.inl.injEq, Sum.inr.injEq, or_true, true_or, reduceCtorEq, ne_eq, not_false_eq_true, not_true_eq_false, false_implies, implies_true, false_and, and_false, false_or, or_false, if_true, if_false, fr_0_0 f3, fg_0 f3, fg_1 f3, pm_up_eq]
  refine ⟨_, R3, T, rfl, rfl, f3, fun q h1 h2 => ?_, ⟨?_, ?_, pm_up_eq, fun q hq => ?_, fun q h1 h2 => ?_⟩, hiO_keep (e 3 (by decide)) (fun q h1 _ => e q (by omega)) (fun q h1 h2 => b1 q (by omega)) (fun q h1 _ => e q (by omega)) (fun _ _ z => z) a4, ?_, grw_rf⟩
  · rw [e q (by omega)]; exact a1 q (by omega)
  · rw [pm_up_ne (by omega)]
    refine hs2.1.trans ?_
    unfold dpA drA; rw [if_neg (by decide), if_neg (by omega)]
  · rw [pm_up_ne (by omega)]
    refine hs2.2.1.trans ?_
    unfold dpA drA; rw [if_neg (by decide), if_neg (by omega)]
  · obtain ⟨z, z1, x1, x2, x3, x4, x5, x6, x7⟩ := dpA_all (A := A) (p := p) (q := q) (n := n) (by omega) hn
    obtain ⟨b, c1, c2⟩ := hs2.2.2.2.1 z (by split at z1 <;> omega)
    have c1 : R2 2 z = some b := c1
    refine ⟨b, ?_, pcO_of x1 x2 x3 x4 x5 x6 x7 (pcO_keep (fun q hq _ => e q (by omega)) (fun _ _ z => z) c2)⟩
    show R3 2 q = some b
    rw [b2 q (by omega), if_neg (by omega), ← c1, z1]
    by_cases c : p ≤ q
    · rw [if_pos ⟨c, by omega⟩, if_pos c]
    · rw [if_neg (fun w => c w.1), if_neg c]
  · show R3 2 q = none
    rw [b2 q h2]
    by_cases c : q = n - 1
    · rw [if_pos c]
    · rw [if_neg c, if_neg (by omega)]
      exact hs2.2.2.2.2 q (by omega) h2
  · unfold flg at *
    rw [e 0 (by decide), e 119 (by decide), e 125 (by decide)]
    exact a5
/-- undo -/
theorem c_undo_no (hd : 1 ≤ d) (hf : fx R T) (hk : V 3 2 = 0) : pm_ev d 44 [.inr (.inr (some 0))] (V, R, T) (some (.inl (-2))) (V, R, T) := by
  refine pm_ev_of hd (Nat.le_of_ble_eq_true rfl) ?_
  show pm_w (d - 1) 44 0 [some (.inr (.inr (some 0)))] [] (V, R, T) _
  simp only [ux_44_0, ux_44_1, ux_44_4, ux_44_7, ux_44_10, ux_44_12, ux_44_14, ux_44_17, ux_44_18, ux_44_21, ux_44_24, ux_44_25, ux_44_28, ux_44_29, ux_44_32, ux_44_35, pm_i_c, pm_l_c, pm_q_c, pm_r_c, pm_li_0, pm_li_s, pm_ll_0, pm_ll_s, pm_lq_0, pm_lq_s, pm_s1, pm_s2, pm_kl, pm_wI, pm_wR, pm_pu_n, pm_pu_s, pm_wt, List.take_succ_cons, List.take_zero, List.take_nil, List.drop_succ_cons, List.drop_zero, List.reverse_cons, List.reverse_nil, List.nil_append, List.cons_append, List.length_cons, List.length_nil, true_and, and_true, true_implies, tn_l, tn_0, Int.reduceToNat, Int.reduceLE, Int.reduceLT, Int.reduceEq, Int.reduceAdd, Int.reduceSub, Int.reduceMul, Int.reduceNeg, Nat.reduceAdd, Nat.reduceLeDiff, Nat.reduceEqDiff, Nat.reduceSub, Option.some.injEq, Sum.inl.injEq, Sum.inr.injEq, or_true, true_or, reduceCtorEq, ne_eq, not_false_eq_true, not_true_eq_false, false_implies, implies_true, false_and, and_false, false_or, or_false, if_true, if_false, fr_0_0 hf, fr_0_1 hf, fr_0_2 hf, fr_0_3 hf, fr_0_7 hf, fr_0_8 hf, fr_0_11 hf, fr_0_12 hf, fg_0 hf, fv_0 hf, fr_3_0 hf, fg_3 hf, fv_3 hf, hk]
def unQ (V : Nat → Nat → Int) (T : List (Nat × Nat)) (k nx : Nat) (H : Nat → Nat → Int) (r : Option pm_V) (h2 : pm_H) : Prop := ∃ V2 R2 m, h2 = (V2, R2, T) ∧ r = some (.inl ((k - 1 : Nat) : Int)) ∧ fx R2 T ∧ (∀ q, 131 ≤ q → q ≤ 147 → V2 q = V q) ∧ wf (H (k - 1)) m ∧ shO V2 R2 T 1 (H (k - 1)) m ∧ hiO V2 R2 T (k - 1) ((nx + 19) % 20) H ∧ flg V2
theorem c_undo (hd : 4 ≤ d) (hf : fx R T) (hh : hiO V R T k nx H) (hk : 0 < k) : pm_ok d 44 [.inr (.inr (some 0))] (V, R, T) (unQ V T k nx H) := by
  obtain ⟨d, rfl⟩ : ∃ k, d = k + 1 := ⟨d - 1, by omega⟩
  refine pm_ok_iff.mpr ⟨(Nat.le_of_ble_eq_true rfl), ?_⟩
  show pm_w d 44 0 [some (.inr (.inr (some 0)))] [] (V, R, T) _
  obtain ⟨h1, h2, h3, h4, h5⟩ := id hh
  obtain ⟨m, hm, hsm⟩ := h5 (k - 1) (by omega)
  have eidx : (nx + 20 - k + (k - 1)) % 20 = (nx + 19) % 20 := by omega
  rw [eidx] at hsm
  obtain ⟨s1, s2⟩ := fx_kept hf ((nx + 19) % 20) (by omega)
  -- restore
  have hres : pm_ok d 45 [.inr (.inr (some 3)), .inr (.inr (some 1))] (V, R, T) (fun r h2 => ∃ V2 R2, h2 = (V2, R2, T) ∧ r = none ∧ (∀ q, q ≠ 1 → q ≠ 3 → V2 q = V q) ∧ V2 3 1 = (((nx + 19) % 20 : Nat) : Int) ∧ V2 3 2 = ((k - 1 : Nat) : Int) ∧ (∀ q, q ≠ 2 → R2 q = R q) ∧ shO V2 R2 T 1 (H (k - 1)) m) := by
    obtain ⟨d, rfl⟩ : ∃ k, d = k + 1 := ⟨d - 1, by omega⟩
    refine pm_ok_iff.mpr ⟨(Nat.le_of_ble_eq_true rfl), ?_⟩
    show pm_w d 45 0 [some (.inr (.inr (some 3))), some (.inr (.inr (some 1))), none] [] (V, R, T) _
    have e1 : ((nx : Int) + 20 - 1) % 20 = (((nx + 19) % 20 : Nat) : Int) := by omega
    have e2 : ((k : Int) - 1) = ((k - 1 : Nat) : Int) := by omega
    have g2 : ∀ x, pm_up V 3 1 x 3 2 = k := fun x => by rw [pm_up_ne (by omega)]; exact h1
    simp only [ux_45_0, ux_45_1, ux_45_4, ux_45_7, ux_45_8, ux_45_9, ux_45_10, ux_45_13, ux_45_15, ux_45_16, ux_45_17, ux_45_18, ux_45_20, ux_45_21, ux_45_24, ux_45_25, ux_45_26, ux_45_29, ux_45_30, ux_45_31, ux_45_35, ux_45_38, ux_45_39, ux_45_42, ux_45_43, ux_45_45, ux_45_48, ux_45_49, ux_45_50, pm_i_c, pm_l_c, pm_q_c, pm_r_c, pm_li_0, pm_li_s, pm_ll_0, pm_ll_s, pm_lq_0, pm_lq_s, pm_s1, pm_s2, pm_kl, pm_wI, pm_wR, pm_pu_n, pm_pu_s, pm_wt, List.take_succ_cons, List.take_zero, List.take_nil, List.drop_succ_cons, List.drop_zero, List.reverse_cons, List.reverse_nil, List.nil_append, List.cons_append, List.length_cons, List.length_nil, true_and, and_true, true_implies, tn_l, tn_0, Int.reduceToNat, Int.reduceLE, Int.reduceLT, Int.reduceEq, Int.reduceAdd, Int.reduceSub, Int.reduceMul, Int.reduceNeg, Nat.reduceAdd, Nat.reduceLeDiff, Nat.reduceEqDiff, Nat.reduceSub, Option.some.injEq, Sum.inl.injEq, Sum.inr.injEq, or_true, true_or, reduceCtorEq, ne_eq, not_false_eq_true, not_true_eq_false, false_implies, implies_true, false_and, and_false, false_or, or_false, if_true, if_false, fr_3_0 hf, fg_3 hf, fv_3 hf, h1, h3, e1, e2, g2]
    refine ⟨fun _ => ⟨by unfold pm_I32; omega, by unfold pm_I32; omega, by omega, by unfold pm_I32; omega, ?_⟩, fun z => absurd (by omega) z⟩
    generalize hV1 : pm_up (pm_up V 3 1 (((nx + 19) % 20 : Nat) : Int)) 3 2 ((k - 1 : Nat) : Int) = V1
    have v1 : ∀ q, q ≠ 3 → V1 q = V q := fun q hq => by rw [← hV1, pm_up_fr hq, pm_up_fr hq]
    have v31 : V1 3 1 = (((nx + 19) % 20 : Nat) : Int) := by rw [← hV1, pm_up_ne (by omega), pm_up_eq]
    have v32 : V1 3 2 = ((k - 1 : Nat) : Int) := by rw [← hV1, pm_up_eq]
    have hsm1 : shO V1 R T (5 + 2 * ((nx + 19) % 20)) (H (k - 1)) m := shO_keep (v1 _ (by omega)) rfl (fun q hq _ => v1 q (by omega)) (fun _ _ z => z) hsm
    rw [ux_45_34]
    simp only [ux_45_0, ux_45_1, ux_45_4, ux_45_7, ux_45_8, ux_45_9, ux_45_10, ux_45_13, ux_45_15, ux_45_16, ux_45_17, ux_45_18, ux_45_20, ux_45_21, ux_45_24, ux_45_25, ux_45_26, ux_45_29, ux_45_30, ux_45_31, ux_45_35, ux_45_38, ux_45_39, ux_45_42, ux_45_43, ux_45_45, ux_45_48, ux_45_49, ux_45_50, pm_i_c, pm_l_c, pm_q_c, pm_r_c, pm_li_0, pm_li_s, pm_ll_0, pm_ll_s, pm_lq_0, pm_lq_s, pm_s1, pm_s2, pm_kl, pm_wI, pm_wR, pm_pu_n, pm_pu_s, pm_wt, List.take_succ_cons, List.take_zero, List.take_nil, List.drop_succ_cons, List.drop_zero, List.reverse_cons, List.reverse_nil, List.nil_append, List.cons_append, List.length_cons, List.length_nil, true_and, and_true, true_implies, tn_l, tn_0, Int.reduceToNat, Int.reduceLE, Int.reduceLT, Int.reduceEq, Int.reduceAdd, Int.reduceSub, Int.reduceMul, Int.reduceNeg, Nat.reduceAdd, Nat.reduceLeDiff, Nat.reduceEqDiff, Nat.reduceSub, Option.some.injEq, Sum.inl.injEq, Sum.inr.injEq, or_true, true_or, reduceCtorEq, ne_eq, not_false_eq_true, not_true_eq_false, false_implies, implies_true, false_and, and_false, false_or, or_false, if_true, if_false, fr_3_0 hf, fg_3 hf, fv_3 hf, fr_4_0 hf, fr_4_1 hf, fr_4_2 hf, fr_4_3 hf, fr_4_4 hf, fr_4_5 hf, fr_4_6 hf, fr_4_7 hf, fr_4_8 hf, fr_4_9 hf, fr_4_10 hf, fr_4_11 hf, fr_4_12 hf, fr_4_13 hf, fr_4_14 hf, fr_4_15 hf, fr_4_16 hf, fr_4_17 hf, fr_4_18 hf, fr_4_19 hf, fb_4 hf, v31, s2]
    refine ⟨Or.inr (Or.inr (by omega)), ?_⟩
    rw [ux_45_44]
    simp only [ux_45_0, ux_45_1, ux_45_4, ux_45_7, ux_45_8, ux_45_9, ux_45_10, ux_45_13, ux_45_15, ux_45_16, ux_45_17, ux_45_18, ux_45_20, ux_45_21, ux_45_24, ux_45_25, ux_45_26, ux_45_29, ux_45_30, ux_45_31, ux_45_35, ux_45_38, ux_45_39, ux_45_42, ux_45_43, ux_45_45, ux_45_48, ux_45_49, ux_45_50, pm_i_c, pm_l_c, pm_q_c, pm_r_c, pm_li_0, pm_li_s, pm_ll_0, pm_ll_s, pm_lq_0, pm_lq_s, pm_s1, pm_s2, pm_kl, pm_wI, pm_wR, pm_pu_n, pm_pu_s, pm_wt, List.take_succ_cons, List.take_zero, List.take_nil, List.drop_succ_cons, List.drop_zero, List.reverse_cons, List.reverse_nil, List.nil_append, List.cons_append, List.length_cons, List.length_nil, true_and, and_true, true_implies, tn_l, tn_0, Int.reduceToNat, Int.reduceLE, Int.reduceLT, Int.reduceEq, Int.reduceAdd, Int.reduceSub, Int.reduceMul, Int.reduceNeg, Nat.reduceAdd, Nat.reduceLeDiff, Nat.reduceEqDiff, Nat.reduceSub, Option.some.injEq, Sum.inl.injEq, Sum.inr.injEq, or_true, true_or, reduceCtorEq, ne_eq, not_false_eq_true, not_true_eq_false, false_implies, implies_true, false_and, and_false, false_or, or_false, if_true, if_false, fv_1 hf]
    refine pm_ok_mono (c_copyFrom (d := d) (V := V1) (by omega) (fx_shed hf) s1 (by omega) (by omega) (by omega) (fun j hj a ha V2 R2 => sh_tgs hsm1 j hj a ha)) ?_
    rintro r h6 ⟨V2, R2, rfl, rfl, c1, c2, c3, c4, c5, c6⟩
    rw [pm_pu_n, ux_45_53]
    refine ⟨rfl, V2, R2, rfl, rfl, fun q a b => (c1 q a).trans (v1 q b), by rw [c1 3 (by decide)]; exact v31, by rw [c1 3 (by decide)]; exact v32, c5, ?_⟩
    exact cp_shO (q := 1) (o := 5 + 2 * ((nx + 19) % 20)) (by omega) (by decide) hsm1 c1 c2 c3 c4 c6 hm.1
  simp only [ux_44_0, ux_44_1, ux_44_4, ux_44_7, ux_44_10, ux_44_12, ux_44_13, ux_44_14, ux_44_17, ux_44_18, ux_44_21, ux_44_25, ux_44_29, ux_44_32, ux_44_35, pm_i_c, pm_l_c, pm_q_c, pm_r_c, pm_li_0, pm_li_s, pm_ll_0, pm_ll_s, pm_lq_0, pm_lq_s, pm_s1, pm_s2, pm_kl, pm_wI, pm_wR, pm_pu_n, pm_pu_s, pm_wt, List.take_succ_cons, List.take_zero, List.take_nil, List.drop_succ_cons, List.drop_zero, List.reverse_cons, List.reverse_nil, List.nil_append, List.cons_append, List.length_cons, List.length_nil, true_and, and_true, true_implies, tn_l, tn_0, Int.reduceToNat, Int.reduceLE, Int.reduceLT, Int.reduceEq, Int.reduceAdd, Int.reduceSub, Int.reduceMul, Int.reduceNeg, Nat.reduceAdd, Nat.reduceLeDiff, Nat.reduceEqDiff, Nat.reduceSub, Option.some.injEq, Sum.inl.injEq, Sum.inr.injEq, or_true, true_or, reduceCtorEq, ne_eq, not_false_eq_true, not_true_eq_false, false_implies, implies_true, false_and, and_false, false_or, or_false, if_true, if_false, fr_0_0 hf, fr_0_1 hf, fr_0_2 hf, fr_0_3 hf, fr_0_7 hf, fr_0_8 hf, fr_0_11 hf, fr_0_12 hf, fg_0 hf, fv_0 hf, fr_1_3 hf, fg_1 hf, fv_1 hf, fr_3_0 hf, fg_3 hf, fv_3 hf, h1]
  refine ⟨fun _ => ?_, fun z => absurd (by omega) z⟩
  refine pm_ok_mono hres ?_
  rintro r h6 ⟨V2, R2, rfl, rfl, b1, b2, b3, b4, b5⟩
  have hf2 : fx R2 T := by
    refine ⟨fun e he => ?_, hf.2⟩
    have g1 : ∀ e ∈ fx_RL, e.1.1 ≠ 2 := by decide +kernel
    rw [b4 _ (g1 e he)]
    exact hf.1 e he
  rw [pm_pu_n, ux_44_24]
  simp only [ux_44_0, ux_44_1, ux_44_4, ux_44_7, ux_44_10, ux_44_12, ux_44_13, ux_44_14, ux_44_17, ux_44_18, ux_44_21, ux_44_25, ux_44_29, ux_44_32, ux_44_35, pm_i_c, pm_l_c, pm_q_c, pm_r_c, pm_li_0, pm_li_s, pm_ll_0, pm_ll_s, pm_lq_0, pm_lq_s, pm_s1, pm_s2, pm_kl, pm_wI, pm_wR, pm_pu_n, pm_pu_s, pm_wt, List.take_succ_cons, List.take_zero, List.take_nil, List.drop_succ_cons, List.drop_zero, List.reverse_cons, List.reverse_nil, List.nil_append, List.cons_append, List.length_cons, List.length_nil, true_and, and_true, true_implies, tn_l, tn_0, Int.reduceToNat, Int.reduceLE, Int.reduceLT, Int.reduceEq, Int.reduceAdd, Int.reduceSub, Int.reduceMul, Int.reduceNeg, Nat.reduceAdd, Nat.reduceLeDiff, Nat.reduceEqDiff, Nat.reduceSub, Option.some.injEq, Sum.inl.injEq, Sum.inr.injEq, or_true, true_or, reduceCtorEq, ne_eq, not_false_eq_true, not_true_eq_false, false_implies, implies_true, false_and, and_false, false_or, or_false, if_true, if_false, fv_0 hf2]
  refine pm_ok_mono (c_forget (d := d) (V := V2) (by omega) hf2) ?_
  rintro r h3 ⟨V3, rfl, rfl, c1, c2⟩
  have v33 : V3 3 = V2 3 := c1 3 (by decide) (by decide) (by decide)
  rw [pm_pu_n, ux_44_28]
  simp only [ux_44_0, ux_44_1, ux_44_4, ux_44_7, ux_44_10, ux_44_12, ux_44_13, ux_44_14, ux_44_17, ux_44_18, ux_44_21, ux_44_25, ux_44_29, ux_44_32, ux_44_35, pm_i_c, pm_l_c, pm_q_c, pm_r_c, pm_li_0, pm_li_s, pm_ll_0, pm_ll_s, pm_lq_0, pm_lq_s, pm_s1, pm_s2, pm_kl, pm_wI, pm_wR, pm_pu_n, pm_pu_s, pm_wt, List.take_succ_cons, List.take_zero, List.take_nil, List.drop_succ_cons, List.drop_zero, List.reverse_cons, List.reverse_nil, List.nil_append, List.cons_append, List.length_cons, List.length_nil, true_and, and_true, true_implies, tn_l, tn_0, Int.reduceToNat, Int.reduceLE, Int.reduceLT, Int.reduceEq, Int.reduceAdd, Int.reduceSub, Int.reduceMul, Int.reduceNeg, Nat.reduceAdd, Nat.reduceLeDiff, Nat.reduceEqDiff, Nat.reduceSub, Option.some.injEq, Sum.inl.injEq, Sum.inr.injEq, or_true, true_or, reduceCtorEq, ne_eq, not_false_eq_true, not_true_eq_false, false_implies, implies_true, false_and, and_false, false_or, or_false, if_true, if_false, fr_0_1 hf2, fg_0 hf2, fg_3 hf2, v33, b3]
  refine ⟨V3, R2, m, rfl, rfl, hf2, fun q h1 h2 => ?_, hm, shO_keep (c1 1 (by decide) (by decide) (by decide)) rfl (fun q hq _ => c1 q (by omega) (by omega) (by omega)) (fun _ _ z => z) b5, ⟨by rw [v33]; exact b3, by omega, by rw [v33]; exact b2, by omega, fun i hi => ?_⟩, c2⟩
  · rw [c1 q (by omega) (by omega) (by omega)]; exact b1 q (by omega) (by omega)
  · obtain ⟨mi, w1, w2⟩ := h5 i (by omega)
    refine ⟨mi, w1, ?_⟩
    rw [show ((nx + 19) % 20 + 20 - (k - 1) + i) % 20 = (nx + 20 - k + i) % 20 by omega]
    refine shO_keep ?_ (b4 _ (by omega)) (fun q hq _ => ?_) (fun _ _ z => z) w2
    · rw [c1 _ (by omega) (by omega) (by omega)]; exact b1 _ (by omega) (by omega)
    · rw [c1 q (by omega) (by omega) (by omega)]; exact b1 q (by omega) (by omega)
/-- told -/
theorem c_told_bad (hd : 2 ≤ d) (hf : fx R T) (hs : shO V R T 1 A n) (hn : n ≤ 12) (x w : Int) (hb : ¬ (0 ≤ x ∧ x < n)) : pm_ev d 30 [.inr (.inr (some 0)), .inl x, .inl w] (V, R, T) (some (.inl (-1))) (V, R, T) := by
  refine pm_ev_of (by omega) (Nat.le_of_ble_eq_true rfl) ?_
  show pm_w (d - 1) 30 0 [some (.inr (.inr (some 0))), some (.inl x), some (.inl w), none] [] (V, R, T) _
  have ev := c_pieceAt (d := d - 1) (by omega) hf hs.2.2.1 hn x
  rw [if_neg hb] at ev
  simp only [ux_30_0, ux_30_1, ux_30_4, ux_30_5, ux_30_8, ux_30_9, ux_30_10, ux_30_13, ux_30_14, ux_30_16, ux_30_60, ux_30_61, ux_30_64, ux_30_65, ux_30_66, ux_30_69, ux_30_70, ux_30_71, ux_30_74, ux_30_75, ux_30_76, ux_30_77, ux_30_80, ux_30_83, ux_30_86, ux_30_87, ux_30_88, ux_30_91, ux_30_92, ux_30_93, ux_30_96, ux_30_97, ux_30_98, ux_30_101, ux_30_102, ux_30_103, pm_i_c, pm_l_c, pm_q_c, pm_r_c, pm_li_0, pm_li_s, pm_ll_0, pm_ll_s, pm_lq_0, pm_lq_s, pm_s1, pm_s2, pm_kl, pm_wI, pm_wR, pm_pu_n, pm_pu_s, pm_wt, List.take_succ_cons, List.take_zero, List.take_nil, List.drop_succ_cons, List.drop_zero, List.reverse_cons, List.reverse_nil, List.nil_append, List.cons_append, List.length_cons, List.length_nil, true_and, and_true, true_implies, tn_l, tn_0, Int.reduceToNat, Int.reduceLE, Int.reduceLT, Int.reduceEq, Int.reduceAdd, Int.reduceSub, Int.reduceMul, Int.reduceNeg, Nat.reduceAdd, Nat.reduceLeDiff, Nat.reduceEqDiff, Nat.reduceSub, Option.some.injEq, Sum.inl.injEq, Sum.inr.injEq, or_true, true_or, reduceCtorEq, ne_eq, not_false_eq_true, not_true_eq_false, false_implies, implies_true, false_and, and_false, false_or, or_false, if_true, if_false, fr_0_0 hf, fr_0_1 hf, fr_0_2 hf, fr_0_3 hf, fr_0_7 hf, fr_0_8 hf, fr_0_11 hf, fr_0_12 hf, fg_0 hf, fv_0 hf, fr_1_3 hf, fg_1 hf, fv_1 hf, pm_ok_ev ev]
theorem c_told (hd : 2 ≤ d) (hf : fx R T) (hs : shO V R T 1 A n) (hw : wf A n) (hp : p < n) (w : Int) : pm_ev d 30 [.inr (.inr (some 0)), .inl (p : Int), .inl w] (V, R, T) (some (.inl (tdA A p w))) (V, R, T) := by
  refine pm_ev_of (by omega) (Nat.le_of_ble_eq_true rfl) ?_
  show pm_w (d - 1) 30 0 [some (.inr (.inr (some 0))), some (.inl (p : Int)), some (.inl w), none] [] (V, R, T) _
  have hn := hw.1
  obtain ⟨a, e, ho⟩ := hs.2.2.2.1 p hp
  have e : R 2 p = some a := e
  have ev := c_pieceAt (d := d - 1) (by omega) hf hs.2.2.1 hn (p : Int)
  rw [if_pos (by omega), Int.toNat_natCast, e] at ev
  have wp := hw.2.2.2.2 p hp
  have h11 := hs.2.1
  have tg := eq_true (pc_tgs (R := R) ho)
  simp only [ux_30_0, ux_30_1, ux_30_4, ux_30_5, ux_30_8, ux_30_9, ux_30_10, ux_30_13, ux_30_14, ux_30_16, ux_30_60, ux_30_61, ux_30_64, ux_30_65, ux_30_66, ux_30_69, ux_30_70, ux_30_71, ux_30_74, ux_30_75, ux_30_76, ux_30_77, ux_30_80, ux_30_83, ux_30_86, ux_30_87, ux_30_88, ux_30_91, ux_30_92, ux_30_93, ux_30_96, ux_30_97, ux_30_98, ux_30_101, ux_30_102, ux_30_103, pm_i_c, pm_l_c, pm_q_c, pm_r_c, pm_li_0, pm_li_s, pm_ll_0, pm_ll_s, pm_lq_0, pm_lq_s, pm_s1, pm_s2, pm_kl, pm_wI, pm_wR, pm_pu_n, pm_pu_s, pm_wt, List.take_succ_cons, List.take_zero, List.take_nil, List.drop_succ_cons, List.drop_zero, List.reverse_cons, List.reverse_nil, List.nil_append, List.cons_append, List.length_cons, List.length_nil, true_and, and_true, true_implies, tn_l, tn_0, Int.reduceToNat, Int.reduceLE, Int.reduceLT, Int.reduceEq, Int.reduceAdd, Int.reduceSub, Int.reduceMul, Int.reduceNeg, Nat.reduceAdd, Nat.reduceLeDiff, Nat.reduceEqDiff, Nat.reduceSub, Option.some.injEq, Sum.inl.injEq, Sum.inr.injEq, or_true, true_or, reduceCtorEq, ne_eq, not_false_eq_true, not_true_eq_false, false_implies, implies_true, false_and, and_false, false_or, or_false, if_true, if_false, fr_0_0 hf, fr_0_1 hf, fr_0_2 hf, fr_0_3 hf, fr_0_7 hf, fr_0_8 hf, fr_0_11 hf, fr_0_12 hf, fg_0 hf, fv_0 hf, fr_1_3 hf, fg_1 hf, fv_1 hf, pm_ok_ev ev]
  rw [ux_30_15]
  simp only [ux_30_0, ux_30_1, ux_30_4, ux_30_5, ux_30_8, ux_30_9, ux_30_10, ux_30_13, ux_30_14, ux_30_16, ux_30_61, ux_30_64, ux_30_66, ux_30_69, ux_30_71, ux_30_74, ux_30_76, ux_30_77, ux_30_80, ux_30_83, ux_30_86, ux_30_88, ux_30_91, ux_30_93, ux_30_96, ux_30_98, ux_30_101, ux_30_103, pm_i_c, pm_l_c, pm_q_c, pm_r_c, pm_li_0, pm_li_s, pm_ll_0, pm_ll_s, pm_lq_0, pm_lq_s, pm_s1, pm_s2, pm_kl, pm_wI, pm_wR, pm_pu_n, pm_pu_s, pm_wt, List.take_succ_cons, List.take_zero, List.take_nil, List.drop_succ_cons, List.drop_zero, List.reverse_cons, List.reverse_nil, List.nil_append, List.cons_append, List.length_cons, List.length_nil, true_and, and_true, true_implies, tn_l, tn_0, Int.reduceToNat, Int.reduceLE, Int.reduceLT, Int.reduceEq, Int.reduceAdd, Int.reduceSub, Int.reduceMul, Int.reduceNeg, Nat.reduceAdd, Nat.reduceLeDiff, Nat.reduceEqDiff, Nat.reduceSub, Option.some.injEq, Sum.inl.injEq, Sum.inr.injEq, or_true, true_or, reduceCtorEq, ne_eq, not_false_eq_true, not_true_eq_false, false_implies, implies_true, false_and, and_false, false_or, or_false, if_true, if_false, fr_0_0 hf, fr_0_1 hf, fr_0_2 hf, fr_0_3 hf, fr_0_7 hf, fr_0_8 hf, fr_0_11 hf, fr_0_12 hf, fg_0 hf, fv_0 hf, fr_1_3 hf, fg_1 hf, fv_1 hf]
  by_cases hc : w < 0 ∨ 6 < w
  · rw [if_pos hc]
    show pm_w (d - 1) 30 102 _ _ _ _
    rw [ux_30_102]
    simp only [ux_30_0, ux_30_1, ux_30_4, ux_30_5, ux_30_8, ux_30_9, ux_30_10, ux_30_13, ux_30_14, ux_30_16, ux_30_60, ux_30_61, ux_30_64, ux_30_65, ux_30_66, ux_30_69, ux_30_70, ux_30_71, ux_30_74, ux_30_75, ux_30_76, ux_30_77, ux_30_80, ux_30_83, ux_30_86, ux_30_87, ux_30_88, ux_30_91, ux_30_92, ux_30_93, ux_30_96, ux_30_97, ux_30_98, ux_30_101, ux_30_102, ux_30_103, pm_i_c, pm_l_c, pm_q_c, pm_r_c, pm_li_0, pm_li_s, pm_ll_0, pm_ll_s, pm_lq_0, pm_lq_s, pm_s1, pm_s2, pm_kl, pm_wI, pm_wR, pm_pu_n, pm_pu_s, pm_wt, List.take_succ_cons, List.take_zero, List.take_nil, List.drop_succ_cons, List.drop_zero, List.reverse_cons, List.reverse_nil, List.nil_append, List.cons_append, List.length_cons, List.length_nil, true_and, and_true, true_implies, tn_l, tn_0, Int.reduceToNat, Int.reduceLE, Int.reduceLT, Int.reduceEq, Int.reduceAdd, Int.reduceSub, Int.reduceMul, Int.reduceNeg, Nat.reduceAdd, Nat.reduceLeDiff, Nat.reduceEqDiff, Nat.reduceSub, Option.some.injEq, Sum.inl.injEq, Sum.inr.injEq, or_true, true_or, reduceCtorEq, ne_eq, not_false_eq_true, not_true_eq_false, false_implies, implies_true, false_and, and_false, false_or, or_false, if_true, if_false]
    unfold tdA
    rw [if_neg (by omega), if_neg (by omega), if_neg (by omega), if_neg (by omega), if_neg (by omega), if_neg (by omega), if_neg (by omega)]
  · rw [if_neg hc]
    have h7 : w = 0 ∨ w = 1 ∨ w = 2 ∨ w = 3 ∨ w = 4 ∨ w = 5 ∨ w = 6 := by omega
    rcases h7 with rfl | rfl | rfl | rfl | rfl | rfl | rfl
    · show pm_w (d - 1) 30 60 _ _ _ _
      rw [ux_30_60]
      simp only [ux_30_0, ux_30_1, ux_30_4, ux_30_5, ux_30_8, ux_30_9, ux_30_10, ux_30_13, ux_30_14, ux_30_16, ux_30_60, ux_30_61, ux_30_65, ux_30_66, ux_30_69, ux_30_70, ux_30_71, ux_30_74, ux_30_75, ux_30_76, ux_30_77, ux_30_80, ux_30_83, ux_30_87, ux_30_88, ux_30_92, ux_30_93, ux_30_97, ux_30_98, ux_30_102, ux_30_103, pm_i_c, pm_l_c, pm_q_c, pm_r_c, pm_li_0, pm_li_s, pm_ll_0, pm_ll_s, pm_lq_0, pm_lq_s, pm_s1, pm_s2, pm_kl, pm_wI, pm_wR, pm_pu_n, pm_pu_s, pm_wt, List.take_succ_cons, List.take_zero, List.take_nil, List.drop_succ_cons, List.drop_zero, List.reverse_cons, List.reverse_nil, List.nil_append, List.cons_append, List.length_cons, List.length_nil, true_and, and_true, true_implies, tn_l, tn_0, Int.reduceToNat, Int.reduceLE, Int.reduceLT, Int.reduceEq, Int.reduceAdd, Int.reduceSub, Int.reduceMul, Int.reduceNeg, Nat.reduceAdd, Nat.reduceLeDiff, Nat.reduceEqDiff, Nat.reduceSub, Option.some.injEq, Sum.inl.injEq, Sum.inr.injEq, or_true, true_or, reduceCtorEq, ne_eq, not_false_eq_true, not_true_eq_false, false_implies, implies_true, false_and, and_false, false_or, or_false, if_true, if_false]
      refine v_kind (by omega) ho ?_
      rw [pm_pu_s, ux_30_64]
      exact ⟨rfl, rfl, rfl⟩
    · show pm_w (d - 1) 30 65 _ _ _ _
      rw [ux_30_65]
      simp only [ux_30_0, ux_30_1, ux_30_4, ux_30_5, ux_30_8, ux_30_9, ux_30_10, ux_30_13, ux_30_14, ux_30_16, ux_30_60, ux_30_61, ux_30_65, ux_30_66, ux_30_69, ux_30_70, ux_30_71, ux_30_74, ux_30_75, ux_30_76, ux_30_77, ux_30_80, ux_30_83, ux_30_87, ux_30_88, ux_30_92, ux_30_93, ux_30_97, ux_30_98, ux_30_102, ux_30_103, pm_i_c, pm_l_c, pm_q_c, pm_r_c, pm_li_0, pm_li_s, pm_ll_0, pm_ll_s, pm_lq_0, pm_lq_s, pm_s1, pm_s2, pm_kl, pm_wI, pm_wR, pm_pu_n, pm_pu_s, pm_wt, List.take_succ_cons, List.take_zero, List.take_nil, List.drop_succ_cons, List.drop_zero, List.reverse_cons, List.reverse_nil, List.nil_append, List.cons_append, List.length_cons, List.length_nil, true_and, and_true, true_implies, tn_l, tn_0, Int.reduceToNat, Int.reduceLE, Int.reduceLT, Int.reduceEq, Int.reduceAdd, Int.reduceSub, Int.reduceMul, Int.reduceNeg, Nat.reduceAdd, Nat.reduceLeDiff, Nat.reduceEqDiff, Nat.reduceSub, Option.some.injEq, Sum.inl.injEq, Sum.inr.injEq, or_true, true_or, reduceCtorEq, ne_eq, not_false_eq_true, not_true_eq_false, false_implies, implies_true, false_and, and_false, false_or, or_false, if_true, if_false, tg]
      exact ho.2.2.1
    · show pm_w (d - 1) 30 70 _ _ _ _
      rw [ux_30_70]
      simp only [ux_30_0, ux_30_1, ux_30_4, ux_30_5, ux_30_8, ux_30_9, ux_30_10, ux_30_13, ux_30_14, ux_30_16, ux_30_60, ux_30_61, ux_30_65, ux_30_66, ux_30_69, ux_30_70, ux_30_71, ux_30_74, ux_30_75, ux_30_76, ux_30_77, ux_30_80, ux_30_83, ux_30_87, ux_30_88, ux_30_92, ux_30_93, ux_30_97, ux_30_98, ux_30_102, ux_30_103, pm_i_c, pm_l_c, pm_q_c, pm_r_c, pm_li_0, pm_li_s, pm_ll_0, pm_ll_s, pm_lq_0, pm_lq_s, pm_s1, pm_s2, pm_kl, pm_wI, pm_wR, pm_pu_n, pm_pu_s, pm_wt, List.take_succ_cons, List.take_zero, List.take_nil, List.drop_succ_cons, List.drop_zero, List.reverse_cons, List.reverse_nil, List.nil_append, List.cons_append, List.length_cons, List.length_nil, true_and, and_true, true_implies, tn_l, tn_0, Int.reduceToNat, Int.reduceLE, Int.reduceLT, Int.reduceEq, Int.reduceAdd, Int.reduceSub, Int.reduceMul, Int.reduceNeg, Nat.reduceAdd, Nat.reduceLeDiff, Nat.reduceEqDiff, Nat.reduceSub, Option.some.injEq, Sum.inl.injEq, Sum.inr.injEq, or_true, true_or, reduceCtorEq, ne_eq, not_false_eq_true, not_true_eq_false, false_implies, implies_true, false_and, and_false, false_or, or_false, if_true, if_false, tg]
      exact ho.2.2.2.1
    · show pm_w (d - 1) 30 75 _ _ _ _
      rw [ux_30_75]
      simp only [ux_30_0, ux_30_1, ux_30_4, ux_30_5, ux_30_8, ux_30_9, ux_30_10, ux_30_13, ux_30_14, ux_30_16, ux_30_60, ux_30_61, ux_30_65, ux_30_66, ux_30_69, ux_30_70, ux_30_71, ux_30_74, ux_30_75, ux_30_76, ux_30_77, ux_30_80, ux_30_83, ux_30_87, ux_30_88, ux_30_92, ux_30_93, ux_30_97, ux_30_98, ux_30_102, ux_30_103, pm_i_c, pm_l_c, pm_q_c, pm_r_c, pm_li_0, pm_li_s, pm_ll_0, pm_ll_s, pm_lq_0, pm_lq_s, pm_s1, pm_s2, pm_kl, pm_wI, pm_wR, pm_pu_n, pm_pu_s, pm_wt, List.take_succ_cons, List.take_zero, List.take_nil, List.drop_succ_cons, List.drop_zero, List.reverse_cons, List.reverse_nil, List.nil_append, List.cons_append, List.length_cons, List.length_nil, true_and, and_true, true_implies, tn_l, tn_0, Int.reduceToNat, Int.reduceLE, Int.reduceLT, Int.reduceEq, Int.reduceAdd, Int.reduceSub, Int.reduceMul, Int.reduceNeg, Nat.reduceAdd, Nat.reduceLeDiff, Nat.reduceEqDiff, Nat.reduceSub, Option.some.injEq, Sum.inl.injEq, Sum.inr.injEq, or_true, true_or, reduceCtorEq, ne_eq, not_false_eq_true, not_true_eq_false, false_implies, implies_true, false_and, and_false, false_or, or_false, if_true, if_false, fr_0_0 hf, fr_0_1 hf, fr_0_2 hf, fr_0_3 hf, fr_0_7 hf, fr_0_8 hf, fr_0_11 hf, fr_0_12 hf, fg_0 hf, fv_0 hf, fr_1_3 hf, fg_1 hf, fv_1 hf]
      refine v_last (by omega) ho h11 ?_
      rw [pm_pu_s, ux_30_86]
      exact ⟨rfl, rfl, rfl⟩
    · show pm_w (d - 1) 30 87 _ _ _ _
      rw [ux_30_87]
      simp only [ux_30_0, ux_30_1, ux_30_4, ux_30_5, ux_30_8, ux_30_9, ux_30_10, ux_30_13, ux_30_14, ux_30_16, ux_30_60, ux_30_61, ux_30_65, ux_30_66, ux_30_69, ux_30_70, ux_30_71, ux_30_74, ux_30_75, ux_30_76, ux_30_77, ux_30_80, ux_30_83, ux_30_87, ux_30_88, ux_30_92, ux_30_93, ux_30_97, ux_30_98, ux_30_102, ux_30_103, pm_i_c, pm_l_c, pm_q_c, pm_r_c, pm_li_0, pm_li_s, pm_ll_0, pm_ll_s, pm_lq_0, pm_lq_s, pm_s1, pm_s2, pm_kl, pm_wI, pm_wR, pm_pu_n, pm_pu_s, pm_wt, List.take_succ_cons, List.take_zero, List.take_nil, List.drop_succ_cons, List.drop_zero, List.reverse_cons, List.reverse_nil, List.nil_append, List.cons_append, List.length_cons, List.length_nil, true_and, and_true, true_implies, tn_l, tn_0, Int.reduceToNat, Int.reduceLE, Int.reduceLT, Int.reduceEq, Int.reduceAdd, Int.reduceSub, Int.reduceMul, Int.reduceNeg, Nat.reduceAdd, Nat.reduceLeDiff, Nat.reduceEqDiff, Nat.reduceSub, Option.some.injEq, Sum.inl.injEq, Sum.inr.injEq, or_true, true_or, reduceCtorEq, ne_eq, not_false_eq_true, not_true_eq_false, false_implies, implies_true, false_and, and_false, false_or, or_false, if_true, if_false]
      refine v_ways (by omega) wp.2.2.2.2.2.2.2.2.2 ho ?_
      rw [pm_pu_s, ux_30_91]
      exact ⟨rfl, rfl, rfl⟩
    · show pm_w (d - 1) 30 92 _ _ _ _
      rw [ux_30_92]
      simp only [ux_30_0, ux_30_1, ux_30_4, ux_30_5, ux_30_8, ux_30_9, ux_30_10, ux_30_13, ux_30_14, ux_30_16, ux_30_60, ux_30_61, ux_30_65, ux_30_66, ux_30_69, ux_30_70, ux_30_71, ux_30_74, ux_30_75, ux_30_76, ux_30_77, ux_30_80, ux_30_83, ux_30_87, ux_30_88, ux_30_92, ux_30_93, ux_30_97, ux_30_98, ux_30_102, ux_30_103, pm_i_c, pm_l_c, pm_q_c, pm_r_c, pm_li_0, pm_li_s, pm_ll_0, pm_ll_s, pm_lq_0, pm_lq_s, pm_s1, pm_s2, pm_kl, pm_wI, pm_wR, pm_pu_n, pm_pu_s, pm_wt, List.take_succ_cons, List.take_zero, List.take_nil, List.drop_succ_cons, List.drop_zero, List.reverse_cons, List.reverse_nil, List.nil_append, List.cons_append, List.length_cons, List.length_nil, true_and, and_true, true_implies, tn_l, tn_0, Int.reduceToNat, Int.reduceLE, Int.reduceLT, Int.reduceEq, Int.reduceAdd, Int.reduceSub, Int.reduceMul, Int.reduceNeg, Nat.reduceAdd, Nat.reduceLeDiff, Nat.reduceEqDiff, Nat.reduceSub, Option.some.injEq, Sum.inl.injEq, Sum.inr.injEq, or_true, true_or, reduceCtorEq, ne_eq, not_false_eq_true, not_true_eq_false, false_implies, implies_true, false_and, and_false, false_or, or_false, if_true, if_false]
      refine v_beg (by omega) wp.2.2.2.2.2.2.2.2.1 ho ?_
      rw [pm_pu_s, ux_30_96]
      exact ⟨rfl, rfl, rfl⟩
    · show pm_w (d - 1) 30 97 _ _ _ _
      rw [ux_30_97]
      simp only [ux_30_0, ux_30_1, ux_30_4, ux_30_5, ux_30_8, ux_30_9, ux_30_10, ux_30_13, ux_30_14, ux_30_16, ux_30_60, ux_30_61, ux_30_65, ux_30_66, ux_30_69, ux_30_70, ux_30_71, ux_30_74, ux_30_75, ux_30_76, ux_30_77, ux_30_80, ux_30_83, ux_30_87, ux_30_88, ux_30_92, ux_30_93, ux_30_97, ux_30_98, ux_30_102, ux_30_103, pm_i_c, pm_l_c, pm_q_c, pm_r_c, pm_li_0, pm_li_s, pm_ll_0, pm_ll_s, pm_lq_0, pm_lq_s, pm_s1, pm_s2, pm_kl, pm_wI, pm_wR, pm_pu_n, pm_pu_s, pm_wt, List.take_succ_cons, List.take_zero, List.take_nil, List.drop_succ_cons, List.drop_zero, List.reverse_cons, List.reverse_nil, List.nil_append, List.cons_append, List.length_cons, List.length_nil, true_and, and_true, true_implies, tn_l, tn_0, Int.reduceToNat, Int.reduceLE, Int.reduceLT, Int.reduceEq, Int.reduceAdd, Int.reduceSub, Int.reduceMul, Int.reduceNeg, Nat.reduceAdd, Nat.reduceLeDiff, Nat.reduceEqDiff, Nat.reduceSub, Option.some.injEq, Sum.inl.injEq, Sum.inr.injEq, or_true, true_or, reduceCtorEq, ne_eq, not_false_eq_true, not_true_eq_false, false_implies, implies_true, false_and, and_false, false_or, or_false, if_true, if_false]
      refine v_stp (by omega) wp.2.2.2.2.2.2.2.2.1 ho ?_
      rw [pm_pu_s, ux_30_101]
      exact ⟨rfl, rfl, rfl⟩
end
