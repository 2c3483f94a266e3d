/-! THE CLASS: piece, ways, bar, drop, undo, told -/
section
variable {d : Nat} {h : pm_H} {V V2 W : Nat → Nat → Int} {R R2 : Nat → Nat → Option Nat} {T T2 : List (Nat × Nat)} {n a p q k nx : Nat} {A B : Nat → Int} {H : Nat → Nat → Int}
theorem c_isSpan (hd : 1 ≤ d) (x y : Int) : pm_ev d 15 [.inl x, .inl y] h (some (.inl (if 0 ≤ x ∧ x < y ∧ y ≤ 60 then 1 else 0))) h := by
  refine pm_ev_of hd (Nat.le_of_ble_eq_true rfl) ?_
  show pm_w (d - 1) 15 0 [some (.inl x), some (.inl y)] [] h _
  simp only [ux_15_0, ux_15_1, ux_15_4, ux_15_5, ux_15_6, ux_15_9, ux_15_10, ux_15_12, ux_15_15, ux_15_16, ux_15_19, ux_15_20, pm_i_c, pm_l_c, pm_q_c, pm_r_c, pm_li_0, pm_li_s, pm_ll_0, pm_ll_s, pm_lq_0, pm_lq_s, pm_s1, pm_s2, pm_kl, pm_wI, pm_wR, pm_pu_n, pm_pu_s, pm_wt, List.take_succ_cons, List.take_zero, List.take_nil, List.drop_succ_cons, List.drop_zero, List.reverse_cons, List.reverse_nil, List.nil_append, List.cons_append, List.length_cons, List.length_nil, true_and, and_true, true_implies, tn_l, tn_0, Int.reduceToNat, Int.reduceLE, Int.reduceLT, Int.reduceEq, Int.reduceAdd, Int.reduceSub, Int.reduceMul, Int.reduceNeg, Nat.reduceAdd, Nat.reduceLeDiff, Nat.reduceEqDiff, Nat.reduceSub, Option.some.injEq, Sum.inl.injEq, Sum.inr.injEq, or_true, true_or, reduceCtorEq, ne_eq, not_false_eq_true, not_true_eq_false, false_implies, implies_true, false_and, and_false, false_or, or_false, if_true, if_false]
  refine ⟨fun z => by rw [if_neg (by omega)], fun z => ⟨fun z2 => by rw [if_neg (by omega)], fun z2 => ⟨fun z3 => by rw [if_neg (by omega)], fun z3 => by rw [if_pos (by omega)]⟩⟩⟩
theorem c_asTold (hd : 2 ≤ d) (k l f t : Int) : pm_ok d 14 [.inl k, .inl l, .inl f, .inl t] h (fun r h2 => h2 = h ∧ ((pcK k l f t ∧ r = some (.inl 1)) ∨ (¬ pcK k l f t ∧ r = some (.inl 0)))) := by
  obtain ⟨d, rfl⟩ : ∃ k, d = k + 1 := ⟨d - 1, by omega⟩
  refine pm_ok_iff.mpr ⟨(Nat.le_of_ble_eq_true rfl), ?_⟩
  show pm_w d 14 0 [some (.inl k), some (.inl l), some (.inl f), some (.inl t), none] [] h _
  have hy : pcK k l f t → (pcK k l f t ∧ (some (.inl 1) : Option pm_V) = some (.inl 1)) ∨ (¬ pcK k l f t ∧ (some (.inl 1) : Option pm_V) = some (.inl 0)) := fun z => Or.inl ⟨z, rfl⟩
  simp only [ux_14_0, ux_14_1, ux_14_4, ux_14_5, ux_14_6, ux_14_9, ux_14_10, ux_14_11, ux_14_12, ux_14_13, ux_14_16, ux_14_17, ux_14_19, ux_14_22, ux_14_23, ux_14_26, ux_14_27, ux_14_29, ux_14_30, ux_14_31, ux_14_34, ux_14_36, ux_14_39, ux_14_40, ux_14_41, ux_14_44, ux_14_45, ux_14_46, ux_14_49, ux_14_52, ux_14_53, ux_14_56, ux_14_57, pm_i_c, pm_l_c, pm_q_c, pm_r_c, pm_li_0, pm_li_s, pm_ll_0, pm_ll_s, pm_lq_0, pm_lq_s, pm_s1, pm_s2, pm_kl, pm_wI, pm_wR, pm_pu_n, pm_pu_s, pm_wt, List.take_succ_cons, List.take_zero, List.take_nil, List.drop_succ_cons, List.drop_zero, List.reverse_cons, List.reverse_nil, List.nil_append, List.cons_append, List.length_cons, List.length_nil, true_and, and_true, true_implies, tn_l, tn_0, Int.reduceToNat, Int.reduceLE, Int.reduceLT, Int.reduceEq, Int.reduceAdd, Int.reduceSub, Int.reduceMul, Int.reduceNeg, Nat.reduceAdd, Nat.reduceLeDiff, Nat.reduceEqDiff, Nat.reduceSub, Option.some.injEq, Sum.inl.injEq, Sum.inr.injEq, or_true, true_or, reduceCtorEq, ne_eq, not_false_eq_true, not_true_eq_false, false_implies, implies_true, false_and, and_false, false_or, or_false, if_true, if_false, pm_ok_ev (c_isSpan (d := d) (by omega) _ _)]
  have e : pcK k l f t ↔ (0 ≤ k ∧ k ≤ 4) ∧ (k = 2 ∨ (0 ≤ f ∧ f ≤ 60) ∧ (0 ≤ t ∧ t ≤ 60) ∧ f < t) ∧ (k = 1 ∨ 1 ≤ l ∧ l ≤ 60) := Iff.rfl
  rw [e]
  by_cases hs : 0 ≤ f ∧ f < t ∧ t ≤ 60
  · rw [if_pos hs]
    (repeat' (first | apply And.intro | intro _)) <;> omega
  · rw [if_neg hs]
    (repeat' (first | apply And.intro | intro _)) <;> omega
theorem c_add (hd : 1 ≤ d) (hf : fx R T) (h2 : V 1 2 = n) (hn : n < 12) (ha : ∀ (V : Nat → Nat → Int) (R : Nat → Nat → Option Nat), pm_tgs (V, R, T) a [0, 2, 6, 9, 10]) : pm_ev d 22 [.inr (.inr (some 1)), .inr (.inr (some a))] (V, R, T) (some (.inl (n : Int))) (pm_up V 1 2 ((n + 1 : Nat) : Int), pm_up R 2 n (some a), T) := by
  refine pm_ev_of hd (Nat.le_of_ble_eq_true rfl) ?_
  show pm_w (d - 1) 22 0 [some (.inr (.inr (some 1))), some (.inr (.inr (some a)))] [] (V, R, T) _
  have hf2 : fx (pm_up R 2 n (some a)) T := fx_up hf (Or.inl rfl)
  simp only [ux_22_0, ux_22_1, ux_22_4, ux_22_6, ux_22_9, ux_22_11, ux_22_12, ux_22_13, ux_22_16, ux_22_17, ux_22_20, ux_22_21, ux_22_23, ux_22_24, ux_22_27, ux_22_28, ux_22_29, ux_22_32, ux_22_33, ux_22_36, ux_22_37, ux_22_38, pm_i_c, pm_l_c, pm_q_c, pm_r_c, pm_li_0, pm_li_s, pm_ll_0, pm_ll_s, pm_lq_0, pm_lq_s, pm_s1, pm_s2, pm_kl, pm_wI, pm_wR, pm_pu_n, pm_pu_s, pm_wt, List.take_succ_cons, List.take_zero, List.take_nil, List.drop_succ_cons, List.drop_zero, List.reverse_cons, List.reverse_nil, List.nil_append, List.cons_append, List.length_cons, List.length_nil, true_and, and_true, true_implies, tn_l, tn_0, Int.reduceToNat, Int.reduceLE, Int.reduceLT, Int.reduceEq, Int.reduceAdd, Int.reduceSub, Int.reduceMul, Int.reduceNeg, Nat.reduceAdd, Nat.reduceLeDiff, Nat.reduceEqDiff, Nat.reduceSub, Option.some.injEq, Sum.inl.injEq, Sum.inr.injEq, or_true, true_or, reduceCtorEq, ne_eq, not_false_eq_true, not_true_eq_false, false_implies, implies_true, false_and, and_false, false_or, or_false, if_true, if_false, fr_1_3 hf, fg_1 hf, fv_1 hf, fb_2 hf, h2]
  refine ⟨fun _ => ⟨Or.inl ⟨by omega, fun q hq => ?_⟩, ?_⟩, fun z => absurd (by omega) z⟩
  · cases hq; exact ha _ _
  · rw [ux_22_22]
    simp only [ux_22_0, ux_22_1, ux_22_4, ux_22_6, ux_22_9, ux_22_11, ux_22_12, ux_22_13, ux_22_16, ux_22_17, ux_22_20, ux_22_21, ux_22_23, ux_22_24, ux_22_27, ux_22_28, ux_22_29, ux_22_32, ux_22_33, ux_22_36, ux_22_37, ux_22_38, pm_i_c, pm_l_c, pm_q_c, pm_r_c, pm_li_0, pm_li_s, pm_ll_0, pm_ll_s, pm_lq_0, pm_lq_s, pm_s1, pm_s2, pm_kl, pm_wI, pm_wR, pm_pu_n, pm_pu_s, pm_wt, List.take_succ_cons, List.take_zero, List.take_nil, List.drop_succ_cons, List.drop_zero, List.reverse_cons, List.reverse_nil, List.nil_append, List.cons_append, List.length_cons, List.length_nil, true_and, and_true, true_implies, tn_l, tn_0, Int.reduceToNat, Int.reduceLE, Int.reduceLT, Int.reduceEq, Int.reduceAdd, Int.reduceSub, Int.reduceMul, Int.reduceNeg, Nat.reduceAdd, Nat.reduceLeDiff, Nat.reduceEqDiff, Nat.reduceSub, Option.some.injEq, Sum.inl.injEq, Sum.inr.injEq, or_true, true_or, reduceCtorEq, ne_eq, not_false_eq_true, not_true_eq_false, false_implies, implies_true, false_and, and_false, false_or, or_false, if_true, if_false, fg_1 hf2, h2, pm_up_eq]
    refine ⟨by unfold pm_I32; omega, by unfold pm_I32; omega, ?_, rfl⟩
    omega
theorem c_put (hd : 3 ≤ d) (hf : fx R T) (hs : shO V R T 1 A n) (hn : n ≤ 12) (hp : p < n) (ha : ∀ (V : Nat → Nat → Int) (R : Nat → Nat → Option Nat), pm_tgs (V, R, T) a [0, 2, 6, 9, 10]) : pm_ev d 26 [.inr (.inr (some 1)), .inl (p : Int), .inr (.inr (some a))] (V, R, T) none (V, pm_up R 2 p (some a), T) := by
  refine pm_ev_of (by omega) (Nat.le_of_ble_eq_true rfl) ?_
  show pm_w (d - 1) 26 0 [some (.inr (.inr (some 1))), some (.inl (p : Int)), some (.inr (.inr (some a)))] [] (V, R, T) _
  have ev := c_has (d := d - 1) (by omega) hf hs hn (p : Int)
  rw [if_pos (by omega)] at ev
  simp only [ux_26_0, ux_26_1, ux_26_2, ux_26_5, ux_26_8, ux_26_9, ux_26_12, ux_26_13, ux_26_14, ux_26_15, pm_i_c, pm_l_c, pm_q_c, pm_r_c, pm_li_0, pm_li_s, pm_ll_0, pm_ll_s, pm_lq_0, pm_lq_s, pm_s1, pm_s2, pm_kl, pm_wI, pm_wR, pm_pu_n, pm_pu_s, pm_wt, List.take_succ_cons, List.take_zero, List.take_nil, List.drop_succ_cons, List.drop_zero, List.reverse_cons, List.reverse_nil, List.nil_append, List.cons_append, List.length_cons, List.length_nil, true_and, and_true, true_implies, tn_l, tn_0, Int.reduceToNat, Int.reduceLE, Int.reduceLT, Int.reduceEq, Int.reduceAdd, Int.reduceSub, Int.reduceMul, Int.reduceNeg, Nat.reduceAdd, Nat.reduceLeDiff, Nat.reduceEqDiff, Nat.reduceSub, Option.some.injEq, Sum.inl.injEq, Sum.inr.injEq, or_true, true_or, reduceCtorEq, ne_eq, not_false_eq_true, not_true_eq_false, false_implies, implies_true, false_and, and_false, false_or, or_false, if_true, if_false, fr_1_3 hf, fg_1 hf, fv_1 hf, fb_2 hf, pm_ok_ev ev]
  exact Or.inl ⟨by omega, fun q hq => by cases hq; exact ha _ _⟩
/-- one object more, and the array's place p shows it -/
theorem new_ck {V3 : Nat → Nat → Int} {R3 : Nat → Nat → Option Nat} {z : Nat × Nat} (hT : 148 ≤ T.length) (hs : shO V2 R2 T 1 A n) (hf2 : fx R2 T) (hh : hiO V2 R2 T k nx H) (hfl : flg V2) (hn : nwO V2 V3 R2 R3 T) (hz : z.2 ≤ 5) : shO V3 R3 (T ++ [z]) 1 A n ∧ fx R3 (T ++ [z]) ∧ hiO V3 R3 (T ++ [z]) k nx H ∧ flg V3 ∧ grw T (T ++ [z]) := by
  have hg := grw_new (T := T) hz
  refine ⟨shO_keep (hn.1 1 (by omega)) (hn.2 2 (by omega)) (fun q _ hq => hn.1 q (by omega)) hg.2.2 hs, fx_new hf2 (fun q hq => hn.2 q (by omega)) hg.2.2, hiO_keep (hn.1 3 (by omega)) (fun q _ hq => hn.1 q (by omega)) (fun q _ hq => hn.2 q (by omega)) (fun q _ hq => hn.1 q (by omega)) hg.2.2 hh, ?_, hg⟩
  unfold flg at *
  rw [hn.1 0 (by omega), hn.1 119 (by omega), hn.1 125 (by omega)]
  exact hfl
theorem fx_len (hf : fx R T) : 148 ≤ T.length := by
  have := (List.getElem?_eq_some_iff.mp (ft_147 hf)).1
  omega
theorem tg_len (k : Int) : (tgK k).2 ≤ 5 := by
  unfold tgK
  split
  · decide
  · split
    · decide
    · split
      · decide
      · split <;> decide
theorem c_piece_bad (hd : 3 ≤ d) (k l f t : Int) (hk : ¬ pcK k l f t) : pm_ok d 13 [.inr (.inr (some 0)), .inl k, .inl l, .inl f, .inl t] (V, R, T) (fun r h2 => h2 = (V, R, T) ∧ r = some (.inl (-1))) := by
  obtain ⟨d, rfl⟩ : ∃ k, d = k + 1 := ⟨d - 1, by omega⟩
  refine pm_ok_iff.mpr ⟨(Nat.le_of_ble_eq_true rfl), ?_⟩
  show pm_w d 13 0 [some (.inr (.inr (some 0))), some (.inl k), some (.inl l), some (.inl f), some (.inl t)] [] (V, R, T) _
  simp only [ux_13_0, ux_13_1, ux_13_2, ux_13_3, ux_13_5, ux_13_11, ux_13_12, ux_13_13, ux_13_14, ux_13_17, ux_13_20, ux_13_22, ux_13_25, ux_13_27, ux_13_28, ux_13_29, ux_13_32, ux_13_33, ux_13_36, ux_13_37, ux_13_38, ux_13_39, ux_13_41, ux_13_44, ux_13_47, pm_i_c, pm_l_c, pm_q_c, pm_r_c, pm_li_0, pm_li_s, pm_ll_0, pm_ll_s, pm_lq_0, pm_lq_s, pm_s1, pm_s2, pm_kl, pm_wI, pm_wR, pm_pu_n, pm_pu_s, pm_wt, List.take_succ_cons, List.take_zero, List.take_nil, List.drop_succ_cons, List.drop_zero, List.reverse_cons, List.reverse_nil, List.nil_append, List.cons_append, List.length_cons, List.length_nil, true_and, and_true, true_implies, tn_l, tn_0, Int.reduceToNat, Int.reduceLE, Int.reduceLT, Int.reduceEq, Int.reduceAdd, Int.reduceSub, Int.reduceMul, Int.reduceNeg, Nat.reduceAdd, Nat.reduceLeDiff, Nat.reduceEqDiff, Nat.reduceSub, Option.some.injEq, Sum.inl.injEq, Sum.inr.injEq, or_true, true_or, reduceCtorEq, ne_eq, not_false_eq_true, not_true_eq_false, false_implies, implies_true, false_and, and_false, false_or, or_false, if_true, if_false]
  refine pm_ok_mono (c_asTold (d := d) (by omega) k l f t) ?_
  rintro r h2 ⟨rfl, ⟨z, rfl⟩ | ⟨z, rfl⟩⟩
  · exact absurd z hk
  · rw [pm_pu_s, ux_13_8]
    simp only [ux_13_0, ux_13_1, ux_13_2, ux_13_3, ux_13_5, ux_13_11, ux_13_12, ux_13_14, ux_13_17, ux_13_20, ux_13_22, ux_13_25, ux_13_27, ux_13_28, ux_13_29, ux_13_32, ux_13_33, ux_13_36, ux_13_37, ux_13_38, ux_13_39, ux_13_41, ux_13_44, ux_13_47, pm_i_c, pm_l_c, pm_q_c, pm_r_c, pm_li_0, pm_li_s, pm_ll_0, pm_ll_s, pm_lq_0, pm_lq_s, pm_s1, pm_s2, pm_kl, pm_wI, pm_wR, pm_pu_n, pm_pu_s, pm_wt, List.take_succ_cons, List.take_zero, List.take_nil, List.drop_succ_cons, List.drop_zero, List.reverse_cons, List.reverse_nil, List.nil_append, List.cons_append, List.length_cons, List.length_nil, true_and, and_true, true_implies, tn_l, tn_0, Int.reduceToNat, Int.reduceLE, Int.reduceLT, Int.reduceEq, Int.reduceAdd, Int.reduceSub, Int.reduceMul, Int.reduceNeg, Nat.reduceAdd, Nat.reduceLeDiff, Nat.reduceEqDiff, Nat.reduceSub, Option.some.injEq, Sum.inl.injEq, Sum.inr.injEq, or_true, true_or, reduceCtorEq, ne_eq, not_false_eq_true, not_true_eq_false, false_implies, implies_true, false_and, and_false, false_or, or_false, if_true, if_false]
theorem c_piece_full (hd : 3 ≤ d) (hf : fx R T) (k l f t : Int) (hk : pcK k l f t) (h12 : V 1 2 = 12) : pm_ok d 13 [.inr (.inr (some 0)), .inl k, .inl l, .inl f, .inl t] (V, R, T) (fun r h2 => h2 = (V, R, T) ∧ r = some (.inl (-2))) := by
  obtain ⟨d, rfl⟩ : ∃ k, d = k + 1 := ⟨d - 1, by omega⟩
  refine pm_ok_iff.mpr ⟨(Nat.le_of_ble_eq_true rfl), ?_⟩
  show pm_w d 13 0 [some (.inr (.inr (some 0))), some (.inl k), some (.inl l), some (.inl f), some (.inl t)] [] (V, R, T) _
  simp only [ux_13_0, ux_13_1, ux_13_2, ux_13_3, ux_13_5, ux_13_11, ux_13_12, ux_13_13, ux_13_14, ux_13_17, ux_13_20, ux_13_22, ux_13_25, ux_13_27, ux_13_28, ux_13_29, ux_13_32, ux_13_33, ux_13_36, ux_13_37, ux_13_38, ux_13_39, ux_13_41, ux_13_44, ux_13_47, pm_i_c, pm_l_c, pm_q_c, pm_r_c, pm_li_0, pm_li_s, pm_ll_0, pm_ll_s, pm_lq_0, pm_lq_s, pm_s1, pm_s2, pm_kl, pm_wI, pm_wR, pm_pu_n, pm_pu_s, pm_wt, List.take_succ_cons, List.take_zero, List.take_nil, List.drop_succ_cons, List.drop_zero, List.reverse_cons, List.reverse_nil, List.nil_append, List.cons_append, List.length_cons, List.length_nil, true_and, and_true, true_implies, tn_l, tn_0, Int.reduceToNat, Int.reduceLE, Int.reduceLT, Int.reduceEq, Int.reduceAdd, Int.reduceSub, Int.reduceMul, Int.reduceNeg, Nat.reduceAdd, Nat.reduceLeDiff, Nat.reduceEqDiff, Nat.reduceSub, Option.some.injEq, Sum.inl.injEq, Sum.inr.injEq, or_true, true_or, reduceCtorEq, ne_eq, not_false_eq_true, not_true_eq_false, false_implies, implies_true, false_and, and_false, false_or, or_false, if_true, if_false]
  refine pm_ok_mono (c_asTold (d := d) (by omega) k l f t) ?_
  rintro r h2 ⟨rfl, ⟨z, rfl⟩ | ⟨z, rfl⟩⟩
  · rw [pm_pu_s, ux_13_8]
    simp only [ux_13_0, ux_13_1, ux_13_2, ux_13_3, ux_13_5, ux_13_11, ux_13_12, ux_13_13, ux_13_14, ux_13_17, ux_13_20, ux_13_22, ux_13_25, ux_13_27, ux_13_29, ux_13_32, ux_13_33, ux_13_36, ux_13_37, ux_13_38, ux_13_39, ux_13_41, ux_13_44, ux_13_47, pm_i_c, pm_l_c, pm_q_c, pm_r_c, pm_li_0, pm_li_s, pm_ll_0, pm_ll_s, pm_lq_0, pm_lq_s, pm_s1, pm_s2, pm_kl, pm_wI, pm_wR, pm_pu_n, pm_pu_s, pm_wt, List.take_succ_cons, List.take_zero, List.take_nil, List.drop_succ_cons, List.drop_zero, List.reverse_cons, List.reverse_nil, List.nil_append, List.cons_append, List.length_cons, List.length_nil, true_and, and_true, true_implies, tn_l, tn_0, Int.reduceToNat, Int.reduceLE, Int.reduceLT, Int.reduceEq, Int.reduceAdd, Int.reduceSub, Int.reduceMul, Int.reduceNeg, Nat.reduceAdd, Nat.reduceLeDiff, Nat.reduceEqDiff, Nat.reduceSub, Option.some.injEq, Sum.inl.injEq, Sum.inr.injEq, or_true, true_or, reduceCtorEq, ne_eq, not_false_eq_true, not_true_eq_false, false_implies, implies_true, false_and, and_false, false_or, or_false, if_true, if_false, fr_0_0 hf, fr_0_1 hf, fr_0_2 hf, fr_0_3 hf, fr_0_7 hf, fr_0_8 hf, fr_0_11 hf, fr_0_12 hf, fg_0 hf, fv_0 hf, fr_1_3 hf, fg_1 hf, fv_1 hf, h12]
  · exact absurd hk z
theorem c_piece (hd : 5 ≤ d) (hf : fx R T) (hs : shO V R T 1 A n) (hw : wf A n) {kk : Nat} (hh : hiO V R T kk nx H) (k l f t : Int) (hk : pcK k l f t) (hn : n < 12) : pm_ok d 13 [.inr (.inr (some 0)), .inl k, .inl l, .inl f, .inl t] (V, R, T) (ckQ V T A (pcA A n k l f t) (n + 1) kk nx H (n : Int)) := by
  obtain ⟨d, rfl⟩ : ∃ k, d = k + 1 := ⟨d - 1, by omega⟩
  refine pm_ok_iff.mpr ⟨(Nat.le_of_ble_eq_true rfl), ?_⟩
  show pm_w d 13 0 [some (.inr (.inr (some 0))), some (.inl k), some (.inl l), some (.inl f), some (.inl t)] [] (V, R, T) _
  have hT := fx_len hf
  simp only [ux_13_0, ux_13_1, ux_13_2, ux_13_3, ux_13_5, ux_13_11, ux_13_12, ux_13_13, ux_13_14, ux_13_17, ux_13_20, ux_13_22, ux_13_25, ux_13_27, ux_13_28, ux_13_29, ux_13_32, ux_13_33, ux_13_36, ux_13_37, ux_13_38, ux_13_39, ux_13_41, ux_13_44, ux_13_47, pm_i_c, pm_l_c, pm_q_c, pm_r_c, pm_li_0, pm_li_s, pm_ll_0, pm_ll_s, pm_lq_0, pm_lq_s, pm_s1, pm_s2, pm_kl, pm_wI, pm_wR, pm_pu_n, pm_pu_s, pm_wt, List.take_succ_cons, List.take_zero, List.take_nil, List.drop_succ_cons, List.drop_zero, List.reverse_cons, List.reverse_nil, List.nil_append, List.cons_append, List.length_cons, List.length_nil, true_and, and_true, true_implies, tn_l, tn_0, Int.reduceToNat, Int.reduceLE, Int.reduceLT, Int.reduceEq, Int.reduceAdd, Int.reduceSub, Int.reduceMul, Int.reduceNeg, Nat.reduceAdd, Nat.reduceLeDiff, Nat.reduceEqDiff, Nat.reduceSub, Option.some.injEq, Sum.inl.injEq, Sum.inr.injEq, or_true, true_or, reduceCtorEq, ne_eq, not_false_eq_true, not_true_eq_false, false_implies, implies_true, false_and, and_false, false_or, or_false, if_true, if_false]
  refine pm_ok_mono (c_asTold (d := d) (by omega) k l f t) ?_
  rintro r h2 ⟨rfl, ⟨z, rfl⟩ | ⟨z, rfl⟩⟩
  · rw [pm_pu_s, ux_13_8]
    simp only [ux_13_0, ux_13_1, ux_13_2, ux_13_3, ux_13_5, ux_13_11, ux_13_12, ux_13_13, ux_13_14, ux_13_17, ux_13_20, ux_13_22, ux_13_25, ux_13_27, ux_13_28, ux_13_29, ux_13_33, ux_13_36, ux_13_37, ux_13_38, ux_13_39, ux_13_41, ux_13_44, ux_13_47, pm_i_c, pm_l_c, pm_q_c, pm_r_c, pm_li_0, pm_li_s, pm_ll_0, pm_ll_s, pm_lq_0, pm_lq_s, pm_s1, pm_s2, pm_kl, pm_wI, pm_wR, pm_pu_n, pm_pu_s, pm_wt, List.take_succ_cons, List.take_zero, List.take_nil, List.drop_succ_cons, List.drop_zero, List.reverse_cons, List.reverse_nil, List.nil_append, List.cons_append, List.length_cons, List.length_nil, true_and, and_true, true_implies, tn_l, tn_0, Int.reduceToNat, Int.reduceLE, Int.reduceLT, Int.reduceEq, Int.reduceAdd, Int.reduceSub, Int.reduceMul, Int.reduceNeg, Nat.reduceAdd, Nat.reduceLeDiff, Nat.reduceEqDiff, Nat.reduceSub, Option.some.injEq, Sum.inl.injEq, Sum.inr.injEq, or_true, true_or, reduceCtorEq, ne_eq, not_false_eq_true, not_true_eq_false, false_implies, implies_true, false_and, and_false, false_or, or_false, if_true, if_false, fr_0_0 hf, fr_0_1 hf, fr_0_2 hf, fr_0_3 hf, fr_0_7 hf, fr_0_8 hf, fr_0_11 hf, fr_0_12 hf, fg_0 hf, fv_0 hf, fr_1_3 hf, fg_1 hf, fv_1 hf, hs.2.2.1]
    refine ⟨fun _ => ?_, fun z => absurd (by omega) z⟩
    refine pm_ok_mono (c_startChange (d := d) (by omega) hf hs hw hh) ?_
    rintro r h2 ⟨V2, R2, rfl, rfl, a1, a2, hf2, a4, a5⟩
    have hs2 := sc_sh hs a1 a2
    rw [pm_pu_n, ux_13_32]
    simp only [ux_13_0, ux_13_1, ux_13_2, ux_13_3, ux_13_5, ux_13_11, ux_13_12, ux_13_13, ux_13_14, ux_13_17, ux_13_20, ux_13_22, ux_13_25, ux_13_27, ux_13_28, ux_13_29, ux_13_33, ux_13_36, ux_13_37, ux_13_38, ux_13_39, ux_13_41, ux_13_47, pm_i_c, pm_l_c, pm_q_c, pm_r_c, pm_li_0, pm_li_s, pm_ll_0, pm_ll_s, pm_lq_0, pm_lq_s, pm_s1, pm_s2, pm_kl, pm_wI, pm_wR, pm_pu_n, pm_pu_s, pm_wt, List.take_succ_cons, List.take_zero, List.take_nil, List.drop_succ_cons, List.drop_zero, List.reverse_cons, List.reverse_nil, List.nil_append, List.cons_append, List.length_cons, List.length_nil, true_and, and_true, true_implies, tn_l, tn_0, Int.reduceToNat, Int.reduceLE, Int.reduceLT, Int.reduceEq, Int.reduceAdd, Int.reduceSub, Int.reduceMul, Int.reduceNeg, Nat.reduceAdd, Nat.reduceLeDiff, Nat.reduceEqDiff, Nat.reduceSub, Option.some.injEq, Sum.inl.injEq, Sum.inr.injEq, or_true, true_or, reduceCtorEq, ne_eq, not_false_eq_true, not_true_eq_false, false_implies, implies_true, false_and, and_false, false_or, or_false, if_true, if_false, fr_0_0 hf2, fg_0 hf2]
    refine pm_ok_mono (c_newPiece (d := d) (V := V2) (R := R2) (T := T) (n := n) (by omega) hn hT k l f t hk) ?_
    rintro r h3 ⟨V3, R3, rfl, rfl, b1, b2⟩
    obtain ⟨s3, f3, h3, fl3, g3⟩ := new_ck hT hs2 hf2 a4 a5 b1 (tg_len k)
    have hob : ∀ (V : Nat → Nat → Int) (R : Nat → Nat → Option Nat), pm_tgs (V, R, T ++ [tgK k]) T.length [0, 2, 6, 9, 10] := fun _ _ => ⟨_, _, tgK_mem k, nw_at⟩
    rw [pm_pu_s, ux_13_44]
    simp only [ux_13_0, ux_13_1, ux_13_2, ux_13_3, ux_13_5, ux_13_11, ux_13_12, ux_13_13, ux_13_14, ux_13_17, ux_13_20, ux_13_22, ux_13_25, ux_13_27, ux_13_28, ux_13_29, ux_13_33, ux_13_36, ux_13_37, ux_13_38, ux_13_39, ux_13_41, ux_13_47, pm_i_c, pm_l_c, pm_q_c, pm_r_c, pm_li_0, pm_li_s, pm_ll_0, pm_ll_s, pm_lq_0, pm_lq_s, pm_s1, pm_s2, pm_kl, pm_wI, pm_wR, pm_pu_n, pm_pu_s, pm_wt, List.take_succ_cons, List.take_zero, List.take_nil, List.drop_succ_cons, List.drop_zero, List.reverse_cons, List.reverse_nil, List.nil_append, List.cons_append, List.length_cons, List.length_nil, true_and, and_true, true_implies, tn_l, tn_0, Int.reduceToNat, Int.reduceLE, Int.reduceLT, Int.reduceEq, Int.reduceAdd, Int.reduceSub, Int.reduceMul, Int.reduceNeg, Nat.reduceAdd, Nat.reduceLeDiff, Nat.reduceEqDiff, Nat.reduceSub, Option.some.injEq, Sum.inl.injEq, Sum.inr.injEq, or_true, true_or, reduceCtorEq, ne_eq, not_false_eq_true, not_true_eq_false, false_implies, implies_true, false_and, and_false, false_or, or_false, if_true, if_false, fv_1 f3, pm_ok_ev (c_add (d := d) (V := V3) (R := R3) (by omega) f3 s3.2.2.1 hn hob)]
    obtain ⟨p0, p1, p2⟩ := pcA_hd (A := A) (n := n) (k := k) (l := l) (f := f) (t := t)
    have e : ∀ q, q ≠ 1 → pm_up V3 1 2 ((n + 1 : Nat) : Int) q = V3 q := fun q hq => pm_up_fr hq
    refine ⟨_, _, _, rfl, rfl, fx_up f3 (Or.inl rfl), fun q h1 h2 => ?_, ⟨?_, ?_, pm_up_eq, fun p hp => ?_, fun p h1 h2 => ?_⟩, hiO_keep (e 3 (by decide)) (fun q h1 _ => e q (by omega)) (fun q h1 h2 => pm_up_fr (by omega)) (fun q h1 _ => e q (by omega)) (fun _ _ z => z) h3, ?_, g3⟩
    · rw [e q (by omega), b1.1 q (by omega)]; exact a1 q (by omega)
    · rw [pm_up_ne (by omega), p0]; exact s3.1
    · rw [pm_up_ne (by omega), p1]; exact s3.2.1
    · by_cases ep : p = n
      · subst ep
        refine ⟨T.length, by rw [pm_up_row]; exact if_pos rfl, pcO_keep (fun q hq _ => e q (by omega)) (fun _ _ z => z) (b2 A)⟩
      · obtain ⟨a, c1, c2⟩ := s3.2.2.2.1 p (by omega)
        refine ⟨a, by rw [pm_up_ne (by omega)]; exact c1, ?_⟩
        obtain ⟨x1, x2, x3, x4, x5, x6, x7⟩ := pcA_old (A := A) (n := n) (q := p) (k := k) (l := l) (f := f) (t := t) (by omega) hn
        exact pcO_of x1 x2 x3 x4 x5 x6 x7 (pcO_keep (fun q hq _ => e q (by omega)) (fun _ _ z => z) c2)
    · rw [pm_up_ne (by omega)]
      exact s3.2.2.2.2 p (by omega) h2
    · unfold flg at *
      rw [e 0 (by decide), e 119 (by decide), e 125 (by decide)]
      exact fl3
  · exact absurd hk z
/-- ways -/
theorem c_ways_bad (hd : 3 ≤ d) (hf : fx R T) (hs : shO V R T 1 A n) (hn : n ≤ 12) (x y : Int) (hb : ¬ ((0 ≤ x ∧ x < n) ∧ 2 ≤ y ∧ y ≤ 6)) : pm_ev d 23 [.inr (.inr (some 0)), .inl x, .inl y] (V, R, T) (some (.inl (-1))) (V, R, T) := by
  refine pm_ev_of (by omega) (Nat.le_of_ble_eq_true rfl) ?_
  show pm_w (d - 1) 23 0 [some (.inr (.inr (some 0))), some (.inl x), some (.inl y), none, none] [] (V, R, T) _
  simp only [ux_23_0, ux_23_1, ux_23_4, ux_23_5, ux_23_8, ux_23_11, ux_23_12, ux_23_13, ux_23_16, ux_23_17, ux_23_19, ux_23_22, ux_23_23, ux_23_25, ux_23_28, ux_23_29, ux_23_32, ux_23_34, ux_23_36, ux_23_39, ux_23_42, ux_23_44, ux_23_47, ux_23_48, ux_23_49, ux_23_52, ux_23_53, ux_23_56, ux_23_57, ux_23_60, ux_23_61, ux_23_62, ux_23_65, ux_23_66, ux_23_69, ux_23_70, ux_23_73, ux_23_74, ux_23_77, ux_23_80, ux_23_81, ux_23_84, ux_23_85, ux_23_87, pm_i_c, pm_l_c, pm_q_c, pm_r_c, pm_li_0, pm_li_s, pm_ll_0, pm_ll_s, pm_lq_0, pm_lq_s, pm_s1, pm_s2, pm_kl, pm_wI, pm_wR, pm_pu_n, pm_pu_s, pm_wt, List.take_succ_cons, List.take_zero, List.take_nil, List.drop_succ_cons, List.drop_zero, List.reverse_cons, List.reverse_nil, List.nil_append, List.cons_append, List.length_cons, List.length_nil, true_and, and_true, true_implies, tn_l, tn_0, Int.reduceToNat, Int.reduceLE, Int.reduceLT, Int.reduceEq, Int.reduceAdd, Int.reduceSub, Int.reduceMul, Int.reduceNeg, Nat.reduceAdd, Nat.reduceLeDiff, Nat.reduceEqDiff, Nat.reduceSub, Option.some.injEq, Sum.inl.injEq, Sum.inr.injEq, or_true, true_or, reduceCtorEq, ne_eq, not_false_eq_true, not_true_eq_false, false_implies, implies_true, false_and, and_false, false_or, or_false, if_true, if_false, fr_0_0 hf, fr_0_1 hf, fr_0_2 hf, fr_0_3 hf, fr_0_7 hf, fr_0_8 hf, fr_0_11 hf, fr_0_12 hf, fg_0 hf, fv_0 hf, fr_1_3 hf, fg_1 hf, fv_1 hf, pm_ok_ev (c_has (d := d - 1) (by omega) hf hs hn x)]
  by_cases c : 0 ≤ x ∧ x < n
  · rw [if_pos c]
    refine fun z => fun z2 => fun z3 => absurd ⟨c, by omega⟩ hb
  · rw [if_neg c]
    exact fun z => absurd rfl z
theorem c_ways_cast (hd : 3 ≤ d) (hf : fx R T) (hs : shO V R T 1 A n) (hn : n ≤ 12) (hp : p < n) (y : Int) (hy : 2 ≤ y ∧ y ≤ 6) (hk : A (3 + p) ≠ 3) : pm_ev d 23 [.inr (.inr (some 0)), .inl (p : Int), .inl y] (V, R, T) (some (.inl (-13))) (V, R, T) := by
  refine pm_ev_of (by omega) (Nat.le_of_ble_eq_true rfl) ?_
  show pm_w (d - 1) 23 0 [some (.inr (.inr (some 0))), some (.inl (p : Int)), some (.inl y), none, none] [] (V, R, T) _
  obtain ⟨a, e, ho⟩ := hs.2.2.2.1 p hp
  have e : R 2 p = some a := e
  have ev := c_pieceAt (d := d - 1) (by omega) hf hs.2.2.1 hn (p : Int)
  rw [if_pos (by omega), Int.toNat_natCast, e] at ev
  have ev2 := c_has (d := d - 1) (by omega) hf hs hn (p : Int)
  rw [if_pos (by omega)] at ev2
  simp only [ux_23_0, ux_23_1, ux_23_4, ux_23_5, ux_23_8, ux_23_11, ux_23_12, ux_23_13, ux_23_16, ux_23_17, ux_23_19, ux_23_22, ux_23_23, ux_23_25, ux_23_28, ux_23_29, ux_23_32, ux_23_34, ux_23_36, ux_23_39, ux_23_42, ux_23_44, ux_23_47, ux_23_48, ux_23_49, ux_23_52, ux_23_53, ux_23_56, ux_23_57, ux_23_60, ux_23_61, ux_23_62, ux_23_65, ux_23_66, ux_23_69, ux_23_70, ux_23_73, ux_23_74, ux_23_77, ux_23_80, ux_23_81, ux_23_84, ux_23_85, ux_23_87, pm_i_c, pm_l_c, pm_q_c, pm_r_c, pm_li_0, pm_li_s, pm_ll_0, pm_ll_s, pm_lq_0, pm_lq_s, pm_s1, pm_s2, pm_kl, pm_wI, pm_wR, pm_pu_n, pm_pu_s, pm_wt, List.take_succ_cons, List.take_zero, List.take_nil, List.drop_succ_cons, List.drop_zero, List.reverse_cons, List.reverse_nil, List.nil_append, List.cons_append, List.length_cons, List.length_nil, true_and, and_true, true_implies, tn_l, tn_0, Int.reduceToNat, Int.reduceLE, Int.reduceLT, Int.reduceEq, Int.reduceAdd, Int.reduceSub, Int.reduceMul, Int.reduceNeg, Nat.reduceAdd, Nat.reduceLeDiff, Nat.reduceEqDiff, Nat.reduceSub, Option.some.injEq, Sum.inl.injEq, Sum.inr.injEq, or_true, true_or, reduceCtorEq, ne_eq, not_false_eq_true, not_true_eq_false, false_implies, implies_true, false_and, and_false, false_or, or_false, if_true, if_false, fr_0_0 hf, fr_0_1 hf, fr_0_2 hf, fr_0_3 hf, fr_0_7 hf, fr_0_8 hf, fr_0_11 hf, fr_0_12 hf, fg_0 hf, fv_0 hf, fr_1_3 hf, fg_1 hf, fv_1 hf, pm_ok_ev ev2]
  refine ⟨fun z => by omega, fun z => ⟨fun z2 => ?_, fun z2 => absurd hy.2 z2⟩⟩
  rw [ux_23_24]
  simp only [ux_23_0, ux_23_1, ux_23_4, ux_23_5, ux_23_8, ux_23_11, ux_23_12, ux_23_13, ux_23_16, ux_23_17, ux_23_19, ux_23_22, ux_23_23, ux_23_25, ux_23_28, ux_23_29, ux_23_32, ux_23_34, ux_23_39, ux_23_44, ux_23_47, ux_23_48, ux_23_49, ux_23_52, ux_23_53, ux_23_56, ux_23_57, ux_23_60, ux_23_61, ux_23_62, ux_23_65, ux_23_66, ux_23_69, ux_23_70, ux_23_73, ux_23_74, ux_23_77, ux_23_80, ux_23_81, ux_23_84, ux_23_87, pm_i_c, pm_l_c, pm_q_c, pm_r_c, pm_li_0, pm_li_s, pm_ll_0, pm_ll_s, pm_lq_0, pm_lq_s, pm_s1, pm_s2, pm_kl, pm_wI, pm_wR, pm_pu_n, pm_pu_s, pm_wt, List.take_succ_cons, List.take_zero, List.take_nil, List.drop_succ_cons, List.drop_zero, List.reverse_cons, List.reverse_nil, List.nil_append, List.cons_append, List.length_cons, List.length_nil, true_and, and_true, true_implies, tn_l, tn_0, Int.reduceToNat, Int.reduceLE, Int.reduceLT, Int.reduceEq, Int.reduceAdd, Int.reduceSub, Int.reduceMul, Int.reduceNeg, Nat.reduceAdd, Nat.reduceLeDiff, Nat.reduceEqDiff, Nat.reduceSub, Option.some.injEq, Sum.inl.injEq, Sum.inr.injEq, or_true, true_or, reduceCtorEq, ne_eq, not_false_eq_true, not_true_eq_false, false_implies, implies_true, false_and, and_false, false_or, or_false, if_true, if_false, fr_0_0 hf, fr_0_1 hf, fr_0_2 hf, fr_0_3 hf, fr_0_7 hf, fr_0_8 hf, fr_0_11 hf, fr_0_12 hf, fg_0 hf, fv_0 hf, fr_1_3 hf, fg_1 hf, fv_1 hf, pm_ok_ev ev]
  rw [ux_23_36]
  simp only [ux_23_0, ux_23_1, ux_23_4, ux_23_5, ux_23_8, ux_23_11, ux_23_12, ux_23_13, ux_23_16, ux_23_17, ux_23_19, ux_23_22, ux_23_23, ux_23_25, ux_23_28, ux_23_29, ux_23_32, ux_23_34, ux_23_39, ux_23_44, ux_23_47, ux_23_48, ux_23_49, ux_23_52, ux_23_53, ux_23_56, ux_23_57, ux_23_60, ux_23_61, ux_23_62, ux_23_65, ux_23_66, ux_23_69, ux_23_70, ux_23_73, ux_23_74, ux_23_77, ux_23_80, ux_23_81, ux_23_84, ux_23_87, pm_i_c, pm_l_c, pm_q_c, pm_r_c, pm_li_0, pm_li_s, pm_ll_0, pm_ll_s, pm_lq_0, pm_lq_s, pm_s1, pm_s2, pm_kl, pm_wI, pm_wR, pm_pu_n, pm_pu_s, pm_wt, List.take_succ_cons, List.take_zero, List.take_nil, List.drop_succ_cons, List.drop_zero, List.reverse_cons, List.reverse_nil, List.nil_append, List.cons_append, List.length_cons, List.length_nil, true_and, and_true, true_implies, tn_l, tn_0, Int.reduceToNat, Int.reduceLE, Int.reduceLT, Int.reduceEq, Int.reduceAdd, Int.reduceSub, Int.reduceMul, Int.reduceNeg, Nat.reduceAdd, Nat.reduceLeDiff, Nat.reduceEqDiff, Nat.reduceSub, Option.some.injEq, Sum.inl.injEq, Sum.inr.injEq, or_true, true_or, reduceCtorEq, ne_eq, not_false_eq_true, not_true_eq_false, false_implies, implies_true, false_and, and_false, false_or, or_false, if_true, if_false, fr_0_0 hf, fr_0_1 hf, fr_0_2 hf, fr_0_3 hf, fr_0_7 hf, fr_0_8 hf, fr_0_11 hf, fr_0_12 hf, fg_0 hf, fv_0 hf, fr_1_3 hf, fg_1 hf, fv_1 hf]
  intro a' ha'
  cases ha'
  refine ⟨(tgK (A (3 + p))).1, (tgK (A (3 + p))).2, ho.1, tgK_mem _, ?_⟩
  rw [cn_spl, if_neg hk]
  refine ⟨fun _ => ?_, fun z => absurd rfl z⟩
  rw [ux_23_85]
  simp only [ux_23_0, ux_23_1, ux_23_4, ux_23_5, ux_23_8, ux_23_11, ux_23_12, ux_23_13, ux_23_16, ux_23_17, ux_23_19, ux_23_22, ux_23_23, ux_23_25, ux_23_28, ux_23_29, ux_23_32, ux_23_34, ux_23_39, ux_23_44, ux_23_47, ux_23_48, ux_23_49, ux_23_52, ux_23_53, ux_23_56, ux_23_57, ux_23_60, ux_23_61, ux_23_62, ux_23_65, ux_23_66, ux_23_69, ux_23_70, ux_23_73, ux_23_74, ux_23_77, ux_23_80, ux_23_81, ux_23_84, ux_23_87, pm_i_c, pm_l_c, pm_q_c, pm_r_c, pm_li_0, pm_li_s, pm_ll_0, pm_ll_s, pm_lq_0, pm_lq_s, pm_s1, pm_s2, pm_kl, pm_wI, pm_wR, pm_pu_n, pm_pu_s, pm_wt, List.take_succ_cons, List.take_zero, List.take_nil, List.drop_succ_cons, List.drop_zero, List.reverse_cons, List.reverse_nil, List.nil_append, List.cons_append, List.length_cons, List.length_nil, true_and, and_true, true_implies, tn_l, tn_0, Int.reduceToNat, Int.reduceLE, Int.reduceLT, Int.reduceEq, Int.reduceAdd, Int.reduceSub, Int.reduceMul, Int.reduceNeg, Nat.reduceAdd, Nat.reduceLeDiff, Nat.reduceEqDiff, Nat.reduceSub, Option.some.injEq, Sum.inl.injEq, Sum.inr.injEq, or_true, true_or, reduceCtorEq, ne_eq, not_false_eq_true, not_true_eq_false, false_implies, implies_true, false_and, and_false, false_or, or_false, if_true, if_false]
theorem c_ways (hd : 4 ≤ d) (hf : fx R T) (hs : shO V R T 1 A n) (hw : wf A n) (hh : hiO V R T k nx H) (hp : p < n) (y : Int) (hy : 2 ≤ y ∧ y ≤ 6) (hk : A (3 + p) = 3) : pm_ok d 23 [.inr (.inr (some 0)), .inl (p : Int), .inl y] (V, R, T) (ckQ V T A (fun j => if j = 51 + p then y else A j) n k nx H (A (51 + p))) := by
  obtain ⟨d, rfl⟩ : ∃ k, d = k + 1 := ⟨d - 1, by omega⟩
  refine pm_ok_iff.mpr ⟨(Nat.le_of_ble_eq_true rfl), ?_⟩
  show pm_w d 23 0 [some (.inr (.inr (some 0))), some (.inl (p : Int)), some (.inl y), none, none] [] (V, R, T) _
  have hn := hw.1
  have hT := fx_len hf
  obtain ⟨a, e, ho⟩ := hs.2.2.2.1 p hp
  have e : R 2 p = some a := e
  have ev := c_pieceAt (d := d) (by omega) hf hs.2.2.1 hn (p : Int)
  rw [if_pos (by omega), Int.toNat_natCast, e] at ev
  have ev2 := c_has (d := d) (by omega) hf hs hn (p : Int)
  rw [if_pos (by omega)] at ev2
  simp only [ux_23_0, ux_23_1, ux_23_4, ux_23_5, ux_23_8, ux_23_11, ux_23_12, ux_23_13, ux_23_16, ux_23_17, ux_23_19, ux_23_22, ux_23_23, ux_23_25, ux_23_28, ux_23_29, ux_23_32, ux_23_34, ux_23_36, ux_23_39, ux_23_42, ux_23_44, ux_23_47, ux_23_48, ux_23_49, ux_23_52, ux_23_53, ux_23_56, ux_23_57, ux_23_60, ux_23_61, ux_23_62, ux_23_65, ux_23_66, ux_23_69, ux_23_70, ux_23_73, ux_23_74, ux_23_77, ux_23_80, ux_23_81, ux_23_84, ux_23_85, ux_23_87, pm_i_c, pm_l_c, pm_q_c, pm_r_c, pm_li_0, pm_li_s, pm_ll_0, pm_ll_s, pm_lq_0, pm_lq_s, pm_s1, pm_s2, pm_kl, pm_wI, pm_wR, pm_pu_n, pm_pu_s, pm_wt, List.take_succ_cons, List.take_zero, List.take_nil, List.drop_succ_cons, List.drop_zero, List.reverse_cons, List.reverse_nil, List.nil_append, List.cons_append, List.length_cons, List.length_nil, true_and, and_true, true_implies, tn_l, tn_0, Int.reduceToNat, Int.reduceLE, Int.reduceLT, Int.reduceEq, Int.reduceAdd, Int.reduceSub, Int.reduceMul, Int.reduceNeg, Nat.reduceAdd, Nat.reduceLeDiff, Nat.reduceEqDiff, Nat.reduceSub, Option.some.injEq, Sum.inl.injEq, Sum.inr.injEq, or_true, true_or, reduceCtorEq, ne_eq, not_false_eq_true, not_true_eq_false, false_implies, implies_true, false_and, and_false, false_or, or_false, if_true, if_false, fr_0_0 hf, fr_0_1 hf, fr_0_2 hf, fr_0_3 hf, fr_0_7 hf, fr_0_8 hf, fr_0_11 hf, fr_0_12 hf, fg_0 hf, fv_0 hf, fr_1_3 hf, fg_1 hf, fv_1 hf, pm_ok_ev ev2]
  refine ⟨fun z => by omega, fun z => ⟨fun z2 => ?_, fun z2 => absurd hy.2 z2⟩⟩
  rw [ux_23_24]
  simp only [ux_23_0, ux_23_1, ux_23_4, ux_23_5, ux_23_8, ux_23_11, ux_23_12, ux_23_13, ux_23_16, ux_23_17, ux_23_19, ux_23_22, ux_23_23, ux_23_25, ux_23_28, ux_23_29, ux_23_32, ux_23_34, ux_23_39, ux_23_44, ux_23_47, ux_23_48, ux_23_49, ux_23_52, ux_23_53, ux_23_56, ux_23_57, ux_23_60, ux_23_61, ux_23_62, ux_23_65, ux_23_66, ux_23_69, ux_23_70, ux_23_73, ux_23_74, ux_23_77, ux_23_80, ux_23_81, ux_23_84, ux_23_87, pm_i_c, pm_l_c, pm_q_c, pm_r_c, pm_li_0, pm_li_s, pm_ll_0, pm_ll_s, pm_lq_0, pm_lq_s, pm_s1, pm_s2, pm_kl, pm_wI, pm_wR, pm_pu_n, pm_pu_s, pm_wt, List.take_succ_cons, List.take_zero, List.take_nil, List.drop_succ_cons, List.drop_zero, List.reverse_cons, List.reverse_nil, List.nil_append, List.cons_append, List.length_cons, List.length_nil, true_and, and_true, true_implies, tn_l, tn_0, Int.reduceToNat, Int.reduceLE, Int.reduceLT, Int.reduceEq, Int.reduceAdd, Int.reduceSub, Int.reduceMul, Int.reduceNeg, Nat.reduceAdd, Nat.reduceLeDiff, Nat.reduceEqDiff, Nat.reduceSub, Option.some.injEq, Sum.inl.injEq, Sum.inr.injEq, or_true, true_or, reduceCtorEq, ne_eq, not_false_eq_true, not_true_eq_false, false_implies, implies_true, false_and, and_false, false_or, or_false, if_true, if_false, fr_0_0 hf, fr_0_1 hf, fr_0_2 hf, fr_0_3 hf, fr_0_7 hf, fr_0_8 hf, fr_0_11 hf, fr_0_12 hf, fg_0 hf, fv_0 hf, fr_1_3 hf, fg_1 hf, fv_1 hf, pm_ok_ev ev]
  rw [ux_23_36]
  simp only [ux_23_0, ux_23_1, ux_23_4, ux_23_5, ux_23_8, ux_23_11, ux_23_12, ux_23_13, ux_23_16, ux_23_17, ux_23_19, ux_23_22, ux_23_23, ux_23_25, ux_23_28, ux_23_29, ux_23_32, ux_23_34, ux_23_39, ux_23_44, ux_23_47, ux_23_48, ux_23_49, ux_23_52, ux_23_53, ux_23_56, ux_23_57, ux_23_60, ux_23_61, ux_23_62, ux_23_65, ux_23_66, ux_23_69, ux_23_70, ux_23_73, ux_23_74, ux_23_77, ux_23_80, ux_23_81, ux_23_84, ux_23_87, pm_i_c, pm_l_c, pm_q_c, pm_r_c, pm_li_0, pm_li_s, pm_ll_0, pm_ll_s, pm_lq_0, pm_lq_s, pm_s1, pm_s2, pm_kl, pm_wI, pm_wR, pm_pu_n, pm_pu_s, pm_wt, List.take_succ_cons, List.take_zero, List.take_nil, List.drop_succ_cons, List.drop_zero, List.reverse_cons, List.reverse_nil, List.nil_append, List.cons_append, List.length_cons, List.length_nil, true_and, and_true, true_implies, tn_l, tn_0, Int.reduceToNat, Int.reduceLE, Int.reduceLT, Int.reduceEq, Int.reduceAdd, Int.reduceSub, Int.reduceMul, Int.reduceNeg, Nat.reduceAdd, Nat.reduceLeDiff, Nat.reduceEqDiff, Nat.reduceSub, Option.some.injEq, Sum.inl.injEq, Sum.inr.injEq, or_true, true_or, reduceCtorEq, ne_eq, not_false_eq_true, not_true_eq_false, false_implies, implies_true, false_and, and_false, false_or, or_false, if_true, if_false, fr_0_0 hf, fr_0_1 hf, fr_0_2 hf, fr_0_3 hf, fr_0_7 hf, fr_0_8 hf, fr_0_11 hf, fr_0_12 hf, fg_0 hf, fv_0 hf, fr_1_3 hf, fg_1 hf, fv_1 hf]
  intro a' ha'
  cases ha'
  refine ⟨(tgK (A (3 + p))).1, (tgK (A (3 + p))).2, ho.1, tgK_mem _, ?_⟩
  rw [cn_spl, if_pos hk]
  refine ⟨fun z => absurd z (by decide), fun _ => ?_⟩
  have h94 : T[a]? = some (9, 4) := by have := ho.1; rw [hk] at this; exact this
  rw [ux_23_42]
  simp only [ux_23_0, ux_23_1, ux_23_4, ux_23_5, ux_23_8, ux_23_11, ux_23_12, ux_23_13, ux_23_16, ux_23_17, ux_23_19, ux_23_22, ux_23_23, ux_23_25, ux_23_28, ux_23_29, ux_23_32, ux_23_34, ux_23_39, ux_23_44, ux_23_47, ux_23_48, ux_23_49, ux_23_53, ux_23_56, ux_23_57, ux_23_60, ux_23_61, ux_23_62, ux_23_65, ux_23_66, ux_23_69, ux_23_70, ux_23_73, ux_23_74, ux_23_77, ux_23_80, ux_23_81, ux_23_84, ux_23_87, pm_i_c, pm_l_c, pm_q_c, pm_r_c, pm_li_0, pm_li_s, pm_ll_0, pm_ll_s, pm_lq_0, pm_lq_s, pm_s1, pm_s2, pm_kl, pm_wI, pm_wR, pm_pu_n, pm_pu_s, pm_wt, List.take_succ_cons, List.take_zero, List.take_nil, List.drop_succ_cons, List.drop_zero, List.reverse_cons, List.reverse_nil, List.nil_append, List.cons_append, List.length_cons, List.length_nil, true_and, and_true, true_implies, tn_l, tn_0, Int.reduceToNat, Int.reduceLE, Int.reduceLT, Int.reduceEq, Int.reduceAdd, Int.reduceSub, Int.reduceMul, Int.reduceNeg, Nat.reduceAdd, Nat.reduceLeDiff, Nat.reduceEqDiff, Nat.reduceSub, Option.some.injEq, Sum.inl.injEq, Sum.inr.injEq, or_true, true_or, reduceCtorEq, ne_eq, not_false_eq_true, not_true_eq_false, false_implies, implies_true, false_and, and_false, false_or, or_false, if_true, if_false, fv_0 hf]
  refine ⟨9, 4, h94, ⟨by decide, by decide +kernel⟩, ?_⟩
  refine pm_ok_mono (c_startChange (d := d) (by omega) hf hs hw hh) ?_
  rintro r h2 ⟨V2, R2, rfl, rfl, a1, a2, hf2, a4, a5⟩
  have hs2 := sc_sh hs a1 a2
  have tga : ∀ (V : Nat → Nat → Int) (R : Nat → Nat → Option Nat) (z : Nat × Nat), pm_tgs (V, R, T ++ [z]) a [0, 2, 6, 9, 10] := fun V R z => ⟨9, 4, by decide, by rw [List.getElem?_append_left (List.getElem?_eq_some_iff.mp h94).1]; exact h94⟩
  have tg9 : ∀ (V : Nat → Nat → Int) (R : Nat → Nat → Option Nat) (z : Nat × Nat), pm_tgs (V, R, T ++ [z]) a [9] := fun V R z => ⟨9, 4, by decide, by rw [List.getElem?_append_left (List.getElem?_eq_some_iff.mp h94).1]; exact h94⟩
  have hal2 : a < T.length := (List.getElem?_eq_some_iff.mp h94).1
  have ha148 := ho.2.2.2.2.2.2.2
  rw [pm_pu_n, ux_23_52]
  simp only [ux_23_0, ux_23_1, ux_23_4, ux_23_5, ux_23_8, ux_23_11, ux_23_12, ux_23_13, ux_23_16, ux_23_17, ux_23_19, ux_23_22, ux_23_23, ux_23_25, ux_23_28, ux_23_29, ux_23_32, ux_23_34, ux_23_39, ux_23_44, ux_23_47, ux_23_48, ux_23_49, ux_23_53, ux_23_56, ux_23_60, ux_23_61, ux_23_62, ux_23_65, ux_23_66, ux_23_69, ux_23_70, ux_23_73, ux_23_74, ux_23_77, ux_23_80, ux_23_81, ux_23_84, ux_23_87, pm_i_c, pm_l_c, pm_q_c, pm_r_c, pm_li_0, pm_li_s, pm_ll_0, pm_ll_s, pm_lq_0, pm_lq_s, pm_s1, pm_s2, pm_kl, pm_wI, pm_wR, pm_pu_n, pm_pu_s, pm_wt, List.take_succ_cons, List.take_zero, List.take_nil, List.drop_succ_cons, List.drop_zero, List.reverse_cons, List.reverse_nil, List.nil_append, List.cons_append, List.length_cons, List.length_nil, true_and, and_true, true_implies, tn_l, tn_0, Int.reduceToNat, Int.reduceLE, Int.reduceLT, Int.reduceEq, Int.reduceAdd, Int.reduceSub, Int.reduceMul, Int.reduceNeg, Nat.reduceAdd, Nat.reduceLeDiff, Nat.reduceEqDiff, Nat.reduceSub, Option.some.injEq, Sum.inl.injEq, Sum.inr.injEq, or_true, true_or, reduceCtorEq, ne_eq, not_false_eq_true, not_true_eq_false, false_implies, implies_true, false_and, and_false, false_or, or_false, if_true, if_false, fr_0_0 hf2, fg_0 hf2]
  rw [ux_23_57]
  show pm_w d 23 60 _ _ (pm_nw (V2, R2, T) (tgK 3).1 (tgK 3).2) _
  rw [nw_V]
  have eVa : ∀ j, (fun (q j : Nat) => if q = T.length then (0 : Int) else V2 q j) a j = V a j := fun j => by
    show (if a = T.length then (0 : Int) else V2 a j) = _
    rw [if_neg (by omega), a1 a (by omega)]
  simp only [ux_23_0, ux_23_1, ux_23_4, ux_23_5, ux_23_8, ux_23_11, ux_23_12, ux_23_13, ux_23_16, ux_23_17, ux_23_19, ux_23_22, ux_23_23, ux_23_25, ux_23_28, ux_23_29, ux_23_32, ux_23_34, ux_23_39, ux_23_44, ux_23_47, ux_23_48, ux_23_49, ux_23_53, ux_23_56, ux_23_60, ux_23_61, ux_23_62, ux_23_65, ux_23_66, ux_23_69, ux_23_70, ux_23_73, ux_23_74, ux_23_80, ux_23_81, ux_23_84, ux_23_87, pm_i_c, pm_l_c, pm_q_c, pm_r_c, pm_li_0, pm_li_s, pm_ll_0, pm_ll_s, pm_lq_0, pm_lq_s, pm_s1, pm_s2, pm_kl, pm_wI, pm_wR, pm_pu_n, pm_pu_s, pm_wt, List.take_succ_cons, List.take_zero, List.take_nil, List.drop_succ_cons, List.drop_zero, List.reverse_cons, List.reverse_nil, List.nil_append, List.cons_append, List.length_cons, List.length_nil, true_and, and_true, true_implies, tn_l, tn_0, Int.reduceToNat, Int.reduceLE, Int.reduceLT, Int.reduceEq, Int.reduceAdd, Int.reduceSub, Int.reduceMul, Int.reduceNeg, Nat.reduceAdd, Nat.reduceLeDiff, Nat.reduceEqDiff, Nat.reduceSub, Option.some.injEq, Sum.inl.injEq, Sum.inr.injEq, or_true, true_or, reduceCtorEq, ne_eq, not_false_eq_true, not_true_eq_false, false_implies, implies_true, false_and, and_false, false_or, or_false, if_true, if_false, tga, pm_ok_ev (k_20 (d := d) (a := T.length) (T := T ++ [tgK 3]) (by omega) nw_at _ _ _ _)]
  have e0 := eVa 0
  have e1 := eVa 1
  have e2 := eVa 2
  simp only [if_neg (show ¬ a = T.length by omega), a1 a (by omega)]
  generalize hV3 : pm_up (pm_up (pm_up (pm_up (fun q j => if q = T.length then (0 : Int) else V2 q j) T.length 0 (V a 0)) T.length 1 (V a 1)) T.length 2 (V a 2)) T.length 3 y = V3
  generalize hR3 : (fun (q j : Nat) => if q = T.length then none else R2 q j) = R3
  have hno : nwO V2 V3 R2 R3 T := by
    refine ⟨fun q hq => ?_, fun q hq => ?_⟩
    · rw [← hV3, pm_up_fr hq, pm_up_fr hq, pm_up_fr hq, pm_up_fr hq]; exact nw_Vq q hq
    · rw [← hR3]; exact nw_R q hq
  obtain ⟨s3, f3, h3, fl3, g3⟩ := new_ck (z := tgK 3) hT hs2 hf2 a4 a5 hno (tg_len 3)
  have hob : ∀ (V : Nat → Nat → Int) (R : Nat → Nat → Option Nat), pm_tgs (V, R, T ++ [tgK 3]) T.length [0, 2, 6, 9, 10] := fun _ _ => ⟨_, _, tgK_mem 3, nw_at⟩
  rw [ux_23_77]
  simp only [ux_23_0, ux_23_1, ux_23_4, ux_23_5, ux_23_8, ux_23_11, ux_23_12, ux_23_13, ux_23_16, ux_23_17, ux_23_19, ux_23_22, ux_23_23, ux_23_25, ux_23_28, ux_23_29, ux_23_32, ux_23_34, ux_23_39, ux_23_44, ux_23_47, ux_23_48, ux_23_49, ux_23_53, ux_23_56, ux_23_60, ux_23_61, ux_23_62, ux_23_65, ux_23_66, ux_23_69, ux_23_70, ux_23_73, ux_23_74, ux_23_80, ux_23_81, ux_23_84, ux_23_87, pm_i_c, pm_l_c, pm_q_c, pm_r_c, pm_li_0, pm_li_s, pm_ll_0, pm_ll_s, pm_lq_0, pm_lq_s, pm_s1, pm_s2, pm_kl, pm_wI, pm_wR, pm_pu_n, pm_pu_s, pm_wt, List.take_succ_cons, List.take_zero, List.take_nil, List.drop_succ_cons, List.drop_zero, List.reverse_cons, List.reverse_nil, List.nil_append, List.cons_append, List.length_cons, List.length_nil, true_and, and_true, true_implies, tn_l, tn_0, Int.reduceToNat, Int.reduceLE, Int.reduceLT, Int.reduceEq, Int.reduceAdd, Int.reduceSub, Int.reduceMul, Int.reduceNeg, Nat.reduceAdd, Nat.reduceLeDiff, Nat.reduceEqDiff, Nat.reduceSub, Option.some.injEq, Sum.inl.injEq, Sum.inr.injEq, or_true, true_or, reduceCtorEq, ne_eq, not_false_eq_true, not_true_eq_false, false_implies, implies_true, false_and, and_false, false_or, or_false, if_true, if_false, fv_1 f3, pm_ok_ev (c_put (d := d) (V := V3) (R := R3) (by omega) f3 s3 hn hp hob), tg9]
  have hv3 : V3 a 3 = A (51 + p) := by
    rw [hno.1 a (by omega), a1 a (by omega)]
    exact ho.2.2.2.2.2.1 hk
  refine ⟨_, _, _, rfl, by rw [hv3], fx_up f3 (Or.inl rfl), fun q h1 h2 => ?_, ⟨?_, ?_, s3.2.2.1, fun q hq => ?_, fun q h1 h2 => ?_⟩, hiO_keep rfl (fun _ _ _ => rfl) (fun q h1 h2 => pm_up_fr (by omega)) (fun _ _ _ => rfl) (fun _ _ z => z) h3, fl3, g3⟩
  · rw [hno.1 q (by omega)]; exact a1 q (by omega)
  · dsimp only; rw [if_neg (by omega)]; exact s3.1
  · dsimp only; rw [if_neg (by omega)]; exact s3.2.1
  · by_cases ep : q = p
    · subst ep
      refine ⟨T.length, by rw [pm_up_row]; exact if_pos rfl, ?_⟩
      have o := ho
      obtain ⟨o1, o2, o3, o4, o5, o6, o7, o8⟩ := o
      unfold pcO
      dsimp only
      rw [if_neg (show ¬ 3 + q = 51 + q by omega), if_neg (show ¬ 15 + q = 51 + q by omega), if_neg (show ¬ 27 + q = 51 + q by omega), if_neg (show ¬ 39 + q = 51 + q by omega), if_pos rfl, if_neg (show ¬ 63 + q = 51 + q by omega), if_neg (show ¬ 75 + q = 51 + q by omega), hk]
      refine ⟨nw_at, by omega, ?_, ?_, fun _ => ?_, fun _ => ?_, fun z => absurd z (by decide), hT⟩
      · rw [← hV3, pm_up_ne (by omega), pm_up_ne (by omega), pm_up_ne (by omega), pm_up_eq]; exact o3
      · rw [← hV3, pm_up_ne (by omega), pm_up_ne (by omega), pm_up_eq]; exact o4
      · rw [← hV3, pm_up_ne (by omega), pm_up_eq]; exact o5 (by omega)
      · rw [← hV3, pm_up_eq]
    · obtain ⟨b, c1, c2⟩ := s3.2.2.2.1 q hq
      refine ⟨b, by rw [pm_up_ne (by omega)]; exact c1, ?_⟩
      exact pcO_of (if_neg (by omega)) (if_neg (by omega)) (if_neg (by omega)) (if_neg (by omega)) (if_neg (by omega)) (if_neg (by omega)) (if_neg (by omega)) c2
  · rw [pm_up_ne (by omega)]
    exact s3.2.2.2.2 q h1 h2
end
