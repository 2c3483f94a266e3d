/-! THE CLASS: level, read and found -/
section
variable {d : Nat} {h : pm_H} {V V2 W : Nat → Nat → Int} {R : Nat → Nat → Option Nat} {T : List (Nat × Nat)} {n : Nat} {A : Nat → Int} {ln : Nat → Int}
def cvfr (V W : Nat → Nat → Int) : Prop := ∀ q, q < 119 ∨ 124 < q → W q = V q
theorem cvfr_sh (h : cvfr V W) (hs : shO V R T 1 A n) : shO W R T 1 A n := shO_keep (h 1 (by omega)) rfl (fun q hq _ => h q (by omega)) (fun _ _ z => z) hs
theorem ca_lv (hq : cvfr V V2) (hs : cLv V2 A n) (hc : caI V A n) : caI V2 A n := by
  obtain ⟨h1, h2, h3, h4, h5⟩ := hc
  have x1 : xL V2 50 = xL V 50 := xL_fr fun p hp => hq _ (by omega)
  have m1 : mL V2 50 = mL V 50 := mL_fr fun p hp => hq _ (by omega)
  refine ⟨?_, ?_, ?_, hs, ?_⟩
  · unfold cFr frO
    rw [hq 0 (by omega), hq 45 (by omega), hq (45 + 1) (by omega), hq (45 + 2) (by omega), hq (45 + 3) (by omega), hq (45 + 4) (by omega)]
    exact h1
  · unfold cLa lyN lyI
    rw [hq 0 (by omega), x1, m1, hq 50 (by omega), hq (50 + 1) (by omega), hq (50 + 2) (by omega), hq 79 (by omega), hq 80 (by omega)]
    exact h2
  · unfold cSp
    rw [hq 0 (by omega)]
    exact h3
  · unfold cDy
    rw [hq 125 (by omega), hq 130 (by omega)]
    exact h5
def rdpQ (V : Nat → Nat → Int) (R : Nat → Nat → Option Nat) (T : List (Nat × Nat)) (A : Nat → Int) (n : Nat) (r : Option pm_V) (h2 : pm_H) : Prop := ∃ W, h2 = (W, R, T) ∧ r = none ∧ cvfr V W ∧ W 119 1 = n ∧ ∀ p, p < n → W 120 p = A (15 + p) ∧ W 121 p = A (27 + p) ∧ W 122 p = lsA A 0 p ∧ W 123 p = 0 ∧ W 124 p = 0
theorem c_readPieces (hd : 2 ≤ d) (hf : fx R T) (hs : shO V R T 1 A n) (hw : wf A n) : pm_ok d 105 [.inr (.inr (some 119)), .inr (.inr (some 1))] (V, R, T) (rdpQ V R T A n) := by
  obtain ⟨d, rfl⟩ : ∃ k, d = k + 1 := ⟨d - 1, by omega⟩
  refine pm_ok_iff.mpr ⟨(Nat.le_of_ble_eq_true rfl), ?_⟩
  show pm_w d 105 0 [some (.inr (.inr (some 119))), some (.inr (.inr (some 1))), none, none] [] (V, R, T) _
  have hn := hw.1
  have h12 := hs.2.2.1
  have h11 := hs.2.1
  simp only [ux_105_0, ux_105_1, ux_105_2, ux_105_5, ux_105_8, ux_105_9, ux_105_11, ux_105_12, ux_105_15, ux_105_18, ux_105_19, ux_105_20, ux_105_23, ux_105_24, ux_105_25, ux_105_29, ux_105_32, ux_105_33, ux_105_34, ux_105_37, ux_105_39, ux_105_42, ux_105_43, ux_105_44, ux_105_47, ux_105_49, ux_105_52, ux_105_53, ux_105_54, ux_105_55, ux_105_58, ux_105_63, ux_105_66, ux_105_67, ux_105_68, ux_105_69, ux_105_70, ux_105_73, ux_105_74, ux_105_75, ux_105_76, ux_105_79, ux_105_82, pm_i_c, pm_l_c, pm_q_c, pm_r_c, pm_li_0, pm_li_s, pm_ll_0, pm_ll_s, pm_lq_0, pm_lq_s, pm_s1, pm_s2, pm_kl, pm_wI, pm_wR, pm_pu_n, pm_pu_s, pm_wt, List.take_succ_cons, List.take_zero, List.take_nil, List.drop_succ_cons, List.drop_zero, List.reverse_cons, List.reverse_nil, List.nil_append, List.cons_append, List.length_cons, List.length_nil, true_and, and_true, true_implies, tn_l, tn_0, Int.reduceToNat, Int.reduceLE, Int.reduceLT, Int.reduceEq, Int.reduceAdd, Int.reduceSub, Int.reduceMul, Int.reduceNeg, Nat.reduceAdd, Nat.reduceLeDiff, Nat.reduceEqDiff, Nat.reduceSub, Option.some.injEq, Sum.inl.injEq, Sum.inr.injEq, or_true, true_or, reduceCtorEq, ne_eq, not_false_eq_true, not_true_eq_false, false_implies, implies_true, false_and, and_false, false_or, or_false, if_true, if_false, fr_1_3 hf, fg_1 hf, fv_1 hf, fr_119_2 hf, fr_119_3 hf, fr_119_4 hf, fr_119_5 hf, fr_119_6 hf, fg_119 hf, fv_119 hf, h12]
  generalize hV1 : pm_up V 119 1 (n : Int) = V1
  have v1 : cvfr V V1 := fun q hq => by rw [← hV1, pm_up_fr (by omega)]
  have v2 : V1 119 1 = n := by rw [← hV1]; exact pm_up_eq
  clear hV1
  refine pm_up0 (fun p => ∀ (W : Nat → Nat → Int) (y3 : Option pm_V), cvfr V W → W 119 1 = n → (∀ j, j < p → W 120 j = A (15 + j) ∧ W 121 j = A (27 + j) ∧ W 122 j = lsA A 0 j ∧ W 123 j = 0 ∧ W 124 j = 0) → pm_w d 105 10 [some (.inr (.inr (some 119))), some (.inr (.inr (some 1))), some (.inl (p : Int)), y3] [] (W, R, T) (rdpQ V R T A n)) n ?_ ?_ V1 _ v1 v2 (fun j hj => by omega)
  · intro W y3 w1 w2 w3
    rw [ux_105_10]
    simp only [ux_105_0, ux_105_1, ux_105_2, ux_105_5, ux_105_8, ux_105_9, ux_105_11, ux_105_12, ux_105_15, ux_105_18, ux_105_19, ux_105_20, ux_105_23, ux_105_24, ux_105_25, ux_105_29, ux_105_32, ux_105_33, ux_105_34, ux_105_37, ux_105_39, ux_105_42, ux_105_43, ux_105_44, ux_105_47, ux_105_49, ux_105_52, ux_105_53, ux_105_54, ux_105_55, ux_105_58, ux_105_63, ux_105_66, ux_105_67, ux_105_68, ux_105_69, ux_105_70, ux_105_73, ux_105_74, ux_105_75, ux_105_76, ux_105_79, ux_105_82, pm_i_c, pm_l_c, pm_q_c, pm_r_c, pm_li_0, pm_li_s, pm_ll_0, pm_ll_s, pm_lq_0, pm_lq_s, pm_s1, pm_s2, pm_kl, pm_wI, pm_wR, pm_pu_n, pm_pu_s, pm_wt, List.take_succ_cons, List.take_zero, List.take_nil, List.drop_succ_cons, List.drop_zero, List.reverse_cons, List.reverse_nil, List.nil_append, List.cons_append, List.length_cons, List.length_nil, true_and, and_true, true_implies, tn_l, tn_0, Int.reduceToNat, Int.reduceLE, Int.reduceLT, Int.reduceEq, Int.reduceAdd, Int.reduceSub, Int.reduceMul, Int.reduceNeg, Nat.reduceAdd, Nat.reduceLeDiff, Nat.reduceEqDiff, Nat.reduceSub, Option.some.injEq, Sum.inl.injEq, Sum.inr.injEq, or_true, true_or, reduceCtorEq, ne_eq, not_false_eq_true, not_true_eq_false, false_implies, implies_true, false_and, and_false, false_or, or_false, if_true, if_false, fr_1_3 hf, fg_1 hf, fv_1 hf, fr_119_2 hf, fr_119_3 hf, fr_119_4 hf, fr_119_5 hf, fr_119_6 hf, fg_119 hf, fv_119 hf, w2]
    exact ⟨fun _ => ⟨W, rfl, rfl, w1, w2, w3⟩, fun z => absurd (Int.le_refl _) z⟩
  · intro p hp ih W y3 w1 w2 w3
    obtain ⟨a, e, ho⟩ := hs.2.2.2.1 p hp
    have e : R 2 p = some a := e
    have ev := c_pieceAt (d := d) (V := W) (by omega) hf (cvfr_sh w1 hs).2.2.1 hn (p : Int)
    rw [if_pos (by omega), Int.toNat_natCast, e] at ev
    have keep : ∀ W, cvfr V W → pcO W T a A p := fun W2 hI2 => pcO_keep (fun q hq _ => hI2 q (by omega)) (fun _ _ z => z) ho
    have o0 := keep W w1
    rw [ux_105_10]
    simp only [ux_105_0, ux_105_1, ux_105_2, ux_105_5, ux_105_8, ux_105_9, ux_105_11, ux_105_12, ux_105_15, ux_105_18, ux_105_19, ux_105_20, ux_105_23, ux_105_24, ux_105_25, ux_105_29, ux_105_32, ux_105_33, ux_105_34, ux_105_37, ux_105_39, ux_105_42, ux_105_43, ux_105_44, ux_105_47, ux_105_49, ux_105_52, ux_105_53, ux_105_54, ux_105_55, ux_105_58, ux_105_63, ux_105_66, ux_105_67, ux_105_68, ux_105_69, ux_105_70, ux_105_73, ux_105_74, ux_105_75, ux_105_76, ux_105_79, ux_105_82, pm_i_c, pm_l_c, pm_q_c, pm_r_c, pm_li_0, pm_li_s, pm_ll_0, pm_ll_s, pm_lq_0, pm_lq_s, pm_s1, pm_s2, pm_kl, pm_wI, pm_wR, pm_pu_n, pm_pu_s, pm_wt, List.take_succ_cons, List.take_zero, List.take_nil, List.drop_succ_cons, List.drop_zero, List.reverse_cons, List.reverse_nil, List.nil_append, List.cons_append, List.length_cons, List.length_nil, true_and, and_true, true_implies, tn_l, tn_0, Int.reduceToNat, Int.reduceLE, Int.reduceLT, Int.reduceEq, Int.reduceAdd, Int.reduceSub, Int.reduceMul, Int.reduceNeg, Nat.reduceAdd, Nat.reduceLeDiff, Nat.reduceEqDiff, Nat.reduceSub, Option.some.injEq, Sum.inl.injEq, Sum.inr.injEq, or_true, true_or, reduceCtorEq, ne_eq, not_false_eq_true, not_true_eq_false, false_implies, implies_true, false_and, and_false, false_or, or_false, if_true, if_false, fr_1_3 hf, fg_1 hf, fv_1 hf, fr_119_2 hf, fr_119_3 hf, fr_119_4 hf, fr_119_5 hf, fr_119_6 hf, fg_119 hf, fv_119 hf, w2, pm_ok_ev ev]
    refine ⟨fun z => by omega, fun _ => ?_⟩
    rw [ux_105_28]
    simp only [ux_105_0, ux_105_1, ux_105_2, ux_105_5, ux_105_8, ux_105_9, ux_105_11, ux_105_12, ux_105_15, ux_105_18, ux_105_19, ux_105_20, ux_105_23, ux_105_24, ux_105_25, ux_105_29, ux_105_32, ux_105_33, ux_105_34, ux_105_37, ux_105_39, ux_105_42, ux_105_43, ux_105_44, ux_105_47, ux_105_49, ux_105_52, ux_105_53, ux_105_54, ux_105_55, ux_105_58, ux_105_63, ux_105_66, ux_105_67, ux_105_68, ux_105_69, ux_105_70, ux_105_73, ux_105_74, ux_105_75, ux_105_76, ux_105_79, ux_105_82, pm_i_c, pm_l_c, pm_q_c, pm_r_c, pm_li_0, pm_li_s, pm_ll_0, pm_ll_s, pm_lq_0, pm_lq_s, pm_s1, pm_s2, pm_kl, pm_wI, pm_wR, pm_pu_n, pm_pu_s, pm_wt, List.take_succ_cons, List.take_zero, List.take_nil, List.drop_succ_cons, List.drop_zero, List.reverse_cons, List.reverse_nil, List.nil_append, List.cons_append, List.length_cons, List.length_nil, true_and, and_true, true_implies, tn_l, tn_0, Int.reduceToNat, Int.reduceLE, Int.reduceLT, Int.reduceEq, Int.reduceAdd, Int.reduceSub, Int.reduceMul, Int.reduceNeg, Nat.reduceAdd, Nat.reduceLeDiff, Nat.reduceEqDiff, Nat.reduceSub, Option.some.injEq, Sum.inl.injEq, Sum.inr.injEq, or_true, true_or, reduceCtorEq, ne_eq, not_false_eq_true, not_true_eq_false, false_implies, implies_true, false_and, and_false, false_or, or_false, if_true, if_false, fr_1_3 hf, fg_1 hf, fv_1 hf, fr_119_2 hf, fr_119_3 hf, fr_119_4 hf, fr_119_5 hf, fr_119_6 hf, fg_119 hf, fv_119 hf, fb_120 hf, eq_true (pc_tgs (R := R) o0), o0.2.2.1]
    refine ⟨by omega, ?_⟩
    generalize hW1 : pm_up W 120 p (A (15 + p)) = W1
    have u1 : cvfr V W1 := fun q hq => by rw [← hW1, pm_up_fr (by omega)]; exact w1 q hq
    have o1 := keep W1 u1
    rw [ux_105_38]
    simp only [ux_105_0, ux_105_1, ux_105_2, ux_105_5, ux_105_8, ux_105_9, ux_105_11, ux_105_12, ux_105_15, ux_105_18, ux_105_19, ux_105_20, ux_105_23, ux_105_24, ux_105_25, ux_105_29, ux_105_32, ux_105_33, ux_105_34, ux_105_37, ux_105_39, ux_105_42, ux_105_43, ux_105_44, ux_105_47, ux_105_49, ux_105_52, ux_105_53, ux_105_54, ux_105_55, ux_105_58, ux_105_63, ux_105_66, ux_105_67, ux_105_68, ux_105_69, ux_105_70, ux_105_73, ux_105_74, ux_105_75, ux_105_76, ux_105_79, ux_105_82, pm_i_c, pm_l_c, pm_q_c, pm_r_c, pm_li_0, pm_li_s, pm_ll_0, pm_ll_s, pm_lq_0, pm_lq_s, pm_s1, pm_s2, pm_kl, pm_wI, pm_wR, pm_pu_n, pm_pu_s, pm_wt, List.take_succ_cons, List.take_zero, List.take_nil, List.drop_succ_cons, List.drop_zero, List.reverse_cons, List.reverse_nil, List.nil_append, List.cons_append, List.length_cons, List.length_nil, true_and, and_true, true_implies, tn_l, tn_0, Int.reduceToNat, Int.reduceLE, Int.reduceLT, Int.reduceEq, Int.reduceAdd, Int.reduceSub, Int.reduceMul, Int.reduceNeg, Nat.reduceAdd, Nat.reduceLeDiff, Nat.reduceEqDiff, Nat.reduceSub, Option.some.injEq, Sum.inl.injEq, Sum.inr.injEq, or_true, true_or, reduceCtorEq, ne_eq, not_false_eq_true, not_true_eq_false, false_implies, implies_true, false_and, and_false, false_or, or_false, if_true, if_false, fr_1_3 hf, fg_1 hf, fv_1 hf, fr_119_2 hf, fr_119_3 hf, fr_119_4 hf, fr_119_5 hf, fr_119_6 hf, fg_119 hf, fv_119 hf, fb_121 hf, eq_true (pc_tgs (R := R) o1), o1.2.2.2.1]
    refine ⟨by omega, ?_⟩
    generalize hW2 : pm_up W1 121 p (A (27 + p)) = W2
    have u2 : cvfr V W2 := fun q hq => by rw [← hW2, pm_up_fr (by omega)]; exact u1 q hq
    have o2 := keep W2 u2
    have e11 : W2 1 1 = A 1 := (congrFun (u2 1 (by omega)) 1).trans h11
    rw [ux_105_48]
    simp only [ux_105_0, ux_105_1, ux_105_2, ux_105_5, ux_105_8, ux_105_9, ux_105_11, ux_105_12, ux_105_15, ux_105_18, ux_105_19, ux_105_20, ux_105_23, ux_105_24, ux_105_25, ux_105_29, ux_105_32, ux_105_33, ux_105_34, ux_105_37, ux_105_39, ux_105_42, ux_105_43, ux_105_44, ux_105_47, ux_105_49, ux_105_52, ux_105_53, ux_105_54, ux_105_55, ux_105_58, ux_105_63, ux_105_66, ux_105_67, ux_105_68, ux_105_69, ux_105_70, ux_105_73, ux_105_74, ux_105_75, ux_105_76, ux_105_79, ux_105_82, pm_i_c, pm_l_c, pm_q_c, pm_r_c, pm_li_0, pm_li_s, pm_ll_0, pm_ll_s, pm_lq_0, pm_lq_s, pm_s1, pm_s2, pm_kl, pm_wI, pm_wR, pm_pu_n, pm_pu_s, pm_wt, List.take_succ_cons, List.take_zero, List.take_nil, List.drop_succ_cons, List.drop_zero, List.reverse_cons, List.reverse_nil, List.nil_append, List.cons_append, List.length_cons, List.length_nil, true_and, and_true, true_implies, tn_l, tn_0, Int.reduceToNat, Int.reduceLE, Int.reduceLT, Int.reduceEq, Int.reduceAdd, Int.reduceSub, Int.reduceMul, Int.reduceNeg, Nat.reduceAdd, Nat.reduceLeDiff, Nat.reduceEqDiff, Nat.reduceSub, Option.some.injEq, Sum.inl.injEq, Sum.inr.injEq, or_true, true_or, reduceCtorEq, ne_eq, not_false_eq_true, not_true_eq_false, false_implies, implies_true, false_and, and_false, false_or, or_false, if_true, if_false, fr_1_3 hf, fg_1 hf, fv_1 hf, fr_119_2 hf, fr_119_3 hf, fr_119_4 hf, fr_119_5 hf, fr_119_6 hf, fg_119 hf, fv_119 hf, fb_122 hf, e11]
    refine v_last (by omega) o2 rfl ?_
    rw [pm_pu_s, ux_105_61]
    simp only [ux_105_0, ux_105_1, ux_105_2, ux_105_5, ux_105_8, ux_105_9, ux_105_11, ux_105_12, ux_105_15, ux_105_18, ux_105_19, ux_105_20, ux_105_23, ux_105_24, ux_105_25, ux_105_29, ux_105_32, ux_105_33, ux_105_34, ux_105_37, ux_105_39, ux_105_42, ux_105_43, ux_105_44, ux_105_47, ux_105_49, ux_105_52, ux_105_53, ux_105_54, ux_105_55, ux_105_58, ux_105_63, ux_105_66, ux_105_67, ux_105_68, ux_105_69, ux_105_70, ux_105_73, ux_105_74, ux_105_75, ux_105_76, ux_105_79, ux_105_82, pm_i_c, pm_l_c, pm_q_c, pm_r_c, pm_li_0, pm_li_s, pm_ll_0, pm_ll_s, pm_lq_0, pm_lq_s, pm_s1, pm_s2, pm_kl, pm_wI, pm_wR, pm_pu_n, pm_pu_s, pm_wt, List.take_succ_cons, List.take_zero, List.take_nil, List.drop_succ_cons, List.drop_zero, List.reverse_cons, List.reverse_nil, List.nil_append, List.cons_append, List.length_cons, List.length_nil, true_and, and_true, true_implies, tn_l, tn_0, Int.reduceToNat, Int.reduceLE, Int.reduceLT, Int.reduceEq, Int.reduceAdd, Int.reduceSub, Int.reduceMul, Int.reduceNeg, Nat.reduceAdd, Nat.reduceLeDiff, Nat.reduceEqDiff, Nat.reduceSub, Option.some.injEq, Sum.inl.injEq, Sum.inr.injEq, or_true, true_or, reduceCtorEq, ne_eq, not_false_eq_true, not_true_eq_false, false_implies, implies_true, false_and, and_false, false_or, or_false, if_true, if_false, fr_1_3 hf, fg_1 hf, fv_1 hf, fr_119_2 hf, fr_119_3 hf, fr_119_4 hf, fr_119_5 hf, fr_119_6 hf, fg_119 hf, fv_119 hf, fb_122 hf]
    refine ⟨by omega, ?_⟩
    rw [ux_105_62]
    simp only [ux_105_0, ux_105_1, ux_105_2, ux_105_5, ux_105_8, ux_105_9, ux_105_11, ux_105_12, ux_105_15, ux_105_18, ux_105_19, ux_105_20, ux_105_23, ux_105_24, ux_105_25, ux_105_29, ux_105_32, ux_105_33, ux_105_34, ux_105_37, ux_105_39, ux_105_42, ux_105_43, ux_105_44, ux_105_47, ux_105_49, ux_105_52, ux_105_53, ux_105_54, ux_105_55, ux_105_58, ux_105_63, ux_105_66, ux_105_67, ux_105_68, ux_105_69, ux_105_70, ux_105_73, ux_105_74, ux_105_75, ux_105_76, ux_105_79, ux_105_82, pm_i_c, pm_l_c, pm_q_c, pm_r_c, pm_li_0, pm_li_s, pm_ll_0, pm_ll_s, pm_lq_0, pm_lq_s, pm_s1, pm_s2, pm_kl, pm_wI, pm_wR, pm_pu_n, pm_pu_s, pm_wt, List.take_succ_cons, List.take_zero, List.take_nil, List.drop_succ_cons, List.drop_zero, List.reverse_cons, List.reverse_nil, List.nil_append, List.cons_append, List.length_cons, List.length_nil, true_and, and_true, true_implies, tn_l, tn_0, Int.reduceToNat, Int.reduceLE, Int.reduceLT, Int.reduceEq, Int.reduceAdd, Int.reduceSub, Int.reduceMul, Int.reduceNeg, Nat.reduceAdd, Nat.reduceLeDiff, Nat.reduceEqDiff, Nat.reduceSub, Option.some.injEq, Sum.inl.injEq, Sum.inr.injEq, or_true, true_or, reduceCtorEq, ne_eq, not_false_eq_true, not_true_eq_false, false_implies, implies_true, false_and, and_false, false_or, or_false, if_true, if_false, fr_1_3 hf, fg_1 hf, fv_1 hf, fr_119_2 hf, fr_119_3 hf, fr_119_4 hf, fr_119_5 hf, fr_119_6 hf, fg_119 hf, fv_119 hf, fb_123 hf, fb_124 hf]
    refine ⟨by omega, by omega, by unfold pm_I32; omega, ih _ _ (fun q hq => by rw [pm_up_fr (by omega), pm_up_fr (by omega), pm_up_fr (by omega)]; exact u2 q hq) ?_ (fun j hj => ?_)⟩
    · rw [pm_up_fr (by decide), pm_up_fr (by decide), pm_up_fr (by decide), ← hW2, pm_up_fr (by decide), ← hW1, pm_up_fr (by decide)]
      exact w2
    · rw [← hW2, ← hW1]
      simp only [pm_up_row, pm_up_fr (show (120 : Nat) ≠ 121 by decide), pm_up_fr (show (120 : Nat) ≠ 122 by decide), pm_up_fr (show (120 : Nat) ≠ 123 by decide), pm_up_fr (show (120 : Nat) ≠ 124 by decide), pm_up_fr (show (121 : Nat) ≠ 120 by decide), pm_up_fr (show (121 : Nat) ≠ 122 by decide), pm_up_fr (show (121 : Nat) ≠ 123 by decide), pm_up_fr (show (121 : Nat) ≠ 124 by decide), pm_up_fr (show (122 : Nat) ≠ 120 by decide), pm_up_fr (show (122 : Nat) ≠ 121 by decide), pm_up_fr (show (122 : Nat) ≠ 123 by decide), pm_up_fr (show (122 : Nat) ≠ 124 by decide), pm_up_fr (show (123 : Nat) ≠ 120 by decide), pm_up_fr (show (123 : Nat) ≠ 121 by decide), pm_up_fr (show (123 : Nat) ≠ 122 by decide), pm_up_fr (show (123 : Nat) ≠ 124 by decide), pm_up_fr (show (124 : Nat) ≠ 120 by decide), pm_up_fr (show (124 : Nat) ≠ 121 by decide), pm_up_fr (show (124 : Nat) ≠ 122 by decide), pm_up_fr (show (124 : Nat) ≠ 123 by decide)]
      by_cases e : j = p
      · subst e
        simp only [if_true, and_self]
      · simp only [if_neg e]
        exact w3 j (by omega)
def lvfQ (V : Nat → Nat → Int) (R : Nat → Nat → Option Nat) (T : List (Nat × Nat)) (A : Nat → Int) (n : Nat) (r : Option pm_V) (h2 : pm_H) : Prop := ∃ W, h2 = (W, R, T) ∧ r = none ∧ cvfr V W ∧ W 119 0 = 1 ∧ cLv W A n
theorem c_lfind (hd : 5 ≤ d) (hf : fx R T) (hs : shO V R T 1 A n) (hw : wf A n) (hc : cLv V A n) : pm_ok d 104 [.inr (.inr (some 119)), .inr (.inr (some 1))] (V, R, T) (lvfQ V R T A n) := by
  obtain ⟨d, rfl⟩ : ∃ k, d = k + 1 := ⟨d - 1, by omega⟩
  refine pm_ok_iff.mpr ⟨(Nat.le_of_ble_eq_true rfl), ?_⟩
  show pm_w d 104 0 [some (.inr (.inr (some 119))), some (.inr (.inr (some 1))), none] [] (V, R, T) _
  have hn := hw.1
  obtain ⟨hl, hZ⟩ := lvZ_ok hw
  simp only [ux_104_0, ux_104_1, ux_104_4, ux_104_7, ux_104_8, ux_104_9, ux_104_10, ux_104_14, ux_104_16, ux_104_17, ux_104_20, ux_104_23, ux_104_24, ux_104_28, ux_104_32, ux_104_38, ux_104_42, ux_104_43, ux_104_46, pm_i_c, pm_l_c, pm_q_c, pm_r_c, pm_li_0, pm_li_s, pm_ll_0, pm_ll_s, pm_lq_0, pm_lq_s, pm_s1, pm_s2, pm_kl, pm_wI, pm_wR, pm_pu_n, pm_pu_s, pm_wt, List.take_succ_cons, List.take_zero, List.take_nil, List.drop_succ_cons, List.drop_zero, List.reverse_cons, List.reverse_nil, List.nil_append, List.cons_append, List.length_cons, List.length_nil, true_and, and_true, true_implies, tn_l, tn_0, Int.reduceToNat, Int.reduceLE, Int.reduceLT, Int.reduceEq, Int.reduceAdd, Int.reduceSub, Int.reduceMul, Int.reduceNeg, Nat.reduceAdd, Nat.reduceLeDiff, Nat.reduceEqDiff, Nat.reduceSub, Option.some.injEq, Sum.inl.injEq, Sum.inr.injEq, or_true, true_or, reduceCtorEq, ne_eq, not_false_eq_true, not_true_eq_false, false_implies, implies_true, false_and, and_false, false_or, or_false, if_true, if_false, fr_1_3 hf, fg_1 hf, fv_1 hf, fr_119_2 hf, fr_119_3 hf, fr_119_4 hf, fr_119_5 hf, fr_119_6 hf, fg_119 hf, fv_119 hf]
  refine ⟨fun c0 => ?_, fun c0 => ?_⟩
  · refine pm_ok_mono (c_readPieces (d := d) (by omega) hf hs hw) ?_
    rintro r h2 ⟨V1, rfl, rfl, v1, v2, v3⟩
    rw [pm_pu_n, ux_104_13]
    simp only [ux_104_0, ux_104_1, ux_104_4, ux_104_7, ux_104_8, ux_104_9, ux_104_10, ux_104_14, ux_104_16, ux_104_17, ux_104_20, ux_104_23, ux_104_24, ux_104_28, ux_104_32, ux_104_38, ux_104_42, ux_104_43, ux_104_46, pm_i_c, pm_l_c, pm_q_c, pm_r_c, pm_li_0, pm_li_s, pm_ll_0, pm_ll_s, pm_lq_0, pm_lq_s, pm_s1, pm_s2, pm_kl, pm_wI, pm_wR, pm_pu_n, pm_pu_s, pm_wt, List.take_succ_cons, List.take_zero, List.take_nil, List.drop_succ_cons, List.drop_zero, List.reverse_cons, List.reverse_nil, List.nil_append, List.cons_append, List.length_cons, List.length_nil, true_and, and_true, true_implies, tn_l, tn_0, Int.reduceToNat, Int.reduceLE, Int.reduceLT, Int.reduceEq, Int.reduceAdd, Int.reduceSub, Int.reduceMul, Int.reduceNeg, Nat.reduceAdd, Nat.reduceLeDiff, Nat.reduceEqDiff, Nat.reduceSub, Option.some.injEq, Sum.inl.injEq, Sum.inr.injEq, or_true, true_or, reduceCtorEq, ne_eq, not_false_eq_true, not_true_eq_false, false_implies, implies_true, false_and, and_false, false_or, or_false, if_true, if_false, fr_1_3 hf, fg_1 hf, fv_1 hf, fr_119_2 hf, fr_119_3 hf, fr_119_4 hf, fr_119_5 hf, fr_119_6 hf, fg_119 hf, fv_119 hf]
    refine pm_up0 (fun i => ∀ (W : Nat → Nat → Int), cvfr V W → W 119 1 = n → (∀ p, p < n → W 120 p = A (15 + p)) → (∀ p, p < n → (0 ≤ W 121 p ∧ W 121 p ≤ 60) ∧ 0 ≤ W 122 p ∧ W 122 p ≤ 60) → lvR n (cvL W) (lvN n (fun p => A (15 + p)) (lvZ A) i) → pm_w d 104 15 [some (.inr (.inr (some 119))), some (.inr (.inr (some 1))), some (.inl (i : Int))] [] (W, R, T) (lvfQ V R T A n)) n ?_ ?_ V1 v1 v2 (fun p hp => (v3 p hp).1) (fun p hp => ?_) (fun p hp => ?_)
    · intro W w1 w2 w3 w4 w5
      rw [ux_104_15]
      simp only [ux_104_0, ux_104_1, ux_104_4, ux_104_7, ux_104_8, ux_104_9, ux_104_10, ux_104_14, ux_104_16, ux_104_17, ux_104_20, ux_104_23, ux_104_24, ux_104_28, ux_104_32, ux_104_38, ux_104_42, ux_104_43, ux_104_46, pm_i_c, pm_l_c, pm_q_c, pm_r_c, pm_li_0, pm_li_s, pm_ll_0, pm_ll_s, pm_lq_0, pm_lq_s, pm_s1, pm_s2, pm_kl, pm_wI, pm_wR, pm_pu_n, pm_pu_s, pm_wt, List.take_succ_cons, List.take_zero, List.take_nil, List.drop_succ_cons, List.drop_zero, List.reverse_cons, List.reverse_nil, List.nil_append, List.cons_append, List.length_cons, List.length_nil, true_and, and_true, true_implies, tn_l, tn_0, Int.reduceToNat, Int.reduceLE, Int.reduceLT, Int.reduceEq, Int.reduceAdd, Int.reduceSub, Int.reduceMul, Int.reduceNeg, Nat.reduceAdd, Nat.reduceLeDiff, Nat.reduceEqDiff, Nat.reduceSub, Option.some.injEq, Sum.inl.injEq, Sum.inr.injEq, or_true, true_or, reduceCtorEq, ne_eq, not_false_eq_true, not_true_eq_false, false_implies, implies_true, false_and, and_false, false_or, or_false, if_true, if_false, fr_1_3 hf, fg_1 hf, fv_1 hf, fr_119_2 hf, fr_119_3 hf, fr_119_4 hf, fr_119_5 hf, fr_119_6 hf, fg_119 hf, fv_119 hf, w2]
      refine ⟨fun _ => ?_, fun z => absurd (Int.le_refl _) z⟩
      rw [ux_104_41]
      simp only [ux_104_0, ux_104_1, ux_104_4, ux_104_7, ux_104_8, ux_104_9, ux_104_10, ux_104_14, ux_104_16, ux_104_17, ux_104_20, ux_104_23, ux_104_24, ux_104_28, ux_104_32, ux_104_38, ux_104_42, ux_104_43, ux_104_46, pm_i_c, pm_l_c, pm_q_c, pm_r_c, pm_li_0, pm_li_s, pm_ll_0, pm_ll_s, pm_lq_0, pm_lq_s, pm_s1, pm_s2, pm_kl, pm_wI, pm_wR, pm_pu_n, pm_pu_s, pm_wt, List.take_succ_cons, List.take_zero, List.take_nil, List.drop_succ_cons, List.drop_zero, List.reverse_cons, List.reverse_nil, List.nil_append, List.cons_append, List.length_cons, List.length_nil, true_and, and_true, true_implies, tn_l, tn_0, Int.reduceToNat, Int.reduceLE, Int.reduceLT, Int.reduceEq, Int.reduceAdd, Int.reduceSub, Int.reduceMul, Int.reduceNeg, Nat.reduceAdd, Nat.reduceLeDiff, Nat.reduceEqDiff, Nat.reduceSub, Option.some.injEq, Sum.inl.injEq, Sum.inr.injEq, or_true, true_or, reduceCtorEq, ne_eq, not_false_eq_true, not_true_eq_false, false_implies, implies_true, false_and, and_false, false_or, or_false, if_true, if_false, fr_1_3 hf, fg_1 hf, fv_1 hf, fr_119_2 hf, fr_119_3 hf, fr_119_4 hf, fr_119_5 hf, fr_119_6 hf, fg_119 hf, fv_119 hf]
      have hN : ∀ p, p < n → (lvN n (fun p => A (15 + p)) (lvZ A) n).2.2.2 p ≠ 0 := opn_zero (by have := (lvN_ok hl hZ n).2; omega)
      refine ⟨_, rfl, rfl, fun q hq => by rw [pm_up_fr (by omega)]; exact w1 q hq, pm_up_eq, Or.inr ⟨pm_up_eq, fun p hp => ?_⟩⟩
      have r := w5 p hp
      have r1 : W 124 p = (lvN n (fun p => A (15 + p)) (lvZ A) n).2.2.2 p := r.1
      have r2 : W 123 p = (lvN n (fun p => A (15 + p)) (lvZ A) n).2.2.1 p := r.2.1 (by show W 124 p ≠ 0; rw [r1]; exact hN p hp)
      rw [pm_up_fr (by decide), pm_up_fr (by decide), r1, r2]
      unfold lvV
      rw [if_pos rfl, if_neg (by decide)]
      exact ⟨rfl, rfl⟩
    · intro i hi ih W w1 w2 w3 w4 w5
      have ho := lvO_congr w5 (lvN_ok hl hZ i).1
      have hB := lvB_ok hl ho
      have cb := cst_bd hB.1
      rw [ux_104_15]
      simp only [ux_104_0, ux_104_1, ux_104_4, ux_104_7, ux_104_8, ux_104_9, ux_104_10, ux_104_14, ux_104_16, ux_104_17, ux_104_20, ux_104_23, ux_104_24, ux_104_28, ux_104_32, ux_104_38, ux_104_42, ux_104_43, ux_104_46, pm_i_c, pm_l_c, pm_q_c, pm_r_c, pm_li_0, pm_li_s, pm_ll_0, pm_ll_s, pm_lq_0, pm_lq_s, pm_s1, pm_s2, pm_kl, pm_wI, pm_wR, pm_pu_n, pm_pu_s, pm_wt, List.take_succ_cons, List.take_zero, List.take_nil, List.drop_succ_cons, List.drop_zero, List.reverse_cons, List.reverse_nil, List.nil_append, List.cons_append, List.length_cons, List.length_nil, true_and, and_true, true_implies, tn_l, tn_0, Int.reduceToNat, Int.reduceLE, Int.reduceLT, Int.reduceEq, Int.reduceAdd, Int.reduceSub, Int.reduceMul, Int.reduceNeg, Nat.reduceAdd, Nat.reduceLeDiff, Nat.reduceEqDiff, Nat.reduceSub, Option.some.injEq, Sum.inl.injEq, Sum.inr.injEq, or_true, true_or, reduceCtorEq, ne_eq, not_false_eq_true, not_true_eq_false, false_implies, implies_true, false_and, and_false, false_or, or_false, if_true, if_false, fr_1_3 hf, fg_1 hf, fv_1 hf, fr_119_2 hf, fr_119_3 hf, fr_119_4 hf, fr_119_5 hf, fr_119_6 hf, fg_119 hf, fv_119 hf, w2]
      refine ⟨fun z => by omega, fun _ => ?_⟩
      refine pm_ok_mono (c_findBest (d := d) (V := W) (by omega) hf w2 hl w3 ho) ?_
      rintro r h2 ⟨W1, rfl, rfl, x1, x2⟩
      generalize ht : lvB n (fun p => A (15 + p)) (cvL W) = t at *
      have f1 : W1 121 = W 121 := x1.1 121 (by decide)
      have f2 : W1 122 = W 122 := x1.1 122 (by decide)
      have f3 : W1 123 = W 123 := x1.1 123 (by decide)
      have f4 : W1 124 = W 124 := x1.1 124 (by decide)
      have ecv : cvL W1 = cvL W := by unfold cvL; rw [f1, f2, f3, f4]
      rw [pm_pu_n, ux_104_27]
      simp only [ux_104_0, ux_104_1, ux_104_4, ux_104_7, ux_104_8, ux_104_9, ux_104_10, ux_104_14, ux_104_16, ux_104_17, ux_104_20, ux_104_23, ux_104_24, ux_104_28, ux_104_32, ux_104_38, ux_104_42, ux_104_43, ux_104_46, pm_i_c, pm_l_c, pm_q_c, pm_r_c, pm_li_0, pm_li_s, pm_ll_0, pm_ll_s, pm_lq_0, pm_lq_s, pm_s1, pm_s2, pm_kl, pm_wI, pm_wR, pm_pu_n, pm_pu_s, pm_wt, List.take_succ_cons, List.take_zero, List.take_nil, List.drop_succ_cons, List.drop_zero, List.reverse_cons, List.reverse_nil, List.nil_append, List.cons_append, List.length_cons, List.length_nil, true_and, and_true, true_implies, tn_l, tn_0, Int.reduceToNat, Int.reduceLE, Int.reduceLT, Int.reduceEq, Int.reduceAdd, Int.reduceSub, Int.reduceMul, Int.reduceNeg, Nat.reduceAdd, Nat.reduceLeDiff, Nat.reduceEqDiff, Nat.reduceSub, Option.some.injEq, Sum.inl.injEq, Sum.inr.injEq, or_true, true_or, reduceCtorEq, ne_eq, not_false_eq_true, not_true_eq_false, false_implies, implies_true, false_and, and_false, false_or, or_false, if_true, if_false, fr_1_3 hf, fg_1 hf, fv_1 hf, fr_119_2 hf, fr_119_3 hf, fr_119_4 hf, fr_119_5 hf, fr_119_6 hf, fg_119 hf, fv_119 hf]
      refine pm_ok_mono (c_giveSpeed (d := d) (V := W1) (ln := fun p => A (15 + p)) (by omega) hf ((x1.2 1 (by decide)).trans w2) hn (by rw [ecv]; exact hB.1) x2) ?_
      rintro r h2 ⟨W2, rfl, rfl, y1, y2⟩
      rw [ecv, f3, f4] at y2
      have g9 : W2 119 = W1 119 := y1 119 (by decide) (by decide)
      have g1 : W2 121 = W 121 := (y1 121 (by decide) (by decide)).trans f1
      have g2 : W2 122 = W 122 := (y1 122 (by decide) (by decide)).trans f2
      rw [pm_pu_n, ux_104_31]
      simp only [ux_104_0, ux_104_1, ux_104_4, ux_104_7, ux_104_8, ux_104_9, ux_104_10, ux_104_14, ux_104_16, ux_104_17, ux_104_20, ux_104_23, ux_104_24, ux_104_28, ux_104_32, ux_104_38, ux_104_42, ux_104_43, ux_104_46, pm_i_c, pm_l_c, pm_q_c, pm_r_c, pm_li_0, pm_li_s, pm_ll_0, pm_ll_s, pm_lq_0, pm_lq_s, pm_s1, pm_s2, pm_kl, pm_wI, pm_wR, pm_pu_n, pm_pu_s, pm_wt, List.take_succ_cons, List.take_zero, List.take_nil, List.drop_succ_cons, List.drop_zero, List.reverse_cons, List.reverse_nil, List.nil_append, List.cons_append, List.length_cons, List.length_nil, true_and, and_true, true_implies, tn_l, tn_0, Int.reduceToNat, Int.reduceLE, Int.reduceLT, Int.reduceEq, Int.reduceAdd, Int.reduceSub, Int.reduceMul, Int.reduceNeg, Nat.reduceAdd, Nat.reduceLeDiff, Nat.reduceEqDiff, Nat.reduceSub, Option.some.injEq, Sum.inl.injEq, Sum.inr.injEq, or_true, true_or, reduceCtorEq, ne_eq, not_false_eq_true, not_true_eq_false, false_implies, implies_true, false_and, and_false, false_or, or_false, if_true, if_false, fr_1_3 hf, fg_1 hf, fv_1 hf, fr_119_2 hf, fr_119_3 hf, fr_119_4 hf, fr_119_5 hf, fr_119_6 hf, fg_119 hf, fv_119 hf]
      refine pm_ok_mono (c_takeOutBest (d := d) (V := W2) (by omega) hf (by rw [g9]; exact (x1.2 1 (by decide)).trans w2) hn (by rw [g9]; exact x2.2.1) (by rw [g9]; exact x2.2.2) cb.2.2.1 cb.2.2.2.1 cb.2.2.2.2 (by rw [g1, g2]; exact w4)) ?_
      rintro r h2 ⟨W3, rfl, rfl, z1, z2⟩
      rw [g1, g2] at z2
      have k9 : W3 119 1 = n := by rw [z1 119 (by decide) (by decide), g9]; exact (x1.2 1 (by decide)).trans w2
      have k0 : W3 120 = W 120 := (z1 120 (by decide) (by decide)).trans ((y1 120 (by decide) (by decide)).trans (x1.1 120 (by decide)))
      have k3 : W3 123 = W2 123 := z1 123 (by decide) (by decide)
      have k4 : W3 124 = W2 124 := z1 124 (by decide) (by decide)
      rw [pm_pu_n, ux_104_35]
      simp only [ux_104_0, ux_104_1, ux_104_4, ux_104_7, ux_104_8, ux_104_9, ux_104_10, ux_104_14, ux_104_16, ux_104_17, ux_104_20, ux_104_23, ux_104_24, ux_104_28, ux_104_32, ux_104_38, ux_104_42, ux_104_43, ux_104_46, pm_i_c, pm_l_c, pm_q_c, pm_r_c, pm_li_0, pm_li_s, pm_ll_0, pm_ll_s, pm_lq_0, pm_lq_s, pm_s1, pm_s2, pm_kl, pm_wI, pm_wR, pm_pu_n, pm_pu_s, pm_wt, List.take_succ_cons, List.take_zero, List.take_nil, List.drop_succ_cons, List.drop_zero, List.reverse_cons, List.reverse_nil, List.nil_append, List.cons_append, List.length_cons, List.length_nil, true_and, and_true, true_implies, tn_l, tn_0, Int.reduceToNat, Int.reduceLE, Int.reduceLT, Int.reduceEq, Int.reduceAdd, Int.reduceSub, Int.reduceMul, Int.reduceNeg, Nat.reduceAdd, Nat.reduceLeDiff, Nat.reduceEqDiff, Nat.reduceSub, Option.some.injEq, Sum.inl.injEq, Sum.inr.injEq, or_true, true_or, reduceCtorEq, ne_eq, not_false_eq_true, not_true_eq_false, false_implies, implies_true, false_and, and_false, false_or, or_false, if_true, if_false, fr_1_3 hf, fg_1 hf, fv_1 hf, fr_119_2 hf, fr_119_3 hf, fr_119_4 hf, fr_119_5 hf, fr_119_6 hf, fg_119 hf, fv_119 hf]
      refine ⟨by unfold pm_I32; omega, ih W3 (fun q hq => ?_) k9 (by rw [k0]; exact w3) (fun p hp => ?_) ?_⟩
      · rw [z1 q (by omega) (by omega), y1 q (by omega) (by omega), x1.1 q (by omega)]
        exact w1 q hq
      · have b := w4 p hp
        rw [(z2 p hp).1, (z2 p hp).2]
        exact ⟨tkO_bd cb.2.2.1 cb.2.2.2.1 cb.2.2.2.2 b.1.1 b.1.2, tkO_bd cb.2.2.1 cb.2.2.2.1 cb.2.2.2.2 b.2.1 b.2.2⟩
      · have eB := lvB_congr (ln := fun p => A (15 + p)) w5
        rw [ht] at eB
        by_cases c : t.1 = 0
        · have e1 : lvN n (fun p => A (15 + p)) (lvZ A) (i + 1) = lvN n (fun p => A (15 + p)) (lvZ A) i := if_pos (by rw [← eB]; exact c)
          rw [e1]
          refine lvR_tr (s' := cvL W) (fun p hp => ?_) w5
          have y := (y2 p hp).2 (fun z => z.1 c)
          have nz : W 124 p ≠ 0 := fun z => by have := hB.2 p hp z; omega
          show W3 124 p = W 124 p ∧ (W3 124 p ≠ 0 → W3 123 p = W 123 p) ∧ (W3 124 p = 0 → _)
          rw [k3, k4, y.1, y.2]
          exact ⟨rfl, fun _ => rfl, fun z => absurd z nz⟩
        · have e1 : lvN n (fun p => A (15 + p)) (lvZ A) (i + 1) = lvG (lvN n (fun p => A (15 + p)) (lvZ A) i) t := by
            rw [eB]
            exact if_neg (by rw [← eB]; exact c)
          rw [e1]
          rcases hB.1 with z | ⟨q1, q2, q3, q4, q5, q6⟩
          · exact absurd z c
          · have db := lvD_bd q5 q4 q6 (by omega) q2
            have ec : cst t = t := by unfold cst; rw [if_neg c]
            rw [ec] at z2
            refine lvR_tr (s' := lvG (cvL W) t) (fun p hp => ?_) (lvG_congr w5 db.2.1)
            show (W3 124 p = @ite _ (lvC (cvL W) t p) (Classical.propDecidable _) (lvD t) (W 124 p)) ∧ (W3 124 p ≠ 0 → W3 123 p = @ite _ (lvC (cvL W) t p) (Classical.propDecidable _) (lvA t) (W 123 p)) ∧ (W3 124 p = 0 → W3 121 p = tkO t.2.1 t.2.2 (W 121 p) ∧ W3 122 p = tkO t.2.1 t.2.2 (W 122 p))
            rw [k3, k4]
            by_cases cc : lvC (cvL W) t p
            · rw [if_pos cc, if_pos cc]
              have := (y2 p hp).1 ⟨c, cc⟩
              exact ⟨this.2, fun _ => this.1, fun _ => z2 p hp⟩
            · rw [if_neg cc, if_neg cc]
              have := (y2 p hp).2 (fun z => cc z.2)
              exact ⟨this.2, fun _ => this.1, fun _ => z2 p hp⟩
    · have v := v3 p hp
      have o := (hZ p hp).1 rfl
      have o : 0 ≤ A (27 + p) ∧ A (27 + p) < lsA A 0 p ∧ lsA A 0 p ≤ 60 := o
      rw [v.2.1, v.2.2.1]
      omega
    · have v := v3 p hp
      show V1 124 p = 0 ∧ (V1 124 p ≠ 0 → V1 123 p = 0) ∧ (V1 124 p = 0 → V1 121 p = A (27 + p) ∧ V1 122 p = lsA A 0 p)
      exact ⟨v.2.2.2.2, fun _ => v.2.2.2.1, fun _ => ⟨v.2.1, v.2.2.1⟩⟩
  · rcases hc with z | ⟨z1, z2⟩
    · exact absurd z c0
    · exact ⟨V, rfl, rfl, fun _ _ => rfl, z1, Or.inr ⟨z1, z2⟩⟩
def lvPP (A : Nat → Int) (n : Nat) (p w v : Int) : Prop := v = if ¬ ((0 ≤ p ∧ p < n) ∧ 0 ≤ w ∧ w ≤ 1) then -1 else @ite _ (∃ q, q < n ∧ 2 < A (3 + q)) (Classical.propDecidable _) (-13) (lvV A n p.toNat w)
theorem c_level (hd : 6 ≤ d) (hf : fx R T) (hs : shO V R T 1 A n) (hw : wf A n) (hc : caI V A n) (p w : Int) : pm_ok d 102 [.inr (.inr (some 0)), .inl p, .inl w] (V, R, T) (anQ V R T A n (lvPP A n p w)) := by
  obtain ⟨d, rfl⟩ : ∃ k, d = k + 1 := ⟨d - 1, by omega⟩
  refine pm_ok_iff.mpr ⟨(Nat.le_of_ble_eq_true rfl), ?_⟩
  show pm_w d 102 0 [some (.inr (.inr (some 0))), some (.inl p), some (.inl w)] [] (V, R, T) _
  have hn := hw.1
  generalize hQ : anQ V R T A n (lvPP A n p w) = Q
  have bad : ¬ ((0 ≤ p ∧ p < n) ∧ 0 ≤ w ∧ w ≤ 1) → Q (some (.inl (-1))) (V, R, T) := fun z => by rw [← hQ]; exact ⟨V, -1, rfl, rfl, qfr_rf, hc, by unfold lvPP; rw [if_pos z]⟩
  simp only [ux_102_0, ux_102_1, ux_102_4, ux_102_5, ux_102_8, ux_102_11, ux_102_12, ux_102_15, ux_102_16, ux_102_17, ux_102_20, ux_102_21, ux_102_23, ux_102_26, ux_102_32, ux_102_34, ux_102_36, ux_102_39, ux_102_40, ux_102_43, ux_102_47, ux_102_50, ux_102_51, ux_102_54, ux_102_57, ux_102_58, ux_102_59, ux_102_62, ux_102_63, ux_102_66, ux_102_69, ux_102_70, ux_102_71, pm_i_c, pm_l_c, pm_q_c, pm_r_c, pm_li_0, pm_li_s, pm_ll_0, pm_ll_s, pm_lq_0, pm_lq_s, pm_s1, pm_s2, pm_kl, pm_wI, pm_wR, pm_pu_n, pm_pu_s, pm_wt, List.take_succ_cons, List.take_zero, List.take_nil, List.drop_succ_cons, List.drop_zero, List.reverse_cons, List.reverse_nil, List.nil_append, List.cons_append, List.length_cons, List.length_nil, true_and, and_true, true_implies, tn_l, tn_0, Int.reduceToNat, Int.reduceLE, Int.reduceLT, Int.reduceEq, Int.reduceAdd, Int.reduceSub, Int.reduceMul, Int.reduceNeg, Nat.reduceAdd, Nat.reduceLeDiff, Nat.reduceEqDiff, Nat.reduceSub, Option.some.injEq, Sum.inl.injEq, Sum.inr.injEq, or_true, true_or, reduceCtorEq, ne_eq, not_false_eq_true, not_true_eq_false, false_implies, implies_true, false_and, and_false, false_or, or_false, if_true, if_false, fr_0_0 hf, fr_0_1 hf, fr_0_2 hf, fr_0_3 hf, fr_0_7 hf, fr_0_8 hf, fr_0_11 hf, fr_0_12 hf, fg_0 hf, fv_0 hf, fr_1_3 hf, fg_1 hf, fv_1 hf, pm_ok_ev (c_has (d := d) (V := V) (by omega) hf hs hn p)]
  by_cases c1 : 0 ≤ p ∧ p < n
  · rw [if_pos c1]
    refine ⟨fun z => absurd z (by decide), fun _ => ⟨fun z => bad (by omega), fun z => ⟨fun z2 => ?_, fun z2 => bad (by omega)⟩⟩⟩
    have hg : ¬ ¬ ((0 ≤ p ∧ p < n) ∧ 0 ≤ w ∧ w ≤ 1) := fun z => z (by omega)
    rw [ux_102_22]
    simp only [ux_102_0, ux_102_1, ux_102_4, ux_102_5, ux_102_8, ux_102_11, ux_102_12, ux_102_15, ux_102_16, ux_102_17, ux_102_20, ux_102_21, ux_102_23, ux_102_26, ux_102_32, ux_102_34, ux_102_36, ux_102_39, ux_102_40, ux_102_43, ux_102_47, ux_102_50, ux_102_51, ux_102_54, ux_102_57, ux_102_58, ux_102_59, ux_102_62, ux_102_63, ux_102_66, ux_102_69, ux_102_70, ux_102_71, pm_i_c, pm_l_c, pm_q_c, pm_r_c, pm_li_0, pm_li_s, pm_ll_0, pm_ll_s, pm_lq_0, pm_lq_s, pm_s1, pm_s2, pm_kl, pm_wI, pm_wR, pm_pu_n, pm_pu_s, pm_wt, List.take_succ_cons, List.take_zero, List.take_nil, List.drop_succ_cons, List.drop_zero, List.reverse_cons, List.reverse_nil, List.nil_append, List.cons_append, List.length_cons, List.length_nil, true_and, and_true, true_implies, tn_l, tn_0, Int.reduceToNat, Int.reduceLE, Int.reduceLT, Int.reduceEq, Int.reduceAdd, Int.reduceSub, Int.reduceMul, Int.reduceNeg, Nat.reduceAdd, Nat.reduceLeDiff, Nat.reduceEqDiff, Nat.reduceSub, Option.some.injEq, Sum.inl.injEq, Sum.inr.injEq, or_true, true_or, reduceCtorEq, ne_eq, not_false_eq_true, not_true_eq_false, false_implies, implies_true, false_and, and_false, false_or, or_false, if_true, if_false, fr_0_0 hf, fr_0_1 hf, fr_0_2 hf, fr_0_3 hf, fr_0_7 hf, fr_0_8 hf, fr_0_11 hf, fr_0_12 hf, fg_0 hf, fv_0 hf, fr_1_3 hf, fg_1 hf, fv_1 hf, pm_ok_ev (c_hasSplit (d := d) (V := V) (by omega) hf hs hn)]
    rw [ux_102_29]
    simp only [ux_102_0, ux_102_1, ux_102_4, ux_102_5, ux_102_8, ux_102_11, ux_102_12, ux_102_15, ux_102_16, ux_102_17, ux_102_20, ux_102_21, ux_102_23, ux_102_26, ux_102_32, ux_102_34, ux_102_36, ux_102_39, ux_102_40, ux_102_43, ux_102_47, ux_102_50, ux_102_51, ux_102_54, ux_102_57, ux_102_58, ux_102_59, ux_102_62, ux_102_63, ux_102_66, ux_102_69, ux_102_70, ux_102_71, pm_i_c, pm_l_c, pm_q_c, pm_r_c, pm_li_0, pm_li_s, pm_ll_0, pm_ll_s, pm_lq_0, pm_lq_s, pm_s1, pm_s2, pm_kl, pm_wI, pm_wR, pm_pu_n, pm_pu_s, pm_wt, List.take_succ_cons, List.take_zero, List.take_nil, List.drop_succ_cons, List.drop_zero, List.reverse_cons, List.reverse_nil, List.nil_append, List.cons_append, List.length_cons, List.length_nil, true_and, and_true, true_implies, tn_l, tn_0, Int.reduceToNat, Int.reduceLE, Int.reduceLT, Int.reduceEq, Int.reduceAdd, Int.reduceSub, Int.reduceMul, Int.reduceNeg, Nat.reduceAdd, Nat.reduceLeDiff, Nat.reduceEqDiff, Nat.reduceSub, Option.some.injEq, Sum.inl.injEq, Sum.inr.injEq, or_true, true_or, reduceCtorEq, ne_eq, not_false_eq_true, not_true_eq_false, false_implies, implies_true, false_and, and_false, false_or, or_false, if_true, if_false, fr_0_0 hf, fr_0_1 hf, fr_0_2 hf, fr_0_3 hf, fr_0_7 hf, fr_0_8 hf, fr_0_11 hf, fr_0_12 hf, fg_0 hf, fv_0 hf, fr_1_3 hf, fg_1 hf, fv_1 hf]
    by_cases c2 : ∃ q, q < n ∧ 2 < A (3 + q)
    · rw [if_pos c2]
      refine ⟨fun z => absurd z (by decide), fun _ => ?_⟩
      rw [← hQ]
      exact ⟨V, _, rfl, rfl, qfr_rf, hc, by unfold lvPP; rw [if_neg hg, if_pos c2]⟩
    · rw [if_neg c2]
      refine ⟨fun _ => ?_, fun z => absurd rfl z⟩
      rw [ux_102_35]
      simp only [ux_102_0, ux_102_1, ux_102_4, ux_102_5, ux_102_8, ux_102_11, ux_102_12, ux_102_15, ux_102_16, ux_102_17, ux_102_20, ux_102_21, ux_102_23, ux_102_26, ux_102_32, ux_102_34, ux_102_36, ux_102_39, ux_102_40, ux_102_43, ux_102_47, ux_102_50, ux_102_51, ux_102_54, ux_102_57, ux_102_58, ux_102_59, ux_102_62, ux_102_63, ux_102_66, ux_102_69, ux_102_70, ux_102_71, pm_i_c, pm_l_c, pm_q_c, pm_r_c, pm_li_0, pm_li_s, pm_ll_0, pm_ll_s, pm_lq_0, pm_lq_s, pm_s1, pm_s2, pm_kl, pm_wI, pm_wR, pm_pu_n, pm_pu_s, pm_wt, List.take_succ_cons, List.take_zero, List.take_nil, List.drop_succ_cons, List.drop_zero, List.reverse_cons, List.reverse_nil, List.nil_append, List.cons_append, List.length_cons, List.length_nil, true_and, and_true, true_implies, tn_l, tn_0, Int.reduceToNat, Int.reduceLE, Int.reduceLT, Int.reduceEq, Int.reduceAdd, Int.reduceSub, Int.reduceMul, Int.reduceNeg, Nat.reduceAdd, Nat.reduceLeDiff, Nat.reduceEqDiff, Nat.reduceSub, Option.some.injEq, Sum.inl.injEq, Sum.inr.injEq, or_true, true_or, reduceCtorEq, ne_eq, not_false_eq_true, not_true_eq_false, false_implies, implies_true, false_and, and_false, false_or, or_false, if_true, if_false, fr_0_0 hf, fr_0_1 hf, fr_0_2 hf, fr_0_3 hf, fr_0_7 hf, fr_0_8 hf, fr_0_11 hf, fr_0_12 hf, fg_0 hf, fv_0 hf, fr_1_3 hf, fg_1 hf, fv_1 hf, fr_119_2 hf, fr_119_3 hf, fr_119_4 hf, fr_119_5 hf, fr_119_6 hf, fg_119 hf, fv_119 hf]
      refine pm_ok_mono (c_lfind (d := d) (V := V) (by omega) hf hs hw hc.2.2.2.1) ?_
      rintro r h2 ⟨W, rfl, rfl, x1, x2, x3⟩
      have hcW := ca_lv x1 x3 hc
      have hqW : qfr V W := fun q hq => x1 q (by omega)
      rcases x3 with z0 | ⟨-, x3⟩
      · omega
      · obtain ⟨pn, rfl⟩ : ∃ k : Nat, p = k := ⟨p.toNat, by omega⟩
        have e := x3 pn (by omega)
        rw [pm_pu_n, ux_102_46]
        simp only [ux_102_0, ux_102_1, ux_102_4, ux_102_5, ux_102_8, ux_102_11, ux_102_12, ux_102_15, ux_102_16, ux_102_17, ux_102_20, ux_102_21, ux_102_23, ux_102_26, ux_102_32, ux_102_34, ux_102_36, ux_102_39, ux_102_40, ux_102_43, ux_102_47, ux_102_50, ux_102_51, ux_102_54, ux_102_57, ux_102_58, ux_102_59, ux_102_62, ux_102_63, ux_102_66, ux_102_69, ux_102_70, ux_102_71, pm_i_c, pm_l_c, pm_q_c, pm_r_c, pm_li_0, pm_li_s, pm_ll_0, pm_ll_s, pm_lq_0, pm_lq_s, pm_s1, pm_s2, pm_kl, pm_wI, pm_wR, pm_pu_n, pm_pu_s, pm_wt, List.take_succ_cons, List.take_zero, List.take_nil, List.drop_succ_cons, List.drop_zero, List.reverse_cons, List.reverse_nil, List.nil_append, List.cons_append, List.length_cons, List.length_nil, true_and, and_true, true_implies, tn_l, tn_0, Int.reduceToNat, Int.reduceLE, Int.reduceLT, Int.reduceEq, Int.reduceAdd, Int.reduceSub, Int.reduceMul, Int.reduceNeg, Nat.reduceAdd, Nat.reduceLeDiff, Nat.reduceEqDiff, Nat.reduceSub, Option.some.injEq, Sum.inl.injEq, Sum.inr.injEq, or_true, true_or, reduceCtorEq, ne_eq, not_false_eq_true, not_true_eq_false, false_implies, implies_true, false_and, and_false, false_or, or_false, if_true, if_false, fr_0_0 hf, fr_0_1 hf, fr_0_2 hf, fr_0_3 hf, fr_0_7 hf, fr_0_8 hf, fr_0_11 hf, fr_0_12 hf, fg_0 hf, fv_0 hf, fr_1_3 hf, fg_1 hf, fv_1 hf, fr_119_2 hf, fr_119_3 hf, fr_119_4 hf, fr_119_5 hf, fr_119_6 hf, fg_119 hf, fv_119 hf, fb_123 hf, fb_124 hf, e.1, e.2]
        rw [← hQ]
        refine ⟨fun z => ⟨by omega, W, _, rfl, rfl, hqW, hcW, ?_⟩, fun z => ⟨by omega, W, _, rfl, rfl, hqW, hcW, ?_⟩⟩
        · unfold lvPP
          rw [if_neg hg, if_neg c2, Int.toNat_natCast, show w = 1 by omega]
        · unfold lvPP
          rw [if_neg hg, if_neg c2, Int.toNat_natCast, show w = 0 by omega]
  · rw [if_neg c1]
    exact ⟨fun _ => bad (fun z => c1 z.1), fun z => absurd rfl z⟩
end
