/-! THE REFERENCE: keep and undo -/
def kpF (K N : Nat → Int) (o : Nat) : Nat → Int := if o = 20 then (fun j => if 1653 ≤ j ∧ j < 1653 + 87 then N (j - 1653) else if j < 1653 then K (j + 87) else K j) else (fun j => if 87 * o ≤ j ∧ j < 87 * o + 87 then N (j - 87 * o) else K j)
theorem pm_upset_ne {V : Nat → Nat → Int} {a q j : Nat} {f : Nat → Int} (h : q ≠ a) : pm_set V a f q j = V q j := if_neg h
section
variable {d : Nat} {h : pm_H} {V : Nat → Nat → Int} {R : Nat → Nat → Option Nat} {T : List (Nat × Nat)}
set_option maxHeartbeats 1000000 in
theorem m_keep2 (hf : fx R T) (o : Nat) (x : Option pm_V) (ho : o < 20) (h2 : V 131 2 = o) (Q : Option pm_V → pm_H → Prop) (hQ : Q none (pm_up (pm_set V 133 (fun j => if 87 * o ≤ j ∧ j < 87 * o + 87 then V 132 (j - 87 * o) else V 133 j)) 131 2 ((o + 1 : Nat) : Int), R, T)) : pm_w d 122 50 [some (.inr (.inr (some 131))), x] [] (V, R, T) Q := by
  rw [ux_122_50]
  simp only [ux_122_0, ux_122_1, ux_122_4, ux_122_6, ux_122_9, ux_122_11, ux_122_12, ux_122_13, ux_122_16, ux_122_19, ux_122_20, ux_122_23, ux_122_24, ux_122_26, ux_122_27, ux_122_28, ux_122_31, ux_122_32, ux_122_33, ux_122_34, ux_122_37, ux_122_40, ux_122_41, ux_122_42, ux_122_45, ux_122_46, ux_122_47, ux_122_50, ux_122_51, ux_122_53, ux_122_55, ux_122_58, ux_122_59, ux_122_62, ux_122_64, ux_122_65, ux_122_68, ux_122_69, ux_122_70, ux_122_71, ux_122_72, ux_122_75, ux_122_76, ux_122_77, ux_122_78, ux_122_81, ux_122_84, ux_122_85, ux_122_86, ux_122_89, ux_122_90, ux_122_91, ux_122_94, pm_i_c, pm_l_c, pm_q_c, pm_r_c, pm_li_0, pm_li_s, pm_ll_0, pm_ll_s, pm_lq_0, pm_lq_s, pm_s1, pm_s2, pm_kl, pm_wI, pm_wR, pm_pu_n, pm_pu_s, pm_wt, List.take_succ_cons, List.take_zero, List.take_nil, List.drop_succ_cons, List.drop_zero, List.reverse_cons, List.reverse_nil, List.nil_append, List.cons_append, List.length_cons, List.length_nil, true_and, and_true, true_implies, tn_l, tn_0, Int.reduceToNat, Int.reduceLE, Int.reduceLT, Int.reduceEq, Int.reduceAdd, Int.reduceSub, Int.reduceMul, Int.reduceNeg, Nat.reduceAdd, Nat.reduceLeDiff, Nat.reduceEqDiff, Nat.reduceSub, Option.some.injEq, Sum.inl.injEq, Sum.inr.injEq, or_true, true_or, reduceCtorEq, ne_eq, not_false_eq_true, not_true_eq_false, false_implies, implies_true, false_and, and_false, false_or, or_false, if_true, if_false, fr_131_0 hf, fr_131_1 hf, fr_131_5 hf, fr_131_7 hf, fr_131_8 hf, fr_131_9 hf, fr_131_12 hf, fr_131_13 hf, fr_131_14 hf, fr_131_15 hf, fr_131_19 hf, fr_131_20 hf, fr_131_21 hf, fr_131_22 hf, fr_131_23 hf, fr_131_24 hf, fg_131 hf, fv_131 hf, fb_132 hf, fb_133 hf, fb_134 hf, fb_135 hf, fb_136 hf, fb_137 hf, fb_138 hf, fb_139 hf, fb_140 hf, fb_141 hf, fb_142 hf, fb_143 hf, fb_144 hf, fb_145 hf, fb_146 hf, fb_147 hf]
  have hV0 : V = pm_set V 133 (fun j => if 87 * o ≤ j ∧ j < 87 * o + 0 then V 132 (j - 87 * o) else V 133 j) := by
    have : (fun j => if 87 * o ≤ j ∧ j < 87 * o + 0 then V 132 (j - 87 * o) else V 133 j) = V 133 := by
      funext j
      rw [if_neg (by omega)]
    rw [this, pm_set_self]
  have hP := pm_up0 (fun i => pm_w d 122 52 [some (.inr (.inr (some 131))), some (.inl (i : Int))] [] (pm_set V 133 (fun j => if 87 * o ≤ j ∧ j < 87 * o + i then V 132 (j - 87 * o) else V 133 j), R, T) Q) 87 ?_ ?_
  · rw [← hV0] at hP
    exact hP
  · rw [ux_122_52]
    simp only [ux_122_0, ux_122_1, ux_122_4, ux_122_6, ux_122_9, ux_122_11, ux_122_12, ux_122_13, ux_122_16, ux_122_19, ux_122_20, ux_122_23, ux_122_24, ux_122_26, ux_122_27, ux_122_28, ux_122_31, ux_122_32, ux_122_33, ux_122_34, ux_122_37, ux_122_40, ux_122_41, ux_122_42, ux_122_45, ux_122_46, ux_122_47, ux_122_50, ux_122_51, ux_122_53, ux_122_55, ux_122_58, ux_122_59, ux_122_62, ux_122_64, ux_122_65, ux_122_68, ux_122_69, ux_122_70, ux_122_71, ux_122_72, ux_122_75, ux_122_76, ux_122_77, ux_122_78, ux_122_81, ux_122_84, ux_122_85, ux_122_86, ux_122_89, ux_122_90, ux_122_91, ux_122_94, pm_i_c, pm_l_c, pm_q_c, pm_r_c, pm_li_0, pm_li_s, pm_ll_0, pm_ll_s, pm_lq_0, pm_lq_s, pm_s1, pm_s2, pm_kl, pm_wI, pm_wR, pm_pu_n, pm_pu_s, pm_wt, List.take_succ_cons, List.take_zero, List.take_nil, List.drop_succ_cons, List.drop_zero, List.reverse_cons, List.reverse_nil, List.nil_append, List.cons_append, List.length_cons, List.length_nil, true_and, and_true, true_implies, tn_l, tn_0, Int.reduceToNat, Int.reduceLE, Int.reduceLT, Int.reduceEq, Int.reduceAdd, Int.reduceSub, Int.reduceMul, Int.reduceNeg, Nat.reduceAdd, Nat.reduceLeDiff, Nat.reduceEqDiff, Nat.reduceSub, Option.some.injEq, Sum.inl.injEq, Sum.inr.injEq, or_true, true_or, reduceCtorEq, ne_eq, not_false_eq_true, not_true_eq_false, false_implies, implies_true, false_and, and_false, false_or, or_false, if_true, if_false, fr_131_0 hf, fr_131_1 hf, fr_131_5 hf, fr_131_7 hf, fr_131_8 hf, fr_131_9 hf, fr_131_12 hf, fr_131_13 hf, fr_131_14 hf, fr_131_15 hf, fr_131_19 hf, fr_131_20 hf, fr_131_21 hf, fr_131_22 hf, fr_131_23 hf, fr_131_24 hf, fg_131 hf, fv_131 hf, fb_132 hf, fb_133 hf, fb_134 hf, fb_135 hf, fb_136 hf, fb_137 hf, fb_138 hf, fb_139 hf, fb_140 hf, fb_141 hf, fb_142 hf, fb_143 hf, fb_144 hf, fb_145 hf, fb_146 hf, fb_147 hf]
    rw [pm_set_ne (by decide), h2]
    refine ⟨fun _ => ⟨by unfold pm_I32; omega, hQ⟩, fun z => absurd (by decide) z⟩
  · intro i hi hP
    rw [ux_122_52]
    simp only [ux_122_0, ux_122_1, ux_122_4, ux_122_6, ux_122_9, ux_122_11, ux_122_12, ux_122_13, ux_122_16, ux_122_19, ux_122_20, ux_122_23, ux_122_24, ux_122_26, ux_122_27, ux_122_28, ux_122_31, ux_122_32, ux_122_33, ux_122_34, ux_122_37, ux_122_40, ux_122_41, ux_122_42, ux_122_45, ux_122_46, ux_122_47, ux_122_50, ux_122_51, ux_122_53, ux_122_55, ux_122_58, ux_122_59, ux_122_62, ux_122_64, ux_122_65, ux_122_68, ux_122_69, ux_122_70, ux_122_71, ux_122_72, ux_122_75, ux_122_76, ux_122_77, ux_122_78, ux_122_81, ux_122_84, ux_122_85, ux_122_86, ux_122_89, ux_122_90, ux_122_91, ux_122_94, pm_i_c, pm_l_c, pm_q_c, pm_r_c, pm_li_0, pm_li_s, pm_ll_0, pm_ll_s, pm_lq_0, pm_lq_s, pm_s1, pm_s2, pm_kl, pm_wI, pm_wR, pm_pu_n, pm_pu_s, pm_wt, List.take_succ_cons, List.take_zero, List.take_nil, List.drop_succ_cons, List.drop_zero, List.reverse_cons, List.reverse_nil, List.nil_append, List.cons_append, List.length_cons, List.length_nil, true_and, and_true, true_implies, tn_l, tn_0, Int.reduceToNat, Int.reduceLE, Int.reduceLT, Int.reduceEq, Int.reduceAdd, Int.reduceSub, Int.reduceMul, Int.reduceNeg, Nat.reduceAdd, Nat.reduceLeDiff, Nat.reduceEqDiff, Nat.reduceSub, Option.some.injEq, Sum.inl.injEq, Sum.inr.injEq, or_true, true_or, reduceCtorEq, ne_eq, not_false_eq_true, not_true_eq_false, false_implies, implies_true, false_and, and_false, false_or, or_false, if_true, if_false, fr_131_0 hf, fr_131_1 hf, fr_131_5 hf, fr_131_7 hf, fr_131_8 hf, fr_131_9 hf, fr_131_12 hf, fr_131_13 hf, fr_131_14 hf, fr_131_15 hf, fr_131_19 hf, fr_131_20 hf, fr_131_21 hf, fr_131_22 hf, fr_131_23 hf, fr_131_24 hf, fg_131 hf, fv_131 hf, fb_132 hf, fb_133 hf, fb_134 hf, fb_135 hf, fb_136 hf, fb_137 hf, fb_138 hf, fb_139 hf, fb_140 hf, fb_141 hf, fb_142 hf, fb_143 hf, fb_144 hf, fb_145 hf, fb_146 hf, fb_147 hf]
    rw [pm_set_ne (show 131 ≠ 133 by decide), h2, pm_set_ne (show 132 ≠ 133 by decide)]
    have e1 : (87 * (o : Int) + (i : Int)).toNat = 87 * o + i := by omega
    have e3 : pm_up (pm_set V 133 (fun j => if 87 * o ≤ j ∧ j < 87 * o + i then V 132 (j - 87 * o) else V 133 j)) 133 (87 * o + i) (V 132 i) = pm_set V 133 (fun j => if 87 * o ≤ j ∧ j < 87 * o + (i + 1) then V 132 (j - 87 * o) else V 133 j) := by
      rw [pm_up_set]
      congr 1
      funext j
      by_cases h1 : j = 87 * o + i
      · rw [if_pos h1, if_pos (by omega), h1, show 87 * o + i - 87 * o = i by omega]
      · rw [if_neg h1]
        by_cases h3 : 87 * o ≤ j ∧ j < 87 * o + i
        · rw [if_pos h3, if_pos (by omega)]
        · rw [if_neg h3, if_neg (by omega)]
    rw [e1, e3]
    refine ⟨fun z => by omega, fun _ => ⟨by unfold pm_I32; omega, by unfold pm_I32; omega, by omega, by omega, by unfold pm_I32; omega, hP⟩⟩
set_option maxHeartbeats 1000000 in
theorem m_keep (hd : 1 ≤ d) (hf : fx R T) (o : Nat) (ho : o ≤ 20) (h2 : V 131 2 = o) : pm_ev d 122 [.inr (.inr (some 131))] (V, R, T) none (pm_up (pm_set V 133 (kpF (V 133) (V 132) o)) 131 2 ((min (o + 1) 20 : Nat) : Int), R, T) := by
  refine pm_ev_of hd (Nat.le_of_ble_eq_true rfl) ?_
  show pm_w (d - 1) 122 0 [some (.inr (.inr (some 131))), none] [] (V, R, T) _
  simp only [ux_122_0, ux_122_1, ux_122_4, ux_122_6, ux_122_9, ux_122_11, ux_122_13, ux_122_16, ux_122_19, ux_122_20, ux_122_23, ux_122_24, ux_122_26, ux_122_27, ux_122_28, ux_122_31, ux_122_32, ux_122_33, ux_122_34, ux_122_37, ux_122_40, ux_122_41, ux_122_42, ux_122_45, ux_122_46, ux_122_47, ux_122_51, ux_122_52, ux_122_53, ux_122_55, ux_122_58, ux_122_59, ux_122_62, ux_122_64, ux_122_65, ux_122_68, ux_122_69, ux_122_70, ux_122_71, ux_122_72, ux_122_75, ux_122_76, ux_122_77, ux_122_78, ux_122_81, ux_122_84, ux_122_85, ux_122_86, ux_122_89, ux_122_90, ux_122_91, ux_122_94, pm_i_c, pm_l_c, pm_q_c, pm_r_c, pm_li_0, pm_li_s, pm_ll_0, pm_ll_s, pm_lq_0, pm_lq_s, pm_s1, pm_s2, pm_kl, pm_wI, pm_wR, pm_pu_n, pm_pu_s, pm_wt, List.take_succ_cons, List.take_zero, List.take_nil, List.drop_succ_cons, List.drop_zero, List.reverse_cons, List.reverse_nil, List.nil_append, List.cons_append, List.length_cons, List.length_nil, true_and, and_true, true_implies, tn_l, tn_0, Int.reduceToNat, Int.reduceLE, Int.reduceLT, Int.reduceEq, Int.reduceAdd, Int.reduceSub, Int.reduceMul, Int.reduceNeg, Nat.reduceAdd, Nat.reduceLeDiff, Nat.reduceEqDiff, Nat.reduceSub, Option.some.injEq, Sum.inl.injEq, Sum.inr.injEq, or_true, true_or, reduceCtorEq, ne_eq, not_false_eq_true, not_true_eq_false, false_implies, implies_true, false_and, and_false, false_or, or_false, if_true, if_false, fr_131_0 hf, fr_131_1 hf, fr_131_5 hf, fr_131_7 hf, fr_131_8 hf, fr_131_9 hf, fr_131_12 hf, fr_131_13 hf, fr_131_14 hf, fr_131_15 hf, fr_131_19 hf, fr_131_20 hf, fr_131_21 hf, fr_131_22 hf, fr_131_23 hf, fr_131_24 hf, fg_131 hf, fv_131 hf, fb_132 hf, fb_133 hf, fb_134 hf, fb_135 hf, fb_136 hf, fb_137 hf, fb_138 hf, fb_139 hf, fb_140 hf, fb_141 hf, fb_142 hf, fb_143 hf, fb_144 hf, fb_145 hf, fb_146 hf, fb_147 hf, h2]
  refine ⟨fun hne => ?_, fun he => ?_⟩
  · refine m_keep2 hf o none (by omega) h2 _ ⟨rfl, ?_⟩
    unfold kpF
    rw [if_neg (by omega), show min (o + 1) 20 = o + 1 by omega]
  · have eo : o = 20 := by omega
    subst eo
    have hV0 : V = pm_set V 133 (fun j => if j < 0 then V 133 (j + 87) else V 133 j) := by
      have : (fun j => if j < 0 then V 133 (j + 87) else V 133 j) = V 133 := by
        funext j
        rw [if_neg (by omega)]
      rw [this, pm_set_self]
    have hP := pm_up0 (fun i => pm_w (d - 1) 122 12 [some (.inr (.inr (some 131))), some (.inl ((87 + i : Nat) : Int))] [] (pm_set V 133 (fun j => if j < i then V 133 (j + 87) else V 133 j), R, T) (fun r2 h2 => r2 = none ∧ h2 = (pm_up (pm_set V 133 (kpF (V 133) (V 132) 20)) 131 2 ((min (20 + 1) 20 : Nat) : Int), R, T))) 1653 ?_ ?_
    · rw [← hV0] at hP
      exact hP
    · rw [ux_122_12]
      simp only [ux_122_0, ux_122_1, ux_122_4, ux_122_6, ux_122_9, ux_122_11, ux_122_13, ux_122_16, ux_122_19, ux_122_20, ux_122_23, ux_122_24, ux_122_26, ux_122_27, ux_122_28, ux_122_31, ux_122_32, ux_122_33, ux_122_34, ux_122_37, ux_122_40, ux_122_41, ux_122_42, ux_122_45, ux_122_46, ux_122_47, ux_122_51, ux_122_52, ux_122_53, ux_122_55, ux_122_58, ux_122_59, ux_122_62, ux_122_64, ux_122_65, ux_122_68, ux_122_69, ux_122_70, ux_122_71, ux_122_72, ux_122_75, ux_122_76, ux_122_77, ux_122_78, ux_122_81, ux_122_84, ux_122_85, ux_122_86, ux_122_89, ux_122_90, ux_122_91, ux_122_94, pm_i_c, pm_l_c, pm_q_c, pm_r_c, pm_li_0, pm_li_s, pm_ll_0, pm_ll_s, pm_lq_0, pm_lq_s, pm_s1, pm_s2, pm_kl, pm_wI, pm_wR, pm_pu_n, pm_pu_s, pm_wt, List.take_succ_cons, List.take_zero, List.take_nil, List.drop_succ_cons, List.drop_zero, List.reverse_cons, List.reverse_nil, List.nil_append, List.cons_append, List.length_cons, List.length_nil, true_and, and_true, true_implies, tn_l, tn_0, Int.reduceToNat, Int.reduceLE, Int.reduceLT, Int.reduceEq, Int.reduceAdd, Int.reduceSub, Int.reduceMul, Int.reduceNeg, Nat.reduceAdd, Nat.reduceLeDiff, Nat.reduceEqDiff, Nat.reduceSub, Option.some.injEq, Sum.inl.injEq, Sum.inr.injEq, or_true, true_or, reduceCtorEq, ne_eq, not_false_eq_true, not_true_eq_false, false_implies, implies_true, false_and, and_false, false_or, or_false, if_true, if_false, fr_131_0 hf, fr_131_1 hf, fr_131_5 hf, fr_131_7 hf, fr_131_8 hf, fr_131_9 hf, fr_131_12 hf, fr_131_13 hf, fr_131_14 hf, fr_131_15 hf, fr_131_19 hf, fr_131_20 hf, fr_131_21 hf, fr_131_22 hf, fr_131_23 hf, fr_131_24 hf, fg_131 hf, fv_131 hf, fb_132 hf, fb_133 hf, fb_134 hf, fb_135 hf, fb_136 hf, fb_137 hf, fb_138 hf, fb_139 hf, fb_140 hf, fb_141 hf, fb_142 hf, fb_143 hf, fb_144 hf, fb_145 hf, fb_146 hf, fb_147 hf]
      rw [pm_set_ne (show 131 ≠ 133 by decide), h2]
      refine ⟨fun _ => ⟨by unfold pm_I32; omega, ?_⟩, fun z => absurd (by decide) z⟩
      refine m_keep2 hf 19 _ (by decide) ?_ _ ⟨rfl, ?_⟩
      · exact pm_up_eq
      · unfold kpF
        rw [if_pos rfl]
        congr 1
        funext q j
        by_cases h1 : q = 131 ∧ j = 2
        · obtain ⟨rfl, rfl⟩ := h1
          rw [pm_up_eq, pm_up_eq]
          rfl
        · rw [pm_up_ne h1, pm_up_ne h1]
          by_cases h3 : q = 133
          · subst h3
            rw [pm_set_eq, pm_set_eq]
            by_cases h4 : 1653 ≤ j ∧ j < 1653 + 87
            · rw [if_pos (by omega), if_pos h4, pm_up_ne (by omega), pm_set_ne (by decide)]
            · rw [if_neg (by omega), if_neg h4, pm_up_ne (by omega), pm_set_eq]
          · rw [pm_set_ne h3, pm_set_ne h3, pm_up_ne h1, pm_set_ne h3]
    · intro i hi hP
      rw [ux_122_12]
      simp only [ux_122_0, ux_122_1, ux_122_4, ux_122_6, ux_122_9, ux_122_11, ux_122_13, ux_122_16, ux_122_19, ux_122_20, ux_122_23, ux_122_24, ux_122_26, ux_122_27, ux_122_28, ux_122_31, ux_122_32, ux_122_33, ux_122_34, ux_122_37, ux_122_40, ux_122_41, ux_122_42, ux_122_45, ux_122_46, ux_122_47, ux_122_51, ux_122_52, ux_122_53, ux_122_55, ux_122_58, ux_122_59, ux_122_62, ux_122_64, ux_122_65, ux_122_68, ux_122_69, ux_122_70, ux_122_71, ux_122_72, ux_122_75, ux_122_76, ux_122_77, ux_122_78, ux_122_81, ux_122_84, ux_122_85, ux_122_86, ux_122_89, ux_122_90, ux_122_91, ux_122_94, pm_i_c, pm_l_c, pm_q_c, pm_r_c, pm_li_0, pm_li_s, pm_ll_0, pm_ll_s, pm_lq_0, pm_lq_s, pm_s1, pm_s2, pm_kl, pm_wI, pm_wR, pm_pu_n, pm_pu_s, pm_wt, List.take_succ_cons, List.take_zero, List.take_nil, List.drop_succ_cons, List.drop_zero, List.reverse_cons, List.reverse_nil, List.nil_append, List.cons_append, List.length_cons, List.length_nil, true_and, and_true, true_implies, tn_l, tn_0, Int.reduceToNat, Int.reduceLE, Int.reduceLT, Int.reduceEq, Int.reduceAdd, Int.reduceSub, Int.reduceMul, Int.reduceNeg, Nat.reduceAdd, Nat.reduceLeDiff, Nat.reduceEqDiff, Nat.reduceSub, Option.some.injEq, Sum.inl.injEq, Sum.inr.injEq, or_true, true_or, reduceCtorEq, ne_eq, not_false_eq_true, not_true_eq_false, false_implies, implies_true, false_and, and_false, false_or, or_false, if_true, if_false, fr_131_0 hf, fr_131_1 hf, fr_131_5 hf, fr_131_7 hf, fr_131_8 hf, fr_131_9 hf, fr_131_12 hf, fr_131_13 hf, fr_131_14 hf, fr_131_15 hf, fr_131_19 hf, fr_131_20 hf, fr_131_21 hf, fr_131_22 hf, fr_131_23 hf, fr_131_24 hf, fg_131 hf, fv_131 hf, fb_132 hf, fb_133 hf, fb_134 hf, fb_135 hf, fb_136 hf, fb_137 hf, fb_138 hf, fb_139 hf, fb_140 hf, fb_141 hf, fb_142 hf, fb_143 hf, fb_144 hf, fb_145 hf, fb_146 hf, fb_147 hf]
      have e1 : (((87 + i : Nat) : Int) - 87).toNat = i := by omega
      have e3 : pm_up (pm_set V 133 (fun j => if j < i then V 133 (j + 87) else V 133 j)) 133 i (pm_set V 133 (fun j => if j < i then V 133 (j + 87) else V 133 j) 133 (87 + i)) = pm_set V 133 (fun j => if j < i + 1 then V 133 (j + 87) else V 133 j) := by
        rw [pm_up_set, pm_set_eq]
        congr 1
        funext j
        rw [if_neg (show ¬ 87 + i < i by omega)]
        by_cases h1 : j = i
        · rw [if_pos h1, if_pos (by omega), h1, Nat.add_comm]
        · rw [if_neg h1]
          by_cases h3 : j < i
          · rw [if_pos h3, if_pos (by omega)]
          · rw [if_neg h3, if_neg (by omega)]
      rw [e1, e3]
      refine ⟨fun z => by omega, fun _ => ⟨by unfold pm_I32; omega, by omega, by omega, by unfold pm_I32; omega, hP⟩⟩
end
