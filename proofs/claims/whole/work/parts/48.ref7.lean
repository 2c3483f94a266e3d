/-! THE REFERENCE: undo, looms, end, ways, bar, told -/
def kV (V : Nat → Nat → Int) (o : Nat) : Nat → Nat → Int := pm_up (pm_set V 133 (kpF (V 133) (V 132) o)) 131 2 ((min (o + 1) 20 : Nat) : Int)
theorem kV_ne {V : Nat → Nat → Int} {o q j : Nat} (h1 : q ≠ 133) (h2 : ¬ (q = 131 ∧ j = 2)) : kV V o q j = V q j := by
  unfold kV
  rw [pm_up_ne h2, pm_set_ne h1]
theorem kV_132 {V : Nat → Nat → Int} {o : Nat} : kV V o 132 = V 132 := funext fun j => kV_ne (by decide) (fun w => by cases w.1)
section
variable {d : Nat} {h : pm_H} {V : Nat → Nat → Int} {R : Nat → Nat → Option Nat} {T : List (Nat × Nat)}
def unV (V : Nat → Nat → Int) (o : Nat) : Nat → Nat → Int := pm_set (pm_up V 131 2 ((o - 1 : Nat) : Int)) 132 (fun j => if j < 87 then V 133 (87 * (o - 1) + j) else V 132 j)
set_option maxHeartbeats 1000000 in
theorem m_undo (hd : 1 ≤ d) (hf : fx R T) (o : Nat) (ho : o ≤ 20) (h2 : V 131 2 = o) : pm_ev d 119 [.inr (.inr (some 131))] (V, R, T) (some (.inl (if o = 0 then -2 else ((o - 1 : Nat) : Int)))) (if o = 0 then V else unV V o, R, T) := by
  refine pm_ev_of hd (Nat.le_of_ble_eq_true rfl) ?_
  show pm_w (d - 1) 119 0 [some (.inr (.inr (some 131))), none] [] (V, R, T) _
  simp only [ux_119_0, ux_119_1, ux_119_4, ux_119_7, ux_119_9, ux_119_10, ux_119_11, ux_119_12, ux_119_15, ux_119_16, ux_119_17, ux_119_20, ux_119_21, ux_119_23, ux_119_25, ux_119_28, ux_119_29, ux_119_32, ux_119_33, ux_119_34, ux_119_37, ux_119_39, ux_119_40, ux_119_43, ux_119_44, ux_119_45, ux_119_46, ux_119_47, ux_119_48, ux_119_51, ux_119_54, ux_119_55, ux_119_58, pm_i_c, pm_l_c, pm_q_c, pm_r_c, pm_li_0, pm_li_s, pm_ll_0, pm_ll_s, pm_lq_0, pm_lq_s, pm_s1, pm_s2, pm_kl, pm_wI, pm_wR, pm_pu_n, pm_pu_s, pm_wt, List.take_succ_cons, List.take_zero, List.take_nil, List.drop_succ_cons, List.drop_zero, List.reverse_cons, List.reverse_nil, List.nil_append, List.cons_append, List.length_cons, List.length_nil, true_and, and_true, true_implies, tn_l, tn_0, Int.reduceToNat, Int.reduceLE, Int.reduceLT, Int.reduceEq, Int.reduceAdd, Int.reduceSub, Int.reduceMul, Int.reduceNeg, Nat.reduceAdd, Nat.reduceLeDiff, Nat.reduceEqDiff, Nat.reduceSub, Option.some.injEq, Sum.inl.injEq, Sum.inr.injEq, or_true, true_or, reduceCtorEq, ne_eq, not_false_eq_true, not_true_eq_false, false_implies, implies_true, false_and, and_false, false_or, or_false, if_true, if_false, fr_131_0 hf, fr_131_1 hf, fr_131_5 hf, fr_131_7 hf, fr_131_8 hf, fr_131_9 hf, fr_131_12 hf, fr_131_13 hf, fr_131_14 hf, fr_131_15 hf, fr_131_19 hf, fr_131_20 hf, fr_131_21 hf, fr_131_22 hf, fr_131_23 hf, fr_131_24 hf, fg_131 hf, fv_131 hf, fb_132 hf, fb_133 hf, fb_134 hf, fb_135 hf, fb_136 hf, fb_137 hf, fb_138 hf, fb_139 hf, fb_140 hf, fb_141 hf, fb_142 hf, fb_143 hf, fb_144 hf, fb_145 hf, fb_146 hf, fb_147 hf, h2]
  refine ⟨fun hne => ⟨by unfold pm_I32; omega, ?_⟩, fun he => ?_⟩
  · have hV0 : pm_up V 131 2 ((o : Int) - 1) = pm_set (pm_up V 131 2 ((o - 1 : Nat) : Int)) 132 (fun j => if j < 0 then V 133 (87 * (o - 1) + j) else V 132 j) := by
      have e : (fun j => if j < 0 then V 133 (87 * (o - 1) + j) else V 132 j) = pm_up V 131 2 ((o - 1 : Nat) : Int) 132 := by
        funext j
        rw [if_neg (by omega), pm_up_ne (fun w => by cases w.1)]
      rw [e, pm_set_self, show ((o : Int) - 1) = ((o - 1 : Nat) : Int) by omega]
    rw [hV0]
    refine pm_up0 (fun i => pm_w (d - 1) 119 22 [some (.inr (.inr (some 131))), some (.inl (i : Int))] [] (pm_set (pm_up V 131 2 ((o - 1 : Nat) : Int)) 132 (fun j => if j < i then V 133 (87 * (o - 1) + j) else V 132 j), R, T) _) 87 ?_ ?_
    · rw [ux_119_22]
      simp only [ux_119_0, ux_119_1, ux_119_4, ux_119_7, ux_119_9, ux_119_10, ux_119_11, ux_119_12, ux_119_15, ux_119_16, ux_119_17, ux_119_20, ux_119_21, ux_119_23, ux_119_25, ux_119_28, ux_119_29, ux_119_32, ux_119_33, ux_119_34, ux_119_37, ux_119_39, ux_119_40, ux_119_43, ux_119_44, ux_119_45, ux_119_46, ux_119_47, ux_119_48, ux_119_51, ux_119_54, ux_119_55, ux_119_58, pm_i_c, pm_l_c, pm_q_c, pm_r_c, pm_li_0, pm_li_s, pm_ll_0, pm_ll_s, pm_lq_0, pm_lq_s, pm_s1, pm_s2, pm_kl, pm_wI, pm_wR, pm_pu_n, pm_pu_s, pm_wt, List.take_succ_cons, List.take_zero, List.take_nil, List.drop_succ_cons, List.drop_zero, List.reverse_cons, List.reverse_nil, List.nil_append, List.cons_append, List.length_cons, List.length_nil, true_and, and_true, true_implies, tn_l, tn_0, Int.reduceToNat, Int.reduceLE, Int.reduceLT, Int.reduceEq, Int.reduceAdd, Int.reduceSub, Int.reduceMul, Int.reduceNeg, Nat.reduceAdd, Nat.reduceLeDiff, Nat.reduceEqDiff, Nat.reduceSub, Option.some.injEq, Sum.inl.injEq, Sum.inr.injEq, or_true, true_or, reduceCtorEq, ne_eq, not_false_eq_true, not_true_eq_false, false_implies, implies_true, false_and, and_false, false_or, or_false, if_true, if_false, fr_131_0 hf, fr_131_1 hf, fr_131_5 hf, fr_131_7 hf, fr_131_8 hf, fr_131_9 hf, fr_131_12 hf, fr_131_13 hf, fr_131_14 hf, fr_131_15 hf, fr_131_19 hf, fr_131_20 hf, fr_131_21 hf, fr_131_22 hf, fr_131_23 hf, fr_131_24 hf, fg_131 hf, fv_131 hf, fb_132 hf, fb_133 hf, fb_134 hf, fb_135 hf, fb_136 hf, fb_137 hf, fb_138 hf, fb_139 hf, fb_140 hf, fb_141 hf, fb_142 hf, fb_143 hf, fb_144 hf, fb_145 hf, fb_146 hf, fb_147 hf]
      refine ⟨fun _ => ?_, fun z => absurd (by decide) z⟩
      rw [pm_set_ne (by decide), pm_up_eq, if_neg (by omega), if_neg (by omega)]
      exact ⟨rfl, rfl⟩
    · intro i hi hP
      rw [ux_119_22]
      simp only [ux_119_0, ux_119_1, ux_119_4, ux_119_7, ux_119_9, ux_119_10, ux_119_11, ux_119_12, ux_119_15, ux_119_16, ux_119_17, ux_119_20, ux_119_21, ux_119_23, ux_119_25, ux_119_28, ux_119_29, ux_119_32, ux_119_33, ux_119_34, ux_119_37, ux_119_39, ux_119_40, ux_119_43, ux_119_44, ux_119_45, ux_119_46, ux_119_47, ux_119_48, ux_119_51, ux_119_54, ux_119_55, ux_119_58, pm_i_c, pm_l_c, pm_q_c, pm_r_c, pm_li_0, pm_li_s, pm_ll_0, pm_ll_s, pm_lq_0, pm_lq_s, pm_s1, pm_s2, pm_kl, pm_wI, pm_wR, pm_pu_n, pm_pu_s, pm_wt, List.take_succ_cons, List.take_zero, List.take_nil, List.drop_succ_cons, List.drop_zero, List.reverse_cons, List.reverse_nil, List.nil_append, List.cons_append, List.length_cons, List.length_nil, true_and, and_true, true_implies, tn_l, tn_0, Int.reduceToNat, Int.reduceLE, Int.reduceLT, Int.reduceEq, Int.reduceAdd, Int.reduceSub, Int.reduceMul, Int.reduceNeg, Nat.reduceAdd, Nat.reduceLeDiff, Nat.reduceEqDiff, Nat.reduceSub, Option.some.injEq, Sum.inl.injEq, Sum.inr.injEq, or_true, true_or, reduceCtorEq, ne_eq, not_false_eq_true, not_true_eq_false, false_implies, implies_true, false_and, and_false, false_or, or_false, if_true, if_false, fr_131_0 hf, fr_131_1 hf, fr_131_5 hf, fr_131_7 hf, fr_131_8 hf, fr_131_9 hf, fr_131_12 hf, fr_131_13 hf, fr_131_14 hf, fr_131_15 hf, fr_131_19 hf, fr_131_20 hf, fr_131_21 hf, fr_131_22 hf, fr_131_23 hf, fr_131_24 hf, fg_131 hf, fv_131 hf, fb_132 hf, fb_133 hf, fb_134 hf, fb_135 hf, fb_136 hf, fb_137 hf, fb_138 hf, fb_139 hf, fb_140 hf, fb_141 hf, fb_142 hf, fb_143 hf, fb_144 hf, fb_145 hf, fb_146 hf, fb_147 hf]
      rw [pm_set_ne (show 131 ≠ 132 by decide), pm_up_eq, pm_set_ne (show 133 ≠ 132 by decide), pm_up_ne (fun w => by cases w.1)]
      have e1 : (87 * ((o - 1 : Nat) : Int) + (i : Int)).toNat = 87 * (o - 1) + i := by omega
      have e3 : pm_up (pm_set (pm_up V 131 2 ((o - 1 : Nat) : Int)) 132 (fun j => if j < i then V 133 (87 * (o - 1) + j) else V 132 j)) 132 i (V 133 (87 * (o - 1) + i)) = pm_set (pm_up V 131 2 ((o - 1 : Nat) : Int)) 132 (fun j => if j < i + 1 then V 133 (87 * (o - 1) + j) else V 132 j) := by
        rw [pm_up_set]
        congr 1
        funext j
        by_cases h1 : j = i
        · rw [if_pos h1, if_pos (by omega), h1]
        · rw [if_neg h1]
          by_cases h3 : j < i
          · rw [if_pos h3, if_pos (by omega)]
          · rw [if_neg h3, if_neg (by omega)]
      rw [e1, e3]
      refine ⟨fun z => by omega, fun _ => ⟨by unfold pm_I32; omega, by unfold pm_I32; omega, by omega, by omega, by unfold pm_I32; omega, hP⟩⟩
  · have e0 : o = 0 := by omega
    subst e0
    exact ⟨rfl, rfl⟩
theorem m_looms (hd : 2 ≤ d) (hf : fx R T) (o : Nat) (ho : o ≤ 20) (h2 : V 131 2 = o) (x : Int) : pm_ev d 120 [.inr (.inr (some 131)), .inl x] (V, R, T) (some (.inl (if 1 ≤ x ∧ x ≤ 6 then V 132 0 else -1))) (if 1 ≤ x ∧ x ≤ 6 then pm_up (kV V o) 132 0 x else V, R, T) := by
  refine pm_ev_of (by omega) (Nat.le_of_ble_eq_true rfl) ?_
  show pm_w (d - 1) 120 0 [some (.inr (.inr (some 131))), some (.inl x), none] [] (V, R, T) _
  simp only [ux_120_0, ux_120_1, ux_120_2, ux_120_4, ux_120_7, ux_120_10, ux_120_11, ux_120_12, ux_120_13, ux_120_16, ux_120_17, ux_120_20, ux_120_21, ux_120_22, ux_120_23, ux_120_24, ux_120_27, ux_120_28, ux_120_29, ux_120_30, ux_120_31, pm_i_c, pm_l_c, pm_q_c, pm_r_c, pm_li_0, pm_li_s, pm_ll_0, pm_ll_s, pm_lq_0, pm_lq_s, pm_s1, pm_s2, pm_kl, pm_wI, pm_wR, pm_pu_n, pm_pu_s, pm_wt, List.take_succ_cons, List.take_zero, List.take_nil, List.drop_succ_cons, List.drop_zero, List.reverse_cons, List.reverse_nil, List.nil_append, List.cons_append, List.length_cons, List.length_nil, true_and, and_true, true_implies, tn_l, tn_0, Int.reduceToNat, Int.reduceLE, Int.reduceLT, Int.reduceEq, Int.reduceAdd, Int.reduceSub, Int.reduceMul, Int.reduceNeg, Nat.reduceAdd, Nat.reduceLeDiff, Nat.reduceEqDiff, Nat.reduceSub, Option.some.injEq, Sum.inl.injEq, Sum.inr.injEq, or_true, true_or, reduceCtorEq, ne_eq, not_false_eq_true, not_true_eq_false, false_implies, implies_true, false_and, and_false, false_or, or_false, if_true, if_false, fr_131_0 hf, fr_131_1 hf, fr_131_5 hf, fr_131_7 hf, fr_131_8 hf, fr_131_9 hf, fr_131_12 hf, fr_131_13 hf, fr_131_14 hf, fr_131_15 hf, fr_131_19 hf, fr_131_20 hf, fr_131_21 hf, fr_131_22 hf, fr_131_23 hf, fr_131_24 hf, fg_131 hf, fv_131 hf, fb_132 hf, fb_133 hf, fb_134 hf, fb_135 hf, fb_136 hf, fb_137 hf, fb_138 hf, fb_139 hf, fb_140 hf, fb_141 hf, fb_142 hf, fb_143 hf, fb_144 hf, fb_145 hf, fb_146 hf, fb_147 hf, pm_ok_ev (m_in (d := d - 1) (by omega) _ _ _), pm_ok_ev (m_keep (d := d - 1) (V := V) (by omega) hf o ho h2)]
  by_cases hc : 1 ≤ x ∧ x ≤ 6
  · simp only [if_pos hc]
    refine ⟨fun _ => ⟨?_, rfl⟩, fun z => absurd (by decide) z⟩
    exact congrFun kV_132 0
  · simp only [if_neg hc]
    exact ⟨fun z => absurd trivial z, fun _ => ⟨trivial, trivial⟩⟩
theorem m_end (hd : 2 ≤ d) (hf : fx R T) (o : Nat) (ho : o ≤ 20) (h2 : V 131 2 = o) (x : Int) : pm_ev d 123 [.inr (.inr (some 131)), .inl x] (V, R, T) (some (.inl (if 1 ≤ x ∧ x ≤ 60 then V 132 1 else -1))) (if 1 ≤ x ∧ x ≤ 60 then pm_up (kV V o) 132 1 x else V, R, T) := by
  refine pm_ev_of (by omega) (Nat.le_of_ble_eq_true rfl) ?_
  show pm_w (d - 1) 123 0 [some (.inr (.inr (some 131))), some (.inl x), none] [] (V, R, T) _
  simp only [ux_123_0, ux_123_1, ux_123_2, ux_123_4, ux_123_7, ux_123_10, ux_123_11, ux_123_12, ux_123_13, ux_123_16, ux_123_17, ux_123_20, ux_123_21, ux_123_22, ux_123_23, ux_123_24, ux_123_27, ux_123_28, ux_123_29, ux_123_30, ux_123_31, pm_i_c, pm_l_c, pm_q_c, pm_r_c, pm_li_0, pm_li_s, pm_ll_0, pm_ll_s, pm_lq_0, pm_lq_s, pm_s1, pm_s2, pm_kl, pm_wI, pm_wR, pm_pu_n, pm_pu_s, pm_wt, List.take_succ_cons, List.take_zero, List.take_nil, List.drop_succ_cons, List.drop_zero, List.reverse_cons, List.reverse_nil, List.nil_append, List.cons_append, List.length_cons, List.length_nil, true_and, and_true, true_implies, tn_l, tn_0, Int.reduceToNat, Int.reduceLE, Int.reduceLT, Int.reduceEq, Int.reduceAdd, Int.reduceSub, Int.reduceMul, Int.reduceNeg, Nat.reduceAdd, Nat.reduceLeDiff, Nat.reduceEqDiff, Nat.reduceSub, Option.some.injEq, Sum.inl.injEq, Sum.inr.injEq, or_true, true_or, reduceCtorEq, ne_eq, not_false_eq_true, not_true_eq_false, false_implies, implies_true, false_and, and_false, false_or, or_false, if_true, if_false, fr_131_0 hf, fr_131_1 hf, fr_131_5 hf, fr_131_7 hf, fr_131_8 hf, fr_131_9 hf, fr_131_12 hf, fr_131_13 hf, fr_131_14 hf, fr_131_15 hf, fr_131_19 hf, fr_131_20 hf, fr_131_21 hf, fr_131_22 hf, fr_131_23 hf, fr_131_24 hf, fg_131 hf, fv_131 hf, fb_132 hf, fb_133 hf, fb_134 hf, fb_135 hf, fb_136 hf, fb_137 hf, fb_138 hf, fb_139 hf, fb_140 hf, fb_141 hf, fb_142 hf, fb_143 hf, fb_144 hf, fb_145 hf, fb_146 hf, fb_147 hf, pm_ok_ev (m_in (d := d - 1) (by omega) _ _ _), pm_ok_ev (m_keep (d := d - 1) (V := V) (by omega) hf o ho h2)]
  by_cases hc : 1 ≤ x ∧ x ≤ 60
  · simp only [if_pos hc]
    refine ⟨fun _ => ⟨?_, rfl⟩, fun z => absurd (by decide) z⟩
    exact congrFun kV_132 1
  · simp only [if_neg hc]
    exact ⟨fun z => absurd trivial z, fun _ => ⟨trivial, trivial⟩⟩
end
