/-! THE CLASS: level -/
def cst (t : bsT) : bsT := if t.1 = 0 then (0, 0, 1) else t
def cmB (nn : Int) (t : bsT) (x y : Int) : Prop := t.1 * (y - x) < nn * (t.2.2 - t.2.1) ∨ (nn * (t.2.2 - t.2.1) = t.1 * (y - x) ∧ (x < t.2.1 ∨ (x = t.2.1 ∧ y < t.2.2)))
theorem cst_bd {n : Nat} {ln : Nat → Int} {s : lvT} {t : bsT} (h : bsI n ln s t) : 0 ≤ (cst t).1 ∧ (cst t).1 ≤ 720 ∧ 0 ≤ (cst t).2.1 ∧ (cst t).2.1 < (cst t).2.2 ∧ (cst t).2.2 ≤ 60 := by
  unfold cst
  rcases h with h | ⟨h1, h2, h3, h4, h5, h6⟩
  · rw [if_pos h]; decide
  · rw [if_neg (by omega)]; omega
theorem cst_bs1 {n p q : Nat} {ln : Nat → Int} {s : lvT} {t : bsT} (hl : lnO n ln) (ho : lvO n s) (hp : p < n) (hq : q < n) (h : bsI n ln s t) (c1 : s.2.2.2 p = 0) (c2 : s.2.2.2 q = 0) (c3 : s.1 p < s.2.1 q) : (cmB (wiF n ln s.1 s.2.1 s.2.2.2 (s.1 p) (s.2.1 q)) (cst t) (s.1 p) (s.2.1 q) → cst (bs1 n ln s.1 s.2.1 s.2.2.2 p q t) = (wiF n ln s.1 s.2.1 s.2.2.2 (s.1 p) (s.2.1 q), s.1 p, s.2.1 q)) ∧ (¬ cmB (wiF n ln s.1 s.2.1 s.2.2.2 (s.1 p) (s.2.1 q)) (cst t) (s.1 p) (s.2.1 q) → cst (bs1 n ln s.1 s.2.1 s.2.2.2 p q t) = cst t) := by
  have wb := wiF_bd (b := s.1) (e := s.2.1) (v := s.2.2.2) (x := s.1 p) (y := s.2.1 q) hl
  have o1 := (ho p hp).1 c1
  have o2 := (ho q hq).1 c2
  unfold bs1
  generalize wiF n ln s.1 s.2.1 s.2.2.2 (s.1 p) (s.2.1 q) = w at *
  have key : (bsB w t.1 t.2.1 t.2.2 (s.1 p) (s.2.1 q) = true ↔ cmB w (cst t) (s.1 p) (s.2.1 q)) ∧ (bsB w t.1 t.2.1 t.2.2 (s.1 p) (s.2.1 q) = true → w ≠ 0) := by
    unfold bsB cmB
    rw [decide_eq_true_iff]
    rcases h with h | ⟨h1, h2, h3, h4, h5, h6⟩
    · have e : cst t = (0, 0, 1) := by unfold cst; rw [if_pos h]
      rw [e, h]
      show ((_ ∨ _) ↔ (0 * (s.2.1 q - s.1 p) < w * (1 - 0) ∨ (w * (1 - 0) = 0 * (s.2.1 q - s.1 p) ∧ (s.1 p < 0 ∨ (s.1 p = 0 ∧ s.2.1 q < 1))))) ∧ _
      rw [Int.zero_mul, show (1 : Int) - 0 = 1 from rfl, Int.mul_one]
      omega
    · have e : cst t = t := by unfold cst; rw [if_neg (by omega)]
      rw [e]
      have pz := Int.mul_pos h1 (show 0 < s.2.1 q - s.1 p by omega)
      have hw0 : w = 0 → w * (t.2.2 - t.2.1) = 0 := fun z => by rw [z, Int.zero_mul]
      generalize w * (t.2.2 - t.2.1) = m1 at *
      generalize t.1 * (s.2.1 q - s.1 p) = m2 at *
      omega
  refine ⟨fun c => ?_, fun c => ?_⟩
  · have hb := key.1.mpr c
    rw [if_pos ⟨⟨c1, c2, c3⟩, hb⟩]
    unfold cst
    rw [if_neg (key.2 hb)]
  · rw [if_neg (fun z => c (key.1.mp z.2))]
section
variable {d : Nat} {h : pm_H} {V V2 W : Nat → Nat → Int} {R : Nat → Nat → Option Nat} {T : List (Nat × Nat)} {n : Nat} {A : Nat → Int}
def cvL (V : Nat → Nat → Int) : lvT := (V 121, V 122, V 123, V 124)
theorem c_isOpenIn (hd : 1 ≤ d) (hf : fx R T) (p : Nat) (hp : p < 12) (x y : Int) : pm_ev d 108 [.inr (.inr (some 119)), .inl (p : Int), .inl x, .inl y] (V, R, T) (some (.inl (if V 124 p = 0 ∧ x ≤ V 121 p ∧ V 122 p ≤ y then 1 else 0))) (V, R, T) := by
  refine pm_ev_of hd (Nat.le_of_ble_eq_true rfl) ?_
  show pm_w (d - 1) 108 0 [some (.inr (.inr (some 119))), some (.inl (p : Int)), some (.inl x), some (.inl y)] [] (V, R, T) _
  have no : ¬ (V 124 p = 0 ∧ x ≤ V 121 p ∧ V 122 p ≤ y) → (some (Sum.inl 0) : Option pm_V) = some (.inl (if V 124 p = 0 ∧ x ≤ V 121 p ∧ V 122 p ≤ y then 1 else 0)) := fun c => by rw [if_neg c]
  have yes : (V 124 p = 0 ∧ x ≤ V 121 p ∧ V 122 p ≤ y) → (some (Sum.inl 1) : Option pm_V) = some (.inl (if V 124 p = 0 ∧ x ≤ V 121 p ∧ V 122 p ≤ y then 1 else 0)) := fun c => by rw [if_pos c]
  generalize (some (Sum.inl (if V 124 p = 0 ∧ x ≤ V 121 p ∧ V 122 p ≤ y then 1 else 0)) : Option pm_V) = rr at *
  simp only [ux_108_0, ux_108_1, ux_108_4, ux_108_5, ux_108_6, ux_108_9, ux_108_10, ux_108_13, ux_108_14, ux_108_15, ux_108_16, ux_108_19, ux_108_20, ux_108_23, ux_108_24, ux_108_25, ux_108_26, ux_108_29, ux_108_30, ux_108_33, ux_108_34, pm_i_c, pm_l_c, pm_q_c, pm_r_c, pm_li_0, pm_li_s, pm_ll_0, pm_ll_s, pm_lq_0, pm_lq_s, pm_s1, pm_s2, pm_kl, pm_wI, pm_wR, pm_pu_n, pm_pu_s, pm_wt, List.take_succ_cons, List.take_zero, List.take_nil, List.drop_succ_cons, List.drop_zero, List.reverse_cons, List.reverse_nil, List.nil_append, List.cons_append, List.length_cons, List.length_nil, true_and, and_true, true_implies, tn_l, tn_0, Int.reduceToNat, Int.reduceLE, Int.reduceLT, Int.reduceEq, Int.reduceAdd, Int.reduceSub, Int.reduceMul, Int.reduceNeg, Nat.reduceAdd, Nat.reduceLeDiff, Nat.reduceEqDiff, Nat.reduceSub, Option.some.injEq, Sum.inl.injEq, Sum.inr.injEq, or_true, true_or, reduceCtorEq, ne_eq, not_false_eq_true, not_true_eq_false, false_implies, implies_true, false_and, and_false, false_or, or_false, if_true, if_false, fr_119_2 hf, fr_119_3 hf, fr_119_4 hf, fr_119_5 hf, fr_119_6 hf, fg_119 hf, fv_119 hf, fb_121 hf, fb_122 hf, fb_124 hf]
  refine ⟨by omega, fun c0 => no (by omega), fun c0 => ⟨by omega, fun c1 => no (by omega), fun c1 => ⟨by omega, fun c2 => no (by omega), fun c2 => yes (by omega)⟩⟩⟩
def cspQ (V : Nat → Nat → Int) (R : Nat → Nat → Option Nat) (T : List (Nat × Nat)) (nn : Int) (t : bsT) (x y : Int) (r : Option pm_V) (h2 : pm_H) : Prop := ∃ W, h2 = (W, R, T) ∧ r = none ∧ (∀ q, q ≠ 119 → W q = V q) ∧ (∀ j, j < 7 → W 119 j = V 119 j) ∧ ((cmB nn t x y ∧ W 119 7 = nn ∧ W 119 8 = x ∧ W 119 9 = y) ∨ (¬ cmB nn t x y ∧ W = V))
theorem c_compareSpan (hd : 2 ≤ d) (hf : fx R T) (h1 : V 119 1 = n) (hl : lnO n (V 120)) (t : bsT) (t7 : V 119 7 = t.1) (t8 : V 119 8 = t.2.1) (t9 : V 119 9 = t.2.2) (ht : 0 ≤ t.1 ∧ t.1 ≤ 720 ∧ 0 ≤ t.2.1 ∧ t.2.1 < t.2.2 ∧ t.2.2 ≤ 60) (x y : Int) (hx : 0 ≤ x ∧ x < y ∧ y ≤ 60) : pm_ok d 107 [.inr (.inr (some 119)), .inl x, .inl y] (V, R, T) (cspQ V R T (wiF n (V 120) (V 121) (V 122) (V 124) x y) t x y) := by
  obtain ⟨d, rfl⟩ : ∃ k, d = k + 1 := ⟨d - 1, by omega⟩
  refine pm_ok_iff.mpr ⟨(Nat.le_of_ble_eq_true rfl), ?_⟩
  show pm_w d 107 0 [some (.inr (.inr (some 119))), some (.inl x), some (.inl y), none, none, none, none] [] (V, R, T) _
  have hn := hl.1
  have wb := wiF_bd (b := V 121) (e := V 122) (v := V 124) (x := x) (y := y) hl
  generalize hQ : cspQ V R T (wiF n (V 120) (V 121) (V 122) (V 124) x y) t x y = Q
  simp only [ux_107_0, ux_107_1, ux_107_2, ux_107_3, ux_107_7, ux_107_8, ux_107_11, ux_107_14, ux_107_15, ux_107_17, ux_107_18, ux_107_19, ux_107_22, ux_107_25, ux_107_26, ux_107_27, ux_107_30, ux_107_32, ux_107_33, ux_107_34, ux_107_35, ux_107_38, ux_107_42, ux_107_43, ux_107_46, ux_107_47, ux_107_50, ux_107_51, ux_107_52, ux_107_54, ux_107_55, ux_107_58, ux_107_59, ux_107_60, ux_107_61, ux_107_62, ux_107_64, ux_107_65, ux_107_66, ux_107_69, ux_107_72, ux_107_73, ux_107_74, ux_107_77, ux_107_80, ux_107_81, ux_107_82, ux_107_85, ux_107_88, ux_107_89, ux_107_92, ux_107_93, ux_107_95, ux_107_97, ux_107_99, ux_107_102, ux_107_104, ux_107_106, ux_107_109, ux_107_111, ux_107_115, ux_107_116, ux_107_119, ux_107_120, ux_107_121, ux_107_124, ux_107_125, ux_107_126, pm_i_c, pm_l_c, pm_q_c, pm_r_c, pm_li_0, pm_li_s, pm_ll_0, pm_ll_s, pm_lq_0, pm_lq_s, pm_s1, pm_s2, pm_kl, pm_wI, pm_wR, pm_pu_n, pm_pu_s, pm_wt, List.take_succ_cons, List.take_zero, List.take_nil, List.drop_succ_cons, List.drop_zero, List.reverse_cons, List.reverse_nil, List.nil_append, List.cons_append, List.length_cons, List.length_nil, true_and, and_true, true_implies, tn_l, tn_0, Int.reduceToNat, Int.reduceLE, Int.reduceLT, Int.reduceEq, Int.reduceAdd, Int.reduceSub, Int.reduceMul, Int.reduceNeg, Nat.reduceAdd, Nat.reduceLeDiff, Nat.reduceEqDiff, Nat.reduceSub, Option.some.injEq, Sum.inl.injEq, Sum.inr.injEq, or_true, true_or, reduceCtorEq, ne_eq, not_false_eq_true, not_true_eq_false, false_implies, implies_true, false_and, and_false, false_or, or_false, if_true, if_false, fr_119_2 hf, fr_119_3 hf, fr_119_4 hf, fr_119_5 hf, fr_119_6 hf, fg_119 hf, fv_119 hf, fb_120 hf]
  refine pm_up0 (fun p => pm_w d 107 5 [some (.inr (.inr (some 119))), some (.inl x), some (.inl y), some (.inl (sm (fun p => if V 124 p = 0 ∧ x ≤ V 121 p ∧ V 122 p ≤ y then V 120 p else 0) p)), some (.inl (p : Int)), none, none] [] (V, R, T) Q) n ?_ ?_
  · rw [ux_107_5]
    simp only [ux_107_0, ux_107_1, ux_107_2, ux_107_3, ux_107_7, ux_107_8, ux_107_11, ux_107_14, ux_107_15, ux_107_17, ux_107_18, ux_107_19, ux_107_22, ux_107_25, ux_107_26, ux_107_27, ux_107_30, ux_107_32, ux_107_33, ux_107_34, ux_107_35, ux_107_38, ux_107_42, ux_107_43, ux_107_46, ux_107_47, ux_107_50, ux_107_51, ux_107_52, ux_107_54, ux_107_55, ux_107_58, ux_107_59, ux_107_60, ux_107_61, ux_107_62, ux_107_64, ux_107_65, ux_107_66, ux_107_69, ux_107_72, ux_107_73, ux_107_74, ux_107_77, ux_107_80, ux_107_81, ux_107_82, ux_107_85, ux_107_88, ux_107_89, ux_107_92, ux_107_93, ux_107_95, ux_107_97, ux_107_99, ux_107_102, ux_107_104, ux_107_106, ux_107_109, ux_107_111, ux_107_115, ux_107_116, ux_107_119, ux_107_120, ux_107_121, ux_107_124, ux_107_125, ux_107_126, pm_i_c, pm_l_c, pm_q_c, pm_r_c, pm_li_0, pm_li_s, pm_ll_0, pm_ll_s, pm_lq_0, pm_lq_s, pm_s1, pm_s2, pm_kl, pm_wI, pm_wR, pm_pu_n, pm_pu_s, pm_wt, List.take_succ_cons, List.take_zero, List.take_nil, List.drop_succ_cons, List.drop_zero, List.reverse_cons, List.reverse_nil, List.nil_append, List.cons_append, List.length_cons, List.length_nil, true_and, and_true, true_implies, tn_l, tn_0, Int.reduceToNat, Int.reduceLE, Int.reduceLT, Int.reduceEq, Int.reduceAdd, Int.reduceSub, Int.reduceMul, Int.reduceNeg, Nat.reduceAdd, Nat.reduceLeDiff, Nat.reduceEqDiff, Nat.reduceSub, Option.some.injEq, Sum.inl.injEq, Sum.inr.injEq, or_true, true_or, reduceCtorEq, ne_eq, not_false_eq_true, not_true_eq_false, false_implies, implies_true, false_and, and_false, false_or, or_false, if_true, if_false, fr_119_2 hf, fr_119_3 hf, fr_119_4 hf, fr_119_5 hf, fr_119_6 hf, fg_119 hf, fv_119 hf, fb_120 hf, h1]
    refine ⟨fun _ => ?_, fun z => absurd (Int.le_refl _) z⟩
    show pm_w d 107 41 [some (.inr (.inr (some 119))), some (.inl x), some (.inl y), some (.inl (wiF n (V 120) (V 121) (V 122) (V 124) x y)), some (.inl (n : Int)), none, none] [] (V, R, T) Q
    generalize wiF n (V 120) (V 121) (V 122) (V 124) x y = w at *
    have m1 := mulbd (x := w) (y := t.2.2 - t.2.1) (a := 720) (b := 60) wb.1 wb.2 (by omega) (by omega)
    have m2 := mulbd (x := t.1) (y := y - x) (a := 720) (b := 60) (by omega) (by omega) (by omega) (by omega)
    have no : ∀ ls, ¬ cmB w t x y → pm_w d 107 129 ls [] (V, R, T) Q := by
      intro ls c
      rw [ux_107_129, ← hQ]
      exact ⟨rfl, V, rfl, rfl, fun _ _ => rfl, fun _ _ => rfl, Or.inr ⟨c, rfl⟩⟩
    have yes : ∀ y4 y5 y6, cmB w t x y → pm_w d 107 114 [some (.inr (.inr (some 119))), some (.inl x), some (.inl y), some (.inl w), y4, y5, y6] [] (V, R, T) Q := by
      intro y4 y5 y6 c
      rw [ux_107_114]
      simp only [ux_107_0, ux_107_1, ux_107_2, ux_107_3, ux_107_7, ux_107_8, ux_107_11, ux_107_14, ux_107_15, ux_107_17, ux_107_18, ux_107_19, ux_107_22, ux_107_25, ux_107_26, ux_107_27, ux_107_30, ux_107_32, ux_107_33, ux_107_34, ux_107_35, ux_107_38, ux_107_42, ux_107_43, ux_107_46, ux_107_47, ux_107_50, ux_107_51, ux_107_52, ux_107_54, ux_107_55, ux_107_58, ux_107_59, ux_107_60, ux_107_61, ux_107_62, ux_107_64, ux_107_65, ux_107_66, ux_107_69, ux_107_72, ux_107_73, ux_107_74, ux_107_77, ux_107_80, ux_107_81, ux_107_82, ux_107_85, ux_107_88, ux_107_89, ux_107_92, ux_107_93, ux_107_95, ux_107_97, ux_107_99, ux_107_102, ux_107_104, ux_107_106, ux_107_109, ux_107_111, ux_107_115, ux_107_116, ux_107_119, ux_107_120, ux_107_121, ux_107_124, ux_107_125, ux_107_126, ux_107_129, pm_i_c, pm_l_c, pm_q_c, pm_r_c, pm_li_0, pm_li_s, pm_ll_0, pm_ll_s, pm_lq_0, pm_lq_s, pm_s1, pm_s2, pm_kl, pm_wI, pm_wR, pm_pu_n, pm_pu_s, pm_wt, List.take_succ_cons, List.take_zero, List.take_nil, List.drop_succ_cons, List.drop_zero, List.reverse_cons, List.reverse_nil, List.nil_append, List.cons_append, List.length_cons, List.length_nil, true_and, and_true, true_implies, tn_l, tn_0, Int.reduceToNat, Int.reduceLE, Int.reduceLT, Int.reduceEq, Int.reduceAdd, Int.reduceSub, Int.reduceMul, Int.reduceNeg, Nat.reduceAdd, Nat.reduceLeDiff, Nat.reduceEqDiff, Nat.reduceSub, Option.some.injEq, Sum.inl.injEq, Sum.inr.injEq, or_true, true_or, reduceCtorEq, ne_eq, not_false_eq_true, not_true_eq_false, false_implies, implies_true, false_and, and_false, false_or, or_false, if_true, if_false, fr_119_2 hf, fr_119_3 hf, fr_119_4 hf, fr_119_5 hf, fr_119_6 hf, fg_119 hf, fv_119 hf, fb_120 hf]
      rw [← hQ]
      refine ⟨_, rfl, rfl, fun q hq => by rw [pm_up_fr hq, pm_up_fr hq, pm_up_fr hq], fun j hj => by rw [pm_up_ne (by omega), pm_up_ne (by omega), pm_up_ne (by omega)], Or.inl ⟨c, ?_, ?_, ?_⟩⟩
      · rw [pm_up_ne (by omega), pm_up_ne (by omega), pm_up_eq]
      · rw [pm_up_ne (by omega), pm_up_eq]
      · rw [pm_up_eq]
    unfold cmB at no yes
    rw [ux_107_41]
    simp only [ux_107_0, ux_107_1, ux_107_2, ux_107_3, ux_107_7, ux_107_8, ux_107_11, ux_107_14, ux_107_15, ux_107_17, ux_107_18, ux_107_19, ux_107_22, ux_107_25, ux_107_26, ux_107_27, ux_107_30, ux_107_32, ux_107_33, ux_107_34, ux_107_35, ux_107_38, ux_107_42, ux_107_43, ux_107_46, ux_107_47, ux_107_50, ux_107_51, ux_107_52, ux_107_54, ux_107_55, ux_107_58, ux_107_59, ux_107_60, ux_107_61, ux_107_62, ux_107_64, ux_107_65, ux_107_66, ux_107_69, ux_107_72, ux_107_73, ux_107_74, ux_107_77, ux_107_80, ux_107_81, ux_107_82, ux_107_85, ux_107_88, ux_107_89, ux_107_92, ux_107_93, ux_107_95, ux_107_97, ux_107_99, ux_107_102, ux_107_104, ux_107_106, ux_107_109, ux_107_111, ux_107_115, ux_107_116, ux_107_119, ux_107_120, ux_107_121, ux_107_124, ux_107_125, ux_107_126, pm_i_c, pm_l_c, pm_q_c, pm_r_c, pm_li_0, pm_li_s, pm_ll_0, pm_ll_s, pm_lq_0, pm_lq_s, pm_s1, pm_s2, pm_kl, pm_wI, pm_wR, pm_pu_n, pm_pu_s, pm_wt, List.take_succ_cons, List.take_zero, List.take_nil, List.drop_succ_cons, List.drop_zero, List.reverse_cons, List.reverse_nil, List.nil_append, List.cons_append, List.length_cons, List.length_nil, true_and, and_true, true_implies, tn_l, tn_0, Int.reduceToNat, Int.reduceLE, Int.reduceLT, Int.reduceEq, Int.reduceAdd, Int.reduceSub, Int.reduceMul, Int.reduceNeg, Nat.reduceAdd, Nat.reduceLeDiff, Nat.reduceEqDiff, Nat.reduceSub, Option.some.injEq, Sum.inl.injEq, Sum.inr.injEq, or_true, true_or, reduceCtorEq, ne_eq, not_false_eq_true, not_true_eq_false, false_implies, implies_true, false_and, and_false, false_or, or_false, if_true, if_false, fr_119_2 hf, fr_119_3 hf, fr_119_4 hf, fr_119_5 hf, fr_119_6 hf, fg_119 hf, fv_119 hf, fb_120 hf, t7, t8, t9]
    generalize w * (t.2.2 - t.2.1) = m3 at *
    generalize t.1 * (y - x) = m4 at *
    (repeat' (first | apply And.intro | intro _)) <;> first | omega | (unfold pm_I32; omega) | (unfold pm_I64; omega) | exact no _ (by omega) | exact yes _ _ _ (by omega)
  · intro p hp ih
    have b1 := hl.2 p hp
    have b2 := sm_bd (n := p) (f := fun p => if V 124 p = 0 ∧ x ≤ V 121 p ∧ V 122 p ≤ y then V 120 p else 0) (B := 60) (fun j hj => by have := hl.2 j (by omega); split <;> omega)
    have e : sm (fun p => if V 124 p = 0 ∧ x ≤ V 121 p ∧ V 122 p ≤ y then V 120 p else 0) (p + 1) = sm (fun p => if V 124 p = 0 ∧ x ≤ V 121 p ∧ V 122 p ≤ y then V 120 p else 0) p + if V 124 p = 0 ∧ x ≤ V 121 p ∧ V 122 p ≤ y then V 120 p else 0 := rfl
    rw [e] at ih
    generalize sm (fun p => if V 124 p = 0 ∧ x ≤ V 121 p ∧ V 122 p ≤ y then V 120 p else 0) p = z0 at b2 ih ⊢
    rw [ux_107_5]
    simp only [ux_107_0, ux_107_1, ux_107_2, ux_107_3, ux_107_7, ux_107_8, ux_107_11, ux_107_14, ux_107_15, ux_107_17, ux_107_18, ux_107_19, ux_107_22, ux_107_25, ux_107_26, ux_107_27, ux_107_30, ux_107_32, ux_107_33, ux_107_34, ux_107_35, ux_107_38, ux_107_42, ux_107_43, ux_107_46, ux_107_47, ux_107_50, ux_107_51, ux_107_52, ux_107_54, ux_107_55, ux_107_58, ux_107_59, ux_107_60, ux_107_61, ux_107_62, ux_107_64, ux_107_65, ux_107_66, ux_107_69, ux_107_72, ux_107_73, ux_107_74, ux_107_77, ux_107_80, ux_107_81, ux_107_82, ux_107_85, ux_107_88, ux_107_89, ux_107_92, ux_107_93, ux_107_95, ux_107_97, ux_107_99, ux_107_102, ux_107_104, ux_107_106, ux_107_109, ux_107_111, ux_107_115, ux_107_116, ux_107_119, ux_107_120, ux_107_121, ux_107_124, ux_107_125, ux_107_126, pm_i_c, pm_l_c, pm_q_c, pm_r_c, pm_li_0, pm_li_s, pm_ll_0, pm_ll_s, pm_lq_0, pm_lq_s, pm_s1, pm_s2, pm_kl, pm_wI, pm_wR, pm_pu_n, pm_pu_s, pm_wt, List.take_succ_cons, List.take_zero, List.take_nil, List.drop_succ_cons, List.drop_zero, List.reverse_cons, List.reverse_nil, List.nil_append, List.cons_append, List.length_cons, List.length_nil, true_and, and_true, true_implies, tn_l, tn_0, Int.reduceToNat, Int.reduceLE, Int.reduceLT, Int.reduceEq, Int.reduceAdd, Int.reduceSub, Int.reduceMul, Int.reduceNeg, Nat.reduceAdd, Nat.reduceLeDiff, Nat.reduceEqDiff, Nat.reduceSub, Option.some.injEq, Sum.inl.injEq, Sum.inr.injEq, or_true, true_or, reduceCtorEq, ne_eq, not_false_eq_true, not_true_eq_false, false_implies, implies_true, false_and, and_false, false_or, or_false, if_true, if_false, fr_119_2 hf, fr_119_3 hf, fr_119_4 hf, fr_119_5 hf, fr_119_6 hf, fg_119 hf, fv_119 hf, fb_120 hf, h1, pm_ok_ev (c_isOpenIn (d := d) (V := V) (by omega) hf p (by omega) x y)]
    by_cases c : V 124 p = 0 ∧ x ≤ V 121 p ∧ V 122 p ≤ y
    · rw [if_pos c] at ih
      rw [if_pos c]
      refine ⟨fun z => by omega, fun _ => ⟨fun z => absurd z (by decide), fun _ => ⟨by omega, by unfold pm_I32; omega, by unfold pm_I32; omega, ih⟩⟩⟩
    · rw [if_neg c, Int.add_zero] at ih
      rw [if_neg c]
      refine ⟨fun z => by omega, fun _ => ⟨fun _ => ⟨by unfold pm_I32; omega, ih⟩, fun z => absurd rfl z⟩⟩
end
