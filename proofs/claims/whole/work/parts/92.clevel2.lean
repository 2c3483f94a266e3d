/-! THE CLASS: level as a whole -/
section
variable {d : Nat} {h : pm_H} {V V2 W : Nat → Nat → Int} {R : Nat → Nat → Option Nat} {T : List (Nat × Nat)} {n : Nat} {A : Nat → Int} {ln : Nat → Int}
theorem wiF_ln {ln' b e v : Nat → Int} {x y : Int} (h : ∀ p, p < n → ln p = ln' p) : wiF n ln b e v x y = wiF n ln' b e v x y := sm_congr fun p hp => by rw [h p hp]
def cf9 (V : Nat → Nat → Int) (t : bsT) : Prop := V 119 7 = t.1 ∧ V 119 8 = t.2.1 ∧ V 119 9 = t.2.2
def fbI (V W : Nat → Nat → Int) : Prop := (∀ q, q ≠ 119 → W q = V q) ∧ ∀ j, j < 7 → W 119 j = V 119 j
def fbQ (V : Nat → Nat → Int) (R : Nat → Nat → Option Nat) (T : List (Nat × Nat)) (n : Nat) (ln : Nat → Int) (r : Option pm_V) (h2 : pm_H) : Prop := ∃ W, h2 = (W, R, T) ∧ r = none ∧ fbI V W ∧ cf9 W (cst (lvB n ln (cvL V)))
theorem c_findBest (hd : 3 ≤ d) (hf : fx R T) (h1 : V 119 1 = n) (hl : lnO n ln) (he : ∀ p, p < n → V 120 p = ln p) (ho : lvO n (cvL V)) : pm_ok d 106 [.inr (.inr (some 119))] (V, R, T) (fbQ V R T n ln) := by
  obtain ⟨d, rfl⟩ : ∃ k, d = k + 1 := ⟨d - 1, by omega⟩
  refine pm_ok_iff.mpr ⟨(Nat.le_of_ble_eq_true rfl), ?_⟩
  show pm_w d 106 0 [some (.inr (.inr (some 119))), none, none] [] (V, R, T) _
  have hn := hl.1
  have hl2 : lnO n (V 120) := ⟨hn, fun p hp => by rw [he p hp]; exact hl.2 p hp⟩
  simp only [ux_106_0, ux_106_1, ux_106_2, ux_106_5, ux_106_6, ux_106_7, ux_106_10, ux_106_11, ux_106_12, ux_106_15, ux_106_16, ux_106_18, ux_106_19, ux_106_22, ux_106_25, ux_106_26, ux_106_28, ux_106_29, ux_106_32, ux_106_35, ux_106_36, ux_106_39, ux_106_40, ux_106_41, ux_106_44, ux_106_45, ux_106_48, ux_106_49, ux_106_50, ux_106_53, ux_106_54, ux_106_57, ux_106_58, ux_106_59, ux_106_60, ux_106_63, ux_106_64, ux_106_65, ux_106_68, ux_106_69, ux_106_70, ux_106_73, ux_106_74, ux_106_75, ux_106_76, ux_106_79, ux_106_80, ux_106_81, ux_106_87, ux_106_93, ux_106_96, pm_i_c, pm_l_c, pm_q_c, pm_r_c, pm_li_0, pm_li_s, pm_ll_0, pm_ll_s, pm_lq_0, pm_lq_s, pm_s1, pm_s2, pm_kl, pm_wI, pm_wR, pm_pu_n, pm_pu_s, pm_wt, List.take_succ_cons, List.take_zero, List.take_nil, List.drop_succ_cons, List.drop_zero, List.reverse_cons, List.reverse_nil, List.nil_append, List.cons_append, List.length_cons, List.length_nil, true_and, and_true, true_implies, tn_l, tn_0, Int.reduceToNat, Int.reduceLE, Int.reduceLT, Int.reduceEq, Int.reduceAdd, Int.reduceSub, Int.reduceMul, Int.reduceNeg, Nat.reduceAdd, Nat.reduceLeDiff, Nat.reduceEqDiff, Nat.reduceSub, Option.some.injEq, Sum.inl.injEq, Sum.inr.injEq, or_true, true_or, reduceCtorEq, ne_eq, not_false_eq_true, not_true_eq_false, false_implies, implies_true, false_and, and_false, false_or, or_false, if_true, if_false, fr_119_2 hf, fr_119_3 hf, fr_119_4 hf, fr_119_5 hf, fr_119_6 hf, fg_119 hf, fv_119 hf]
  generalize hV1 : pm_up (pm_up (pm_up V 119 7 0) 119 8 0) 119 9 1 = V1
  have i0 : fbI V V1 := by
    rw [← hV1]
    exact ⟨fun q hq => by rw [pm_up_fr hq, pm_up_fr hq, pm_up_fr hq], fun j hj => by rw [pm_up_ne (by omega), pm_up_ne (by omega), pm_up_ne (by omega)]⟩
  have c0 : cf9 V1 (cst (bsP n ln (V 121) (V 122) (V 124) 0)) := by
    rw [← hV1]
    show _ = (0 : Int) ∧ _ = (0 : Int) ∧ _ = (1 : Int)
    refine ⟨?_, ?_, pm_up_eq⟩
    · rw [pm_up_ne (by omega), pm_up_ne (by omega), pm_up_eq]
    · rw [pm_up_ne (by omega), pm_up_eq]
  clear hV1
  refine pm_up0 (fun p => ∀ (W : Nat → Nat → Int) (y2 : Option pm_V), fbI V W → cf9 W (cst (bsP n ln (V 121) (V 122) (V 124) p)) → pm_w d 106 17 [some (.inr (.inr (some 119))), some (.inl (p : Int)), y2] [] (W, R, T) (fbQ V R T n ln)) n ?_ ?_ V1 _ i0 c0
  · intro W y2 w1 w2
    have e1 : W 119 1 = n := (w1.2 1 (by decide)).trans h1
    rw [ux_106_17]
    simp only [ux_106_0, ux_106_1, ux_106_2, ux_106_5, ux_106_6, ux_106_7, ux_106_10, ux_106_11, ux_106_12, ux_106_15, ux_106_16, ux_106_18, ux_106_19, ux_106_22, ux_106_25, ux_106_26, ux_106_28, ux_106_29, ux_106_32, ux_106_35, ux_106_36, ux_106_39, ux_106_40, ux_106_41, ux_106_44, ux_106_45, ux_106_48, ux_106_49, ux_106_50, ux_106_53, ux_106_54, ux_106_57, ux_106_58, ux_106_59, ux_106_60, ux_106_63, ux_106_64, ux_106_65, ux_106_68, ux_106_69, ux_106_70, ux_106_73, ux_106_74, ux_106_75, ux_106_76, ux_106_79, ux_106_80, ux_106_81, ux_106_87, ux_106_93, ux_106_96, pm_i_c, pm_l_c, pm_q_c, pm_r_c, pm_li_0, pm_li_s, pm_ll_0, pm_ll_s, pm_lq_0, pm_lq_s, pm_s1, pm_s2, pm_kl, pm_wI, pm_wR, pm_pu_n, pm_pu_s, pm_wt, List.take_succ_cons, List.take_zero, List.take_nil, List.drop_succ_cons, List.drop_zero, List.reverse_cons, List.reverse_nil, List.nil_append, List.cons_append, List.length_cons, List.length_nil, true_and, and_true, true_implies, tn_l, tn_0, Int.reduceToNat, Int.reduceLE, Int.reduceLT, Int.reduceEq, Int.reduceAdd, Int.reduceSub, Int.reduceMul, Int.reduceNeg, Nat.reduceAdd, Nat.reduceLeDiff, Nat.reduceEqDiff, Nat.reduceSub, Option.some.injEq, Sum.inl.injEq, Sum.inr.injEq, or_true, true_or, reduceCtorEq, ne_eq, not_false_eq_true, not_true_eq_false, false_implies, implies_true, false_and, and_false, false_or, or_false, if_true, if_false, fr_119_2 hf, fr_119_3 hf, fr_119_4 hf, fr_119_5 hf, fr_119_6 hf, fg_119 hf, fv_119 hf, e1]
    exact ⟨fun _ => ⟨W, rfl, rfl, w1, w2⟩, fun z => absurd (Int.le_refl _) z⟩
  · intro p hp ih W y2 w1 w2
    have e1 : W 119 1 = n := (w1.2 1 (by decide)).trans h1
    rw [ux_106_17]
    simp only [ux_106_0, ux_106_1, ux_106_2, ux_106_5, ux_106_6, ux_106_7, ux_106_10, ux_106_11, ux_106_12, ux_106_15, ux_106_16, ux_106_18, ux_106_19, ux_106_22, ux_106_25, ux_106_26, ux_106_28, ux_106_29, ux_106_32, ux_106_35, ux_106_36, ux_106_39, ux_106_40, ux_106_41, ux_106_44, ux_106_45, ux_106_48, ux_106_49, ux_106_50, ux_106_53, ux_106_54, ux_106_57, ux_106_58, ux_106_59, ux_106_60, ux_106_63, ux_106_64, ux_106_65, ux_106_68, ux_106_69, ux_106_70, ux_106_73, ux_106_74, ux_106_75, ux_106_76, ux_106_79, ux_106_80, ux_106_81, ux_106_87, ux_106_93, ux_106_96, pm_i_c, pm_l_c, pm_q_c, pm_r_c, pm_li_0, pm_li_s, pm_ll_0, pm_ll_s, pm_lq_0, pm_lq_s, pm_s1, pm_s2, pm_kl, pm_wI, pm_wR, pm_pu_n, pm_pu_s, pm_wt, List.take_succ_cons, List.take_zero, List.take_nil, List.drop_succ_cons, List.drop_zero, List.reverse_cons, List.reverse_nil, List.nil_append, List.cons_append, List.length_cons, List.length_nil, true_and, and_true, true_implies, tn_l, tn_0, Int.reduceToNat, Int.reduceLE, Int.reduceLT, Int.reduceEq, Int.reduceAdd, Int.reduceSub, Int.reduceMul, Int.reduceNeg, Nat.reduceAdd, Nat.reduceLeDiff, Nat.reduceEqDiff, Nat.reduceSub, Option.some.injEq, Sum.inl.injEq, Sum.inr.injEq, or_true, true_or, reduceCtorEq, ne_eq, not_false_eq_true, not_true_eq_false, false_implies, implies_true, false_and, and_false, false_or, or_false, if_true, if_false, fr_119_2 hf, fr_119_3 hf, fr_119_4 hf, fr_119_5 hf, fr_119_6 hf, fg_119 hf, fv_119 hf, e1]
    refine ⟨fun z => by omega, fun _ => ?_⟩
    have hI0 := (bsP_ok hl ho p (by omega)).1
    generalize ht : bsP n ln (V 121) (V 122) (V 124) p = t at *
    have hI0 : bsI n ln (cvL V) t := by rw [← ht]; exact hI0
    refine pm_up0 (fun q => ∀ (W : Nat → Nat → Int), fbI V W → bsI n ln (cvL V) (bsQ n ln (V 121) (V 122) (V 124) p q t) → cf9 W (cst (bsQ n ln (V 121) (V 122) (V 124) p q t)) → pm_w d 106 27 [some (.inr (.inr (some 119))), some (.inl (p : Int)), some (.inl (q : Int))] [] (W, R, T) (fbQ V R T n ln)) n ?_ ?_ W w1 hI0 w2
    · intro W w1 w3 w2
      have e1 : W 119 1 = n := (w1.2 1 (by decide)).trans h1
      rw [ux_106_27]
      simp only [ux_106_0, ux_106_1, ux_106_2, ux_106_5, ux_106_6, ux_106_7, ux_106_10, ux_106_11, ux_106_12, ux_106_15, ux_106_16, ux_106_18, ux_106_19, ux_106_22, ux_106_25, ux_106_26, ux_106_28, ux_106_29, ux_106_32, ux_106_35, ux_106_36, ux_106_39, ux_106_40, ux_106_41, ux_106_44, ux_106_45, ux_106_48, ux_106_49, ux_106_50, ux_106_53, ux_106_54, ux_106_57, ux_106_58, ux_106_59, ux_106_60, ux_106_63, ux_106_64, ux_106_65, ux_106_68, ux_106_69, ux_106_70, ux_106_73, ux_106_74, ux_106_75, ux_106_76, ux_106_79, ux_106_80, ux_106_81, ux_106_87, ux_106_93, ux_106_96, pm_i_c, pm_l_c, pm_q_c, pm_r_c, pm_li_0, pm_li_s, pm_ll_0, pm_ll_s, pm_lq_0, pm_lq_s, pm_s1, pm_s2, pm_kl, pm_wI, pm_wR, pm_pu_n, pm_pu_s, pm_wt, List.take_succ_cons, List.take_zero, List.take_nil, List.drop_succ_cons, List.drop_zero, List.reverse_cons, List.reverse_nil, List.nil_append, List.cons_append, List.length_cons, List.length_nil, true_and, and_true, true_implies, tn_l, tn_0, Int.reduceToNat, Int.reduceLE, Int.reduceLT, Int.reduceEq, Int.reduceAdd, Int.reduceSub, Int.reduceMul, Int.reduceNeg, Nat.reduceAdd, Nat.reduceLeDiff, Nat.reduceEqDiff, Nat.reduceSub, Option.some.injEq, Sum.inl.injEq, Sum.inr.injEq, or_true, true_or, reduceCtorEq, ne_eq, not_false_eq_true, not_true_eq_false, false_implies, implies_true, false_and, and_false, false_or, or_false, if_true, if_false, fr_119_2 hf, fr_119_3 hf, fr_119_4 hf, fr_119_5 hf, fr_119_6 hf, fg_119 hf, fv_119 hf, e1]
      refine ⟨fun _ => ?_, fun z => absurd (Int.le_refl _) z⟩
      rw [ux_106_90]
      simp only [ux_106_0, ux_106_1, ux_106_2, ux_106_5, ux_106_6, ux_106_7, ux_106_10, ux_106_11, ux_106_12, ux_106_15, ux_106_16, ux_106_18, ux_106_19, ux_106_22, ux_106_25, ux_106_26, ux_106_28, ux_106_29, ux_106_32, ux_106_35, ux_106_36, ux_106_39, ux_106_40, ux_106_41, ux_106_44, ux_106_45, ux_106_48, ux_106_49, ux_106_50, ux_106_53, ux_106_54, ux_106_57, ux_106_58, ux_106_59, ux_106_60, ux_106_63, ux_106_64, ux_106_65, ux_106_68, ux_106_69, ux_106_70, ux_106_73, ux_106_74, ux_106_75, ux_106_76, ux_106_79, ux_106_80, ux_106_81, ux_106_87, ux_106_93, ux_106_96, pm_i_c, pm_l_c, pm_q_c, pm_r_c, pm_li_0, pm_li_s, pm_ll_0, pm_ll_s, pm_lq_0, pm_lq_s, pm_s1, pm_s2, pm_kl, pm_wI, pm_wR, pm_pu_n, pm_pu_s, pm_wt, List.take_succ_cons, List.take_zero, List.take_nil, List.drop_succ_cons, List.drop_zero, List.reverse_cons, List.reverse_nil, List.nil_append, List.cons_append, List.length_cons, List.length_nil, true_and, and_true, true_implies, tn_l, tn_0, Int.reduceToNat, Int.reduceLE, Int.reduceLT, Int.reduceEq, Int.reduceAdd, Int.reduceSub, Int.reduceMul, Int.reduceNeg, Nat.reduceAdd, Nat.reduceLeDiff, Nat.reduceEqDiff, Nat.reduceSub, Option.some.injEq, Sum.inl.injEq, Sum.inr.injEq, or_true, true_or, reduceCtorEq, ne_eq, not_false_eq_true, not_true_eq_false, false_implies, implies_true, false_and, and_false, false_or, or_false, if_true, if_false, fr_119_2 hf, fr_119_3 hf, fr_119_4 hf, fr_119_5 hf, fr_119_6 hf, fg_119 hf, fv_119 hf, e1]
      refine ⟨by unfold pm_I32; omega, ih W _ w1 ?_⟩
      have : bsP n ln (V 121) (V 122) (V 124) (p + 1) = bsQ n ln (V 121) (V 122) (V 124) p n t := by rw [← ht]; rfl
      rw [this]
      exact w2
    · intro q hq ih2 W w1 w3 w2
      generalize hu : bsQ n ln (V 121) (V 122) (V 124) p q t = u at *
      have eu : bsQ n ln (V 121) (V 122) (V 124) p (q + 1) t = bs1 n ln (V 121) (V 122) (V 124) p q u := by rw [← hu]; rfl
      rw [eu] at ih2
      have hok := (bs1_ok hl ho hp hq w3).1
      have nxt : ∀ (W : Nat → Nat → Int), fbI V W → cf9 W (cst (bs1 n ln (V 121) (V 122) (V 124) p q u)) → pm_w d 106 84 [some (.inr (.inr (some 119))), some (.inl (p : Int)), some (.inl (q : Int))] [] (W, R, T) (fbQ V R T n ln) := by
        intro W a b
        rw [ux_106_84]
        simp only [ux_106_0, ux_106_1, ux_106_2, ux_106_5, ux_106_6, ux_106_7, ux_106_10, ux_106_11, ux_106_12, ux_106_15, ux_106_16, ux_106_18, ux_106_19, ux_106_22, ux_106_25, ux_106_26, ux_106_28, ux_106_29, ux_106_32, ux_106_35, ux_106_36, ux_106_39, ux_106_40, ux_106_41, ux_106_44, ux_106_45, ux_106_48, ux_106_49, ux_106_50, ux_106_53, ux_106_54, ux_106_57, ux_106_58, ux_106_59, ux_106_60, ux_106_63, ux_106_64, ux_106_65, ux_106_68, ux_106_69, ux_106_70, ux_106_73, ux_106_74, ux_106_75, ux_106_76, ux_106_79, ux_106_80, ux_106_81, ux_106_87, ux_106_93, ux_106_96, pm_i_c, pm_l_c, pm_q_c, pm_r_c, pm_li_0, pm_li_s, pm_ll_0, pm_ll_s, pm_lq_0, pm_lq_s, pm_s1, pm_s2, pm_kl, pm_wI, pm_wR, pm_pu_n, pm_pu_s, pm_wt, List.take_succ_cons, List.take_zero, List.take_nil, List.drop_succ_cons, List.drop_zero, List.reverse_cons, List.reverse_nil, List.nil_append, List.cons_append, List.length_cons, List.length_nil, true_and, and_true, true_implies, tn_l, tn_0, Int.reduceToNat, Int.reduceLE, Int.reduceLT, Int.reduceEq, Int.reduceAdd, Int.reduceSub, Int.reduceMul, Int.reduceNeg, Nat.reduceAdd, Nat.reduceLeDiff, Nat.reduceEqDiff, Nat.reduceSub, Option.some.injEq, Sum.inl.injEq, Sum.inr.injEq, or_true, true_or, reduceCtorEq, ne_eq, not_false_eq_true, not_true_eq_false, false_implies, implies_true, false_and, and_false, false_or, or_false, if_true, if_false, fr_119_2 hf, fr_119_3 hf, fr_119_4 hf, fr_119_5 hf, fr_119_6 hf, fg_119 hf, fv_119 hf]
        exact ⟨by unfold pm_I32; omega, ih2 W a hok b⟩
      have no : ¬ (V 124 p = 0 ∧ V 124 q = 0 ∧ V 121 p < V 122 q) → pm_w d 106 84 [some (.inr (.inr (some 119))), some (.inl (p : Int)), some (.inl (q : Int))] [] (W, R, T) (fbQ V R T n ln) := by
        intro c
        refine nxt W w1 ?_
        unfold bs1
        rw [if_neg (fun z => c z.1)]
        exact w2
      have e1 : W 119 1 = n := (w1.2 1 (by decide)).trans h1
      have f0 : W 120 = V 120 := w1.1 120 (by decide)
      have f1 : W 121 = V 121 := w1.1 121 (by decide)
      have f2 : W 122 = V 122 := w1.1 122 (by decide)
      have f4 : W 124 = V 124 := w1.1 124 (by decide)
      rw [ux_106_27]
      simp only [ux_106_0, ux_106_1, ux_106_2, ux_106_5, ux_106_6, ux_106_7, ux_106_10, ux_106_11, ux_106_12, ux_106_15, ux_106_16, ux_106_18, ux_106_19, ux_106_22, ux_106_25, ux_106_26, ux_106_28, ux_106_29, ux_106_32, ux_106_35, ux_106_36, ux_106_39, ux_106_40, ux_106_41, ux_106_44, ux_106_45, ux_106_48, ux_106_49, ux_106_50, ux_106_53, ux_106_54, ux_106_57, ux_106_58, ux_106_59, ux_106_60, ux_106_63, ux_106_64, ux_106_65, ux_106_68, ux_106_69, ux_106_70, ux_106_73, ux_106_74, ux_106_75, ux_106_76, ux_106_79, ux_106_80, ux_106_81, ux_106_87, ux_106_93, ux_106_96, pm_i_c, pm_l_c, pm_q_c, pm_r_c, pm_li_0, pm_li_s, pm_ll_0, pm_ll_s, pm_lq_0, pm_lq_s, pm_s1, pm_s2, pm_kl, pm_wI, pm_wR, pm_pu_n, pm_pu_s, pm_wt, List.take_succ_cons, List.take_zero, List.take_nil, List.drop_succ_cons, List.drop_zero, List.reverse_cons, List.reverse_nil, List.nil_append, List.cons_append, List.length_cons, List.length_nil, true_and, and_true, true_implies, tn_l, tn_0, Int.reduceToNat, Int.reduceLE, Int.reduceLT, Int.reduceEq, Int.reduceAdd, Int.reduceSub, Int.reduceMul, Int.reduceNeg, Nat.reduceAdd, Nat.reduceLeDiff, Nat.reduceEqDiff, Nat.reduceSub, Option.some.injEq, Sum.inl.injEq, Sum.inr.injEq, or_true, true_or, reduceCtorEq, ne_eq, not_false_eq_true, not_true_eq_false, false_implies, implies_true, false_and, and_false, false_or, or_false, if_true, if_false, fr_119_2 hf, fr_119_3 hf, fr_119_4 hf, fr_119_5 hf, fr_119_6 hf, fg_119 hf, fv_119 hf, fb_121 hf, fb_122 hf, fb_124 hf, e1, f1, f2, f4]
      refine ⟨fun z => by omega, fun _ => ⟨by omega, fun c1 => no (by omega), fun c1 => ⟨by omega, fun c2 => no (by omega), fun c2 => ⟨by omega, by omega, fun c3 => no (by omega), fun c3 => ?_⟩⟩⟩⟩
      have d1 : V 124 p = 0 := by omega
      have d2 : V 124 q = 0 := by omega
      have d3 : V 121 p < V 122 q := by omega
      have o1 : 0 ≤ V 121 p ∧ V 121 p < V 122 p ∧ V 122 p ≤ 60 := (ho p hp).1 d1
      have o2 : 0 ≤ V 121 q ∧ V 121 q < V 122 q ∧ V 122 q ≤ 60 := (ho q hq).1 d2
      have cb := cst_bs1 (s := cvL V) hl ho hp hq w3 d1 d2 d3
      have cb : (cmB (wiF n ln (V 121) (V 122) (V 124) (V 121 p) (V 122 q)) (cst u) (V 121 p) (V 122 q) → cst (bs1 n ln (V 121) (V 122) (V 124) p q u) = (wiF n ln (V 121) (V 122) (V 124) (V 121 p) (V 122 q), V 121 p, V 122 q)) ∧ (¬ cmB (wiF n ln (V 121) (V 122) (V 124) (V 121 p) (V 122 q)) (cst u) (V 121 p) (V 122 q) → cst (bs1 n ln (V 121) (V 122) (V 124) p q u) = cst u) := cb
      have hcs := c_compareSpan (d := d) (V := W) (by omega) hf e1 (by rw [f0]; exact hl2) (cst u) w2.1 w2.2.1 w2.2.2 (cst_bd w3) (V 121 p) (V 122 q) (by omega)
      rw [f0, f1, f2, f4, wiF_ln he] at hcs
      refine ⟨by omega, by omega, pm_ok_mono hcs ?_⟩
      rintro r h2 ⟨W2, rfl, rfl, x1, x2, ⟨xc, x7, x8, x9⟩ | ⟨xc, rfl⟩⟩
      · rw [pm_pu_n]
        refine nxt W2 ⟨fun q hq => (x1 q hq).trans (w1.1 q hq), fun j hj => (x2 j hj).trans (w1.2 j hj)⟩ ?_
        rw [cb.1 xc]
        exact ⟨x7, x8, x9⟩
      · rw [pm_pu_n]
        refine nxt W2 w1 ?_
        rw [cb.2 xc]
        exact w2
def gsQ (V : Nat → Nat → Int) (R : Nat → Nat → Option Nat) (T : List (Nat × Nat)) (n : Nat) (t : bsT) (r : Option pm_V) (h2 : pm_H) : Prop := ∃ W, h2 = (W, R, T) ∧ r = none ∧ (∀ q, q ≠ 123 → q ≠ 124 → W q = V q) ∧ ∀ p, p < n → (t.1 ≠ 0 ∧ lvC (cvL V) t p → W 123 p = lvA t ∧ W 124 p = lvD t) ∧ (¬ (t.1 ≠ 0 ∧ lvC (cvL V) t p) → W 123 p = V 123 p ∧ W 124 p = V 124 p)
theorem c_giveSpeed (hd : 2 ≤ d) (hf : fx R T) (h1 : V 119 1 = n) (hn : n ≤ 12) {t : bsT} (hI : bsI n ln (cvL V) t) (h9 : cf9 V (cst t)) : pm_ok d 109 [.inr (.inr (some 119))] (V, R, T) (gsQ V R T n t) := by
  obtain ⟨d, rfl⟩ : ∃ k, d = k + 1 := ⟨d - 1, by omega⟩
  refine pm_ok_iff.mpr ⟨(Nat.le_of_ble_eq_true rfl), ?_⟩
  show pm_w d 109 0 [some (.inr (.inr (some 119))), none, none, none] [] (V, R, T) _
  have cb := cst_bd hI
  obtain ⟨t7, t8, t9⟩ := h9
  obtain ⟨a, ha⟩ : ∃ a : Nat, (cst t).1 = (a : Int) := ⟨(cst t).1.toNat, by omega⟩
  obtain ⟨c, hc⟩ : ∃ c : Nat, (cst t).2.2 - (cst t).2.1 = (c : Int) := ⟨((cst t).2.2 - (cst t).2.1).toNat, by omega⟩
  have ev := c_commonDivisor (d := d) (h := (V, R, T)) (by omega) a c (by omega)
  have hg : 0 < Nat.gcd a c := Nat.gcd_pos_of_pos_right a (by omega)
  rw [show max (Nat.gcd a c) 1 = Nat.gcd a c by omega] at ev
  have t7 : V 119 7 = (a : Int) := t7.trans ha
  simp only [ux_109_0, ux_109_1, ux_109_4, ux_109_5, ux_109_8, ux_109_9, ux_109_10, ux_109_11, ux_109_14, ux_109_15, ux_109_18, ux_109_19, ux_109_20, ux_109_22, ux_109_23, ux_109_26, ux_109_29, ux_109_30, ux_109_33, ux_109_36, ux_109_37, ux_109_38, ux_109_39, ux_109_42, ux_109_43, ux_109_46, ux_109_49, ux_109_52, ux_109_53, ux_109_56, ux_109_57, ux_109_58, ux_109_61, ux_109_62, ux_109_63, ux_109_64, ux_109_65, ux_109_68, ux_109_69, ux_109_70, ux_109_71, ux_109_72, ux_109_76, ux_109_79, pm_i_c, pm_l_c, pm_q_c, pm_r_c, pm_li_0, pm_li_s, pm_ll_0, pm_ll_s, pm_lq_0, pm_lq_s, pm_s1, pm_s2, pm_kl, pm_wI, pm_wR, pm_pu_n, pm_pu_s, pm_wt, List.take_succ_cons, List.take_zero, List.take_nil, List.drop_succ_cons, List.drop_zero, List.reverse_cons, List.reverse_nil, List.nil_append, List.cons_append, List.length_cons, List.length_nil, true_and, and_true, true_implies, tn_l, tn_0, Int.reduceToNat, Int.reduceLE, Int.reduceLT, Int.reduceEq, Int.reduceAdd, Int.reduceSub, Int.reduceMul, Int.reduceNeg, Nat.reduceAdd, Nat.reduceLeDiff, Nat.reduceEqDiff, Nat.reduceSub, Option.some.injEq, Sum.inl.injEq, Sum.inr.injEq, or_true, true_or, reduceCtorEq, ne_eq, not_false_eq_true, not_true_eq_false, false_implies, implies_true, false_and, and_false, false_or, or_false, if_true, if_false, fr_119_2 hf, fr_119_3 hf, fr_119_4 hf, fr_119_5 hf, fr_119_6 hf, fg_119 hf, fv_119 hf, t7, t8, t9, hc, pm_ok_ev ev]
  refine ⟨by unfold pm_I32; omega, ?_⟩
  refine pm_up0 (fun p => ∀ (W : Nat → Nat → Int), (∀ q, q ≠ 123 → q ≠ 124 → W q = V q) → (∀ j, j < n → (j < p ∧ t.1 ≠ 0 ∧ lvC (cvL V) t j → W 123 j = lvA t ∧ W 124 j = lvD t) ∧ (¬ (j < p ∧ t.1 ≠ 0 ∧ lvC (cvL V) t j) → W 123 j = V 123 j ∧ W 124 j = V 124 j)) → pm_w d 109 21 [some (.inr (.inr (some 119))), some (.inl (c : Int)), some (.inl (Nat.gcd a c : Int)), some (.inl (p : Int))] [] (W, R, T) (gsQ V R T n t)) n ?_ ?_ V (fun _ _ _ => rfl) (fun j hj => ⟨fun z => by omega, fun _ => ⟨rfl, rfl⟩⟩)
  · intro W w1 w2
    have f9 : W 119 = V 119 := w1 119 (by decide) (by decide)
    rw [ux_109_21]
    simp only [ux_109_0, ux_109_1, ux_109_4, ux_109_5, ux_109_8, ux_109_9, ux_109_10, ux_109_11, ux_109_14, ux_109_15, ux_109_18, ux_109_19, ux_109_20, ux_109_22, ux_109_23, ux_109_26, ux_109_29, ux_109_30, ux_109_33, ux_109_36, ux_109_37, ux_109_38, ux_109_39, ux_109_42, ux_109_43, ux_109_46, ux_109_49, ux_109_52, ux_109_53, ux_109_56, ux_109_57, ux_109_58, ux_109_61, ux_109_62, ux_109_63, ux_109_64, ux_109_65, ux_109_68, ux_109_69, ux_109_70, ux_109_71, ux_109_72, ux_109_76, ux_109_79, pm_i_c, pm_l_c, pm_q_c, pm_r_c, pm_li_0, pm_li_s, pm_ll_0, pm_ll_s, pm_lq_0, pm_lq_s, pm_s1, pm_s2, pm_kl, pm_wI, pm_wR, pm_pu_n, pm_pu_s, pm_wt, List.take_succ_cons, List.take_zero, List.take_nil, List.drop_succ_cons, List.drop_zero, List.reverse_cons, List.reverse_nil, List.nil_append, List.cons_append, List.length_cons, List.length_nil, true_and, and_true, true_implies, tn_l, tn_0, Int.reduceToNat, Int.reduceLE, Int.reduceLT, Int.reduceEq, Int.reduceAdd, Int.reduceSub, Int.reduceMul, Int.reduceNeg, Nat.reduceAdd, Nat.reduceLeDiff, Nat.reduceEqDiff, Nat.reduceSub, Option.some.injEq, Sum.inl.injEq, Sum.inr.injEq, or_true, true_or, reduceCtorEq, ne_eq, not_false_eq_true, not_true_eq_false, false_implies, implies_true, false_and, and_false, false_or, or_false, if_true, if_false, fr_119_2 hf, fr_119_3 hf, fr_119_4 hf, fr_119_5 hf, fr_119_6 hf, fg_119 hf, fv_119 hf, f9, h1]
    refine ⟨fun _ => ⟨W, rfl, rfl, w1, fun p hp => ⟨fun z => (w2 p hp).1 ⟨hp, z⟩, fun z => (w2 p hp).2 (fun y => z y.2)⟩⟩, fun z => absurd (Int.le_refl _) z⟩
  · intro p hp ih W w1 w2
    have f9 : W 119 = V 119 := w1 119 (by decide) (by decide)
    have f1 : W 121 = V 121 := w1 121 (by decide) (by decide)
    have f2 : W 122 = V 122 := w1 122 (by decide) (by decide)
    have g := (w2 p hp).2 (fun z => by omega)
    have f9u : ∀ x, pm_up W 123 p x 119 = V 119 := fun x => by rw [pm_up_fr (by decide)]; exact f9
    have ev2 := c_isOpenIn (d := d) (V := W) (by omega) hf p (by omega) (cst t).2.1 (cst t).2.2
    rw [f1, f2, g.2] at ev2
    have no : ¬ (t.1 ≠ 0 ∧ lvC (cvL V) t p) → pm_w d 109 73 [some (.inr (.inr (some 119))), some (.inl (c : Int)), some (.inl (Nat.gcd a c : Int)), some (.inl (p : Int))] [] (W, R, T) (gsQ V R T n t) := by
      intro cc
      rw [ux_109_73]
      simp only [ux_109_0, ux_109_1, ux_109_4, ux_109_5, ux_109_8, ux_109_9, ux_109_10, ux_109_11, ux_109_14, ux_109_15, ux_109_18, ux_109_19, ux_109_20, ux_109_22, ux_109_23, ux_109_26, ux_109_29, ux_109_30, ux_109_33, ux_109_36, ux_109_37, ux_109_38, ux_109_39, ux_109_42, ux_109_43, ux_109_46, ux_109_49, ux_109_52, ux_109_53, ux_109_56, ux_109_57, ux_109_58, ux_109_61, ux_109_62, ux_109_63, ux_109_64, ux_109_65, ux_109_68, ux_109_69, ux_109_70, ux_109_71, ux_109_72, ux_109_76, ux_109_79, pm_i_c, pm_l_c, pm_q_c, pm_r_c, pm_li_0, pm_li_s, pm_ll_0, pm_ll_s, pm_lq_0, pm_lq_s, pm_s1, pm_s2, pm_kl, pm_wI, pm_wR, pm_pu_n, pm_pu_s, pm_wt, List.take_succ_cons, List.take_zero, List.take_nil, List.drop_succ_cons, List.drop_zero, List.reverse_cons, List.reverse_nil, List.nil_append, List.cons_append, List.length_cons, List.length_nil, true_and, and_true, true_implies, tn_l, tn_0, Int.reduceToNat, Int.reduceLE, Int.reduceLT, Int.reduceEq, Int.reduceAdd, Int.reduceSub, Int.reduceMul, Int.reduceNeg, Nat.reduceAdd, Nat.reduceLeDiff, Nat.reduceEqDiff, Nat.reduceSub, Option.some.injEq, Sum.inl.injEq, Sum.inr.injEq, or_true, true_or, reduceCtorEq, ne_eq, not_false_eq_true, not_true_eq_false, false_implies, implies_true, false_and, and_false, false_or, or_false, if_true, if_false, fr_119_2 hf, fr_119_3 hf, fr_119_4 hf, fr_119_5 hf, fr_119_6 hf, fg_119 hf, fv_119 hf]
      refine ⟨by unfold pm_I32; omega, ih W w1 (fun j hj => ⟨fun z => ?_, fun z => (w2 j hj).2 (fun y => z ⟨by omega, y.2⟩)⟩)⟩
      by_cases e : j = p
      · subst e; exact absurd z.2 cc
      · exact (w2 j hj).1 ⟨by omega, z.2⟩
    have yes : (t.1 ≠ 0 ∧ lvC (cvL V) t p) → pm_w d 109 73 [some (.inr (.inr (some 119))), some (.inl (c : Int)), some (.inl (Nat.gcd a c : Int)), some (.inl (p : Int))] [] (pm_up (pm_up W 123 p (lvA t)) 124 p (lvD t), R, T) (gsQ V R T n t) := by
      intro cc
      rw [ux_109_73]
      simp only [ux_109_0, ux_109_1, ux_109_4, ux_109_5, ux_109_8, ux_109_9, ux_109_10, ux_109_11, ux_109_14, ux_109_15, ux_109_18, ux_109_19, ux_109_20, ux_109_22, ux_109_23, ux_109_26, ux_109_29, ux_109_30, ux_109_33, ux_109_36, ux_109_37, ux_109_38, ux_109_39, ux_109_42, ux_109_43, ux_109_46, ux_109_49, ux_109_52, ux_109_53, ux_109_56, ux_109_57, ux_109_58, ux_109_61, ux_109_62, ux_109_63, ux_109_64, ux_109_65, ux_109_68, ux_109_69, ux_109_70, ux_109_71, ux_109_72, ux_109_76, ux_109_79, pm_i_c, pm_l_c, pm_q_c, pm_r_c, pm_li_0, pm_li_s, pm_ll_0, pm_ll_s, pm_lq_0, pm_lq_s, pm_s1, pm_s2, pm_kl, pm_wI, pm_wR, pm_pu_n, pm_pu_s, pm_wt, List.take_succ_cons, List.take_zero, List.take_nil, List.drop_succ_cons, List.drop_zero, List.reverse_cons, List.reverse_nil, List.nil_append, List.cons_append, List.length_cons, List.length_nil, true_and, and_true, true_implies, tn_l, tn_0, Int.reduceToNat, Int.reduceLE, Int.reduceLT, Int.reduceEq, Int.reduceAdd, Int.reduceSub, Int.reduceMul, Int.reduceNeg, Nat.reduceAdd, Nat.reduceLeDiff, Nat.reduceEqDiff, Nat.reduceSub, Option.some.injEq, Sum.inl.injEq, Sum.inr.injEq, or_true, true_or, reduceCtorEq, ne_eq, not_false_eq_true, not_true_eq_false, false_implies, implies_true, false_and, and_false, false_or, or_false, if_true, if_false, fr_119_2 hf, fr_119_3 hf, fr_119_4 hf, fr_119_5 hf, fr_119_6 hf, fg_119 hf, fv_119 hf]
      refine ⟨by unfold pm_I32; omega, ih _ (fun q a b => by rw [pm_up_fr b, pm_up_fr a]; exact w1 q a b) (fun j hj => ?_)⟩
      rw [pm_up_row, pm_up_fr (show 123 ≠ 124 by decide), pm_up_row, pm_up_fr (show 124 ≠ 123 by decide)]
      dsimp only
      by_cases e : j = p
      · subst e
        rw [if_pos rfl, if_pos rfl]
        exact ⟨fun _ => ⟨rfl, rfl⟩, fun z => absurd ⟨by omega, cc⟩ z⟩
      · rw [if_neg e, if_neg e]
        exact ⟨fun z => (w2 j hj).1 ⟨by omega, z.2⟩, fun z => (w2 j hj).2 (fun y => z ⟨by omega, y.2⟩)⟩
    by_cases z0 : t.1 = 0
    · have a0 : a = 0 := by
        have : (cst t).1 = 0 := by unfold cst; rw [if_pos z0]
        omega
      rw [ux_109_21]
      simp only [ux_109_0, ux_109_1, ux_109_4, ux_109_5, ux_109_8, ux_109_9, ux_109_10, ux_109_11, ux_109_14, ux_109_15, ux_109_18, ux_109_19, ux_109_20, ux_109_22, ux_109_23, ux_109_26, ux_109_29, ux_109_30, ux_109_33, ux_109_36, ux_109_37, ux_109_38, ux_109_39, ux_109_42, ux_109_43, ux_109_46, ux_109_49, ux_109_52, ux_109_53, ux_109_56, ux_109_57, ux_109_58, ux_109_61, ux_109_62, ux_109_63, ux_109_64, ux_109_65, ux_109_68, ux_109_69, ux_109_70, ux_109_71, ux_109_72, ux_109_76, ux_109_79, pm_i_c, pm_l_c, pm_q_c, pm_r_c, pm_li_0, pm_li_s, pm_ll_0, pm_ll_s, pm_lq_0, pm_lq_s, pm_s1, pm_s2, pm_kl, pm_wI, pm_wR, pm_pu_n, pm_pu_s, pm_wt, List.take_succ_cons, List.take_zero, List.take_nil, List.drop_succ_cons, List.drop_zero, List.reverse_cons, List.reverse_nil, List.nil_append, List.cons_append, List.length_cons, List.length_nil, true_and, and_true, true_implies, tn_l, tn_0, Int.reduceToNat, Int.reduceLE, Int.reduceLT, Int.reduceEq, Int.reduceAdd, Int.reduceSub, Int.reduceMul, Int.reduceNeg, Nat.reduceAdd, Nat.reduceLeDiff, Nat.reduceEqDiff, Nat.reduceSub, Option.some.injEq, Sum.inl.injEq, Sum.inr.injEq, or_true, true_or, reduceCtorEq, ne_eq, not_false_eq_true, not_true_eq_false, false_implies, implies_true, false_and, and_false, false_or, or_false, if_true, if_false, fr_119_2 hf, fr_119_3 hf, fr_119_4 hf, fr_119_5 hf, fr_119_6 hf, fg_119 hf, fv_119 hf, f9, h1, t7]
      exact ⟨fun z => by omega, fun _ => ⟨fun _ => no (fun z => z.1 z0), fun z => by omega⟩⟩
    · have ec : cst t = t := by unfold cst; rw [if_neg z0]
      rw [ec] at ha hc ev2 t8 t9 cb
      have eA : lvA t = ((a / Nat.gcd a c : Nat) : Int) := by unfold lvA rdA; rw [ha, hc]; rfl
      have eD : lvD t = ((c / Nat.gcd a c : Nat) : Int) := by unfold lvD rdB; rw [ha, hc]; rfl
      rw [eA, eD] at yes
      have apos : 0 < a := by omega
      have cIff : lvC (cvL V) t p ↔ V 124 p = 0 ∧ t.2.1 ≤ V 121 p ∧ V 122 p ≤ t.2.2 := Iff.rfl
      rw [ux_109_21]
      simp only [ux_109_0, ux_109_1, ux_109_4, ux_109_5, ux_109_8, ux_109_9, ux_109_10, ux_109_11, ux_109_14, ux_109_15, ux_109_18, ux_109_19, ux_109_20, ux_109_22, ux_109_23, ux_109_26, ux_109_29, ux_109_30, ux_109_33, ux_109_36, ux_109_37, ux_109_38, ux_109_39, ux_109_42, ux_109_43, ux_109_46, ux_109_49, ux_109_52, ux_109_53, ux_109_56, ux_109_57, ux_109_58, ux_109_61, ux_109_62, ux_109_63, ux_109_64, ux_109_65, ux_109_68, ux_109_69, ux_109_70, ux_109_71, ux_109_72, ux_109_76, ux_109_79, pm_i_c, pm_l_c, pm_q_c, pm_r_c, pm_li_0, pm_li_s, pm_ll_0, pm_ll_s, pm_lq_0, pm_lq_s, pm_s1, pm_s2, pm_kl, pm_wI, pm_wR, pm_pu_n, pm_pu_s, pm_wt, List.take_succ_cons, List.take_zero, List.take_nil, List.drop_succ_cons, List.drop_zero, List.reverse_cons, List.reverse_nil, List.nil_append, List.cons_append, List.length_cons, List.length_nil, true_and, and_true, true_implies, tn_l, tn_0, Int.reduceToNat, Int.reduceLE, Int.reduceLT, Int.reduceEq, Int.reduceAdd, Int.reduceSub, Int.reduceMul, Int.reduceNeg, Nat.reduceAdd, Nat.reduceLeDiff, Nat.reduceEqDiff, Nat.reduceSub, Option.some.injEq, Sum.inl.injEq, Sum.inr.injEq, or_true, true_or, reduceCtorEq, ne_eq, not_false_eq_true, not_true_eq_false, false_implies, implies_true, false_and, and_false, false_or, or_false, if_true, if_false, fr_119_2 hf, fr_119_3 hf, fr_119_4 hf, fr_119_5 hf, fr_119_6 hf, fg_119 hf, fv_119 hf, fb_123 hf, fb_124 hf, f9, f9u, h1, t7, t8, t9, pm_ok_ev ev2, edv]
      by_cases cc : V 124 p = 0 ∧ t.2.1 ≤ V 121 p ∧ V 122 p ≤ t.2.2
      · rw [if_pos cc]
        refine ⟨fun z => by omega, fun _ => ⟨fun z => by omega, fun _ => ⟨fun z => absurd z (by decide), fun _ => ⟨by omega, by omega, by omega, by omega, yes ⟨z0, cIff.mpr cc⟩⟩⟩⟩⟩
      · rw [if_neg cc]
        refine ⟨fun z => by omega, fun _ => ⟨fun z => by omega, fun _ => ⟨fun _ => no (fun z => cc (cIff.mp z.2)), fun z => absurd rfl z⟩⟩⟩
def tbQ (V : Nat → Nat → Int) (R : Nat → Nat → Option Nat) (T : List (Nat × Nat)) (n : Nat) (fr to : Int) (r : Option pm_V) (h2 : pm_H) : Prop := ∃ W, h2 = (W, R, T) ∧ r = none ∧ (∀ q, q ≠ 121 → q ≠ 122 → W q = V q) ∧ ∀ p, p < n → W 121 p = tkO fr to (V 121 p) ∧ W 122 p = tkO fr to (V 122 p)
theorem c_momentWithoutBest (hd : 1 ≤ d) (hf : fx R T) {fr to : Int} (h8 : V 119 8 = fr) (h9 : V 119 9 = to) (h1 : 0 ≤ fr) (h2 : fr < to) (h3 : to ≤ 60) (x : Int) (hx : 0 ≤ x ∧ x ≤ 60) : pm_ev d 111 [.inr (.inr (some 119)), .inl x] (V, R, T) (some (.inl (tkO fr to x))) (V, R, T) := by
  refine pm_ev_of hd (Nat.le_of_ble_eq_true rfl) ?_
  show pm_w (d - 1) 111 0 [some (.inr (.inr (some 119))), some (.inl x)] [] (V, R, T) _
  simp only [ux_111_0, ux_111_1, ux_111_2, ux_111_5, ux_111_8, ux_111_9, ux_111_10, ux_111_11, ux_111_12, ux_111_15, ux_111_18, ux_111_19, ux_111_22, ux_111_25, ux_111_26, ux_111_27, ux_111_30, ux_111_31, ux_111_34, ux_111_35, ux_111_36, pm_i_c, pm_l_c, pm_q_c, pm_r_c, pm_li_0, pm_li_s, pm_ll_0, pm_ll_s, pm_lq_0, pm_lq_s, pm_s1, pm_s2, pm_kl, pm_wI, pm_wR, pm_pu_n, pm_pu_s, pm_wt, List.take_succ_cons, List.take_zero, List.take_nil, List.drop_succ_cons, List.drop_zero, List.reverse_cons, List.reverse_nil, List.nil_append, List.cons_append, List.length_cons, List.length_nil, true_and, and_true, true_implies, tn_l, tn_0, Int.reduceToNat, Int.reduceLE, Int.reduceLT, Int.reduceEq, Int.reduceAdd, Int.reduceSub, Int.reduceMul, Int.reduceNeg, Nat.reduceAdd, Nat.reduceLeDiff, Nat.reduceEqDiff, Nat.reduceSub, Option.some.injEq, Sum.inl.injEq, Sum.inr.injEq, or_true, true_or, reduceCtorEq, ne_eq, not_false_eq_true, not_true_eq_false, false_implies, implies_true, false_and, and_false, false_or, or_false, if_true, if_false, fr_119_2 hf, fr_119_3 hf, fr_119_4 hf, fr_119_5 hf, fr_119_6 hf, fg_119 hf, fv_119 hf, h8, h9]
  unfold tkO
  refine ⟨fun c => ⟨fun c2 => ⟨by unfold pm_I32; omega, by unfold pm_I32; omega, ?_⟩, fun c2 => ?_⟩, fun c => ?_⟩
  · rw [if_pos (by omega)]
  · rw [if_neg (by omega), if_pos (by omega)]
  · rw [if_neg (by omega), if_neg (by omega)]
theorem c_takeOutBest (hd : 2 ≤ d) (hf : fx R T) (e1 : V 119 1 = n) (hn : n ≤ 12) {fr to : Int} (h8 : V 119 8 = fr) (h9 : V 119 9 = to) (h1 : 0 ≤ fr) (h2 : fr < to) (h3 : to ≤ 60) (hb : ∀ p, p < n → (0 ≤ V 121 p ∧ V 121 p ≤ 60) ∧ 0 ≤ V 122 p ∧ V 122 p ≤ 60) : pm_ok d 110 [.inr (.inr (some 119))] (V, R, T) (tbQ V R T n fr to) := by
  obtain ⟨d, rfl⟩ : ∃ k, d = k + 1 := ⟨d - 1, by omega⟩
  refine pm_ok_iff.mpr ⟨(Nat.le_of_ble_eq_true rfl), ?_⟩
  show pm_w d 110 0 [some (.inr (.inr (some 119))), none] [] (V, R, T) _
  simp only [ux_110_0, ux_110_1, ux_110_3, ux_110_4, ux_110_7, ux_110_10, ux_110_11, ux_110_14, ux_110_15, ux_110_16, ux_110_17, ux_110_20, ux_110_21, ux_110_22, ux_110_25, ux_110_26, ux_110_27, ux_110_30, ux_110_31, ux_110_32, ux_110_33, ux_110_36, ux_110_37, ux_110_38, ux_110_41, ux_110_42, ux_110_45, ux_110_48, pm_i_c, pm_l_c, pm_q_c, pm_r_c, pm_li_0, pm_li_s, pm_ll_0, pm_ll_s, pm_lq_0, pm_lq_s, pm_s1, pm_s2, pm_kl, pm_wI, pm_wR, pm_pu_n, pm_pu_s, pm_wt, List.take_succ_cons, List.take_zero, List.take_nil, List.drop_succ_cons, List.drop_zero, List.reverse_cons, List.reverse_nil, List.nil_append, List.cons_append, List.length_cons, List.length_nil, true_and, and_true, true_implies, tn_l, tn_0, Int.reduceToNat, Int.reduceLE, Int.reduceLT, Int.reduceEq, Int.reduceAdd, Int.reduceSub, Int.reduceMul, Int.reduceNeg, Nat.reduceAdd, Nat.reduceLeDiff, Nat.reduceEqDiff, Nat.reduceSub, Option.some.injEq, Sum.inl.injEq, Sum.inr.injEq, or_true, true_or, reduceCtorEq, ne_eq, not_false_eq_true, not_true_eq_false, false_implies, implies_true, false_and, and_false, false_or, or_false, if_true, if_false, fr_119_2 hf, fr_119_3 hf, fr_119_4 hf, fr_119_5 hf, fr_119_6 hf, fg_119 hf, fv_119 hf]
  refine pm_up0 (fun p => ∀ (W : Nat → Nat → Int), (∀ q, q ≠ 121 → q ≠ 122 → W q = V q) → (∀ j, j < n → W 121 j = (if j < p then tkO fr to (V 121 j) else V 121 j) ∧ W 122 j = (if j < p then tkO fr to (V 122 j) else V 122 j)) → pm_w d 110 2 [some (.inr (.inr (some 119))), some (.inl (p : Int))] [] (W, R, T) (tbQ V R T n fr to)) n ?_ ?_ V (fun _ _ _ => rfl) (fun j hj => ⟨by rw [if_neg (by omega)], by rw [if_neg (by omega)]⟩)
  · intro W w1 w2
    have f9 : W 119 = V 119 := w1 119 (by decide) (by decide)
    rw [ux_110_2]
    simp only [ux_110_0, ux_110_1, ux_110_3, ux_110_4, ux_110_7, ux_110_10, ux_110_11, ux_110_14, ux_110_15, ux_110_16, ux_110_17, ux_110_20, ux_110_21, ux_110_22, ux_110_25, ux_110_26, ux_110_27, ux_110_30, ux_110_31, ux_110_32, ux_110_33, ux_110_36, ux_110_37, ux_110_38, ux_110_41, ux_110_42, ux_110_45, ux_110_48, pm_i_c, pm_l_c, pm_q_c, pm_r_c, pm_li_0, pm_li_s, pm_ll_0, pm_ll_s, pm_lq_0, pm_lq_s, pm_s1, pm_s2, pm_kl, pm_wI, pm_wR, pm_pu_n, pm_pu_s, pm_wt, List.take_succ_cons, List.take_zero, List.take_nil, List.drop_succ_cons, List.drop_zero, List.reverse_cons, List.reverse_nil, List.nil_append, List.cons_append, List.length_cons, List.length_nil, true_and, and_true, true_implies, tn_l, tn_0, Int.reduceToNat, Int.reduceLE, Int.reduceLT, Int.reduceEq, Int.reduceAdd, Int.reduceSub, Int.reduceMul, Int.reduceNeg, Nat.reduceAdd, Nat.reduceLeDiff, Nat.reduceEqDiff, Nat.reduceSub, Option.some.injEq, Sum.inl.injEq, Sum.inr.injEq, or_true, true_or, reduceCtorEq, ne_eq, not_false_eq_true, not_true_eq_false, false_implies, implies_true, false_and, and_false, false_or, or_false, if_true, if_false, fr_119_2 hf, fr_119_3 hf, fr_119_4 hf, fr_119_5 hf, fr_119_6 hf, fg_119 hf, fv_119 hf, f9, e1]
    refine ⟨fun _ => ⟨W, rfl, rfl, w1, fun p hp => ?_⟩, fun z => absurd (Int.le_refl _) z⟩
    have := w2 p hp
    rw [if_pos hp, if_pos hp] at this
    exact this
  · intro p hp ih W w1 w2
    have f9 : W 119 = V 119 := w1 119 (by decide) (by decide)
    have g := w2 p hp
    rw [if_neg (by omega), if_neg (by omega)] at g
    have b := hb p hp
    have ev1 := c_momentWithoutBest (d := d) (V := W) (by omega) hf (by rw [f9]; exact h8) (by rw [f9]; exact h9) h1 h2 h3 (V 121 p) b.1
    have f9u : ∀ x, pm_up W 121 p x 119 = V 119 := fun x => by rw [pm_up_fr (by decide)]; exact f9
    have ev2 := c_momentWithoutBest (d := d) (V := pm_up W 121 p (tkO fr to (V 121 p))) (by omega) hf (by rw [f9u]; exact h8) (by rw [f9u]; exact h9) h1 h2 h3 (V 122 p) b.2
    have g2u : ∀ x, pm_up W 121 p x 122 p = V 122 p := fun x => by rw [pm_up_fr (by decide)]; exact g.2
    rw [ux_110_2]
    simp only [ux_110_0, ux_110_1, ux_110_3, ux_110_4, ux_110_7, ux_110_10, ux_110_11, ux_110_14, ux_110_15, ux_110_16, ux_110_17, ux_110_20, ux_110_21, ux_110_22, ux_110_25, ux_110_26, ux_110_27, ux_110_30, ux_110_31, ux_110_32, ux_110_33, ux_110_36, ux_110_37, ux_110_38, ux_110_41, ux_110_42, ux_110_45, ux_110_48, pm_i_c, pm_l_c, pm_q_c, pm_r_c, pm_li_0, pm_li_s, pm_ll_0, pm_ll_s, pm_lq_0, pm_lq_s, pm_s1, pm_s2, pm_kl, pm_wI, pm_wR, pm_pu_n, pm_pu_s, pm_wt, List.take_succ_cons, List.take_zero, List.take_nil, List.drop_succ_cons, List.drop_zero, List.reverse_cons, List.reverse_nil, List.nil_append, List.cons_append, List.length_cons, List.length_nil, true_and, and_true, true_implies, tn_l, tn_0, Int.reduceToNat, Int.reduceLE, Int.reduceLT, Int.reduceEq, Int.reduceAdd, Int.reduceSub, Int.reduceMul, Int.reduceNeg, Nat.reduceAdd, Nat.reduceLeDiff, Nat.reduceEqDiff, Nat.reduceSub, Option.some.injEq, Sum.inl.injEq, Sum.inr.injEq, or_true, true_or, reduceCtorEq, ne_eq, not_false_eq_true, not_true_eq_false, false_implies, implies_true, false_and, and_false, false_or, or_false, if_true, if_false, fr_119_2 hf, fr_119_3 hf, fr_119_4 hf, fr_119_5 hf, fr_119_6 hf, fg_119 hf, fv_119 hf, fb_121 hf, fb_122 hf, f9, f9u, e1, g.1, g2u, pm_ok_ev ev1, pm_ok_ev ev2]
    refine ⟨fun z => by omega, fun _ => ⟨by omega, by omega, by omega, by omega, by unfold pm_I32; omega, ih _ (fun q a b => by rw [pm_up_fr b, pm_up_fr a]; exact w1 q a b) (fun j hj => ?_)⟩⟩
    rw [pm_up_row, pm_up_fr (show 121 ≠ 122 by decide), pm_up_row, pm_up_fr (show 122 ≠ 121 by decide)]
    dsimp only
    by_cases e : j = p
    · subst e
      rw [if_pos rfl, if_pos rfl, if_pos (by omega), if_pos (by omega)]
      exact ⟨rfl, rfl⟩
    · rw [if_neg e, if_neg e, (w2 j hj).1, (w2 j hj).2]
      by_cases c : j < p
      · rw [if_pos c, if_pos c, if_pos (by omega), if_pos (by omega)]; exact ⟨rfl, rfl⟩
      · rw [if_neg c, if_neg c, if_neg (by omega), if_neg (by omega)]; exact ⟨rfl, rfl⟩
end
