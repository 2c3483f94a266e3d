/-! moments as a list -/
def rp (f : Nat → Int) (L : List Int) : Prop := ∀ j, j < L.length → f j = L.getD j 0
def insL (t : Int) (L : List Int) : List Int := if kpos t (fun j => L.getD j 0) L.length 0 < L.length ∧ L.getD (kpos t (fun j => L.getD j 0) L.length 0) 0 = t then L else L.take (kpos t (fun j => L.getD j 0) L.length 0) ++ t :: L.drop (kpos t (fun j => L.getD j 0) L.length 0)
theorem kpos_congr {t : Int} {f g : Nat → Int} : ∀ (r k : Nat), (∀ j, k ≤ j → j < k + r → f j = g j) → kpos t f r k = kpos t g r k
  | 0, _, _ => rfl
  | r + 1, k, h => by
    rw [kpos, kpos, h k (Nat.le_refl _) (by omega), kpos_congr r (k + 1) (fun j a b => h j (by omega) (by omega))]
theorem getD_ins {L : List Int} {k j : Nat} {t : Int} (hk : k ≤ L.length) : (L.take k ++ t :: L.drop k).getD j 0 = if j < k then L.getD j 0 else if j = k then t else L.getD (j - 1) 0 := by
  rw [List.getD_eq_getElem?_getD]
  by_cases h1 : j < k
  · rw [if_pos h1, List.getElem?_append_left (by rw [List.length_take]; omega), List.getElem?_take_of_lt h1, List.getD_eq_getElem?_getD]
  · rw [if_neg h1, List.getElem?_append_right (by rw [List.length_take]; omega), List.length_take, Nat.min_eq_left hk]
    by_cases h2 : j = k
    · rw [if_pos h2, h2, Nat.sub_self]; rfl
    · rw [if_neg h2]
      obtain ⟨i, hi⟩ : ∃ i, j - k = i + 1 := ⟨j - k - 1, by omega⟩
      rw [hi, List.getElem?_cons_succ, List.getElem?_drop, List.getD_eq_getElem?_getD, show k + i = j - 1 by omega]
theorem len_ins {L : List Int} {k : Nat} {t : Int} (hk : k ≤ L.length) : (L.take k ++ t :: L.drop k).length = L.length + 1 := by
  rw [List.length_append, List.length_take, List.length_cons, List.length_drop]
  omega
theorem insL_len (t : Int) (L : List Int) : L.length ≤ (insL t L).length ∧ (insL t L).length ≤ L.length + 1 := by
  unfold insL
  have h := (kpos_spec (t := t) (f := fun j => L.getD j 0) L.length 0).2.1
  split
  · omega
  · rw [len_ins (by omega)]; omega
theorem am_spec {V : Nat → Nat → Int} {ob ar sl : Nat} {t : Int} {L : List Int} (hne : ob ≠ ar) (h6 : V ob sl = L.length) (hr : rp (V ar) L) :
    amV V ob ar sl t L.length ob sl = (insL t L).length ∧ rp (amV V ob ar sl t L.length ar) (insL t L) ∧ ∀ q j, q ≠ ar → ¬ (q = ob ∧ j = sl) → amV V ob ar sl t L.length q j = V q j := by
  have ek : kpos t (V ar) L.length 0 = kpos t (fun j => L.getD j 0) L.length 0 := kpos_congr L.length 0 (fun j _ b => hr j (by omega))
  have hk := (kpos_spec (t := t) (f := fun j => L.getD j 0) L.length 0).2.1
  unfold amV insL
  rw [ek]
  generalize kpos t (fun j => L.getD j 0) L.length 0 = k at hk
  by_cases hc : k < L.length ∧ L.getD k 0 = t
  · rw [if_pos hc, if_pos ⟨hc.1, by rw [hr k hc.1]; exact hc.2⟩]
    exact ⟨h6, hr, fun _ _ _ _ => rfl⟩
  · rw [if_neg hc, if_neg (fun w => hc ⟨w.1, by rw [← hr k w.1]; exact w.2⟩), len_ins (by omega)]
    refine ⟨pm_up_eq, fun j hj => ?_, fun q j h1 h2 => ?_⟩
    · rw [len_ins (by omega)] at hj
      rw [pm_up_ne (fun w => hne w.1.symm), pm_set_eq, getD_ins (by omega)]
      unfold amF
      by_cases h1 : j < k
      · rw [if_pos h1, if_pos h1]; exact hr j (by omega)
      · rw [if_neg h1, if_neg h1]
        by_cases h2 : j = k
        · rw [if_pos h2, if_pos h2]
        · rw [if_neg h2, if_neg h2, if_pos (by omega)]; exact hr (j - 1) (by omega)
    · rw [pm_up_ne h2, pm_set_ne h1]
def mmP (A : Nat → Int) (dl : Int) (p : Nat) (L : List Int) : List Int := if A (3 + p) = 4 then insL (A (75 + p)) (insL (A (63 + p)) (insL (lsA A dl p) (insL (A (27 + p)) L))) else insL (lsA A dl p) (insL (A (27 + p)) L)
def mmL (A : Nat → Int) (dl : Int) : Nat → List Int
  | 0 => []
  | p + 1 => mmP A dl p (mmL A dl p)
theorem mmP_len (A : Nat → Int) (dl : Int) (p : Nat) (L : List Int) : (mmP A dl p L).length ≤ L.length + 4 := by
  unfold mmP
  have h1 := (insL_len (A (27 + p)) L).2
  have h2 := (insL_len (lsA A dl p) (insL (A (27 + p)) L)).2
  have h3 := (insL_len (A (63 + p)) (insL (lsA A dl p) (insL (A (27 + p)) L))).2
  have h4 := (insL_len (A (75 + p)) (insL (A (63 + p)) (insL (lsA A dl p) (insL (A (27 + p)) L)))).2
  split <;> omega
theorem mmL_len (A : Nat → Int) (dl : Int) : ∀ p, (mmL A dl p).length ≤ 4 * p
  | 0 => Nat.le_refl _
  | p + 1 => by
    have h1 := mmL_len A dl p
    have h2 := mmP_len A dl p (mmL A dl p)
    show (mmP A dl p (mmL A dl p)).length ≤ _
    omega
section
variable {d : Nat} {h : pm_H} {V : Nat → Nat → Int} {R : Nat → Nat → Option Nat} {T : List (Nat × Nat)}
/-- only the moments may have changed -/
def fmF (V V2 : Nat → Nat → Int) : Prop := ∀ q j, q ≠ 134 → ¬ (q = 131 ∧ j = 6) → V2 q j = V q j
def fmI (V V2 : Nat → Nat → Int) (L : List Int) : Prop := fmF V V2 ∧ V2 131 6 = L.length ∧ rp (V2 134) L
theorem fm_step {V V2 : Nat → Nat → Int} {L : List Int} (t : Int) (h : fmI V V2 L) : fmI V (amV V2 131 134 6 t L.length) (insL t L) := by
  obtain ⟨h1, h2, h3⟩ := h
  obtain ⟨a1, a2, a3⟩ := am_spec (V := V2) (ob := 131) (ar := 134) (sl := 6) (t := t) (by decide) h2 h3
  exact ⟨fun q j b1 b2 => (a3 q j b1 b2).trans (h1 q j b1 b2), a1, a2⟩
set_option maxHeartbeats 2000000 in
theorem m_findMoments (hd : 2 ≤ d) (hf : fx R T) (n : Nat) (hw : wf (V 132) n) (h0 : 0 ≤ V 131 3) (h1 : V 131 3 ≤ 200) : pm_ok d 133 [.inr (.inr (some 131))] (V, R, T) (fun r h2 => r = none ∧ ∃ V2, h2 = (V2, R, T) ∧ fmI V V2 (mmL (V 132) (V 131 3) n)) := by
  obtain ⟨d, rfl⟩ : ∃ k, d = k + 1 := ⟨d - 1, by omega⟩
  refine pm_ok_iff.mpr ⟨(Nat.le_of_ble_eq_true rfl), ?_⟩
  show pm_w d 133 0 [some (.inr (.inr (some 131))), none] [] (V, R, T) _
  simp only [ux_133_0, ux_133_1, ux_133_2, ux_133_5, ux_133_6, ux_133_8, ux_133_9, ux_133_12, ux_133_13, ux_133_14, ux_133_17, ux_133_18, ux_133_19, ux_133_22, ux_133_24, ux_133_25, ux_133_26, ux_133_27, ux_133_30, ux_133_31, ux_133_32, ux_133_33, ux_133_36, ux_133_39, ux_133_40, ux_133_43, ux_133_44, ux_133_45, ux_133_46, ux_133_47, ux_133_48, ux_133_51, ux_133_52, ux_133_53, ux_133_56, ux_133_58, ux_133_59, ux_133_60, ux_133_61, ux_133_64, ux_133_65, ux_133_66, ux_133_69, ux_133_71, ux_133_72, ux_133_73, ux_133_74, ux_133_77, ux_133_80, ux_133_83, pm_i_c, pm_l_c, pm_q_c, pm_r_c, pm_li_0, pm_li_s, pm_ll_0, pm_ll_s, pm_lq_0, pm_lq_s, pm_s1, pm_s2, pm_kl, pm_wI, pm_wR, pm_pu_n, pm_pu_s, pm_wt, List.take_succ_cons, List.take_zero, List.take_nil, List.drop_succ_cons, List.drop_zero, List.reverse_cons, List.reverse_nil, List.nil_append, List.cons_append, List.length_cons, List.length_nil, true_and, and_true, true_implies, tn_l, tn_0, Int.reduceToNat, Int.reduceLE, Int.reduceLT, Int.reduceEq, Int.reduceAdd, Int.reduceSub, Int.reduceMul, Int.reduceNeg, Nat.reduceAdd, Nat.reduceLeDiff, Nat.reduceEqDiff, Nat.reduceSub, Option.some.injEq, Sum.inl.injEq, Sum.inr.injEq, or_true, true_or, reduceCtorEq, ne_eq, not_false_eq_true, not_true_eq_false, false_implies, implies_true, false_and, and_false, false_or, or_false, if_true, if_false, fr_131_0 hf, fr_131_1 hf, fr_131_5 hf, fr_131_7 hf, fr_131_8 hf, fr_131_9 hf, fr_131_12 hf, fr_131_13 hf, fr_131_14 hf, fr_131_15 hf, fr_131_19 hf, fr_131_20 hf, fr_131_21 hf, fr_131_22 hf, fr_131_23 hf, fr_131_24 hf, fg_131 hf, fv_131 hf, fb_132 hf, fb_133 hf, fb_134 hf, fb_135 hf, fb_136 hf, fb_137 hf, fb_138 hf, fb_139 hf, fb_140 hf, fb_141 hf, fb_142 hf, fb_143 hf, fb_144 hf, fb_145 hf, fb_146 hf, fb_147 hf]
  have hn := hw.1
  have key := pm_up0 (fun p => ∀ V2, fmI V V2 (mmL (V 132) (V 131 3) p) → pm_w d 133 7 [some (.inr (.inr (some 131))), some (.inl (p : Int))] [] (V2, R, T) (fun r h2 => r = none ∧ ∃ V2, h2 = (V2, R, T) ∧ fmI V V2 (mmL (V 132) (V 131 3) n))) n ?_ ?_
  · refine key _ ⟨fun q j b1 b2 => pm_up_ne b2, pm_up_eq, fun j hj => by cases hj⟩
  · intro V2 hV2
    have e2 : V2 132 2 = n := (hV2.1 132 2 (by decide) (by decide)).trans hw.2.1
    rw [ux_133_7]
    simp only [ux_133_0, ux_133_1, ux_133_2, ux_133_5, ux_133_6, ux_133_8, ux_133_9, ux_133_12, ux_133_13, ux_133_14, ux_133_17, ux_133_18, ux_133_19, ux_133_22, ux_133_24, ux_133_25, ux_133_26, ux_133_27, ux_133_30, ux_133_31, ux_133_32, ux_133_33, ux_133_36, ux_133_39, ux_133_40, ux_133_43, ux_133_44, ux_133_45, ux_133_46, ux_133_47, ux_133_48, ux_133_51, ux_133_52, ux_133_53, ux_133_56, ux_133_58, ux_133_59, ux_133_60, ux_133_61, ux_133_64, ux_133_65, ux_133_66, ux_133_69, ux_133_71, ux_133_72, ux_133_73, ux_133_74, ux_133_77, ux_133_80, ux_133_83, pm_i_c, pm_l_c, pm_q_c, pm_r_c, pm_li_0, pm_li_s, pm_ll_0, pm_ll_s, pm_lq_0, pm_lq_s, pm_s1, pm_s2, pm_kl, pm_wI, pm_wR, pm_pu_n, pm_pu_s, pm_wt, List.take_succ_cons, List.take_zero, List.take_nil, List.drop_succ_cons, List.drop_zero, List.reverse_cons, List.reverse_nil, List.nil_append, List.cons_append, List.length_cons, List.length_nil, true_and, and_true, true_implies, tn_l, tn_0, Int.reduceToNat, Int.reduceLE, Int.reduceLT, Int.reduceEq, Int.reduceAdd, Int.reduceSub, Int.reduceMul, Int.reduceNeg, Nat.reduceAdd, Nat.reduceLeDiff, Nat.reduceEqDiff, Nat.reduceSub, Option.some.injEq, Sum.inl.injEq, Sum.inr.injEq, or_true, true_or, reduceCtorEq, ne_eq, not_false_eq_true, not_true_eq_false, false_implies, implies_true, false_and, and_false, false_or, or_false, if_true, if_false, fr_131_0 hf, fr_131_1 hf, fr_131_5 hf, fr_131_7 hf, fr_131_8 hf, fr_131_9 hf, fr_131_12 hf, fr_131_13 hf, fr_131_14 hf, fr_131_15 hf, fr_131_19 hf, fr_131_20 hf, fr_131_21 hf, fr_131_22 hf, fr_131_23 hf, fr_131_24 hf, fg_131 hf, fv_131 hf, fb_132 hf, fb_133 hf, fb_134 hf, fb_135 hf, fb_136 hf, fb_137 hf, fb_138 hf, fb_139 hf, fb_140 hf, fb_141 hf, fb_142 hf, fb_143 hf, fb_144 hf, fb_145 hf, fb_146 hf, fb_147 hf, e2]
    refine ⟨fun _ => ⟨V2, rfl, hV2⟩, fun z => absurd (Int.le_refl _) z⟩
  · intro p hp ih V2 hV2
    have fr : ∀ k, V2 132 k = V 132 k := fun k => hV2.1 132 k (by decide) (fun w => by cases w.1)
    have e2 : V2 132 2 = n := (fr 2).trans hw.2.1
    have hl := mmL_len (V 132) (V 131 3) p
    have fr3 : V2 131 3 = V 131 3 := hV2.1 131 3 (by decide) (by decide)
    have hls := lsA_bd hw hp h0 h1
    have hA := hw.2.2.2.2 p hp
    have go : ∀ V3, fmI V V3 (mmL (V 132) (V 131 3) (p + 1)) → pm_w d 133 77 [some (.inr (.inr (some 131))), some (.inl (p : Int))] [] (V3, R, T) (fun r h2 => r = none ∧ ∃ V2, h2 = (V2, R, T) ∧ fmI V V2 (mmL (V 132) (V 131 3) n)) := by
      intro V3 h3
      rw [ux_133_77]
      simp only [ux_133_0, ux_133_1, ux_133_2, ux_133_5, ux_133_6, ux_133_8, ux_133_9, ux_133_12, ux_133_13, ux_133_14, ux_133_17, ux_133_18, ux_133_19, ux_133_22, ux_133_24, ux_133_25, ux_133_26, ux_133_27, ux_133_31, ux_133_32, ux_133_33, ux_133_40, ux_133_43, ux_133_44, ux_133_45, ux_133_46, ux_133_47, ux_133_48, ux_133_51, ux_133_52, ux_133_53, ux_133_56, ux_133_58, ux_133_59, ux_133_60, ux_133_61, ux_133_65, ux_133_66, ux_133_69, ux_133_71, ux_133_72, ux_133_73, ux_133_74, ux_133_80, ux_133_83, pm_i_c, pm_l_c, pm_q_c, pm_r_c, pm_li_0, pm_li_s, pm_ll_0, pm_ll_s, pm_lq_0, pm_lq_s, pm_s1, pm_s2, pm_kl, pm_wI, pm_wR, pm_pu_n, pm_pu_s, pm_wt, List.take_succ_cons, List.take_zero, List.take_nil, List.drop_succ_cons, List.drop_zero, List.reverse_cons, List.reverse_nil, List.nil_append, List.cons_append, List.length_cons, List.length_nil, true_and, and_true, true_implies, tn_l, tn_0, Int.reduceToNat, Int.reduceLE, Int.reduceLT, Int.reduceEq, Int.reduceAdd, Int.reduceSub, Int.reduceMul, Int.reduceNeg, Nat.reduceAdd, Nat.reduceLeDiff, Nat.reduceEqDiff, Nat.reduceSub, Option.some.injEq, Sum.inl.injEq, Sum.inr.injEq, or_true, true_or, reduceCtorEq, ne_eq, not_false_eq_true, not_true_eq_false, false_implies, implies_true, false_and, and_false, false_or, or_false, if_true, if_false, fr_131_0 hf, fr_131_1 hf, fr_131_5 hf, fr_131_7 hf, fr_131_8 hf, fr_131_9 hf, fr_131_12 hf, fr_131_13 hf, fr_131_14 hf, fr_131_15 hf, fr_131_19 hf, fr_131_20 hf, fr_131_21 hf, fr_131_22 hf, fr_131_23 hf, fr_131_24 hf, fg_131 hf, fv_131 hf, fb_132 hf, fb_133 hf, fb_134 hf, fb_135 hf, fb_136 hf, fb_137 hf, fb_138 hf, fb_139 hf, fb_140 hf, fb_141 hf, fb_142 hf, fb_143 hf, fb_144 hf, fb_145 hf, fb_146 hf, fb_147 hf]
      exact ⟨by unfold pm_I32; omega, ih V3 h3⟩
    rw [ux_133_7]
    simp only [ux_133_0, ux_133_1, ux_133_2, ux_133_5, ux_133_6, ux_133_8, ux_133_9, ux_133_12, ux_133_13, ux_133_14, ux_133_17, ux_133_18, ux_133_19, ux_133_22, ux_133_24, ux_133_25, ux_133_26, ux_133_27, ux_133_31, ux_133_32, ux_133_33, ux_133_40, ux_133_43, ux_133_44, ux_133_45, ux_133_46, ux_133_47, ux_133_48, ux_133_51, ux_133_52, ux_133_53, ux_133_56, ux_133_58, ux_133_59, ux_133_60, ux_133_61, ux_133_65, ux_133_66, ux_133_69, ux_133_71, ux_133_72, ux_133_73, ux_133_74, ux_133_80, ux_133_83, pm_i_c, pm_l_c, pm_q_c, pm_r_c, pm_li_0, pm_li_s, pm_ll_0, pm_ll_s, pm_lq_0, pm_lq_s, pm_s1, pm_s2, pm_kl, pm_wI, pm_wR, pm_pu_n, pm_pu_s, pm_wt, List.take_succ_cons, List.take_zero, List.take_nil, List.drop_succ_cons, List.drop_zero, List.reverse_cons, List.reverse_nil, List.nil_append, List.cons_append, List.length_cons, List.length_nil, true_and, and_true, true_implies, tn_l, tn_0, Int.reduceToNat, Int.reduceLE, Int.reduceLT, Int.reduceEq, Int.reduceAdd, Int.reduceSub, Int.reduceMul, Int.reduceNeg, Nat.reduceAdd, Nat.reduceLeDiff, Nat.reduceEqDiff, Nat.reduceSub, Option.some.injEq, Sum.inl.injEq, Sum.inr.injEq, or_true, true_or, reduceCtorEq, ne_eq, not_false_eq_true, not_true_eq_false, false_implies, implies_true, false_and, and_false, false_or, or_false, if_true, if_false, fr_131_0 hf, fr_131_1 hf, fr_131_5 hf, fr_131_7 hf, fr_131_8 hf, fr_131_9 hf, fr_131_12 hf, fr_131_13 hf, fr_131_14 hf, fr_131_15 hf, fr_131_19 hf, fr_131_20 hf, fr_131_21 hf, fr_131_22 hf, fr_131_23 hf, fr_131_24 hf, fg_131 hf, fv_131 hf, fb_132 hf, fb_133 hf, fb_134 hf, fb_135 hf, fb_136 hf, fb_137 hf, fb_138 hf, fb_139 hf, fb_140 hf, fb_141 hf, fb_142 hf, fb_143 hf, fb_144 hf, fb_145 hf, fb_146 hf, fb_147 hf, e2]
    refine ⟨fun z => by omega, fun _ => ⟨by unfold pm_I32; omega, by omega, ?_⟩⟩
    rw [pm_ok_ev (m_addMoment (d := d) (by omega) hf _ _ (by omega) hV2.2.1), pm_pu_n, ux_133_30, fr]
    have hI1 := fm_step (V 132 (27 + p)) hV2
    have l1 := insL_len (V 132 (27 + p)) (mmL (V 132) (V 131 3) p)
    generalize amV V2 131 134 6 (V 132 (27 + p)) (mmL (V 132) (V 131 3) p).length = V3 at hI1 ⊢
    have f3 : V3 131 3 = V 131 3 := hI1.1 131 3 (by decide) (by decide)
    have g3 : V3 132 = V 132 := funext fun k => hI1.1 132 k (by decide) (fun w => by cases w.1)
    simp only [ux_133_0, ux_133_1, ux_133_2, ux_133_5, ux_133_6, ux_133_8, ux_133_9, ux_133_12, ux_133_13, ux_133_14, ux_133_17, ux_133_18, ux_133_19, ux_133_22, ux_133_24, ux_133_25, ux_133_26, ux_133_27, ux_133_31, ux_133_32, ux_133_33, ux_133_40, ux_133_43, ux_133_44, ux_133_45, ux_133_46, ux_133_47, ux_133_48, ux_133_51, ux_133_52, ux_133_53, ux_133_56, ux_133_58, ux_133_59, ux_133_60, ux_133_61, ux_133_65, ux_133_66, ux_133_69, ux_133_71, ux_133_72, ux_133_73, ux_133_74, ux_133_80, ux_133_83, pm_i_c, pm_l_c, pm_q_c, pm_r_c, pm_li_0, pm_li_s, pm_ll_0, pm_ll_s, pm_lq_0, pm_lq_s, pm_s1, pm_s2, pm_kl, pm_wI, pm_wR, pm_pu_n, pm_pu_s, pm_wt, List.take_succ_cons, List.take_zero, List.take_nil, List.drop_succ_cons, List.drop_zero, List.reverse_cons, List.reverse_nil, List.nil_append, List.cons_append, List.length_cons, List.length_nil, true_and, and_true, true_implies, tn_l, tn_0, Int.reduceToNat, Int.reduceLE, Int.reduceLT, Int.reduceEq, Int.reduceAdd, Int.reduceSub, Int.reduceMul, Int.reduceNeg, Nat.reduceAdd, Nat.reduceLeDiff, Nat.reduceEqDiff, Nat.reduceSub, Option.some.injEq, Sum.inl.injEq, Sum.inr.injEq, or_true, true_or, reduceCtorEq, ne_eq, not_false_eq_true, not_true_eq_false, false_implies, implies_true, false_and, and_false, false_or, or_false, if_true, if_false, fr_131_0 hf, fr_131_1 hf, fr_131_5 hf, fr_131_7 hf, fr_131_8 hf, fr_131_9 hf, fr_131_12 hf, fr_131_13 hf, fr_131_14 hf, fr_131_15 hf, fr_131_19 hf, fr_131_20 hf, fr_131_21 hf, fr_131_22 hf, fr_131_23 hf, fr_131_24 hf, fg_131 hf, fv_131 hf, fb_132 hf, fb_133 hf, fb_134 hf, fb_135 hf, fb_136 hf, fb_137 hf, fb_138 hf, fb_139 hf, fb_140 hf, fb_141 hf, fb_142 hf, fb_143 hf, fb_144 hf, fb_145 hf, fb_146 hf, fb_147 hf]
    rw [pm_ok_ev (m_lastOf (d := d) (by omega) hf p n (by rw [g3]; exact hw) hp (by rw [f3]; exact h0) (by rw [f3]; exact h1)), pm_pu_s, ux_133_36, g3, f3]
    simp only [ux_133_0, ux_133_1, ux_133_2, ux_133_5, ux_133_6, ux_133_8, ux_133_9, ux_133_12, ux_133_13, ux_133_14, ux_133_17, ux_133_18, ux_133_19, ux_133_22, ux_133_24, ux_133_25, ux_133_26, ux_133_27, ux_133_31, ux_133_32, ux_133_33, ux_133_40, ux_133_43, ux_133_44, ux_133_45, ux_133_46, ux_133_47, ux_133_48, ux_133_51, ux_133_52, ux_133_53, ux_133_56, ux_133_58, ux_133_59, ux_133_60, ux_133_61, ux_133_65, ux_133_66, ux_133_69, ux_133_71, ux_133_72, ux_133_73, ux_133_74, ux_133_80, ux_133_83, pm_i_c, pm_l_c, pm_q_c, pm_r_c, pm_li_0, pm_li_s, pm_ll_0, pm_ll_s, pm_lq_0, pm_lq_s, pm_s1, pm_s2, pm_kl, pm_wI, pm_wR, pm_pu_n, pm_pu_s, pm_wt, List.take_succ_cons, List.take_zero, List.take_nil, List.drop_succ_cons, List.drop_zero, List.reverse_cons, List.reverse_nil, List.nil_append, List.cons_append, List.length_cons, List.length_nil, true_and, and_true, true_implies, tn_l, tn_0, Int.reduceToNat, Int.reduceLE, Int.reduceLT, Int.reduceEq, Int.reduceAdd, Int.reduceSub, Int.reduceMul, Int.reduceNeg, Nat.reduceAdd, Nat.reduceLeDiff, Nat.reduceEqDiff, Nat.reduceSub, Option.some.injEq, Sum.inl.injEq, Sum.inr.injEq, or_true, true_or, reduceCtorEq, ne_eq, not_false_eq_true, not_true_eq_false, false_implies, implies_true, false_and, and_false, false_or, or_false, if_true, if_false, fr_131_0 hf, fr_131_1 hf, fr_131_5 hf, fr_131_7 hf, fr_131_8 hf, fr_131_9 hf, fr_131_12 hf, fr_131_13 hf, fr_131_14 hf, fr_131_15 hf, fr_131_19 hf, fr_131_20 hf, fr_131_21 hf, fr_131_22 hf, fr_131_23 hf, fr_131_24 hf, fg_131 hf, fv_131 hf, fb_132 hf, fb_133 hf, fb_134 hf, fb_135 hf, fb_136 hf, fb_137 hf, fb_138 hf, fb_139 hf, fb_140 hf, fb_141 hf, fb_142 hf, fb_143 hf, fb_144 hf, fb_145 hf, fb_146 hf, fb_147 hf]
    rw [pm_ok_ev (m_addMoment (d := d) (by omega) hf _ _ (by omega) hI1.2.1), pm_pu_n, ux_133_39]
    have hI2 := fm_step (lsA (V 132) (V 131 3) p) hI1
    have l2 := insL_len (lsA (V 132) (V 131 3) p) (insL (V 132 (27 + p)) (mmL (V 132) (V 131 3) p))
    generalize amV V3 131 134 6 (lsA (V 132) (V 131 3) p) (insL (V 132 (27 + p)) (mmL (V 132) (V 131 3) p)).length = V4 at hI2 ⊢
    have g4 : V4 132 = V 132 := funext fun k => hI2.1 132 k (by decide) (fun w => by cases w.1)
    simp only [ux_133_0, ux_133_1, ux_133_2, ux_133_5, ux_133_6, ux_133_8, ux_133_9, ux_133_12, ux_133_13, ux_133_14, ux_133_17, ux_133_18, ux_133_19, ux_133_22, ux_133_24, ux_133_25, ux_133_26, ux_133_27, ux_133_31, ux_133_32, ux_133_33, ux_133_40, ux_133_43, ux_133_44, ux_133_45, ux_133_46, ux_133_47, ux_133_48, ux_133_51, ux_133_52, ux_133_53, ux_133_56, ux_133_58, ux_133_59, ux_133_60, ux_133_61, ux_133_65, ux_133_66, ux_133_69, ux_133_71, ux_133_72, ux_133_73, ux_133_74, ux_133_80, ux_133_83, pm_i_c, pm_l_c, pm_q_c, pm_r_c, pm_li_0, pm_li_s, pm_ll_0, pm_ll_s, pm_lq_0, pm_lq_s, pm_s1, pm_s2, pm_kl, pm_wI, pm_wR, pm_pu_n, pm_pu_s, pm_wt, List.take_succ_cons, List.take_zero, List.take_nil, List.drop_succ_cons, List.drop_zero, List.reverse_cons, List.reverse_nil, List.nil_append, List.cons_append, List.length_cons, List.length_nil, true_and, and_true, true_implies, tn_l, tn_0, Int.reduceToNat, Int.reduceLE, Int.reduceLT, Int.reduceEq, Int.reduceAdd, Int.reduceSub, Int.reduceMul, Int.reduceNeg, Nat.reduceAdd, Nat.reduceLeDiff, Nat.reduceEqDiff, Nat.reduceSub, Option.some.injEq, Sum.inl.injEq, Sum.inr.injEq, or_true, true_or, reduceCtorEq, ne_eq, not_false_eq_true, not_true_eq_false, false_implies, implies_true, false_and, and_false, false_or, or_false, if_true, if_false, fr_131_0 hf, fr_131_1 hf, fr_131_5 hf, fr_131_7 hf, fr_131_8 hf, fr_131_9 hf, fr_131_12 hf, fr_131_13 hf, fr_131_14 hf, fr_131_15 hf, fr_131_19 hf, fr_131_20 hf, fr_131_21 hf, fr_131_22 hf, fr_131_23 hf, fr_131_24 hf, fg_131 hf, fv_131 hf, fb_132 hf, fb_133 hf, fb_134 hf, fb_135 hf, fb_136 hf, fb_137 hf, fb_138 hf, fb_139 hf, fb_140 hf, fb_141 hf, fb_142 hf, fb_143 hf, fb_144 hf, fb_145 hf, fb_146 hf, fb_147 hf, g4]
    refine ⟨by unfold pm_I32; omega, by omega, fun hc => go V4 ?_, fun hc => ⟨by unfold pm_I32; omega, by omega, ?_⟩⟩
    · show fmI V V4 (mmP (V 132) (V 131 3) p (mmL (V 132) (V 131 3) p))
      unfold mmP
      rw [if_neg hc]
      exact hI2
    · have hc : V 132 (3 + p) = 4 := Classical.not_not.mp hc
      rw [pm_ok_ev (m_addMoment (d := d) (by omega) hf _ _ (by omega) hI2.2.1), pm_pu_n, ux_133_64]
      have hI3 := fm_step (V 132 (63 + p)) hI2
      have l3 := insL_len (V 132 (63 + p)) (insL (lsA (V 132) (V 131 3) p) (insL (V 132 (27 + p)) (mmL (V 132) (V 131 3) p)))
      generalize amV V4 131 134 6 (V 132 (63 + p)) (insL (lsA (V 132) (V 131 3) p) (insL (V 132 (27 + p)) (mmL (V 132) (V 131 3) p))).length = V5 at hI3 ⊢
      have g5 : V5 132 = V 132 := funext fun k => hI3.1 132 k (by decide) (fun w => by cases w.1)
      simp only [ux_133_0, ux_133_1, ux_133_2, ux_133_5, ux_133_6, ux_133_8, ux_133_9, ux_133_12, ux_133_13, ux_133_14, ux_133_17, ux_133_18, ux_133_19, ux_133_22, ux_133_24, ux_133_25, ux_133_26, ux_133_27, ux_133_31, ux_133_32, ux_133_33, ux_133_40, ux_133_43, ux_133_44, ux_133_45, ux_133_46, ux_133_47, ux_133_48, ux_133_51, ux_133_52, ux_133_53, ux_133_56, ux_133_58, ux_133_59, ux_133_60, ux_133_61, ux_133_65, ux_133_66, ux_133_69, ux_133_71, ux_133_72, ux_133_73, ux_133_74, ux_133_80, ux_133_83, pm_i_c, pm_l_c, pm_q_c, pm_r_c, pm_li_0, pm_li_s, pm_ll_0, pm_ll_s, pm_lq_0, pm_lq_s, pm_s1, pm_s2, pm_kl, pm_wI, pm_wR, pm_pu_n, pm_pu_s, pm_wt, List.take_succ_cons, List.take_zero, List.take_nil, List.drop_succ_cons, List.drop_zero, List.reverse_cons, List.reverse_nil, List.nil_append, List.cons_append, List.length_cons, List.length_nil, true_and, and_true, true_implies, tn_l, tn_0, Int.reduceToNat, Int.reduceLE, Int.reduceLT, Int.reduceEq, Int.reduceAdd, Int.reduceSub, Int.reduceMul, Int.reduceNeg, Nat.reduceAdd, Nat.reduceLeDiff, Nat.reduceEqDiff, Nat.reduceSub, Option.some.injEq, Sum.inl.injEq, Sum.inr.injEq, or_true, true_or, reduceCtorEq, ne_eq, not_false_eq_true, not_true_eq_false, false_implies, implies_true, false_and, and_false, false_or, or_false, if_true, if_false, fr_131_0 hf, fr_131_1 hf, fr_131_5 hf, fr_131_7 hf, fr_131_8 hf, fr_131_9 hf, fr_131_12 hf, fr_131_13 hf, fr_131_14 hf, fr_131_15 hf, fr_131_19 hf, fr_131_20 hf, fr_131_21 hf, fr_131_22 hf, fr_131_23 hf, fr_131_24 hf, fg_131 hf, fv_131 hf, fb_132 hf, fb_133 hf, fb_134 hf, fb_135 hf, fb_136 hf, fb_137 hf, fb_138 hf, fb_139 hf, fb_140 hf, fb_141 hf, fb_142 hf, fb_143 hf, fb_144 hf, fb_145 hf, fb_146 hf, fb_147 hf, g5]
      refine ⟨by unfold pm_I32; omega, by omega, ?_⟩
      rw [pm_ok_ev (m_addMoment (d := d) (by omega) hf _ _ (by omega) hI3.2.1), pm_pu_n]
      refine go _ ?_
      show fmI V _ (mmP (V 132) (V 131 3) p (mmL (V 132) (V 131 3) p))
      unfold mmP
      rw [if_pos hc]
      exact fm_step (V 132 (75 + p)) hI3
/-- settle(looms, delay) -/
def stI (V V2 : Nat → Nat → Int) (lo dl : Int) (L : List Int) : Prop := (∀ q j, q ≠ 134 → ¬ (q = 131 ∧ (j = 3 ∨ j = 4 ∨ j = 6)) → V2 q j = V q j) ∧ V2 131 3 = dl ∧ V2 131 4 = lo ∧ V2 131 6 = L.length ∧ rp (V2 134) L
theorem m_settle (hd : 3 ≤ d) (hf : fx R T) (n : Nat) (hw : wf (V 132) n) (lo dl : Int) (h0 : 0 ≤ dl) (h1 : dl ≤ 200) : pm_ok d 132 [.inr (.inr (some 131)), .inl lo, .inl dl] (V, R, T) (fun r h2 => r = none ∧ ∃ V2, h2 = (V2, R, T) ∧ stI V V2 lo dl (mmL (V 132) dl n)) := by
  obtain ⟨d, rfl⟩ : ∃ k, d = k + 1 := ⟨d - 1, by omega⟩
  refine pm_ok_iff.mpr ⟨(Nat.le_of_ble_eq_true rfl), ?_⟩
  show pm_w d 132 0 [some (.inr (.inr (some 131))), some (.inl lo), some (.inl dl)] [] (V, R, T) _
  simp only [ux_132_0, ux_132_1, ux_132_2, ux_132_5, ux_132_6, ux_132_7, ux_132_10, ux_132_11, pm_i_c, pm_l_c, pm_q_c, pm_r_c, pm_li_0, pm_li_s, pm_ll_0, pm_ll_s, pm_lq_0, pm_lq_s, pm_s1, pm_s2, pm_kl, pm_wI, pm_wR, pm_pu_n, pm_pu_s, pm_wt, List.take_succ_cons, List.take_zero, List.take_nil, List.drop_succ_cons, List.drop_zero, List.reverse_cons, List.reverse_nil, List.nil_append, List.cons_append, List.length_cons, List.length_nil, true_and, and_true, true_implies, tn_l, tn_0, Int.reduceToNat, Int.reduceLE, Int.reduceLT, Int.reduceEq, Int.reduceAdd, Int.reduceSub, Int.reduceMul, Int.reduceNeg, Nat.reduceAdd, Nat.reduceLeDiff, Nat.reduceEqDiff, Nat.reduceSub, Option.some.injEq, Sum.inl.injEq, Sum.inr.injEq, or_true, true_or, reduceCtorEq, ne_eq, not_false_eq_true, not_true_eq_false, false_implies, implies_true, false_and, and_false, false_or, or_false, if_true, if_false, fr_131_0 hf, fr_131_1 hf, fr_131_5 hf, fr_131_7 hf, fr_131_8 hf, fr_131_9 hf, fr_131_12 hf, fr_131_13 hf, fr_131_14 hf, fr_131_15 hf, fr_131_19 hf, fr_131_20 hf, fr_131_21 hf, fr_131_22 hf, fr_131_23 hf, fr_131_24 hf, fg_131 hf, fv_131 hf, fb_132 hf, fb_133 hf, fb_134 hf, fb_135 hf, fb_136 hf, fb_137 hf, fb_138 hf, fb_139 hf, fb_140 hf, fb_141 hf, fb_142 hf, fb_143 hf, fb_144 hf, fb_145 hf, fb_146 hf, fb_147 hf]
  generalize hV1 : pm_up (pm_up V 131 4 lo) 131 3 dl = V1
  have e132 : V1 132 = V 132 := by rw [← hV1]; funext k; rw [pm_up_ne (by omega), pm_up_ne (by omega)]
  have e3 : V1 131 3 = dl := by rw [← hV1]; exact pm_up_eq
  have e4 : V1 131 4 = lo := by rw [← hV1, pm_up_ne (by omega)]; exact pm_up_eq
  have hm := m_findMoments (d := d) (V := V1) (by omega) hf n (by rw [e132]; exact hw) (by rw [e3]; exact h0) (by rw [e3]; exact h1)
  refine pm_ok_mono hm ?_
  rintro r h2 ⟨rfl, V2, rfl, g1, g2, g3⟩
  rw [e132, e3] at g2 g3
  rw [pm_pu_n, ux_132_14]
  refine ⟨rfl, rfl, V2, rfl, fun q j b1 b2 => ?_, (g1 131 3 (by decide) (by decide)).trans e3, (g1 131 4 (by decide) (by decide)).trans e4, g2, g3⟩
  rw [g1 q j b1 (fun w => b2 ⟨w.1, by omega⟩), ← hV1, pm_up_ne (fun w => b2 ⟨w.1, by omega⟩), pm_up_ne (fun w => b2 ⟨w.1, by omega⟩)]
end
