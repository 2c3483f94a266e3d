/-! THE REFERENCE: moments -/
def pm_set {α : Type} (V : Nat → Nat → α) (a : Nat) (f : Nat → α) : Nat → Nat → α := fun q j => if q = a then f j else V q j
theorem pm_set_eq {α : Type} {V : Nat → Nat → α} {a j : Nat} {f : Nat → α} : pm_set V a f a j = f j := if_pos rfl
theorem pm_set_ne {α : Type} {V : Nat → Nat → α} {a q j : Nat} {f : Nat → α} (h : q ≠ a) : pm_set V a f q j = V q j := if_neg h
theorem pm_set_self {α : Type} {V : Nat → Nat → α} {a : Nat} : pm_set V a (V a) = V := by
  funext q j
  unfold pm_set
  by_cases h : q = a
  · rw [if_pos h, h]
  · rw [if_neg h]
theorem pm_up_set {α : Type} {V : Nat → Nat → α} {a k : Nat} {f : Nat → α} {x : α} : pm_up (pm_set V a f) a k x = pm_set V a (fun j => if j = k then x else f j) := by
  funext q j
  unfold pm_up pm_set
  by_cases h : q = a
  · simp only [if_pos h]
  · simp only [if_neg h]
/-- where t would stand -/
def kpos (t : Int) (f : Nat → Int) : Nat → Nat → Nat
  | 0, k => k
  | r + 1, k => if f k < t then kpos t f r (k + 1) else k
theorem kpos_spec {t : Int} {f : Nat → Int} : ∀ (r k : Nat), k ≤ kpos t f r k ∧ kpos t f r k ≤ k + r ∧ (∀ j, k ≤ j → j < kpos t f r k → f j < t) ∧ (kpos t f r k < k + r → ¬ f (kpos t f r k) < t)
  | 0, k => ⟨Nat.le_refl _, Nat.le_refl _, fun j h1 h2 => by unfold kpos at h2; omega, fun h => by unfold kpos at h; omega⟩
  | r + 1, k => by
    by_cases hc : f k < t
    · have e : kpos t f (r + 1) k = kpos t f r (k + 1) := by rw [kpos, if_pos hc]
      obtain ⟨h1, h2, h3, h4⟩ := kpos_spec (t := t) (f := f) r (k + 1)
      rw [e]
      refine ⟨by omega, by omega, fun j a b => ?_, fun a => h4 (by omega)⟩
      by_cases ej : j = k
      · rw [ej]; exact hc
      · exact h3 j (by omega) b
    · have e : kpos t f (r + 1) k = k := by rw [kpos, if_neg hc]
      rw [e]
      exact ⟨Nat.le_refl _, by omega, fun j a b => by omega, fun _ => hc⟩
def amF (f : Nat → Int) (t : Int) (c k : Nat) : Nat → Int := fun j => if j < k then f j else if j = k then t else if j ≤ c then f (j - 1) else f j
def amV (V : Nat → Nat → Int) (ob ar sl : Nat) (t : Int) (c : Nat) : Nat → Nat → Int := if kpos t (V ar) c 0 < c ∧ V ar (kpos t (V ar) c 0) = t then V else pm_up (pm_set V ar (amF (V ar) t c (kpos t (V ar) c 0))) ob sl ((c + 1 : Nat) : Int)
section
variable {d : Nat} {h : pm_H} {V : Nat → Nat → Int} {R : Nat → Nat → Option Nat} {T : List (Nat × Nat)}
set_option maxHeartbeats 1000000 in
theorem m_addMoment (hd : 1 ≤ d) (hf : fx R T) (t : Int) (c : Nat) (hc : c < 63) (h6 : V 131 6 = c) : pm_ev d 134 [.inr (.inr (some 131)), .inl t] (V, R, T) none (amV V 131 134 6 t c, R, T) := by
  refine pm_ev_of hd (Nat.le_of_ble_eq_true rfl) ?_
  show pm_w (d - 1) 134 0 [some (.inr (.inr (some 131))), some (.inl t), none, none] [] (V, R, T) _
  obtain ⟨-, k2, k3, k4⟩ := kpos_spec (t := t) (f := V 134) c 0
  simp only [ux_134_0, ux_134_1, ux_134_3, ux_134_4, ux_134_7, ux_134_10, ux_134_11, ux_134_14, ux_134_15, ux_134_16, ux_134_17, ux_134_20, ux_134_23, ux_134_27, ux_134_28, ux_134_31, ux_134_34, ux_134_35, ux_134_38, ux_134_39, ux_134_40, ux_134_41, ux_134_44, ux_134_45, ux_134_46, ux_134_49, ux_134_51, ux_134_52, ux_134_55, ux_134_56, ux_134_59, ux_134_60, ux_134_61, ux_134_64, ux_134_65, ux_134_66, ux_134_67, ux_134_68, ux_134_69, ux_134_72, ux_134_75, ux_134_76, ux_134_79, ux_134_80, ux_134_81, ux_134_82, ux_134_83, ux_134_84, ux_134_87, ux_134_88, ux_134_89, ux_134_92, pm_i_c, pm_l_c, pm_q_c, pm_r_c, pm_li_0, pm_li_s, pm_ll_0, pm_ll_s, pm_lq_0, pm_lq_s, pm_s1, pm_s2, pm_kl, pm_wI, pm_wR, pm_pu_n, pm_pu_s, pm_wt, List.take_succ_cons, List.take_zero, List.take_nil, List.drop_succ_cons, List.drop_zero, List.reverse_cons, List.reverse_nil, List.nil_append, List.cons_append, List.length_cons, List.length_nil, true_and, and_true, true_implies, tn_l, tn_0, Int.reduceToNat, Int.reduceLE, Int.reduceLT, Int.reduceEq, Int.reduceAdd, Int.reduceSub, Int.reduceMul, Int.reduceNeg, Nat.reduceAdd, Nat.reduceLeDiff, Nat.reduceEqDiff, Nat.reduceSub, Option.some.injEq, Sum.inl.injEq, Sum.inr.injEq, or_true, true_or, reduceCtorEq, ne_eq, not_false_eq_true, not_true_eq_false, false_implies, implies_true, false_and, and_false, false_or, or_false, if_true, if_false, fr_131_0 hf, fr_131_1 hf, fr_131_5 hf, fr_131_7 hf, fr_131_8 hf, fr_131_9 hf, fr_131_12 hf, fr_131_13 hf, fr_131_14 hf, fr_131_15 hf, fr_131_19 hf, fr_131_20 hf, fr_131_21 hf, fr_131_22 hf, fr_131_23 hf, fr_131_24 hf, fg_131 hf, fv_131 hf, fb_132 hf, fb_133 hf, fb_134 hf, fb_135 hf, fb_136 hf, fb_137 hf, fb_138 hf, fb_139 hf, fb_140 hf, fb_141 hf, fb_142 hf, fb_143 hf, fb_144 hf, fb_145 hf, fb_146 hf, fb_147 hf]
  generalize hk : kpos t (V 134) c 0 = k at k2 k3 k4
  refine pm_up0 (fun j => pm_w (d - 1) 134 2 [some (.inr (.inr (some 131))), some (.inl t), some (.inl (j : Int)), none] [] (V, R, T) _) k ?_ ?_
  · have hgo : pm_w (d - 1) 134 26 [some (.inr (.inr (some 131))), some (.inl t), some (.inl (k : Int)), none] [] (V, R, T) (fun r2 h2 => r2 = none ∧ h2 = (amV V 131 134 6 t c, R, T)) := by
      rw [ux_134_26]
      simp only [ux_134_0, ux_134_1, ux_134_3, ux_134_4, ux_134_7, ux_134_10, ux_134_11, ux_134_14, ux_134_15, ux_134_16, ux_134_17, ux_134_20, ux_134_23, ux_134_27, ux_134_28, ux_134_31, ux_134_34, ux_134_35, ux_134_38, ux_134_39, ux_134_40, ux_134_41, ux_134_44, ux_134_45, ux_134_46, ux_134_49, ux_134_51, ux_134_52, ux_134_55, ux_134_56, ux_134_59, ux_134_60, ux_134_61, ux_134_64, ux_134_65, ux_134_66, ux_134_67, ux_134_68, ux_134_69, ux_134_72, ux_134_75, ux_134_76, ux_134_79, ux_134_80, ux_134_81, ux_134_82, ux_134_83, ux_134_84, ux_134_87, ux_134_88, ux_134_89, ux_134_92, pm_i_c, pm_l_c, pm_q_c, pm_r_c, pm_li_0, pm_li_s, pm_ll_0, pm_ll_s, pm_lq_0, pm_lq_s, pm_s1, pm_s2, pm_kl, pm_wI, pm_wR, pm_pu_n, pm_pu_s, pm_wt, List.take_succ_cons, List.take_zero, List.take_nil, List.drop_succ_cons, List.drop_zero, List.reverse_cons, List.reverse_nil, List.nil_append, List.cons_append, List.length_cons, List.length_nil, true_and, and_true, true_implies, tn_l, tn_0, Int.reduceToNat, Int.reduceLE, Int.reduceLT, Int.reduceEq, Int.reduceAdd, Int.reduceSub, Int.reduceMul, Int.reduceNeg, Nat.reduceAdd, Nat.reduceLeDiff, Nat.reduceEqDiff, Nat.reduceSub, Option.some.injEq, Sum.inl.injEq, Sum.inr.injEq, or_true, true_or, reduceCtorEq, ne_eq, not_false_eq_true, not_true_eq_false, false_implies, implies_true, false_and, and_false, false_or, or_false, if_true, if_false, fr_131_0 hf, fr_131_1 hf, fr_131_5 hf, fr_131_7 hf, fr_131_8 hf, fr_131_9 hf, fr_131_12 hf, fr_131_13 hf, fr_131_14 hf, fr_131_15 hf, fr_131_19 hf, fr_131_20 hf, fr_131_21 hf, fr_131_22 hf, fr_131_23 hf, fr_131_24 hf, fg_131 hf, fv_131 hf, fb_132 hf, fb_133 hf, fb_134 hf, fb_135 hf, fb_136 hf, fb_137 hf, fb_138 hf, fb_139 hf, fb_140 hf, fb_141 hf, fb_142 hf, fb_143 hf, fb_144 hf, fb_145 hf, fb_146 hf, fb_147 hf, h6]
      have hns : ¬ (k < c ∧ V 134 k = t) → pm_w (d - 1) 134 50 [some (.inr (.inr (some 131))), some (.inl t), some (.inl (k : Int)), some (.inl (c : Int))] [] (V, R, T) (fun r2 h2 => r2 = none ∧ h2 = (amV V 131 134 6 t c, R, T)) := by
        intro hne
        have hV0 : V = pm_set V 134 (fun j => if c - 0 < j ∧ j ≤ c then V 134 (j - 1) else V 134 j) := by
          have : (fun j => if c - 0 < j ∧ j ≤ c then V 134 (j - 1) else V 134 j) = V 134 := by
            funext j
            rw [if_neg (by omega)]
          rw [this, pm_set_self]
        have hP := pm_up0 (fun i => pm_w (d - 1) 134 50 [some (.inr (.inr (some 131))), some (.inl t), some (.inl (k : Int)), some (.inl ((c - i : Nat) : Int))] [] (pm_set V 134 (fun j => if c - i < j ∧ j ≤ c then V 134 (j - 1) else V 134 j), R, T) (fun r2 h2 => r2 = none ∧ h2 = (amV V 131 134 6 t c, R, T))) (c - k) ?_ ?_
        · rw [← hV0] at hP
          exact hP
        · rw [ux_134_50]
          simp only [ux_134_0, ux_134_1, ux_134_3, ux_134_4, ux_134_7, ux_134_10, ux_134_11, ux_134_14, ux_134_15, ux_134_16, ux_134_17, ux_134_20, ux_134_23, ux_134_27, ux_134_28, ux_134_31, ux_134_34, ux_134_35, ux_134_38, ux_134_39, ux_134_40, ux_134_41, ux_134_44, ux_134_45, ux_134_46, ux_134_49, ux_134_51, ux_134_52, ux_134_55, ux_134_56, ux_134_59, ux_134_60, ux_134_61, ux_134_64, ux_134_65, ux_134_66, ux_134_67, ux_134_68, ux_134_69, ux_134_72, ux_134_75, ux_134_76, ux_134_79, ux_134_80, ux_134_81, ux_134_82, ux_134_83, ux_134_84, ux_134_87, ux_134_88, ux_134_89, ux_134_92, pm_i_c, pm_l_c, pm_q_c, pm_r_c, pm_li_0, pm_li_s, pm_ll_0, pm_ll_s, pm_lq_0, pm_lq_s, pm_s1, pm_s2, pm_kl, pm_wI, pm_wR, pm_pu_n, pm_pu_s, pm_wt, List.take_succ_cons, List.take_zero, List.take_nil, List.drop_succ_cons, List.drop_zero, List.reverse_cons, List.reverse_nil, List.nil_append, List.cons_append, List.length_cons, List.length_nil, true_and, and_true, true_implies, tn_l, tn_0, Int.reduceToNat, Int.reduceLE, Int.reduceLT, Int.reduceEq, Int.reduceAdd, Int.reduceSub, Int.reduceMul, Int.reduceNeg, Nat.reduceAdd, Nat.reduceLeDiff, Nat.reduceEqDiff, Nat.reduceSub, Option.some.injEq, Sum.inl.injEq, Sum.inr.injEq, or_true, true_or, reduceCtorEq, ne_eq, not_false_eq_true, not_true_eq_false, false_implies, implies_true, false_and, and_false, false_or, or_false, if_true, if_false, fr_131_0 hf, fr_131_1 hf, fr_131_5 hf, fr_131_7 hf, fr_131_8 hf, fr_131_9 hf, fr_131_12 hf, fr_131_13 hf, fr_131_14 hf, fr_131_15 hf, fr_131_19 hf, fr_131_20 hf, fr_131_21 hf, fr_131_22 hf, fr_131_23 hf, fr_131_24 hf, fg_131 hf, fv_131 hf, fb_132 hf, fb_133 hf, fb_134 hf, fb_135 hf, fb_136 hf, fb_137 hf, fb_138 hf, fb_139 hf, fb_140 hf, fb_141 hf, fb_142 hf, fb_143 hf, fb_144 hf, fb_145 hf, fb_146 hf, fb_147 hf, h6]
          have ek : c - (c - k) = k := by omega
          simp only [ek, pm_up_set]
          have e1 : pm_set V 134 (fun j => if j = k then t else if k < j ∧ j ≤ c then V 134 (j - 1) else V 134 j) 131 6 = c := by rw [pm_set_ne (by decide)]; exact h6
          have e2 : (fun j => if j = k then t else if k < j ∧ j ≤ c then V 134 (j - 1) else V 134 j) = amF (V 134) t c k := by
            funext j
            unfold amF
            by_cases h1 : j = k
            · rw [if_pos h1, if_neg (by omega), if_pos h1]
            · rw [if_neg h1]
              by_cases h2 : j < k
              · rw [if_neg (by omega), if_pos h2]
              · rw [if_neg h2, if_neg h1]
                by_cases h3 : j ≤ c
                · rw [if_pos ⟨by omega, h3⟩, if_pos h3]
                · rw [if_neg (fun w => h3 w.2), if_neg h3]
          refine ⟨fun _ => ⟨by omega, by rw [e1]; unfold pm_I32; omega, ?_⟩, fun z => absurd (Int.le_refl _) z⟩
          rw [e1]
          unfold amV
          rw [hk, if_neg hne, e2]
          rfl
        · intro i hi hP
          rw [ux_134_50]
          simp only [ux_134_0, ux_134_1, ux_134_3, ux_134_4, ux_134_7, ux_134_10, ux_134_11, ux_134_14, ux_134_15, ux_134_16, ux_134_17, ux_134_20, ux_134_23, ux_134_27, ux_134_28, ux_134_31, ux_134_34, ux_134_35, ux_134_38, ux_134_39, ux_134_40, ux_134_41, ux_134_44, ux_134_45, ux_134_46, ux_134_49, ux_134_51, ux_134_52, ux_134_55, ux_134_56, ux_134_59, ux_134_60, ux_134_61, ux_134_64, ux_134_65, ux_134_66, ux_134_67, ux_134_68, ux_134_69, ux_134_72, ux_134_75, ux_134_76, ux_134_79, ux_134_80, ux_134_81, ux_134_82, ux_134_83, ux_134_84, ux_134_87, ux_134_88, ux_134_89, ux_134_92, pm_i_c, pm_l_c, pm_q_c, pm_r_c, pm_li_0, pm_li_s, pm_ll_0, pm_ll_s, pm_lq_0, pm_lq_s, pm_s1, pm_s2, pm_kl, pm_wI, pm_wR, pm_pu_n, pm_pu_s, pm_wt, List.take_succ_cons, List.take_zero, List.take_nil, List.drop_succ_cons, List.drop_zero, List.reverse_cons, List.reverse_nil, List.nil_append, List.cons_append, List.length_cons, List.length_nil, true_and, and_true, true_implies, tn_l, tn_0, Int.reduceToNat, Int.reduceLE, Int.reduceLT, Int.reduceEq, Int.reduceAdd, Int.reduceSub, Int.reduceMul, Int.reduceNeg, Nat.reduceAdd, Nat.reduceLeDiff, Nat.reduceEqDiff, Nat.reduceSub, Option.some.injEq, Sum.inl.injEq, Sum.inr.injEq, or_true, true_or, reduceCtorEq, ne_eq, not_false_eq_true, not_true_eq_false, false_implies, implies_true, false_and, and_false, false_or, or_false, if_true, if_false, fr_131_0 hf, fr_131_1 hf, fr_131_5 hf, fr_131_7 hf, fr_131_8 hf, fr_131_9 hf, fr_131_12 hf, fr_131_13 hf, fr_131_14 hf, fr_131_15 hf, fr_131_19 hf, fr_131_20 hf, fr_131_21 hf, fr_131_22 hf, fr_131_23 hf, fr_131_24 hf, fg_131 hf, fv_131 hf, fb_132 hf, fb_133 hf, fb_134 hf, fb_135 hf, fb_136 hf, fb_137 hf, fb_138 hf, fb_139 hf, fb_140 hf, fb_141 hf, fb_142 hf, fb_143 hf, fb_144 hf, fb_145 hf, fb_146 hf, fb_147 hf, h6]
          have e1 : (((c - i : Nat) : Int) - 1).toNat = c - i - 1 := by omega
          have e2 : (((c - i : Nat) : Int) + -1) = ((c - (i + 1) : Nat) : Int) := by omega
          have e3 : pm_up (pm_set V 134 (fun j => if c - i < j ∧ j ≤ c then V 134 (j - 1) else V 134 j)) 134 (c - i) (pm_set V 134 (fun j => if c - i < j ∧ j ≤ c then V 134 (j - 1) else V 134 j) 134 (c - i - 1)) = pm_set V 134 (fun j => if c - (i + 1) < j ∧ j ≤ c then V 134 (j - 1) else V 134 j) := by
            rw [pm_up_set, pm_set_eq]
            congr 1
            funext j
            rw [if_neg (show ¬ (c - i < c - i - 1 ∧ c - i - 1 ≤ c) by omega)]
            by_cases h1 : j = c - i
            · rw [if_pos h1, if_pos (by omega), h1]
            · rw [if_neg h1]
              by_cases h2 : c - i < j ∧ j ≤ c
              · rw [if_pos h2, if_pos (by omega)]
              · rw [if_neg h2, if_neg (by omega)]
          rw [e1, e2, e3]
          refine ⟨fun z => by omega, fun _ => ⟨by unfold pm_I32; omega, by omega, by omega, by unfold pm_I32; omega, hP⟩⟩
      refine ⟨fun z => hns (by omega), fun z => ⟨by omega, fun z2 => hns (fun w => z2 w.2), fun z2 => ?_⟩⟩
      unfold amV
      rw [hk, if_pos ⟨by omega, Classical.not_not.mp z2⟩]
    rw [ux_134_2]
    simp only [ux_134_0, ux_134_1, ux_134_3, ux_134_4, ux_134_7, ux_134_10, ux_134_11, ux_134_14, ux_134_15, ux_134_16, ux_134_17, ux_134_20, ux_134_23, ux_134_27, ux_134_28, ux_134_31, ux_134_34, ux_134_35, ux_134_38, ux_134_39, ux_134_40, ux_134_41, ux_134_44, ux_134_45, ux_134_46, ux_134_49, ux_134_51, ux_134_52, ux_134_55, ux_134_56, ux_134_59, ux_134_60, ux_134_61, ux_134_64, ux_134_65, ux_134_66, ux_134_67, ux_134_68, ux_134_69, ux_134_72, ux_134_75, ux_134_76, ux_134_79, ux_134_80, ux_134_81, ux_134_82, ux_134_83, ux_134_84, ux_134_87, ux_134_88, ux_134_89, ux_134_92, pm_i_c, pm_l_c, pm_q_c, pm_r_c, pm_li_0, pm_li_s, pm_ll_0, pm_ll_s, pm_lq_0, pm_lq_s, pm_s1, pm_s2, pm_kl, pm_wI, pm_wR, pm_pu_n, pm_pu_s, pm_wt, List.take_succ_cons, List.take_zero, List.take_nil, List.drop_succ_cons, List.drop_zero, List.reverse_cons, List.reverse_nil, List.nil_append, List.cons_append, List.length_cons, List.length_nil, true_and, and_true, true_implies, tn_l, tn_0, Int.reduceToNat, Int.reduceLE, Int.reduceLT, Int.reduceEq, Int.reduceAdd, Int.reduceSub, Int.reduceMul, Int.reduceNeg, Nat.reduceAdd, Nat.reduceLeDiff, Nat.reduceEqDiff, Nat.reduceSub, Option.some.injEq, Sum.inl.injEq, Sum.inr.injEq, or_true, true_or, reduceCtorEq, ne_eq, not_false_eq_true, not_true_eq_false, false_implies, implies_true, false_and, and_false, false_or, or_false, if_true, if_false, fr_131_0 hf, fr_131_1 hf, fr_131_5 hf, fr_131_7 hf, fr_131_8 hf, fr_131_9 hf, fr_131_12 hf, fr_131_13 hf, fr_131_14 hf, fr_131_15 hf, fr_131_19 hf, fr_131_20 hf, fr_131_21 hf, fr_131_22 hf, fr_131_23 hf, fr_131_24 hf, fg_131 hf, fv_131 hf, fb_132 hf, fb_133 hf, fb_134 hf, fb_135 hf, fb_136 hf, fb_137 hf, fb_138 hf, fb_139 hf, fb_140 hf, fb_141 hf, fb_142 hf, fb_143 hf, fb_144 hf, fb_145 hf, fb_146 hf, fb_147 hf, h6]
    refine ⟨fun _ => hgo, fun z => ⟨by omega, fun _ => hgo, fun z2 => absurd (k4 (by omega)) (fun w => w (by omega))⟩⟩
  · intro j hj hP
    rw [ux_134_2]
    simp only [ux_134_0, ux_134_1, ux_134_3, ux_134_4, ux_134_7, ux_134_10, ux_134_11, ux_134_14, ux_134_15, ux_134_16, ux_134_17, ux_134_20, ux_134_23, ux_134_27, ux_134_28, ux_134_31, ux_134_34, ux_134_35, ux_134_38, ux_134_39, ux_134_40, ux_134_41, ux_134_44, ux_134_45, ux_134_46, ux_134_49, ux_134_51, ux_134_52, ux_134_55, ux_134_56, ux_134_59, ux_134_60, ux_134_61, ux_134_64, ux_134_65, ux_134_66, ux_134_67, ux_134_68, ux_134_69, ux_134_72, ux_134_75, ux_134_76, ux_134_79, ux_134_80, ux_134_81, ux_134_82, ux_134_83, ux_134_84, ux_134_87, ux_134_88, ux_134_89, ux_134_92, pm_i_c, pm_l_c, pm_q_c, pm_r_c, pm_li_0, pm_li_s, pm_ll_0, pm_ll_s, pm_lq_0, pm_lq_s, pm_s1, pm_s2, pm_kl, pm_wI, pm_wR, pm_pu_n, pm_pu_s, pm_wt, List.take_succ_cons, List.take_zero, List.take_nil, List.drop_succ_cons, List.drop_zero, List.reverse_cons, List.reverse_nil, List.nil_append, List.cons_append, List.length_cons, List.length_nil, true_and, and_true, true_implies, tn_l, tn_0, Int.reduceToNat, Int.reduceLE, Int.reduceLT, Int.reduceEq, Int.reduceAdd, Int.reduceSub, Int.reduceMul, Int.reduceNeg, Nat.reduceAdd, Nat.reduceLeDiff, Nat.reduceEqDiff, Nat.reduceSub, Option.some.injEq, Sum.inl.injEq, Sum.inr.injEq, or_true, true_or, reduceCtorEq, ne_eq, not_false_eq_true, not_true_eq_false, false_implies, implies_true, false_and, and_false, false_or, or_false, if_true, if_false, fr_131_0 hf, fr_131_1 hf, fr_131_5 hf, fr_131_7 hf, fr_131_8 hf, fr_131_9 hf, fr_131_12 hf, fr_131_13 hf, fr_131_14 hf, fr_131_15 hf, fr_131_19 hf, fr_131_20 hf, fr_131_21 hf, fr_131_22 hf, fr_131_23 hf, fr_131_24 hf, fg_131 hf, fv_131 hf, fb_132 hf, fb_133 hf, fb_134 hf, fb_135 hf, fb_136 hf, fb_137 hf, fb_138 hf, fb_139 hf, fb_140 hf, fb_141 hf, fb_142 hf, fb_143 hf, fb_144 hf, fb_145 hf, fb_146 hf, fb_147 hf, h6]
    have := k3 j (by omega) hj
    refine ⟨fun z => by omega, fun z => ⟨by omega, fun z2 => by omega, fun _ => ⟨by unfold pm_I32; omega, hP⟩⟩⟩
end
