/-! THE CLASS: a frame at b -/
def frq (R : Nat → Nat → Option Nat) (T : List (Nat × Nat)) (b : Nat) : Prop := T[b]? = some (1, 8) ∧ R b 4 = some (b + 1) ∧ R b 5 = some (b + 2) ∧ R b 6 = some (b + 3) ∧ R b 7 = some (b + 4) ∧ T[b + 1]? = some (20, 48) ∧ T[b + 2]? = some (20, 12) ∧ T[b + 3]? = some (20, 12) ∧ T[b + 4]? = some (21, 12)
theorem fx_45 {R : Nat → Nat → Option Nat} {T : List (Nat × Nat)} (h : fx R T) : frq R T 45 := ⟨ft_45 h, fr_45_4 h, fr_45_5 h, fr_45_6 h, fr_45_7 h, ft_46 h, ft_47 h, ft_48 h, ft_49 h⟩
theorem fx_82 {R : Nat → Nat → Option Nat} {T : List (Nat × Nat)} (h : fx R T) : frq R T 82 := ⟨ft_82 h, fr_82_4 h, fr_82_5 h, fr_82_6 h, fr_82_7 h, ft_83 h, ft_84 h, ft_85 h, ft_86 h⟩
section
variable {V : Nat → Nat → Int} {R : Nat → Nat → Option Nat} {T : List (Nat × Nat)} {b : Nat} {x : Int}
theorem fq_4 (h : frq R T b) : R b 4 = some (b + 1) := h.2.1
theorem fq_5 (h : frq R T b) : R b 5 = some (b + 2) := h.2.2.1
theorem fq_6 (h : frq R T b) : R b 6 = some (b + 3) := h.2.2.2.1
theorem fq_7 (h : frq R T b) : R b 7 = some (b + 4) := h.2.2.2.2.1
theorem fq_t (h : frq R T b) : pm_tgs (V, R, T) b [1] ↔ True := iff_true_intro ⟨1, 8, by decide, h.1⟩
theorem fq_v (h : frq R T b) : pm_tg (V, R, T) b 1 ↔ True := iff_true_intro ⟨8, h.1⟩
theorem fq_b1 (h : frq R T b) : pm_inb (V, R, T) (b + 1) 20 x ↔ 0 ≤ x ∧ x < 48 := pm_inb_iff h.2.2.2.2.2.1
theorem fq_b2 (h : frq R T b) : pm_inb (V, R, T) (b + 2) 20 x ↔ 0 ≤ x ∧ x < 12 := pm_inb_iff h.2.2.2.2.2.2.1
theorem fq_b3 (h : frq R T b) : pm_inb (V, R, T) (b + 3) 20 x ↔ 0 ≤ x ∧ x < 12 := pm_inb_iff h.2.2.2.2.2.2.2.1
theorem fq_b4 (h : frq R T b) : pm_inb (V, R, T) (b + 4) 21 x ↔ 0 ≤ x ∧ x < 12 := pm_inb_iff h.2.2.2.2.2.2.2.2
end
section
variable {d : Nat} {h : pm_H} {V V2 W : Nat → Nat → Int} {R : Nat → Nat → Option Nat} {T : List (Nat × Nat)} {n a p b : Nat} {A : Nat → Int} {L : List Int}
def frI (V V2 : Nat → Nat → Int) (b : Nat) (L : List Int) : Prop := (∀ q j, q ≠ b + 1 → ¬ (q = b ∧ j = 2) → V2 q j = V q j) ∧ V2 b 2 = L.length ∧ rp (V2 (b + 1)) L
def faQ (V : Nat → Nat → Int) (R : Nat → Nat → Option Nat) (T : List (Nat × Nat)) (b : Nat) (L : List Int) (r : Option pm_V) (h2 : pm_H) : Prop := ∃ V2, h2 = (V2, R, T) ∧ r = none ∧ frI V V2 b L
theorem c_addMoment (hd : 1 ≤ d) (hb : frq R T b) (t : Int) (hc : L.length < 48) (hI : frI V W b L) : pm_ok d 50 [.inr (.inr (some b)), .inl t] (W, R, T) (faQ V R T b (insL t L)) := by
  obtain ⟨d, rfl⟩ : ∃ k, d = k + 1 := ⟨d - 1, by omega⟩
  refine pm_ok_iff.mpr ⟨(Nat.le_of_ble_eq_true rfl), ?_⟩
  show pm_w d 50 0 [some (.inr (.inr (some b))), some (.inl t), none, none, none] [] (W, R, T) _
  obtain ⟨i1, i2, i3⟩ := hI
  simp only [ux_50_0, ux_50_1, ux_50_3, ux_50_4, ux_50_7, ux_50_10, ux_50_11, ux_50_14, ux_50_15, ux_50_16, ux_50_17, ux_50_20, ux_50_23, ux_50_27, ux_50_28, ux_50_31, ux_50_34, ux_50_35, ux_50_38, ux_50_39, ux_50_40, ux_50_41, ux_50_44, ux_50_45, ux_50_48, ux_50_49, ux_50_51, ux_50_54, ux_50_55, ux_50_58, ux_50_60, ux_50_65, ux_50_68, ux_50_72, ux_50_73, ux_50_76, ux_50_77, ux_50_80, ux_50_82, ux_50_83, ux_50_86, ux_50_88, ux_50_89, ux_50_90, ux_50_91, ux_50_92, ux_50_95, ux_50_98, ux_50_99, ux_50_102, ux_50_103, ux_50_104, ux_50_105, ux_50_106, ux_50_107, ux_50_110, ux_50_111, ux_50_112, ux_50_115, pm_i_c, pm_l_c, pm_q_c, pm_r_c, pm_li_0, pm_li_s, pm_ll_0, pm_ll_s, pm_lq_0, pm_lq_s, pm_s1, pm_s2, pm_kl, pm_wI, pm_wR, pm_pu_n, pm_pu_s, pm_wt, List.take_succ_cons, List.take_zero, List.take_nil, List.drop_succ_cons, List.drop_zero, List.reverse_cons, List.reverse_nil, List.nil_append, List.cons_append, List.length_cons, List.length_nil, true_and, and_true, true_implies, tn_l, tn_0, Int.reduceToNat, Int.reduceLE, Int.reduceLT, Int.reduceEq, Int.reduceAdd, Int.reduceSub, Int.reduceMul, Int.reduceNeg, Nat.reduceAdd, Nat.reduceLeDiff, Nat.reduceEqDiff, Nat.reduceSub, Option.some.injEq, Sum.inl.injEq, Sum.inr.injEq, or_true, true_or, reduceCtorEq, ne_eq, not_false_eq_true, not_true_eq_false, false_implies, implies_true, false_and, and_false, false_or, or_false, if_true, if_false, fq_4 hb, fq_5 hb, fq_6 hb, fq_7 hb, fq_t hb, fq_v hb, fq_b1 hb, fq_b2 hb, fq_b3 hb, fq_b4 hb]
  obtain ⟨-, K2, K3, K4⟩ := kpos_spec (t := t) (f := fun j => L.getD j 0) L.length 0
  generalize hK : kpos t (fun j => L.getD j 0) L.length 0 = K at K2 K3 K4
  -- put it in
  have ins : ¬ (K < L.length ∧ L.getD K 0 = t) → ∀ y : Int, pm_w d 50 64 [some (.inr (.inr (some b))), some (.inl t), some (.inl (K : Int)), some (.inl y), none] [] (W, R, T) (faQ V R T b (insL t L)) := by
    intro hne y
    have eL : insL t L = L.take K ++ t :: L.drop K := by unfold insL; rw [hK, if_neg hne]
    rw [ux_50_64]
    simp only [ux_50_0, ux_50_1, ux_50_3, ux_50_4, ux_50_7, ux_50_10, ux_50_11, ux_50_14, ux_50_15, ux_50_16, ux_50_17, ux_50_20, ux_50_23, ux_50_27, ux_50_28, ux_50_31, ux_50_34, ux_50_35, ux_50_38, ux_50_39, ux_50_40, ux_50_41, ux_50_44, ux_50_45, ux_50_48, ux_50_49, ux_50_51, ux_50_54, ux_50_55, ux_50_58, ux_50_60, ux_50_65, ux_50_68, ux_50_72, ux_50_73, ux_50_76, ux_50_77, ux_50_80, ux_50_82, ux_50_83, ux_50_86, ux_50_88, ux_50_89, ux_50_90, ux_50_91, ux_50_92, ux_50_95, ux_50_98, ux_50_99, ux_50_102, ux_50_103, ux_50_104, ux_50_105, ux_50_106, ux_50_107, ux_50_110, ux_50_111, ux_50_112, ux_50_115, pm_i_c, pm_l_c, pm_q_c, pm_r_c, pm_li_0, pm_li_s, pm_ll_0, pm_ll_s, pm_lq_0, pm_lq_s, pm_s1, pm_s2, pm_kl, pm_wI, pm_wR, pm_pu_n, pm_pu_s, pm_wt, List.take_succ_cons, List.take_zero, List.take_nil, List.drop_succ_cons, List.drop_zero, List.reverse_cons, List.reverse_nil, List.nil_append, List.cons_append, List.length_cons, List.length_nil, true_and, and_true, true_implies, tn_l, tn_0, Int.reduceToNat, Int.reduceLE, Int.reduceLT, Int.reduceEq, Int.reduceAdd, Int.reduceSub, Int.reduceMul, Int.reduceNeg, Nat.reduceAdd, Nat.reduceLeDiff, Nat.reduceEqDiff, Nat.reduceSub, Option.some.injEq, Sum.inl.injEq, Sum.inr.injEq, or_true, true_or, reduceCtorEq, ne_eq, not_false_eq_true, not_true_eq_false, false_implies, implies_true, false_and, and_false, false_or, or_false, if_true, if_false, fq_4 hb, fq_5 hb, fq_6 hb, fq_7 hb, fq_t hb, fq_v hb, fq_b1 hb, fq_b2 hb, fq_b3 hb, fq_b4 hb, i2]
    have key : ∀ (j i : Nat) (W2 : Nat → Nat → Int), i = K + j → i ≤ L.length → (∀ q, q ≠ b + 1 → W2 q = W q) → (∀ j, j ≤ L.length → W2 (b + 1) j = if i < j then L.getD (j - 1) 0 else W (b + 1) j) → pm_w d 50 70 [some (.inr (.inr (some b))), some (.inl t), some (.inl (K : Int)), some (.inl y), some (.inl (i : Int))] [] (W2, R, T) (faQ V R T b (insL t L)) := by
      intro j
      induction j with
      | zero =>
        intro i W2 hi hil w1 w2
        have ei : i = K := by omega
        subst ei
        have e2 : W2 b 2 = (L.length : Int) := by rw [w1 b (by omega)]; exact i2
        have e2' : ∀ k x, pm_up W2 (b + 1) k x b 2 = (L.length : Int) := fun k x => by rw [pm_up_fr (by omega)]; exact e2
        rw [ux_50_70]
        simp only [ux_50_0, ux_50_1, ux_50_3, ux_50_4, ux_50_7, ux_50_10, ux_50_11, ux_50_14, ux_50_15, ux_50_16, ux_50_17, ux_50_20, ux_50_23, ux_50_27, ux_50_28, ux_50_31, ux_50_34, ux_50_35, ux_50_38, ux_50_39, ux_50_40, ux_50_41, ux_50_44, ux_50_45, ux_50_48, ux_50_49, ux_50_51, ux_50_54, ux_50_55, ux_50_58, ux_50_60, ux_50_65, ux_50_68, ux_50_72, ux_50_73, ux_50_76, ux_50_77, ux_50_80, ux_50_82, ux_50_83, ux_50_86, ux_50_88, ux_50_89, ux_50_90, ux_50_91, ux_50_92, ux_50_95, ux_50_98, ux_50_99, ux_50_102, ux_50_103, ux_50_104, ux_50_105, ux_50_106, ux_50_107, ux_50_110, ux_50_111, ux_50_112, ux_50_115, pm_i_c, pm_l_c, pm_q_c, pm_r_c, pm_li_0, pm_li_s, pm_ll_0, pm_ll_s, pm_lq_0, pm_lq_s, pm_s1, pm_s2, pm_kl, pm_wI, pm_wR, pm_pu_n, pm_pu_s, pm_wt, List.take_succ_cons, List.take_zero, List.take_nil, List.drop_succ_cons, List.drop_zero, List.reverse_cons, List.reverse_nil, List.nil_append, List.cons_append, List.length_cons, List.length_nil, true_and, and_true, true_implies, tn_l, tn_0, Int.reduceToNat, Int.reduceLE, Int.reduceLT, Int.reduceEq, Int.reduceAdd, Int.reduceSub, Int.reduceMul, Int.reduceNeg, Nat.reduceAdd, Nat.reduceLeDiff, Nat.reduceEqDiff, Nat.reduceSub, Option.some.injEq, Sum.inl.injEq, Sum.inr.injEq, or_true, true_or, reduceCtorEq, ne_eq, not_false_eq_true, not_true_eq_false, false_implies, implies_true, false_and, and_false, false_or, or_false, if_true, if_false, fq_4 hb, fq_5 hb, fq_6 hb, fq_7 hb, fq_t hb, fq_v hb, fq_b1 hb, fq_b2 hb, fq_b3 hb, fq_b4 hb, e2']
        refine ⟨fun _ => ⟨by omega, by unfold pm_I32; omega, _, rfl, rfl, fun q j h1 h2 => ?_, ?_, fun j hj => ?_⟩, fun z => absurd (Int.le_refl _) z⟩
        · rw [pm_up_ne h2, pm_up_fr h1, w1 q h1]; exact i1 q j h1 h2
        · rw [pm_up_eq, eL, len_ins (by omega)]; omega
        · rw [eL, len_ins (by omega)] at hj
          rw [pm_up_fr (by omega), pm_up_row, eL, getD_ins (by omega)]
          dsimp only
          by_cases c1 : j < i
          · rw [if_neg (by omega), if_pos c1, w2 j (by omega), if_neg (by omega)]; exact i3 j (by omega)
          · rw [if_neg c1]
            by_cases c2 : j = i
            · rw [if_pos c2, if_pos c2]
            · rw [if_neg c2, if_neg c2, w2 j (by omega), if_pos (by omega)]
      | succ j ih =>
        intro i W2 hi hil w1 w2
        have e1 : ((i : Int) - 1).toNat = i - 1 := by omega
        have e3 : ((i : Int) + -1) = ((i - 1 : Nat) : Int) := by omega
        have e4 : W2 (b + 1) (i - 1) = L.getD (i - 1) 0 := by rw [w2 (i - 1) (by omega), if_neg (by omega)]; exact i3 (i - 1) (by omega)
        rw [ux_50_70]
        simp only [ux_50_0, ux_50_1, ux_50_3, ux_50_4, ux_50_7, ux_50_10, ux_50_11, ux_50_14, ux_50_15, ux_50_16, ux_50_17, ux_50_20, ux_50_23, ux_50_27, ux_50_28, ux_50_31, ux_50_34, ux_50_35, ux_50_38, ux_50_39, ux_50_40, ux_50_41, ux_50_44, ux_50_45, ux_50_48, ux_50_49, ux_50_51, ux_50_54, ux_50_55, ux_50_58, ux_50_60, ux_50_65, ux_50_68, ux_50_72, ux_50_73, ux_50_76, ux_50_77, ux_50_80, ux_50_82, ux_50_83, ux_50_86, ux_50_88, ux_50_89, ux_50_90, ux_50_91, ux_50_92, ux_50_95, ux_50_98, ux_50_99, ux_50_102, ux_50_103, ux_50_104, ux_50_105, ux_50_106, ux_50_107, ux_50_110, ux_50_111, ux_50_112, ux_50_115, pm_i_c, pm_l_c, pm_q_c, pm_r_c, pm_li_0, pm_li_s, pm_ll_0, pm_ll_s, pm_lq_0, pm_lq_s, pm_s1, pm_s2, pm_kl, pm_wI, pm_wR, pm_pu_n, pm_pu_s, pm_wt, List.take_succ_cons, List.take_zero, List.take_nil, List.drop_succ_cons, List.drop_zero, List.reverse_cons, List.reverse_nil, List.nil_append, List.cons_append, List.length_cons, List.length_nil, true_and, and_true, true_implies, tn_l, tn_0, Int.reduceToNat, Int.reduceLE, Int.reduceLT, Int.reduceEq, Int.reduceAdd, Int.reduceSub, Int.reduceMul, Int.reduceNeg, Nat.reduceAdd, Nat.reduceLeDiff, Nat.reduceEqDiff, Nat.reduceSub, Option.some.injEq, Sum.inl.injEq, Sum.inr.injEq, or_true, true_or, reduceCtorEq, ne_eq, not_false_eq_true, not_true_eq_false, false_implies, implies_true, false_and, and_false, false_or, or_false, if_true, if_false, fq_4 hb, fq_5 hb, fq_6 hb, fq_7 hb, fq_t hb, fq_v hb, fq_b1 hb, fq_b2 hb, fq_b3 hb, fq_b4 hb, e1, e3, e4]
        refine ⟨fun z => by omega, fun _ => ⟨by unfold pm_I32; omega, by omega, by omega, by unfold pm_I32; omega, ih (i - 1) _ (by omega) (by omega) (fun q hq => by rw [pm_up_fr hq]; exact w1 q hq) (fun j hj => ?_)⟩⟩
        rw [pm_up_row]
        dsimp only
        by_cases c : j = i
        · rw [if_pos c, if_pos (by omega), c]
        · rw [if_neg c, w2 j hj]
          by_cases c2 : i < j
          · rw [if_pos c2, if_pos (by omega)]
          · rw [if_neg c2, if_neg (by omega)]
    exact key (L.length - K) L.length W (by omega) (Nat.le_refl _) (fun _ _ => rfl) (fun j hj => by rw [if_neg (by omega)])
  have fin : pm_w d 50 26 [some (.inr (.inr (some b))), some (.inl t), some (.inl (K : Int)), none, none] [] (W, R, T) (faQ V R T b (insL t L)) := by
    have yes : (K < L.length ∧ L.getD K 0 = t) → faQ V R T b (insL t L) none (W, R, T) := by
      intro c
      refine ⟨W, rfl, rfl, ?_⟩
      unfold insL
      rw [hK, if_pos c]
      exact ⟨i1, i2, i3⟩
    rw [ux_50_26]
    simp only [ux_50_0, ux_50_1, ux_50_3, ux_50_4, ux_50_7, ux_50_10, ux_50_11, ux_50_14, ux_50_15, ux_50_16, ux_50_17, ux_50_20, ux_50_23, ux_50_27, ux_50_28, ux_50_31, ux_50_34, ux_50_35, ux_50_38, ux_50_39, ux_50_40, ux_50_41, ux_50_44, ux_50_45, ux_50_48, ux_50_49, ux_50_51, ux_50_54, ux_50_55, ux_50_58, ux_50_60, ux_50_65, ux_50_68, ux_50_72, ux_50_73, ux_50_76, ux_50_77, ux_50_80, ux_50_82, ux_50_83, ux_50_86, ux_50_88, ux_50_89, ux_50_90, ux_50_91, ux_50_92, ux_50_95, ux_50_98, ux_50_99, ux_50_102, ux_50_103, ux_50_104, ux_50_105, ux_50_106, ux_50_107, ux_50_110, ux_50_111, ux_50_112, ux_50_115, pm_i_c, pm_l_c, pm_q_c, pm_r_c, pm_li_0, pm_li_s, pm_ll_0, pm_ll_s, pm_lq_0, pm_lq_s, pm_s1, pm_s2, pm_kl, pm_wI, pm_wR, pm_pu_n, pm_pu_s, pm_wt, List.take_succ_cons, List.take_zero, List.take_nil, List.drop_succ_cons, List.drop_zero, List.reverse_cons, List.reverse_nil, List.nil_append, List.cons_append, List.length_cons, List.length_nil, true_and, and_true, true_implies, tn_l, tn_0, Int.reduceToNat, Int.reduceLE, Int.reduceLT, Int.reduceEq, Int.reduceAdd, Int.reduceSub, Int.reduceMul, Int.reduceNeg, Nat.reduceAdd, Nat.reduceLeDiff, Nat.reduceEqDiff, Nat.reduceSub, Option.some.injEq, Sum.inl.injEq, Sum.inr.injEq, or_true, true_or, reduceCtorEq, ne_eq, not_false_eq_true, not_true_eq_false, false_implies, implies_true, false_and, and_false, false_or, or_false, if_true, if_false, fq_4 hb, fq_5 hb, fq_6 hb, fq_7 hb, fq_t hb, fq_v hb, fq_b1 hb, fq_b2 hb, fq_b3 hb, fq_b4 hb, i2]
    refine ⟨fun z => ?_, fun z => ⟨by omega, fun z2 => ?_, fun z2 => ?_⟩⟩
    · rw [ux_50_50]
      simp only [ux_50_0, ux_50_1, ux_50_3, ux_50_4, ux_50_7, ux_50_10, ux_50_11, ux_50_14, ux_50_15, ux_50_16, ux_50_17, ux_50_20, ux_50_23, ux_50_27, ux_50_28, ux_50_31, ux_50_34, ux_50_35, ux_50_38, ux_50_39, ux_50_40, ux_50_41, ux_50_44, ux_50_45, ux_50_48, ux_50_49, ux_50_51, ux_50_54, ux_50_55, ux_50_58, ux_50_60, ux_50_65, ux_50_68, ux_50_72, ux_50_73, ux_50_76, ux_50_77, ux_50_80, ux_50_82, ux_50_83, ux_50_86, ux_50_88, ux_50_89, ux_50_90, ux_50_91, ux_50_92, ux_50_95, ux_50_98, ux_50_99, ux_50_102, ux_50_103, ux_50_104, ux_50_105, ux_50_106, ux_50_107, ux_50_110, ux_50_111, ux_50_112, ux_50_115, pm_i_c, pm_l_c, pm_q_c, pm_r_c, pm_li_0, pm_li_s, pm_ll_0, pm_ll_s, pm_lq_0, pm_lq_s, pm_s1, pm_s2, pm_kl, pm_wI, pm_wR, pm_pu_n, pm_pu_s, pm_wt, List.take_succ_cons, List.take_zero, List.take_nil, List.drop_succ_cons, List.drop_zero, List.reverse_cons, List.reverse_nil, List.nil_append, List.cons_append, List.length_cons, List.length_nil, true_and, and_true, true_implies, tn_l, tn_0, Int.reduceToNat, Int.reduceLE, Int.reduceLT, Int.reduceEq, Int.reduceAdd, Int.reduceSub, Int.reduceMul, Int.reduceNeg, Nat.reduceAdd, Nat.reduceLeDiff, Nat.reduceEqDiff, Nat.reduceSub, Option.some.injEq, Sum.inl.injEq, Sum.inr.injEq, or_true, true_or, reduceCtorEq, ne_eq, not_false_eq_true, not_true_eq_false, false_implies, implies_true, false_and, and_false, false_or, or_false, if_true, if_false, fq_4 hb, fq_5 hb, fq_6 hb, fq_7 hb, fq_t hb, fq_v hb, fq_b1 hb, fq_b2 hb, fq_b3 hb, fq_b4 hb, i2]
      exact ⟨fun _ => ins (by omega) _, fun z => absurd (by omega) z⟩
    · rw [i3 K (by omega)] at z2
      rw [ux_50_50]
      simp only [ux_50_0, ux_50_1, ux_50_3, ux_50_4, ux_50_7, ux_50_10, ux_50_11, ux_50_14, ux_50_15, ux_50_16, ux_50_17, ux_50_20, ux_50_23, ux_50_27, ux_50_28, ux_50_31, ux_50_34, ux_50_35, ux_50_38, ux_50_39, ux_50_40, ux_50_41, ux_50_44, ux_50_45, ux_50_48, ux_50_49, ux_50_51, ux_50_54, ux_50_55, ux_50_58, ux_50_60, ux_50_65, ux_50_68, ux_50_72, ux_50_73, ux_50_76, ux_50_77, ux_50_80, ux_50_82, ux_50_83, ux_50_86, ux_50_88, ux_50_89, ux_50_90, ux_50_91, ux_50_92, ux_50_95, ux_50_98, ux_50_99, ux_50_102, ux_50_103, ux_50_104, ux_50_105, ux_50_106, ux_50_107, ux_50_110, ux_50_111, ux_50_112, ux_50_115, pm_i_c, pm_l_c, pm_q_c, pm_r_c, pm_li_0, pm_li_s, pm_ll_0, pm_ll_s, pm_lq_0, pm_lq_s, pm_s1, pm_s2, pm_kl, pm_wI, pm_wR, pm_pu_n, pm_pu_s, pm_wt, List.take_succ_cons, List.take_zero, List.take_nil, List.drop_succ_cons, List.drop_zero, List.reverse_cons, List.reverse_nil, List.nil_append, List.cons_append, List.length_cons, List.length_nil, true_and, and_true, true_implies, tn_l, tn_0, Int.reduceToNat, Int.reduceLE, Int.reduceLT, Int.reduceEq, Int.reduceAdd, Int.reduceSub, Int.reduceMul, Int.reduceNeg, Nat.reduceAdd, Nat.reduceLeDiff, Nat.reduceEqDiff, Nat.reduceSub, Option.some.injEq, Sum.inl.injEq, Sum.inr.injEq, or_true, true_or, reduceCtorEq, ne_eq, not_false_eq_true, not_true_eq_false, false_implies, implies_true, false_and, and_false, false_or, or_false, if_true, if_false, fq_4 hb, fq_5 hb, fq_6 hb, fq_7 hb, fq_t hb, fq_v hb, fq_b1 hb, fq_b2 hb, fq_b3 hb, fq_b4 hb, i2]
      exact ⟨fun _ => ins (fun w => z2 w.2) _, fun z => absurd (by omega) z⟩
    · rw [i3 K (by omega)] at z2
      rw [ux_50_50]
      simp only [ux_50_0, ux_50_1, ux_50_3, ux_50_4, ux_50_7, ux_50_10, ux_50_11, ux_50_14, ux_50_15, ux_50_16, ux_50_17, ux_50_20, ux_50_23, ux_50_27, ux_50_28, ux_50_31, ux_50_34, ux_50_35, ux_50_38, ux_50_39, ux_50_40, ux_50_41, ux_50_44, ux_50_45, ux_50_48, ux_50_49, ux_50_51, ux_50_54, ux_50_55, ux_50_58, ux_50_60, ux_50_65, ux_50_68, ux_50_72, ux_50_73, ux_50_76, ux_50_77, ux_50_80, ux_50_82, ux_50_83, ux_50_86, ux_50_88, ux_50_89, ux_50_90, ux_50_91, ux_50_92, ux_50_95, ux_50_98, ux_50_99, ux_50_102, ux_50_103, ux_50_104, ux_50_105, ux_50_106, ux_50_107, ux_50_110, ux_50_111, ux_50_112, ux_50_115, pm_i_c, pm_l_c, pm_q_c, pm_r_c, pm_li_0, pm_li_s, pm_ll_0, pm_ll_s, pm_lq_0, pm_lq_s, pm_s1, pm_s2, pm_kl, pm_wI, pm_wR, pm_pu_n, pm_pu_s, pm_wt, List.take_succ_cons, List.take_zero, List.take_nil, List.drop_succ_cons, List.drop_zero, List.reverse_cons, List.reverse_nil, List.nil_append, List.cons_append, List.length_cons, List.length_nil, true_and, and_true, true_implies, tn_l, tn_0, Int.reduceToNat, Int.reduceLE, Int.reduceLT, Int.reduceEq, Int.reduceAdd, Int.reduceSub, Int.reduceMul, Int.reduceNeg, Nat.reduceAdd, Nat.reduceLeDiff, Nat.reduceEqDiff, Nat.reduceSub, Option.some.injEq, Sum.inl.injEq, Sum.inr.injEq, or_true, true_or, reduceCtorEq, ne_eq, not_false_eq_true, not_true_eq_false, false_implies, implies_true, false_and, and_false, false_or, or_false, if_true, if_false, fq_4 hb, fq_5 hb, fq_6 hb, fq_7 hb, fq_t hb, fq_v hb, fq_b1 hb, fq_b2 hb, fq_b3 hb, fq_b4 hb, i2]
      rw [ux_50_63]
      exact ⟨rfl, yes ⟨by omega, Classical.not_not.mp z2⟩⟩
  have key : ∀ (r k : Nat), k + r = L.length → kpos t (fun j => L.getD j 0) r k = K → pm_w d 50 2 [some (.inr (.inr (some b))), some (.inl t), some (.inl (k : Int)), none, none] [] (W, R, T) (faQ V R T b (insL t L)) := by
    intro r
    induction r with
    | zero =>
      intro k hk he
      have he : k = K := he
      subst he
      rw [ux_50_2]
      simp only [ux_50_0, ux_50_1, ux_50_3, ux_50_4, ux_50_7, ux_50_10, ux_50_11, ux_50_14, ux_50_15, ux_50_16, ux_50_17, ux_50_20, ux_50_23, ux_50_27, ux_50_28, ux_50_31, ux_50_34, ux_50_35, ux_50_38, ux_50_39, ux_50_40, ux_50_41, ux_50_44, ux_50_45, ux_50_48, ux_50_49, ux_50_51, ux_50_54, ux_50_55, ux_50_58, ux_50_60, ux_50_65, ux_50_68, ux_50_72, ux_50_73, ux_50_76, ux_50_77, ux_50_80, ux_50_82, ux_50_83, ux_50_86, ux_50_88, ux_50_89, ux_50_90, ux_50_91, ux_50_92, ux_50_95, ux_50_98, ux_50_99, ux_50_102, ux_50_103, ux_50_104, ux_50_105, ux_50_106, ux_50_107, ux_50_110, ux_50_111, ux_50_112, ux_50_115, pm_i_c, pm_l_c, pm_q_c, pm_r_c, pm_li_0, pm_li_s, pm_ll_0, pm_ll_s, pm_lq_0, pm_lq_s, pm_s1, pm_s2, pm_kl, pm_wI, pm_wR, pm_pu_n, pm_pu_s, pm_wt, List.take_succ_cons, List.take_zero, List.take_nil, List.drop_succ_cons, List.drop_zero, List.reverse_cons, List.reverse_nil, List.nil_append, List.cons_append, List.length_cons, List.length_nil, true_and, and_true, true_implies, tn_l, tn_0, Int.reduceToNat, Int.reduceLE, Int.reduceLT, Int.reduceEq, Int.reduceAdd, Int.reduceSub, Int.reduceMul, Int.reduceNeg, Nat.reduceAdd, Nat.reduceLeDiff, Nat.reduceEqDiff, Nat.reduceSub, Option.some.injEq, Sum.inl.injEq, Sum.inr.injEq, or_true, true_or, reduceCtorEq, ne_eq, not_false_eq_true, not_true_eq_false, false_implies, implies_true, false_and, and_false, false_or, or_false, if_true, if_false, fq_4 hb, fq_5 hb, fq_6 hb, fq_7 hb, fq_t hb, fq_v hb, fq_b1 hb, fq_b2 hb, fq_b3 hb, fq_b4 hb, i2]
      exact ⟨fun _ => fin, fun z => absurd (by omega) z⟩
    | succ r ih =>
      intro k hk he
      have he : (if L.getD k 0 < t then kpos t (fun j => L.getD j 0) r (k + 1) else k) = K := he
      have e3 := i3 k (by omega)
      rw [ux_50_2]
      simp only [ux_50_0, ux_50_1, ux_50_3, ux_50_4, ux_50_7, ux_50_10, ux_50_11, ux_50_14, ux_50_15, ux_50_16, ux_50_17, ux_50_20, ux_50_23, ux_50_27, ux_50_28, ux_50_31, ux_50_34, ux_50_35, ux_50_38, ux_50_39, ux_50_40, ux_50_41, ux_50_44, ux_50_45, ux_50_48, ux_50_49, ux_50_51, ux_50_54, ux_50_55, ux_50_58, ux_50_60, ux_50_65, ux_50_68, ux_50_72, ux_50_73, ux_50_76, ux_50_77, ux_50_80, ux_50_82, ux_50_83, ux_50_86, ux_50_88, ux_50_89, ux_50_90, ux_50_91, ux_50_92, ux_50_95, ux_50_98, ux_50_99, ux_50_102, ux_50_103, ux_50_104, ux_50_105, ux_50_106, ux_50_107, ux_50_110, ux_50_111, ux_50_112, ux_50_115, pm_i_c, pm_l_c, pm_q_c, pm_r_c, pm_li_0, pm_li_s, pm_ll_0, pm_ll_s, pm_lq_0, pm_lq_s, pm_s1, pm_s2, pm_kl, pm_wI, pm_wR, pm_pu_n, pm_pu_s, pm_wt, List.take_succ_cons, List.take_zero, List.take_nil, List.drop_succ_cons, List.drop_zero, List.reverse_cons, List.reverse_nil, List.nil_append, List.cons_append, List.length_cons, List.length_nil, true_and, and_true, true_implies, tn_l, tn_0, Int.reduceToNat, Int.reduceLE, Int.reduceLT, Int.reduceEq, Int.reduceAdd, Int.reduceSub, Int.reduceMul, Int.reduceNeg, Nat.reduceAdd, Nat.reduceLeDiff, Nat.reduceEqDiff, Nat.reduceSub, Option.some.injEq, Sum.inl.injEq, Sum.inr.injEq, or_true, true_or, reduceCtorEq, ne_eq, not_false_eq_true, not_true_eq_false, false_implies, implies_true, false_and, and_false, false_or, or_false, if_true, if_false, fq_4 hb, fq_5 hb, fq_6 hb, fq_7 hb, fq_t hb, fq_v hb, fq_b1 hb, fq_b2 hb, fq_b3 hb, fq_b4 hb, i2, e3]
      refine ⟨fun z => by omega, fun _ => ⟨by omega, fun z => ?_, fun z => ⟨by unfold pm_I32; omega, ih (k + 1) (by omega) ?_⟩⟩⟩
      · rw [if_neg (by omega)] at he
        subst he
        exact fin
      · rw [if_pos (by omega)] at he; exact he
  exact key L.length 0 (by omega) hK
theorem c_addMomentsOf (hd : 2 ≤ d) (hb : frq R T b) (hbb : b + 1 < 148) (hw : wf A n) (hp : p < n) (ho : pcO V T a A p) {dl : Int} (h0 : 0 ≤ dl) (h1 : dl ≤ 200) (hc : L.length + 4 ≤ 48) (hI : frI V W b L) : pm_ok d 49 [.inr (.inr (some b)), .inr (.inr (some a)), .inl (A 1), .inl dl] (W, R, T) (faQ V R T b (mmP A dl p L)) := by
  obtain ⟨d, rfl⟩ : ∃ k, d = k + 1 := ⟨d - 1, by omega⟩
  refine pm_ok_iff.mpr ⟨(Nat.le_of_ble_eq_true rfl), ?_⟩
  show pm_w d 49 0 [some (.inr (.inr (some b))), some (.inr (.inr (some a))), some (.inl (A 1)), some (.inl dl)] [] (W, R, T) _
  have keep : ∀ W2 L2, frI V W2 b L2 → pcO W2 T a A p := fun W2 L2 hI2 => pcO_keep (fun q hq _ => funext fun j => hI2.1 q j (by omega) (by omega)) (fun _ _ z => z) ho
  have o0 := keep W L hI
  have wp := hw.2.2.2.2 p hp
  have hls := lsA_bd hw hp h0 h1
  have l1 := insL_len (A (27 + p)) L
  have l2 := insL_len (lsA A dl p) (insL (A (27 + p)) L)
  have l3 := insL_len (A (63 + p)) (insL (lsA A dl p) (insL (A (27 + p)) L))
  simp only [ux_49_0, ux_49_1, ux_49_4, ux_49_5, ux_49_6, ux_49_7, ux_49_10, ux_49_14, ux_49_15, ux_49_16, ux_49_20, ux_49_21, ux_49_25, ux_49_32, ux_49_33, ux_49_40, ux_49_41, pm_i_c, pm_l_c, pm_q_c, pm_r_c, pm_li_0, pm_li_s, pm_ll_0, pm_ll_s, pm_lq_0, pm_lq_s, pm_s1, pm_s2, pm_kl, pm_wI, pm_wR, pm_pu_n, pm_pu_s, pm_wt, List.take_succ_cons, List.take_zero, List.take_nil, List.drop_succ_cons, List.drop_zero, List.reverse_cons, List.reverse_nil, List.nil_append, List.cons_append, List.length_cons, List.length_nil, true_and, and_true, true_implies, tn_l, tn_0, Int.reduceToNat, Int.reduceLE, Int.reduceLT, Int.reduceEq, Int.reduceAdd, Int.reduceSub, Int.reduceMul, Int.reduceNeg, Nat.reduceAdd, Nat.reduceLeDiff, Nat.reduceEqDiff, Nat.reduceSub, Option.some.injEq, Sum.inl.injEq, Sum.inr.injEq, or_true, true_or, reduceCtorEq, ne_eq, not_false_eq_true, not_true_eq_false, false_implies, implies_true, false_and, and_false, false_or, or_false, if_true, if_false, fq_4 hb, fq_5 hb, fq_6 hb, fq_7 hb, fq_t hb, fq_v hb, fq_b1 hb, fq_b2 hb, fq_b3 hb, fq_b4 hb, eq_true (pc_tgs (R := R) o0), o0.2.2.2.1]
  refine pm_ok_mono (c_addMoment (d := d) (by omega) hb (A (27 + p)) (by omega) hI) ?_
  rintro r h2 ⟨W1, rfl, rfl, hI1⟩
  have o1 := keep W1 _ hI1
  rw [pm_pu_n, ux_49_13]
  simp only [ux_49_0, ux_49_1, ux_49_4, ux_49_5, ux_49_6, ux_49_7, ux_49_10, ux_49_14, ux_49_15, ux_49_16, ux_49_20, ux_49_21, ux_49_25, ux_49_32, ux_49_33, ux_49_40, ux_49_41, pm_i_c, pm_l_c, pm_q_c, pm_r_c, pm_li_0, pm_li_s, pm_ll_0, pm_ll_s, pm_lq_0, pm_lq_s, pm_s1, pm_s2, pm_kl, pm_wI, pm_wR, pm_pu_n, pm_pu_s, pm_wt, List.take_succ_cons, List.take_zero, List.take_nil, List.drop_succ_cons, List.drop_zero, List.reverse_cons, List.reverse_nil, List.nil_append, List.cons_append, List.length_cons, List.length_nil, true_and, and_true, true_implies, tn_l, tn_0, Int.reduceToNat, Int.reduceLE, Int.reduceLT, Int.reduceEq, Int.reduceAdd, Int.reduceSub, Int.reduceMul, Int.reduceNeg, Nat.reduceAdd, Nat.reduceLeDiff, Nat.reduceEqDiff, Nat.reduceSub, Option.some.injEq, Sum.inl.injEq, Sum.inr.injEq, or_true, true_or, reduceCtorEq, ne_eq, not_false_eq_true, not_true_eq_false, false_implies, implies_true, false_and, and_false, false_or, or_false, if_true, if_false, fq_4 hb, fq_5 hb, fq_6 hb, fq_7 hb, fq_t hb, fq_v hb, fq_b1 hb, fq_b2 hb, fq_b3 hb, fq_b4 hb]
  refine v_last (by omega) o1 rfl ?_
  have els : lsA A 0 p + dl = lsA A dl p := by unfold lsA; omega
  rw [pm_pu_s, ux_49_19]
  simp only [ux_49_0, ux_49_1, ux_49_4, ux_49_5, ux_49_6, ux_49_7, ux_49_10, ux_49_14, ux_49_15, ux_49_16, ux_49_20, ux_49_21, ux_49_25, ux_49_32, ux_49_33, ux_49_40, ux_49_41, pm_i_c, pm_l_c, pm_q_c, pm_r_c, pm_li_0, pm_li_s, pm_ll_0, pm_ll_s, pm_lq_0, pm_lq_s, pm_s1, pm_s2, pm_kl, pm_wI, pm_wR, pm_pu_n, pm_pu_s, pm_wt, List.take_succ_cons, List.take_zero, List.take_nil, List.drop_succ_cons, List.drop_zero, List.reverse_cons, List.reverse_nil, List.nil_append, List.cons_append, List.length_cons, List.length_nil, true_and, and_true, true_implies, tn_l, tn_0, Int.reduceToNat, Int.reduceLE, Int.reduceLT, Int.reduceEq, Int.reduceAdd, Int.reduceSub, Int.reduceMul, Int.reduceNeg, Nat.reduceAdd, Nat.reduceLeDiff, Nat.reduceEqDiff, Nat.reduceSub, Option.some.injEq, Sum.inl.injEq, Sum.inr.injEq, or_true, true_or, reduceCtorEq, ne_eq, not_false_eq_true, not_true_eq_false, false_implies, implies_true, false_and, and_false, false_or, or_false, if_true, if_false, fq_4 hb, fq_5 hb, fq_6 hb, fq_7 hb, fq_t hb, fq_v hb, fq_b1 hb, fq_b2 hb, fq_b3 hb, fq_b4 hb, els]
  refine ⟨by unfold pm_I32; omega, ?_⟩
  refine pm_ok_mono (c_addMoment (d := d) (by omega) hb (lsA A dl p) (by omega) hI1) ?_
  rintro r h2 ⟨W2, rfl, rfl, hI2⟩
  have o2 := keep W2 _ hI2
  rw [pm_pu_n, ux_49_24]
  simp only [ux_49_0, ux_49_1, ux_49_4, ux_49_5, ux_49_6, ux_49_7, ux_49_10, ux_49_14, ux_49_15, ux_49_16, ux_49_20, ux_49_21, ux_49_25, ux_49_32, ux_49_33, ux_49_40, ux_49_41, pm_i_c, pm_l_c, pm_q_c, pm_r_c, pm_li_0, pm_li_s, pm_ll_0, pm_ll_s, pm_lq_0, pm_lq_s, pm_s1, pm_s2, pm_kl, pm_wI, pm_wR, pm_pu_n, pm_pu_s, pm_wt, List.take_succ_cons, List.take_zero, List.take_nil, List.drop_succ_cons, List.drop_zero, List.reverse_cons, List.reverse_nil, List.nil_append, List.cons_append, List.length_cons, List.length_nil, true_and, and_true, true_implies, tn_l, tn_0, Int.reduceToNat, Int.reduceLE, Int.reduceLT, Int.reduceEq, Int.reduceAdd, Int.reduceSub, Int.reduceMul, Int.reduceNeg, Nat.reduceAdd, Nat.reduceLeDiff, Nat.reduceEqDiff, Nat.reduceSub, Option.some.injEq, Sum.inl.injEq, Sum.inr.injEq, or_true, true_or, reduceCtorEq, ne_eq, not_false_eq_true, not_true_eq_false, false_implies, implies_true, false_and, and_false, false_or, or_false, if_true, if_false, fq_4 hb, fq_5 hb, fq_6 hb, fq_7 hb, fq_t hb, fq_v hb, fq_b1 hb, fq_b2 hb, fq_b3 hb, fq_b4 hb]
  intro a' ha'
  cases ha'
  refine ⟨(tgK (A (3 + p))).1, (tgK (A (3 + p))).2, o2.1, tgK_mem _, ?_⟩
  rw [cn_bar o2.2.1, ux_49_28]
  simp only [ux_49_0, ux_49_1, ux_49_4, ux_49_5, ux_49_6, ux_49_7, ux_49_10, ux_49_14, ux_49_15, ux_49_16, ux_49_20, ux_49_21, ux_49_25, ux_49_32, ux_49_33, ux_49_40, ux_49_41, pm_i_c, pm_l_c, pm_q_c, pm_r_c, pm_li_0, pm_li_s, pm_ll_0, pm_ll_s, pm_lq_0, pm_lq_s, pm_s1, pm_s2, pm_kl, pm_wI, pm_wR, pm_pu_n, pm_pu_s, pm_wt, List.take_succ_cons, List.take_zero, List.take_nil, List.drop_succ_cons, List.drop_zero, List.reverse_cons, List.reverse_nil, List.nil_append, List.cons_append, List.length_cons, List.length_nil, true_and, and_true, true_implies, tn_l, tn_0, Int.reduceToNat, Int.reduceLE, Int.reduceLT, Int.reduceEq, Int.reduceAdd, Int.reduceSub, Int.reduceMul, Int.reduceNeg, Nat.reduceAdd, Nat.reduceLeDiff, Nat.reduceEqDiff, Nat.reduceSub, Option.some.injEq, Sum.inl.injEq, Sum.inr.injEq, or_true, true_or, reduceCtorEq, ne_eq, not_false_eq_true, not_true_eq_false, false_implies, implies_true, false_and, and_false, false_or, or_false, if_true, if_false, fq_4 hb, fq_5 hb, fq_6 hb, fq_7 hb, fq_t hb, fq_v hb, fq_b1 hb, fq_b2 hb, fq_b3 hb, fq_b4 hb]
  unfold mmP
  by_cases c4 : A (3 + p) = 4
  · rw [if_pos c4, if_pos c4]
    refine ⟨fun z => absurd z (by decide), fun _ => ?_⟩
    rw [ux_49_31]
    simp only [ux_49_0, ux_49_1, ux_49_4, ux_49_5, ux_49_6, ux_49_7, ux_49_10, ux_49_14, ux_49_15, ux_49_16, ux_49_20, ux_49_21, ux_49_25, ux_49_32, ux_49_33, ux_49_40, ux_49_41, pm_i_c, pm_l_c, pm_q_c, pm_r_c, pm_li_0, pm_li_s, pm_ll_0, pm_ll_s, pm_lq_0, pm_lq_s, pm_s1, pm_s2, pm_kl, pm_wI, pm_wR, pm_pu_n, pm_pu_s, pm_wt, List.take_succ_cons, List.take_zero, List.take_nil, List.drop_succ_cons, List.drop_zero, List.reverse_cons, List.reverse_nil, List.nil_append, List.cons_append, List.length_cons, List.length_nil, true_and, and_true, true_implies, tn_l, tn_0, Int.reduceToNat, Int.reduceLE, Int.reduceLT, Int.reduceEq, Int.reduceAdd, Int.reduceSub, Int.reduceMul, Int.reduceNeg, Nat.reduceAdd, Nat.reduceLeDiff, Nat.reduceEqDiff, Nat.reduceSub, Option.some.injEq, Sum.inl.injEq, Sum.inr.injEq, or_true, true_or, reduceCtorEq, ne_eq, not_false_eq_true, not_true_eq_false, false_implies, implies_true, false_and, and_false, false_or, or_false, if_true, if_false, fq_4 hb, fq_5 hb, fq_6 hb, fq_7 hb, fq_t hb, fq_v hb, fq_b1 hb, fq_b2 hb, fq_b3 hb, fq_b4 hb]
    refine v_beg (by omega) wp.2.2.2.2.2.2.2.2.1 o2 ?_
    rw [pm_pu_s, ux_49_36]
    simp only [ux_49_0, ux_49_1, ux_49_4, ux_49_5, ux_49_6, ux_49_7, ux_49_10, ux_49_14, ux_49_15, ux_49_16, ux_49_20, ux_49_21, ux_49_25, ux_49_32, ux_49_33, ux_49_40, ux_49_41, pm_i_c, pm_l_c, pm_q_c, pm_r_c, pm_li_0, pm_li_s, pm_ll_0, pm_ll_s, pm_lq_0, pm_lq_s, pm_s1, pm_s2, pm_kl, pm_wI, pm_wR, pm_pu_n, pm_pu_s, pm_wt, List.take_succ_cons, List.take_zero, List.take_nil, List.drop_succ_cons, List.drop_zero, List.reverse_cons, List.reverse_nil, List.nil_append, List.cons_append, List.length_cons, List.length_nil, true_and, and_true, true_implies, tn_l, tn_0, Int.reduceToNat, Int.reduceLE, Int.reduceLT, Int.reduceEq, Int.reduceAdd, Int.reduceSub, Int.reduceMul, Int.reduceNeg, Nat.reduceAdd, Nat.reduceLeDiff, Nat.reduceEqDiff, Nat.reduceSub, Option.some.injEq, Sum.inl.injEq, Sum.inr.injEq, or_true, true_or, reduceCtorEq, ne_eq, not_false_eq_true, not_true_eq_false, false_implies, implies_true, false_and, and_false, false_or, or_false, if_true, if_false, fq_4 hb, fq_5 hb, fq_6 hb, fq_7 hb, fq_t hb, fq_v hb, fq_b1 hb, fq_b2 hb, fq_b3 hb, fq_b4 hb]
    refine pm_ok_mono (c_addMoment (d := d) (by omega) hb (A (63 + p)) (by omega) hI2) ?_
    rintro r h2 ⟨W3, rfl, rfl, hI3⟩
    have o3 := keep W3 _ hI3
    rw [pm_pu_n, ux_49_39]
    simp only [ux_49_0, ux_49_1, ux_49_4, ux_49_5, ux_49_6, ux_49_7, ux_49_10, ux_49_14, ux_49_15, ux_49_16, ux_49_20, ux_49_21, ux_49_25, ux_49_32, ux_49_33, ux_49_40, ux_49_41, pm_i_c, pm_l_c, pm_q_c, pm_r_c, pm_li_0, pm_li_s, pm_ll_0, pm_ll_s, pm_lq_0, pm_lq_s, pm_s1, pm_s2, pm_kl, pm_wI, pm_wR, pm_pu_n, pm_pu_s, pm_wt, List.take_succ_cons, List.take_zero, List.take_nil, List.drop_succ_cons, List.drop_zero, List.reverse_cons, List.reverse_nil, List.nil_append, List.cons_append, List.length_cons, List.length_nil, true_and, and_true, true_implies, tn_l, tn_0, Int.reduceToNat, Int.reduceLE, Int.reduceLT, Int.reduceEq, Int.reduceAdd, Int.reduceSub, Int.reduceMul, Int.reduceNeg, Nat.reduceAdd, Nat.reduceLeDiff, Nat.reduceEqDiff, Nat.reduceSub, Option.some.injEq, Sum.inl.injEq, Sum.inr.injEq, or_true, true_or, reduceCtorEq, ne_eq, not_false_eq_true, not_true_eq_false, false_implies, implies_true, false_and, and_false, false_or, or_false, if_true, if_false, fq_4 hb, fq_5 hb, fq_6 hb, fq_7 hb, fq_t hb, fq_v hb, fq_b1 hb, fq_b2 hb, fq_b3 hb, fq_b4 hb]
    refine v_stp (by omega) wp.2.2.2.2.2.2.2.2.1 o3 ?_
    rw [pm_pu_s, ux_49_44]
    simp only [ux_49_0, ux_49_1, ux_49_4, ux_49_5, ux_49_6, ux_49_7, ux_49_10, ux_49_14, ux_49_15, ux_49_16, ux_49_20, ux_49_21, ux_49_25, ux_49_32, ux_49_33, ux_49_40, ux_49_41, pm_i_c, pm_l_c, pm_q_c, pm_r_c, pm_li_0, pm_li_s, pm_ll_0, pm_ll_s, pm_lq_0, pm_lq_s, pm_s1, pm_s2, pm_kl, pm_wI, pm_wR, pm_pu_n, pm_pu_s, pm_wt, List.take_succ_cons, List.take_zero, List.take_nil, List.drop_succ_cons, List.drop_zero, List.reverse_cons, List.reverse_nil, List.nil_append, List.cons_append, List.length_cons, List.length_nil, true_and, and_true, true_implies, tn_l, tn_0, Int.reduceToNat, Int.reduceLE, Int.reduceLT, Int.reduceEq, Int.reduceAdd, Int.reduceSub, Int.reduceMul, Int.reduceNeg, Nat.reduceAdd, Nat.reduceLeDiff, Nat.reduceEqDiff, Nat.reduceSub, Option.some.injEq, Sum.inl.injEq, Sum.inr.injEq, or_true, true_or, reduceCtorEq, ne_eq, not_false_eq_true, not_true_eq_false, false_implies, implies_true, false_and, and_false, false_or, or_false, if_true, if_false, fq_4 hb, fq_5 hb, fq_6 hb, fq_7 hb, fq_t hb, fq_v hb, fq_b1 hb, fq_b2 hb, fq_b3 hb, fq_b4 hb]
    refine pm_ok_mono (c_addMoment (d := d) (by omega) hb (A (75 + p)) (by omega) hI3) ?_
    rintro r h2 ⟨W4, rfl, rfl, hI4⟩
    rw [pm_pu_n, ux_49_47]
    exact ⟨rfl, W4, rfl, rfl, hI4⟩
  · rw [if_neg c4, if_neg c4]
    refine ⟨fun _ => ?_, fun z => absurd rfl z⟩
    rw [ux_49_47]
    exact ⟨rfl, W2, rfl, rfl, hI2⟩
end
