/-! THE CLASS: what is known, and kept -/
def cFr (V : Nat → Nat → Int) (A : Nat → Int) (n : Nat) : Prop := V 0 4 = 0 ∨ (V 0 4 = 1 ∧ frO V 45 A n (A 0) 0)
def lyN (V : Nat → Nat → Int) (b : Nat) (A : Nat → Int) (n : Nat) (lo dl tm rm : Int) : Prop := lyI V b n (nS A n dl) (nL A tm) (nC A n lo dl rm) (nR A n lo dl rm)
def cLa (V : Nat → Nat → Int) (A : Nat → Int) (n : Nat) : Prop := (V 0 5 = 0 ∧ V 0 6 = 0) ∨ (V 0 5 = 1 ∧ V 0 4 = 1 ∧ lyN V 50 A n (A 0) 0 1 1 ∧ (∃ x P Q, net A n (A 0) 0 1 1 x P Q ∧ tot n (nS A n 0) x = tot n (nS A n 0) (xL V 50)) ∧ ((V 0 6 = 0 ∧ net A n (A 0) 0 1 1 (xL V 50) (fun p => decide (V 79 p ≠ -2)) (fun s => decide (V 80 s ≠ -2))) ∨ (V 0 6 = 1 ∧ clo A n (xL V 50))))
def cSp (V : Nat → Nat → Int) (A : Nat → Int) (n : Nat) : Prop := V 0 10 = 0 ∨ ∃ P, spP A n P ∧ V 0 9 = (spA A n P : Int) ∧ V 0 10 = (spB A n P : Int)
def cLv (V : Nat → Nat → Int) (A : Nat → Int) (n : Nat) : Prop := V 119 0 = 0 ∨ (V 119 0 = 1 ∧ ∀ p, p < n → V 123 p = lvV A n p 0 ∧ V 124 p = lvV A n p 1)
def cDy (V : Nat → Nat → Int) (A : Nat → Int) (n : Nat) : Prop := V 125 0 = 0 ∨ ∃ D : Nat, 1 ≤ D ∧ D ≤ 4 ∧ V 125 0 = (D : Int) ∧ dyS n D (A 0) (fun p => A (15 + p)) (V 125 9) (V 130)
def caI (V : Nat → Nat → Int) (A : Nat → Int) (n : Nat) : Prop := cFr V A n ∧ cLa V A n ∧ cSp V A n ∧ cLv V A n ∧ cDy V A n
theorem flg_ca {V : Nat → Nat → Int} {A : Nat → Int} {n : Nat} (h : flg V) : caI V A n := ⟨Or.inl h.1, Or.inl ⟨h.2.1, h.2.2.1⟩, Or.inl h.2.2.2.1, Or.inl h.2.2.2.2.1, Or.inl h.2.2.2.2.2⟩
def qfr (V V2 : Nat → Nat → Int) : Prop := ∀ q, (1 ≤ q ∧ q ≤ 44) ∨ 131 ≤ q → V2 q = V q
theorem qfr_tr {V1 V2 V3 : Nat → Nat → Int} (h1 : qfr V1 V2) (h2 : qfr V2 V3) : qfr V1 V3 := fun q hq => (h2 q hq).trans (h1 q hq)
theorem qfr_rf {V : Nat → Nat → Int} : qfr V V := fun _ _ => rfl
theorem ca_keep {V V2 : Nat → Nat → Int} {A : Nat → Int} {n : Nat} (h0 : V2 0 = V 0) (h : ∀ q, (45 ≤ q ∧ q ≤ 81) ∨ (119 ≤ q ∧ q ≤ 130) → V2 q = V q) (hc : caI V A n) : caI V2 A n := by
  obtain ⟨h1, h2, h3, h4, h5⟩ := hc
  have x1 : xL V2 50 = xL V 50 := xL_fr fun p hp => h _ (by omega)
  have m1 : mL V2 50 = mL V 50 := mL_fr fun p hp => h _ (by omega)
  refine ⟨?_, ?_, ?_, ?_, ?_⟩
  · unfold cFr frO
    rw [h0, h 45 (by omega), h (45 + 1) (by omega), h (45 + 2) (by omega), h (45 + 3) (by omega), h (45 + 4) (by omega)]
    exact h1
  · unfold cLa lyN lyI
    rw [h0, x1, m1, h 50 (by omega), h (50 + 1) (by omega), h (50 + 2) (by omega), h 79 (by omega), h 80 (by omega)]
    exact h2
  · unfold cSp
    rw [h0]
    exact h3
  · unfold cLv
    rw [h 119 (by omega), h 123 (by omega), h 124 (by omega)]
    exact h4
  · unfold cDy
    rw [h 125 (by omega), h 130 (by omega)]
    exact h5
theorem ntB_1 {A : Nat → Int} {n : Nat} {lo dl : Int} (hw : wf A n) (h0 : 0 ≤ dl) (h1 : dl ≤ 200) (hl : 1 ≤ lo ∧ lo ≤ 12) : ntB n (nS A n dl) (nL A 1) (nC A n lo dl 1) (nR A n lo dl 1) ∧ sm (nL A 1) n < 1000000 := by
  have hmo : mo (nmo A n dl) (mmL A dl n) := mo_of hw h0 h1 (fun j hj => rfl)
  have hl1 : ∀ p, p < n → 0 ≤ nL A 1 p ∧ nL A 1 p ≤ 60 := fun p hp => by
    have := (hw.2.2.2.2 p hp).2.1
    unfold nL
    omega
  refine ⟨⟨hw.1, (nS_bd hw).1, fun p hp => by have := hl1 p hp; omega, fun p hp s hs => ?_, fun s hs => ?_⟩, ?_⟩
  · have := tkA_bd (lo := lo) (dl := dl) hw hmo hp (show s + 1 < (mmL A dl n).length by unfold nS nst at hs; omega) hl.1 hl.2
    unfold nC
    omega
  · have := rmA_bd (lo := lo) hmo (show s + 1 < (mmL A dl n).length by unfold nS nst at hs; omega) hl.1 hl.2
    unfold nR
    omega
  · have := sm_bd (n := n) (f := nL A 1) (B := 60) hl1
    have := hw.1
    omega
section
variable {d : Nat} {h : pm_H} {V V2 W : Nat → Nat → Int} {R : Nat → Nat → Option Nat} {T : List (Nat × Nat)} {n : Nat} {A : Nat → Int}
theorem sh_q (h : qfr V V2) (hs : shO V R T 1 A n) : shO V2 R T 1 A n := shO_keep (h 1 (by omega)) rfl (fun q hq _ => h q (by omega)) (fun _ _ z => z) hs
def kfQ (V : Nat → Nat → Int) (R : Nat → Nat → Option Nat) (T : List (Nat × Nat)) (A : Nat → Int) (n : Nat) (r : Option pm_V) (h2 : pm_H) : Prop := ∃ V2, h2 = (V2, R, T) ∧ r = some (.inr (.inr (some 45))) ∧ (∀ q, q ≠ 0 → q < 45 ∨ 49 < q → V2 q = V q) ∧ (∀ j, j ≠ 4 → V2 0 j = V 0 j) ∧ V2 0 4 = 1 ∧ frO V2 45 A n (A 0) 0 ∧ caI V2 A n
theorem c_knownFrame (hd : 4 ≤ d) (hf : fx R T) (hs : shO V R T 1 A n) (hw : wf A n) (hc : caI V A n) : pm_ok d 47 [.inr (.inr (some 0))] (V, R, T) (kfQ V R T A n) := by
  obtain ⟨d, rfl⟩ : ∃ k, d = k + 1 := ⟨d - 1, by omega⟩
  refine pm_ok_iff.mpr ⟨(Nat.le_of_ble_eq_true rfl), ?_⟩
  show pm_w d 47 0 [some (.inr (.inr (some 0)))] [] (V, R, T) _
  have h10 := hs.1
  simp only [ux_47_0, ux_47_1, ux_47_4, ux_47_7, ux_47_8, ux_47_11, ux_47_12, ux_47_15, ux_47_16, ux_47_19, ux_47_22, ux_47_23, ux_47_27, ux_47_28, ux_47_31, ux_47_32, ux_47_35, pm_i_c, pm_l_c, pm_q_c, pm_r_c, pm_li_0, pm_li_s, pm_ll_0, pm_ll_s, pm_lq_0, pm_lq_s, pm_s1, pm_s2, pm_kl, pm_wI, pm_wR, pm_pu_n, pm_pu_s, pm_wt, List.take_succ_cons, List.take_zero, List.take_nil, List.drop_succ_cons, List.drop_zero, List.reverse_cons, List.reverse_nil, List.nil_append, List.cons_append, List.length_cons, List.length_nil, true_and, and_true, true_implies, tn_l, tn_0, Int.reduceToNat, Int.reduceLE, Int.reduceLT, Int.reduceEq, Int.reduceAdd, Int.reduceSub, Int.reduceMul, Int.reduceNeg, Nat.reduceAdd, Nat.reduceLeDiff, Nat.reduceEqDiff, Nat.reduceSub, Option.some.injEq, Sum.inl.injEq, Sum.inr.injEq, or_true, true_or, reduceCtorEq, ne_eq, not_false_eq_true, not_true_eq_false, false_implies, implies_true, false_and, and_false, false_or, or_false, if_true, if_false, fr_0_0 hf, fr_0_1 hf, fr_0_2 hf, fr_0_3 hf, fr_0_7 hf, fr_0_8 hf, fr_0_11 hf, fr_0_12 hf, fg_0 hf, fv_0 hf, fr_1_3 hf, fg_1 hf, fv_1 hf, fv_45 hf, h10]
  refine ⟨fun c => ?_, fun c => ?_⟩
  · rcases hc.1 with z | ⟨z1, z2⟩
    · exact absurd z c
    · exact ⟨V, rfl, rfl, fun _ _ _ => rfl, fun _ _ => rfl, z1, z2, hc⟩
  · have c0 := Classical.not_not.mp c
    refine pm_ok_mono (c_build (d := d) (lo := A 0) (dl := 0) (by omega) hf (fx_45 hf) (by decide) (by decide) hs hw (by decide) (by decide)) ?_
    rintro r h2 ⟨V2, rfl, rfl, b1, b2⟩
    rw [pm_pu_n, ux_47_26]
    simp only [ux_47_0, ux_47_1, ux_47_4, ux_47_7, ux_47_8, ux_47_11, ux_47_12, ux_47_15, ux_47_16, ux_47_19, ux_47_22, ux_47_23, ux_47_27, ux_47_28, ux_47_31, ux_47_32, ux_47_35, pm_i_c, pm_l_c, pm_q_c, pm_r_c, pm_li_0, pm_li_s, pm_ll_0, pm_ll_s, pm_lq_0, pm_lq_s, pm_s1, pm_s2, pm_kl, pm_wI, pm_wR, pm_pu_n, pm_pu_s, pm_wt, List.take_succ_cons, List.take_zero, List.take_nil, List.drop_succ_cons, List.drop_zero, List.reverse_cons, List.reverse_nil, List.nil_append, List.cons_append, List.length_cons, List.length_nil, true_and, and_true, true_implies, tn_l, tn_0, Int.reduceToNat, Int.reduceLE, Int.reduceLT, Int.reduceEq, Int.reduceAdd, Int.reduceSub, Int.reduceMul, Int.reduceNeg, Nat.reduceAdd, Nat.reduceLeDiff, Nat.reduceEqDiff, Nat.reduceSub, Option.some.injEq, Sum.inl.injEq, Sum.inr.injEq, or_true, true_or, reduceCtorEq, ne_eq, not_false_eq_true, not_true_eq_false, false_implies, implies_true, false_and, and_false, false_or, or_false, if_true, if_false, fr_0_0 hf, fr_0_1 hf, fr_0_2 hf, fr_0_3 hf, fr_0_7 hf, fr_0_8 hf, fr_0_11 hf, fr_0_12 hf, fg_0 hf, fv_0 hf, fr_1_3 hf, fg_1 hf, fv_1 hf]
    have e : ∀ q, q ≠ 0 → pm_up V2 0 4 1 q = V2 q := fun q hq => pm_up_fr hq
    have e0 : ∀ j, j ≠ 4 → pm_up V2 0 4 1 0 j = V 0 j := fun j hj => by rw [pm_up_ne (fun w => hj w.2), b1 0 (by decide)]
    have hO : frO (pm_up V2 0 4 1) 45 A n (A 0) 0 := frO_keep (fun q h1 _ => e q (by omega)) b2
    obtain ⟨i1, i2, i3, i4, i5⟩ := hc
    refine ⟨_, rfl, rfl, fun q h1 h2 => by rw [e q h1]; exact b1 q (by omega), e0, pm_up_eq, hO, Or.inr ⟨pm_up_eq, hO⟩, ?_, ?_, ?_, ?_⟩
    · rcases i2 with ⟨z1, z2⟩ | ⟨z1, z2, -⟩
      · exact Or.inl ⟨by rw [e0 5 (by decide)]; exact z1, by rw [e0 6 (by decide)]; exact z2⟩
      · omega
    · unfold cSp
      rw [e0 9 (by decide), e0 10 (by decide)]
      exact i3
    · unfold cLv
      rw [e 119 (by decide), e 123 (by decide), e 124 (by decide), b1 119 (by decide), b1 123 (by decide), b1 124 (by decide)]
      exact i4
    · unfold cDy
      rw [e 125 (by decide), e 130 (by decide), b1 125 (by decide), b1 130 (by decide)]
      exact i5
/-- an answer, and the shed as it was -/
def anQ (V : Nat → Nat → Int) (R : Nat → Nat → Option Nat) (T : List (Nat × Nat)) (A : Nat → Int) (n : Nat) (P : Int → Prop) (r : Option pm_V) (h2 : pm_H) : Prop := ∃ V2 v, h2 = (V2, R, T) ∧ r = some (.inl v) ∧ qfr V V2 ∧ caI V2 A n ∧ P v
theorem c_count (hd : 5 ≤ d) (hf : fx R T) (hs : shO V R T 1 A n) (hw : wf A n) (hc : caI V A n) {k : Nat} (hk : V 3 2 = k) (w : Int) : pm_ok d 46 [.inr (.inr (some 0)), .inl w] (V, R, T) (anQ V R T A n (fun v => v = cnA A n k w)) := by
  obtain ⟨d, rfl⟩ : ∃ k, d = k + 1 := ⟨d - 1, by omega⟩
  refine pm_ok_iff.mpr ⟨(Nat.le_of_ble_eq_true rfl), ?_⟩
  show pm_w d 46 0 [some (.inr (.inr (some 0))), some (.inl w)] [] (V, R, T) _
  have fin : ∀ v, v = cnA A n k w → anQ V R T A n (fun v => v = cnA A n k w) (some (.inl v)) (V, R, T) := fun v hv => ⟨V, v, rfl, rfl, qfr_rf, hc, hv⟩
  simp only [ux_46_0, ux_46_1, ux_46_41, ux_46_44, ux_46_47, ux_46_49, ux_46_52, ux_46_55, ux_46_57, ux_46_60, ux_46_63, ux_46_65, ux_46_68, ux_46_71, ux_46_73, ux_46_76, ux_46_79, ux_46_81, ux_46_84, ux_46_87, ux_46_89, pm_i_c, pm_l_c, pm_q_c, pm_r_c, pm_li_0, pm_li_s, pm_ll_0, pm_ll_s, pm_lq_0, pm_lq_s, pm_s1, pm_s2, pm_kl, pm_wI, pm_wR, pm_pu_n, pm_pu_s, pm_wt, List.take_succ_cons, List.take_zero, List.take_nil, List.drop_succ_cons, List.drop_zero, List.reverse_cons, List.reverse_nil, List.nil_append, List.cons_append, List.length_cons, List.length_nil, true_and, and_true, true_implies, tn_l, tn_0, Int.reduceToNat, Int.reduceLE, Int.reduceLT, Int.reduceEq, Int.reduceAdd, Int.reduceSub, Int.reduceMul, Int.reduceNeg, Nat.reduceAdd, Nat.reduceLeDiff, Nat.reduceEqDiff, Nat.reduceSub, Option.some.injEq, Sum.inl.injEq, Sum.inr.injEq, or_true, true_or, reduceCtorEq, ne_eq, not_false_eq_true, not_true_eq_false, false_implies, implies_true, false_and, and_false, false_or, or_false, if_true, if_false]
  by_cases hcc : w < 0 ∨ 5 < w
  · rw [if_pos hcc]
    show pm_w d 46 88 _ _ _ _
    rw [ux_46_88]
    simp only [ux_46_0, ux_46_1, ux_46_41, ux_46_44, ux_46_47, ux_46_49, ux_46_52, ux_46_55, ux_46_57, ux_46_60, ux_46_63, ux_46_65, ux_46_68, ux_46_71, ux_46_73, ux_46_76, ux_46_79, ux_46_81, ux_46_84, ux_46_87, ux_46_89, pm_i_c, pm_l_c, pm_q_c, pm_r_c, pm_li_0, pm_li_s, pm_ll_0, pm_ll_s, pm_lq_0, pm_lq_s, pm_s1, pm_s2, pm_kl, pm_wI, pm_wR, pm_pu_n, pm_pu_s, pm_wt, List.take_succ_cons, List.take_zero, List.take_nil, List.drop_succ_cons, List.drop_zero, List.reverse_cons, List.reverse_nil, List.nil_append, List.cons_append, List.length_cons, List.length_nil, true_and, and_true, true_implies, tn_l, tn_0, Int.reduceToNat, Int.reduceLE, Int.reduceLT, Int.reduceEq, Int.reduceAdd, Int.reduceSub, Int.reduceMul, Int.reduceNeg, Nat.reduceAdd, Nat.reduceLeDiff, Nat.reduceEqDiff, Nat.reduceSub, Option.some.injEq, Sum.inl.injEq, Sum.inr.injEq, or_true, true_or, reduceCtorEq, ne_eq, not_false_eq_true, not_true_eq_false, false_implies, implies_true, false_and, and_false, false_or, or_false, if_true, if_false]
    refine fin _ ?_
    unfold cnA
    rw [if_neg (by omega), if_neg (by omega), if_neg (by omega), if_neg (by omega), if_neg (by omega), if_neg (by omega)]
  · rw [if_neg hcc]
    have h7 : w = 0 ∨ w = 1 ∨ w = 2 ∨ w = 3 ∨ w = 4 ∨ w = 5 := by omega
    rcases h7 with rfl | rfl | rfl | rfl | rfl | rfl
    · show pm_w d 46 40 _ _ _ _
      rw [ux_46_40]
      simp only [ux_46_0, ux_46_1, ux_46_41, ux_46_44, ux_46_47, ux_46_49, ux_46_52, ux_46_55, ux_46_57, ux_46_60, ux_46_63, ux_46_65, ux_46_68, ux_46_71, ux_46_73, ux_46_76, ux_46_79, ux_46_81, ux_46_84, ux_46_87, ux_46_89, pm_i_c, pm_l_c, pm_q_c, pm_r_c, pm_li_0, pm_li_s, pm_ll_0, pm_ll_s, pm_lq_0, pm_lq_s, pm_s1, pm_s2, pm_kl, pm_wI, pm_wR, pm_pu_n, pm_pu_s, pm_wt, List.take_succ_cons, List.take_zero, List.take_nil, List.drop_succ_cons, List.drop_zero, List.reverse_cons, List.reverse_nil, List.nil_append, List.cons_append, List.length_cons, List.length_nil, true_and, and_true, true_implies, tn_l, tn_0, Int.reduceToNat, Int.reduceLE, Int.reduceLT, Int.reduceEq, Int.reduceAdd, Int.reduceSub, Int.reduceMul, Int.reduceNeg, Nat.reduceAdd, Nat.reduceLeDiff, Nat.reduceEqDiff, Nat.reduceSub, Option.some.injEq, Sum.inl.injEq, Sum.inr.injEq, or_true, true_or, reduceCtorEq, ne_eq, not_false_eq_true, not_true_eq_false, false_implies, implies_true, false_and, and_false, false_or, or_false, if_true, if_false, fr_0_0 hf, fr_0_1 hf, fr_0_2 hf, fr_0_3 hf, fr_0_7 hf, fr_0_8 hf, fr_0_11 hf, fr_0_12 hf, fg_0 hf, fv_0 hf, fr_1_3 hf, fg_1 hf, fv_1 hf, hs.1]
      exact fin _ rfl
    · show pm_w d 46 48 _ _ _ _
      rw [ux_46_48]
      simp only [ux_46_0, ux_46_1, ux_46_41, ux_46_44, ux_46_47, ux_46_49, ux_46_52, ux_46_55, ux_46_57, ux_46_60, ux_46_63, ux_46_65, ux_46_68, ux_46_71, ux_46_73, ux_46_76, ux_46_79, ux_46_81, ux_46_84, ux_46_87, ux_46_89, pm_i_c, pm_l_c, pm_q_c, pm_r_c, pm_li_0, pm_li_s, pm_ll_0, pm_ll_s, pm_lq_0, pm_lq_s, pm_s1, pm_s2, pm_kl, pm_wI, pm_wR, pm_pu_n, pm_pu_s, pm_wt, List.take_succ_cons, List.take_zero, List.take_nil, List.drop_succ_cons, List.drop_zero, List.reverse_cons, List.reverse_nil, List.nil_append, List.cons_append, List.length_cons, List.length_nil, true_and, and_true, true_implies, tn_l, tn_0, Int.reduceToNat, Int.reduceLE, Int.reduceLT, Int.reduceEq, Int.reduceAdd, Int.reduceSub, Int.reduceMul, Int.reduceNeg, Nat.reduceAdd, Nat.reduceLeDiff, Nat.reduceEqDiff, Nat.reduceSub, Option.some.injEq, Sum.inl.injEq, Sum.inr.injEq, or_true, true_or, reduceCtorEq, ne_eq, not_false_eq_true, not_true_eq_false, false_implies, implies_true, false_and, and_false, false_or, or_false, if_true, if_false, fr_0_0 hf, fr_0_1 hf, fr_0_2 hf, fr_0_3 hf, fr_0_7 hf, fr_0_8 hf, fr_0_11 hf, fr_0_12 hf, fg_0 hf, fv_0 hf, fr_1_3 hf, fg_1 hf, fv_1 hf, hs.2.2.1]
      exact fin _ rfl
    · show pm_w d 46 56 _ _ _ _
      rw [ux_46_56]
      simp only [ux_46_0, ux_46_1, ux_46_41, ux_46_44, ux_46_47, ux_46_49, ux_46_52, ux_46_55, ux_46_57, ux_46_63, ux_46_65, ux_46_68, ux_46_71, ux_46_73, ux_46_76, ux_46_79, ux_46_81, ux_46_84, ux_46_87, ux_46_89, pm_i_c, pm_l_c, pm_q_c, pm_r_c, pm_li_0, pm_li_s, pm_ll_0, pm_ll_s, pm_lq_0, pm_lq_s, pm_s1, pm_s2, pm_kl, pm_wI, pm_wR, pm_pu_n, pm_pu_s, pm_wt, List.take_succ_cons, List.take_zero, List.take_nil, List.drop_succ_cons, List.drop_zero, List.reverse_cons, List.reverse_nil, List.nil_append, List.cons_append, List.length_cons, List.length_nil, true_and, and_true, true_implies, tn_l, tn_0, Int.reduceToNat, Int.reduceLE, Int.reduceLT, Int.reduceEq, Int.reduceAdd, Int.reduceSub, Int.reduceMul, Int.reduceNeg, Nat.reduceAdd, Nat.reduceLeDiff, Nat.reduceEqDiff, Nat.reduceSub, Option.some.injEq, Sum.inl.injEq, Sum.inr.injEq, or_true, true_or, reduceCtorEq, ne_eq, not_false_eq_true, not_true_eq_false, false_implies, implies_true, false_and, and_false, false_or, or_false, if_true, if_false, fr_0_0 hf, fr_0_1 hf, fr_0_2 hf, fr_0_3 hf, fr_0_7 hf, fr_0_8 hf, fr_0_11 hf, fr_0_12 hf, fg_0 hf, fv_0 hf, fr_1_3 hf, fg_1 hf, fv_1 hf]
      refine pm_ok_mono (c_knownFrame (d := d) (by omega) hf hs hw hc) ?_
      rintro r h2 ⟨V2, rfl, rfl, b1, b2, b3, b4, b5⟩
      rw [pm_pu_s, ux_46_60]
      simp only [ux_46_0, ux_46_1, ux_46_41, ux_46_44, ux_46_47, ux_46_49, ux_46_52, ux_46_55, ux_46_57, ux_46_63, ux_46_65, ux_46_68, ux_46_71, ux_46_73, ux_46_76, ux_46_79, ux_46_81, ux_46_84, ux_46_87, ux_46_89, pm_i_c, pm_l_c, pm_q_c, pm_r_c, pm_li_0, pm_li_s, pm_ll_0, pm_ll_s, pm_lq_0, pm_lq_s, pm_s1, pm_s2, pm_kl, pm_wI, pm_wR, pm_pu_n, pm_pu_s, pm_wt, List.take_succ_cons, List.take_zero, List.take_nil, List.drop_succ_cons, List.drop_zero, List.reverse_cons, List.reverse_nil, List.nil_append, List.cons_append, List.length_cons, List.length_nil, true_and, and_true, true_implies, tn_l, tn_0, Int.reduceToNat, Int.reduceLE, Int.reduceLT, Int.reduceEq, Int.reduceAdd, Int.reduceSub, Int.reduceMul, Int.reduceNeg, Nat.reduceAdd, Nat.reduceLeDiff, Nat.reduceEqDiff, Nat.reduceSub, Option.some.injEq, Sum.inl.injEq, Sum.inr.injEq, or_true, true_or, reduceCtorEq, ne_eq, not_false_eq_true, not_true_eq_false, false_implies, implies_true, false_and, and_false, false_or, or_false, if_true, if_false, fr_45_4 hf, fr_45_5 hf, fr_45_6 hf, fr_45_7 hf, fg_45 hf, fv_45 hf, b4.2.2.2.1]
      exact ⟨V2, _, rfl, rfl, fun q hq => b1 q (by omega) (by omega), b5, rfl⟩
    · show pm_w d 46 64 _ _ _ _
      rw [ux_46_64]
      simp only [ux_46_0, ux_46_1, ux_46_41, ux_46_44, ux_46_47, ux_46_49, ux_46_52, ux_46_55, ux_46_57, ux_46_60, ux_46_63, ux_46_65, ux_46_68, ux_46_71, ux_46_73, ux_46_76, ux_46_79, ux_46_81, ux_46_84, ux_46_87, ux_46_89, pm_i_c, pm_l_c, pm_q_c, pm_r_c, pm_li_0, pm_li_s, pm_ll_0, pm_ll_s, pm_lq_0, pm_lq_s, pm_s1, pm_s2, pm_kl, pm_wI, pm_wR, pm_pu_n, pm_pu_s, pm_wt, List.take_succ_cons, List.take_zero, List.take_nil, List.drop_succ_cons, List.drop_zero, List.reverse_cons, List.reverse_nil, List.nil_append, List.cons_append, List.length_cons, List.length_nil, true_and, and_true, true_implies, tn_l, tn_0, Int.reduceToNat, Int.reduceLE, Int.reduceLT, Int.reduceEq, Int.reduceAdd, Int.reduceSub, Int.reduceMul, Int.reduceNeg, Nat.reduceAdd, Nat.reduceLeDiff, Nat.reduceEqDiff, Nat.reduceSub, Option.some.injEq, Sum.inl.injEq, Sum.inr.injEq, or_true, true_or, reduceCtorEq, ne_eq, not_false_eq_true, not_true_eq_false, false_implies, implies_true, false_and, and_false, false_or, or_false, if_true, if_false, fr_0_0 hf, fr_0_1 hf, fr_0_2 hf, fr_0_3 hf, fr_0_7 hf, fr_0_8 hf, fr_0_11 hf, fr_0_12 hf, fg_0 hf, fv_0 hf, fr_1_3 hf, fg_1 hf, fv_1 hf, pm_ok_ev (c_allLengths (d := d) (by omega) hf hs hw)]
      exact fin _ rfl
    · show pm_w d 46 72 _ _ _ _
      rw [ux_46_72]
      simp only [ux_46_0, ux_46_1, ux_46_41, ux_46_44, ux_46_47, ux_46_49, ux_46_52, ux_46_55, ux_46_57, ux_46_60, ux_46_63, ux_46_65, ux_46_68, ux_46_71, ux_46_73, ux_46_76, ux_46_79, ux_46_81, ux_46_84, ux_46_87, ux_46_89, pm_i_c, pm_l_c, pm_q_c, pm_r_c, pm_li_0, pm_li_s, pm_ll_0, pm_ll_s, pm_lq_0, pm_lq_s, pm_s1, pm_s2, pm_kl, pm_wI, pm_wR, pm_pu_n, pm_pu_s, pm_wt, List.take_succ_cons, List.take_zero, List.take_nil, List.drop_succ_cons, List.drop_zero, List.reverse_cons, List.reverse_nil, List.nil_append, List.cons_append, List.length_cons, List.length_nil, true_and, and_true, true_implies, tn_l, tn_0, Int.reduceToNat, Int.reduceLE, Int.reduceLT, Int.reduceEq, Int.reduceAdd, Int.reduceSub, Int.reduceMul, Int.reduceNeg, Nat.reduceAdd, Nat.reduceLeDiff, Nat.reduceEqDiff, Nat.reduceSub, Option.some.injEq, Sum.inl.injEq, Sum.inr.injEq, or_true, true_or, reduceCtorEq, ne_eq, not_false_eq_true, not_true_eq_false, false_implies, implies_true, false_and, and_false, false_or, or_false, if_true, if_false, fr_0_0 hf, fr_0_1 hf, fr_0_2 hf, fr_0_3 hf, fr_0_7 hf, fr_0_8 hf, fr_0_11 hf, fr_0_12 hf, fg_0 hf, fv_0 hf, fr_1_3 hf, fg_1 hf, fv_1 hf, hs.2.1]
      exact fin _ rfl
    · show pm_w d 46 80 _ _ _ _
      rw [ux_46_80]
      simp only [ux_46_0, ux_46_1, ux_46_41, ux_46_44, ux_46_47, ux_46_49, ux_46_52, ux_46_55, ux_46_57, ux_46_60, ux_46_63, ux_46_65, ux_46_68, ux_46_71, ux_46_73, ux_46_76, ux_46_79, ux_46_81, ux_46_84, ux_46_87, ux_46_89, pm_i_c, pm_l_c, pm_q_c, pm_r_c, pm_li_0, pm_li_s, pm_ll_0, pm_ll_s, pm_lq_0, pm_lq_s, pm_s1, pm_s2, pm_kl, pm_wI, pm_wR, pm_pu_n, pm_pu_s, pm_wt, List.take_succ_cons, List.take_zero, List.take_nil, List.drop_succ_cons, List.drop_zero, List.reverse_cons, List.reverse_nil, List.nil_append, List.cons_append, List.length_cons, List.length_nil, true_and, and_true, true_implies, tn_l, tn_0, Int.reduceToNat, Int.reduceLE, Int.reduceLT, Int.reduceEq, Int.reduceAdd, Int.reduceSub, Int.reduceMul, Int.reduceNeg, Nat.reduceAdd, Nat.reduceLeDiff, Nat.reduceEqDiff, Nat.reduceSub, Option.some.injEq, Sum.inl.injEq, Sum.inr.injEq, or_true, true_or, reduceCtorEq, ne_eq, not_false_eq_true, not_true_eq_false, false_implies, implies_true, false_and, and_false, false_or, or_false, if_true, if_false, fr_0_0 hf, fr_0_1 hf, fr_0_2 hf, fr_0_3 hf, fr_0_7 hf, fr_0_8 hf, fr_0_11 hf, fr_0_12 hf, fg_0 hf, fv_0 hf, fr_3_0 hf, fg_3 hf, fv_3 hf, hk]
      exact fin _ rfl
theorem c_moment (hd : 5 ≤ d) (hf : fx R T) (hs : shO V R T 1 A n) (hw : wf A n) (hc : caI V A n) (k : Int) : pm_ok d 56 [.inr (.inr (some 0)), .inl k] (V, R, T) (anQ V R T A n (fun v => v = if 0 < nst (mmL A 0 n) ∧ 0 ≤ k ∧ k < (mmL A 0 n).length then (mmL A 0 n).getD k.toNat 0 else -1)) := by
  obtain ⟨d, rfl⟩ : ∃ k, d = k + 1 := ⟨d - 1, by omega⟩
  refine pm_ok_iff.mpr ⟨(Nat.le_of_ble_eq_true rfl), ?_⟩
  show pm_w d 56 0 [some (.inr (.inr (some 0))), some (.inl k), none] [] (V, R, T) _
  generalize hQ : anQ V R T A n (fun v => v = if 0 < nst (mmL A 0 n) ∧ 0 ≤ k ∧ k < (mmL A 0 n).length then (mmL A 0 n).getD k.toNat 0 else -1) = Q
  simp only [ux_56_0, ux_56_1, ux_56_5, ux_56_6, ux_56_9, ux_56_10, ux_56_11, ux_56_14, ux_56_17, ux_56_18, ux_56_19, ux_56_20, ux_56_23, ux_56_24, ux_56_25, pm_i_c, pm_l_c, pm_q_c, pm_r_c, pm_li_0, pm_li_s, pm_ll_0, pm_ll_s, pm_lq_0, pm_lq_s, pm_s1, pm_s2, pm_kl, pm_wI, pm_wR, pm_pu_n, pm_pu_s, pm_wt, List.take_succ_cons, List.take_zero, List.take_nil, List.drop_succ_cons, List.drop_zero, List.reverse_cons, List.reverse_nil, List.nil_append, List.cons_append, List.length_cons, List.length_nil, true_and, and_true, true_implies, tn_l, tn_0, Int.reduceToNat, Int.reduceLE, Int.reduceLT, Int.reduceEq, Int.reduceAdd, Int.reduceSub, Int.reduceMul, Int.reduceNeg, Nat.reduceAdd, Nat.reduceLeDiff, Nat.reduceEqDiff, Nat.reduceSub, Option.some.injEq, Sum.inl.injEq, Sum.inr.injEq, or_true, true_or, reduceCtorEq, ne_eq, not_false_eq_true, not_true_eq_false, false_implies, implies_true, false_and, and_false, false_or, or_false, if_true, if_false, fr_0_0 hf, fr_0_1 hf, fr_0_2 hf, fr_0_3 hf, fr_0_7 hf, fr_0_8 hf, fr_0_11 hf, fr_0_12 hf, fg_0 hf, fv_0 hf]
  refine pm_ok_mono (c_knownFrame (d := d) (by omega) hf hs hw hc) ?_
  rintro r h2 ⟨V2, rfl, rfl, b1, b2, b3, b4, b5⟩
  have fin : ∀ v, (v = if 0 < nst (mmL A 0 n) ∧ 0 ≤ k ∧ k < (mmL A 0 n).length then (mmL A 0 n).getD k.toNat 0 else -1) → Q (some (.inl v)) (V2, R, T) := fun v hv => by
    rw [← hQ]
    exact ⟨V2, v, rfl, rfl, fun q hq => b1 q (by omega) (by omega), b5, hv⟩
  obtain ⟨S1, S2, S3⟩ := nS_bd (dl := 0) hw
  -- there are never moments without stretches
  have h1m : (mmL A 0 n).length ≠ 0 → 0 < nst (mmL A 0 n) := by
    intro hz
    have hn0 : n ≠ 0 := fun w => hz (by rw [w]; rfl)
    have m1 : A (27 + 0) ∈ mmL A 0 n := mmL_mem.mpr ⟨0, by omega, Or.inl rfl⟩
    have m2 : lsA A 0 0 ∈ mmL A 0 n := mmL_mem.mpr ⟨0, by omega, Or.inr (Or.inl rfl)⟩
    have ho := ((lvZ_ok hw).2 0 (by omega)).1 rfl
    have ho : 0 ≤ A (27 + 0) ∧ A (27 + 0) < lsA A 0 0 ∧ lsA A 0 0 ≤ 60 := ho
    obtain ⟨i, i1, i2⟩ := mem_getD m1
    obtain ⟨j, j1, j2⟩ := mem_getD m2
    have : i ≠ j := fun w => by subst w; omega
    unfold nst
    omega
  rw [pm_pu_s, ux_56_4]
  simp only [ux_56_0, ux_56_1, ux_56_5, ux_56_6, ux_56_9, ux_56_10, ux_56_11, ux_56_14, ux_56_17, ux_56_18, ux_56_19, ux_56_20, ux_56_23, ux_56_24, ux_56_25, pm_i_c, pm_l_c, pm_q_c, pm_r_c, pm_li_0, pm_li_s, pm_ll_0, pm_ll_s, pm_lq_0, pm_lq_s, pm_s1, pm_s2, pm_kl, pm_wI, pm_wR, pm_pu_n, pm_pu_s, pm_wt, List.take_succ_cons, List.take_zero, List.take_nil, List.drop_succ_cons, List.drop_zero, List.reverse_cons, List.reverse_nil, List.nil_append, List.cons_append, List.length_cons, List.length_nil, true_and, and_true, true_implies, tn_l, tn_0, Int.reduceToNat, Int.reduceLE, Int.reduceLT, Int.reduceEq, Int.reduceAdd, Int.reduceSub, Int.reduceMul, Int.reduceNeg, Nat.reduceAdd, Nat.reduceLeDiff, Nat.reduceEqDiff, Nat.reduceSub, Option.some.injEq, Sum.inl.injEq, Sum.inr.injEq, or_true, true_or, reduceCtorEq, ne_eq, not_false_eq_true, not_true_eq_false, false_implies, implies_true, false_and, and_false, false_or, or_false, if_true, if_false, fr_45_4 hf, fr_45_5 hf, fr_45_6 hf, fr_45_7 hf, fg_45 hf, fv_45 hf, fb_46 hf, b4.2.2.1]
  refine ⟨fun z => fin _ (by rw [if_neg (by omega)]), fun z => ⟨fun z2 => ⟨by omega, fin _ ?_⟩, fun z2 => fin _ (by rw [if_neg (by omega)])⟩⟩
  rw [if_pos ⟨h1m (by omega), by omega, by omega⟩]
  exact b4.2.2.2.2.1 k.toNat (by omega)
/-- the laying -/
def klQ (V : Nat → Nat → Int) (R : Nat → Nat → Option Nat) (T : List (Nat × Nat)) (A : Nat → Int) (n : Nat) (r : Option pm_V) (h2 : pm_H) : Prop := ∃ V2, h2 = (V2, R, T) ∧ r = some (.inr (.inr (some 50))) ∧ (∀ q, q ≠ 0 → q < 45 ∨ 81 < q → V2 q = V q) ∧ V2 0 5 = 1 ∧ caI V2 A n
theorem c_knownLaying (hd : 6 ≤ d) (hf : fx R T) (hs : shO V R T 1 A n) (hw : wf A n) (hc : caI V A n) : pm_ok d 58 [.inr (.inr (some 0))] (V, R, T) (klQ V R T A n) := by
  obtain ⟨d, rfl⟩ : ∃ k, d = k + 1 := ⟨d - 1, by omega⟩
  refine pm_ok_iff.mpr ⟨(Nat.le_of_ble_eq_true rfl), ?_⟩
  show pm_w d 58 0 [some (.inr (.inr (some 0)))] [] (V, R, T) _
  have hA0 := hw.2.2.1
  simp only [ux_58_0, ux_58_1, ux_58_4, ux_58_7, ux_58_8, ux_58_11, ux_58_12, ux_58_16, ux_58_17, ux_58_21, ux_58_22, ux_58_25, ux_58_26, ux_58_29, pm_i_c, pm_l_c, pm_q_c, pm_r_c, pm_li_0, pm_li_s, pm_ll_0, pm_ll_s, pm_lq_0, pm_lq_s, pm_s1, pm_s2, pm_kl, pm_wI, pm_wR, pm_pu_n, pm_pu_s, pm_wt, List.take_succ_cons, List.take_zero, List.take_nil, List.drop_succ_cons, List.drop_zero, List.reverse_cons, List.reverse_nil, List.nil_append, List.cons_append, List.length_cons, List.length_nil, true_and, and_true, true_implies, tn_l, tn_0, Int.reduceToNat, Int.reduceLE, Int.reduceLT, Int.reduceEq, Int.reduceAdd, Int.reduceSub, Int.reduceMul, Int.reduceNeg, Nat.reduceAdd, Nat.reduceLeDiff, Nat.reduceEqDiff, Nat.reduceSub, Option.some.injEq, Sum.inl.injEq, Sum.inr.injEq, or_true, true_or, reduceCtorEq, ne_eq, not_false_eq_true, not_true_eq_false, false_implies, implies_true, false_and, and_false, false_or, or_false, if_true, if_false, fr_0_0 hf, fr_0_1 hf, fr_0_2 hf, fr_0_3 hf, fr_0_7 hf, fr_0_8 hf, fr_0_11 hf, fr_0_12 hf, fg_0 hf, fv_0 hf]
  refine ⟨fun c => ?_, fun c => ?_⟩
  · rcases hc.2.1 with z | ⟨z1, z2⟩
    · exact absurd z.1 c
    · exact ⟨V, rfl, rfl, fun _ _ _ => rfl, z1, hc⟩
  · have c0 := Classical.not_not.mp c
    refine pm_ok_mono (c_knownFrame (d := d) (by omega) hf hs hw hc) ?_
    rintro r h2 ⟨V2, rfl, rfl, b1, b2, b3, b4, b5⟩
    obtain ⟨nb, nm⟩ := ntB_1 (lo := A 0) (dl := 0) hw (by decide) (by decide) (by omega)
    rw [pm_pu_s, ux_58_15]
    simp only [ux_58_0, ux_58_1, ux_58_4, ux_58_7, ux_58_8, ux_58_11, ux_58_12, ux_58_16, ux_58_17, ux_58_21, ux_58_22, ux_58_25, ux_58_26, ux_58_29, pm_i_c, pm_l_c, pm_q_c, pm_r_c, pm_li_0, pm_li_s, pm_ll_0, pm_ll_s, pm_lq_0, pm_lq_s, pm_s1, pm_s2, pm_kl, pm_wI, pm_wR, pm_pu_n, pm_pu_s, pm_wt, List.take_succ_cons, List.take_zero, List.take_nil, List.drop_succ_cons, List.drop_zero, List.reverse_cons, List.reverse_nil, List.nil_append, List.cons_append, List.length_cons, List.length_nil, true_and, and_true, true_implies, tn_l, tn_0, Int.reduceToNat, Int.reduceLE, Int.reduceLT, Int.reduceEq, Int.reduceAdd, Int.reduceSub, Int.reduceMul, Int.reduceNeg, Nat.reduceAdd, Nat.reduceLeDiff, Nat.reduceEqDiff, Nat.reduceSub, Option.some.injEq, Sum.inl.injEq, Sum.inr.injEq, or_true, true_or, reduceCtorEq, ne_eq, not_false_eq_true, not_true_eq_false, false_implies, implies_true, false_and, and_false, false_or, or_false, if_true, if_false, fr_0_0 hf, fr_0_1 hf, fr_0_2 hf, fr_0_3 hf, fr_0_7 hf, fr_0_8 hf, fr_0_11 hf, fr_0_12 hf, fg_0 hf, fv_0 hf, fr_50_3 hf, fr_50_4 hf, fr_50_5 hf, fr_50_6 hf, fr_50_7 hf, fr_50_8 hf, fr_50_9 hf, fg_50 hf, fv_50 hf]
    refine pm_ok_mono (c_layMost (d := d) (V := V2) (by omega) (fx_45 hf) (fx_50 hf) (by omega) hw (by decide) (by decide) (by omega) b4 1 1 nb nm) ?_
    rintro r h2 ⟨V3, rfl, rfl, y1, y2, y3⟩
    have v0 : V3 0 = V2 0 := y1 0 (by omega)
    rw [pm_pu_n, ux_58_20]
    simp only [ux_58_0, ux_58_1, ux_58_4, ux_58_7, ux_58_8, ux_58_11, ux_58_12, ux_58_16, ux_58_17, ux_58_21, ux_58_22, ux_58_25, ux_58_26, ux_58_29, pm_i_c, pm_l_c, pm_q_c, pm_r_c, pm_li_0, pm_li_s, pm_ll_0, pm_ll_s, pm_lq_0, pm_lq_s, pm_s1, pm_s2, pm_kl, pm_wI, pm_wR, pm_pu_n, pm_pu_s, pm_wt, List.take_succ_cons, List.take_zero, List.take_nil, List.drop_succ_cons, List.drop_zero, List.reverse_cons, List.reverse_nil, List.nil_append, List.cons_append, List.length_cons, List.length_nil, true_and, and_true, true_implies, tn_l, tn_0, Int.reduceToNat, Int.reduceLE, Int.reduceLT, Int.reduceEq, Int.reduceAdd, Int.reduceSub, Int.reduceMul, Int.reduceNeg, Nat.reduceAdd, Nat.reduceLeDiff, Nat.reduceEqDiff, Nat.reduceSub, Option.some.injEq, Sum.inl.injEq, Sum.inr.injEq, or_true, true_or, reduceCtorEq, ne_eq, not_false_eq_true, not_true_eq_false, false_implies, implies_true, false_and, and_false, false_or, or_false, if_true, if_false, fr_0_0 hf, fr_0_1 hf, fr_0_2 hf, fr_0_3 hf, fr_0_7 hf, fr_0_8 hf, fr_0_11 hf, fr_0_12 hf, fg_0 hf, fv_0 hf]
    have e : ∀ q, q ≠ 0 → pm_up V3 0 5 1 q = V3 q := fun q hq => pm_up_fr hq
    have e0 : ∀ j, j ≠ 5 → pm_up V3 0 5 1 0 j = V2 0 j := fun j hj => by rw [pm_up_ne (fun w => hj w.2), v0]
    obtain ⟨i1, i2, i3, i4, i5⟩ := b5
    have z6 : V2 0 6 = 0 := by
      rcases i2 with ⟨-, z⟩ | ⟨z, -⟩
      · exact z
      · rw [b2 5 (by decide)] at z; omega
    have x1 : xL (pm_up V3 0 5 1) 50 = xL V3 50 := xL_fr fun p hp => e _ (by omega)
    have m1 : mL (pm_up V3 0 5 1) 50 = mL V3 50 := mL_fr fun p hp => e _ (by omega)
    refine ⟨_, rfl, rfl, fun q h1 h2 => ?_, pm_up_eq, ?_, Or.inr ⟨pm_up_eq, ?_, ?_, ⟨xL V3 50, _, _, y3, by rw [x1]⟩, Or.inl ⟨?_, ?_⟩⟩, ?_, ?_, ?_⟩
    · rw [e q h1, y1 q (by omega)]; exact b1 q h1 (by omega)
    · unfold cFr frO
      rw [e0 4 (by decide), e 45 (by decide), e (45 + 1) (by decide), e (45 + 2) (by decide), e (45 + 3) (by decide), e (45 + 4) (by decide), y1 45 (by omega), y1 (45 + 1) (by omega), y1 (45 + 2) (by omega), y1 (45 + 3) (by omega), y1 (45 + 4) (by omega)]
      exact i1
    · rw [e0 4 (by decide)]; exact b3
    · unfold lyN lyI
      rw [x1, m1, e 50 (by decide), e (50 + 1) (by decide), e (50 + 2) (by decide)]
      exact y2
    · rw [e0 6 (by decide)]; exact z6
    · rw [x1, e 79 (by decide), e 80 (by decide)]; exact y3
    · unfold cSp
      rw [e0 9 (by decide), e0 10 (by decide)]
      exact i3
    · unfold cLv
      rw [e 119 (by decide), e 123 (by decide), e 124 (by decide), y1 119 (by omega), y1 123 (by omega), y1 124 (by omega)]
      exact i4
    · unfold cDy
      rw [e 125 (by decide), e 130 (by decide), y1 125 (by omega), y1 130 (by omega)]
      exact i5
/-- what is missing tells whether all fit -/
theorem la_fit (hw : wf A n) (h5 : V 0 5 = 1) (hc : caI V A n) : (0 ≤ V 50 2 ∧ V 50 2 ≤ 720) ∧ (V 50 2 = 0 ↔ hal A n (A 0) 0) ∧ mst A n (A 0) 0 1 1 (sm (fun j => A (15 + j)) n - V 50 2) := by
  rcases hc.2.1 with z | ⟨-, -, hI, ⟨x, P, Q, hx, ht⟩, -⟩
  · omega
  · have e := hI.2.2.2.2.1
    have h1 := hal_iff hx
    have h2 := lay_tot hx.1
    have h3 := (ntB_1 (lo := A 0) (dl := 0) hw (by decide) (by decide) (by have := hw.2.2.1; omega)).2
    have h4 := sm_bd (n := n) (f := nL A 1) (B := 60) (fun p hp => by have := (hw.2.2.2.2 p hp).2.1; unfold nL; omega)
    have hn := hw.1
    rw [← nL1]
    refine ⟨by omega, by rw [h1]; omega, x, P, Q, hx, by omega⟩
def dfC (V : Nat → Nat → Int) (R : Nat → Nat → Option Nat) (T : List (Nat × Nat)) (A : Nat → Int) (n : Nat) (r : Option pm_V) (h2 : pm_H) : Prop := ∃ V2, h2 = (V2, R, T) ∧ (∀ q, q ≠ 0 → q < 45 ∨ 81 < q → V2 q = V q) ∧ V2 0 5 = 1 ∧ caI V2 A n ∧ ((r = some (.inl 1) ∧ hal A n (A 0) 0) ∨ (r = some (.inl 0) ∧ ¬ hal A n (A 0) 0))
theorem c_doAllFit (hd : 7 ≤ d) (hf : fx R T) (hs : shO V R T 1 A n) (hw : wf A n) (hc : caI V A n) : pm_ok d 76 [.inr (.inr (some 0))] (V, R, T) (dfC V R T A n) := by
  obtain ⟨d, rfl⟩ : ∃ k, d = k + 1 := ⟨d - 1, by omega⟩
  refine pm_ok_iff.mpr ⟨(Nat.le_of_ble_eq_true rfl), ?_⟩
  show pm_w d 76 0 [some (.inr (.inr (some 0)))] [] (V, R, T) _
  simp only [ux_76_0, ux_76_1, ux_76_7, ux_76_10, ux_76_11, ux_76_14, ux_76_15, pm_i_c, pm_l_c, pm_q_c, pm_r_c, pm_li_0, pm_li_s, pm_ll_0, pm_ll_s, pm_lq_0, pm_lq_s, pm_s1, pm_s2, pm_kl, pm_wI, pm_wR, pm_pu_n, pm_pu_s, pm_wt, List.take_succ_cons, List.take_zero, List.take_nil, List.drop_succ_cons, List.drop_zero, List.reverse_cons, List.reverse_nil, List.nil_append, List.cons_append, List.length_cons, List.length_nil, true_and, and_true, true_implies, tn_l, tn_0, Int.reduceToNat, Int.reduceLE, Int.reduceLT, Int.reduceEq, Int.reduceAdd, Int.reduceSub, Int.reduceMul, Int.reduceNeg, Nat.reduceAdd, Nat.reduceLeDiff, Nat.reduceEqDiff, Nat.reduceSub, Option.some.injEq, Sum.inl.injEq, Sum.inr.injEq, or_true, true_or, reduceCtorEq, ne_eq, not_false_eq_true, not_true_eq_false, false_implies, implies_true, false_and, and_false, false_or, or_false, if_true, if_false, fr_0_0 hf, fr_0_1 hf, fr_0_2 hf, fr_0_3 hf, fr_0_7 hf, fr_0_8 hf, fr_0_11 hf, fr_0_12 hf, fg_0 hf, fv_0 hf]
  refine pm_ok_mono (c_knownLaying (d := d) (by omega) hf hs hw hc) ?_
  rintro r h2 ⟨V2, rfl, rfl, b1, b2, b3⟩
  have lf := la_fit hw b2 b3
  rw [pm_pu_s, ux_76_4]
  simp only [ux_76_0, ux_76_1, ux_76_7, ux_76_10, ux_76_11, ux_76_14, ux_76_15, pm_i_c, pm_l_c, pm_q_c, pm_r_c, pm_li_0, pm_li_s, pm_ll_0, pm_ll_s, pm_lq_0, pm_lq_s, pm_s1, pm_s2, pm_kl, pm_wI, pm_wR, pm_pu_n, pm_pu_s, pm_wt, List.take_succ_cons, List.take_zero, List.take_nil, List.drop_succ_cons, List.drop_zero, List.reverse_cons, List.reverse_nil, List.nil_append, List.cons_append, List.length_cons, List.length_nil, true_and, and_true, true_implies, tn_l, tn_0, Int.reduceToNat, Int.reduceLE, Int.reduceLT, Int.reduceEq, Int.reduceAdd, Int.reduceSub, Int.reduceMul, Int.reduceNeg, Nat.reduceAdd, Nat.reduceLeDiff, Nat.reduceEqDiff, Nat.reduceSub, Option.some.injEq, Sum.inl.injEq, Sum.inr.injEq, or_true, true_or, reduceCtorEq, ne_eq, not_false_eq_true, not_true_eq_false, false_implies, implies_true, false_and, and_false, false_or, or_false, if_true, if_false, fr_50_3 hf, fr_50_4 hf, fr_50_5 hf, fr_50_6 hf, fr_50_7 hf, fr_50_8 hf, fr_50_9 hf, fg_50 hf, fv_50 hf]
  exact ⟨fun z => ⟨V2, rfl, b1, b2, b3, Or.inr ⟨rfl, fun w => z (lf.2.1.mpr w)⟩⟩, fun z => ⟨V2, rfl, b1, b2, b3, Or.inl ⟨rfl, lf.2.1.mp (Classical.not_not.mp z)⟩⟩⟩
theorem c_most (hd : 7 ≤ d) (hf : fx R T) (hs : shO V R T 1 A n) (hw : wf A n) (hc : caI V A n) : pm_ok d 57 [.inr (.inr (some 0))] (V, R, T) (anQ V R T A n (fun v => mst A n (A 0) 0 1 1 v)) := by
  obtain ⟨d, rfl⟩ : ∃ k, d = k + 1 := ⟨d - 1, by omega⟩
  refine pm_ok_iff.mpr ⟨(Nat.le_of_ble_eq_true rfl), ?_⟩
  show pm_w d 57 0 [some (.inr (.inr (some 0)))] [] (V, R, T) _
  generalize hQ : anQ V R T A n (fun v => mst A n (A 0) 0 1 1 v) = Q
  simp only [ux_57_0, ux_57_1, ux_57_4, ux_57_7, ux_57_8, ux_57_14, ux_57_15, pm_i_c, pm_l_c, pm_q_c, pm_r_c, pm_li_0, pm_li_s, pm_ll_0, pm_ll_s, pm_lq_0, pm_lq_s, pm_s1, pm_s2, pm_kl, pm_wI, pm_wR, pm_pu_n, pm_pu_s, pm_wt, List.take_succ_cons, List.take_zero, List.take_nil, List.drop_succ_cons, List.drop_zero, List.reverse_cons, List.reverse_nil, List.nil_append, List.cons_append, List.length_cons, List.length_nil, true_and, and_true, true_implies, tn_l, tn_0, Int.reduceToNat, Int.reduceLE, Int.reduceLT, Int.reduceEq, Int.reduceAdd, Int.reduceSub, Int.reduceMul, Int.reduceNeg, Nat.reduceAdd, Nat.reduceLeDiff, Nat.reduceEqDiff, Nat.reduceSub, Option.some.injEq, Sum.inl.injEq, Sum.inr.injEq, or_true, true_or, reduceCtorEq, ne_eq, not_false_eq_true, not_true_eq_false, false_implies, implies_true, false_and, and_false, false_or, or_false, if_true, if_false, fr_0_0 hf, fr_0_1 hf, fr_0_2 hf, fr_0_3 hf, fr_0_7 hf, fr_0_8 hf, fr_0_11 hf, fr_0_12 hf, fg_0 hf, fv_0 hf, fr_1_3 hf, fg_1 hf, fv_1 hf, pm_ok_ev (c_allLengths (d := d) (by omega) hf hs hw)]
  refine pm_ok_mono (c_knownLaying (d := d) (by omega) hf hs hw hc) ?_
  rintro r h2 ⟨V2, rfl, rfl, b1, b2, b3⟩
  have lf := la_fit hw b2 b3
  have sb := sm_bd (n := n) (f := fun j => A (15 + j)) (B := 60) (fun p hp => by have := (hw.2.2.2.2 p hp).2.1; omega)
  have hn := hw.1
  rw [pm_pu_s, ux_57_11]
  simp only [ux_57_0, ux_57_1, ux_57_4, ux_57_7, ux_57_8, ux_57_14, ux_57_15, pm_i_c, pm_l_c, pm_q_c, pm_r_c, pm_li_0, pm_li_s, pm_ll_0, pm_ll_s, pm_lq_0, pm_lq_s, pm_s1, pm_s2, pm_kl, pm_wI, pm_wR, pm_pu_n, pm_pu_s, pm_wt, List.take_succ_cons, List.take_zero, List.take_nil, List.drop_succ_cons, List.drop_zero, List.reverse_cons, List.reverse_nil, List.nil_append, List.cons_append, List.length_cons, List.length_nil, true_and, and_true, true_implies, tn_l, tn_0, Int.reduceToNat, Int.reduceLE, Int.reduceLT, Int.reduceEq, Int.reduceAdd, Int.reduceSub, Int.reduceMul, Int.reduceNeg, Nat.reduceAdd, Nat.reduceLeDiff, Nat.reduceEqDiff, Nat.reduceSub, Option.some.injEq, Sum.inl.injEq, Sum.inr.injEq, or_true, true_or, reduceCtorEq, ne_eq, not_false_eq_true, not_true_eq_false, false_implies, implies_true, false_and, and_false, false_or, or_false, if_true, if_false, fr_50_3 hf, fr_50_4 hf, fr_50_5 hf, fr_50_6 hf, fr_50_7 hf, fr_50_8 hf, fr_50_9 hf, fg_50 hf, fv_50 hf]
  rw [← hQ]
  exact ⟨by unfold pm_I32; omega, V2, _, rfl, rfl, fun q hq => b1 q (by omega) (by omega), b3, lf.2.2⟩
theorem c_fits (hd : 8 ≤ d) (hf : fx R T) (hs : shO V R T 1 A n) (hw : wf A n) (hc : caI V A n) : pm_ok d 75 [.inr (.inr (some 0))] (V, R, T) (anQ V R T A n (fun v => (v = 1 ∧ hal A n (A 0) 0) ∨ (v = 0 ∧ ¬ hal A n (A 0) 0))) := by
  obtain ⟨d, rfl⟩ : ∃ k, d = k + 1 := ⟨d - 1, by omega⟩
  refine pm_ok_iff.mpr ⟨(Nat.le_of_ble_eq_true rfl), ?_⟩
  show pm_w d 75 0 [some (.inr (.inr (some 0)))] [] (V, R, T) _
  generalize hQ : anQ V R T A n (fun v => (v = 1 ∧ hal A n (A 0) 0) ∨ (v = 0 ∧ ¬ hal A n (A 0) 0)) = Q
  simp only [ux_75_0, ux_75_1, ux_75_7, ux_75_8, ux_75_11, ux_75_12, pm_i_c, pm_l_c, pm_q_c, pm_r_c, pm_li_0, pm_li_s, pm_ll_0, pm_ll_s, pm_lq_0, pm_lq_s, pm_s1, pm_s2, pm_kl, pm_wI, pm_wR, pm_pu_n, pm_pu_s, pm_wt, List.take_succ_cons, List.take_zero, List.take_nil, List.drop_succ_cons, List.drop_zero, List.reverse_cons, List.reverse_nil, List.nil_append, List.cons_append, List.length_cons, List.length_nil, true_and, and_true, true_implies, tn_l, tn_0, Int.reduceToNat, Int.reduceLE, Int.reduceLT, Int.reduceEq, Int.reduceAdd, Int.reduceSub, Int.reduceMul, Int.reduceNeg, Nat.reduceAdd, Nat.reduceLeDiff, Nat.reduceEqDiff, Nat.reduceSub, Option.some.injEq, Sum.inl.injEq, Sum.inr.injEq, or_true, true_or, reduceCtorEq, ne_eq, not_false_eq_true, not_true_eq_false, false_implies, implies_true, false_and, and_false, false_or, or_false, if_true, if_false, fr_0_0 hf, fr_0_1 hf, fr_0_2 hf, fr_0_3 hf, fr_0_7 hf, fr_0_8 hf, fr_0_11 hf, fr_0_12 hf, fg_0 hf, fv_0 hf]
  refine pm_ok_mono (c_doAllFit (d := d) (by omega) hf hs hw hc) ?_
  rintro r h2 ⟨V2, rfl, b1, b2, b3, ⟨rfl, z⟩ | ⟨rfl, z⟩⟩
  · rw [pm_pu_s, ux_75_4]
    simp only [ux_75_0, ux_75_1, ux_75_7, ux_75_8, ux_75_11, ux_75_12, pm_i_c, pm_l_c, pm_q_c, pm_r_c, pm_li_0, pm_li_s, pm_ll_0, pm_ll_s, pm_lq_0, pm_lq_s, pm_s1, pm_s2, pm_kl, pm_wI, pm_wR, pm_pu_n, pm_pu_s, pm_wt, List.take_succ_cons, List.take_zero, List.take_nil, List.drop_succ_cons, List.drop_zero, List.reverse_cons, List.reverse_nil, List.nil_append, List.cons_append, List.length_cons, List.length_nil, true_and, and_true, true_implies, tn_l, tn_0, Int.reduceToNat, Int.reduceLE, Int.reduceLT, Int.reduceEq, Int.reduceAdd, Int.reduceSub, Int.reduceMul, Int.reduceNeg, Nat.reduceAdd, Nat.reduceLeDiff, Nat.reduceEqDiff, Nat.reduceSub, Option.some.injEq, Sum.inl.injEq, Sum.inr.injEq, or_true, true_or, reduceCtorEq, ne_eq, not_false_eq_true, not_true_eq_false, false_implies, implies_true, false_and, and_false, false_or, or_false, if_true, if_false, fr_0_0 hf, fr_0_1 hf, fr_0_2 hf, fr_0_3 hf, fr_0_7 hf, fr_0_8 hf, fr_0_11 hf, fr_0_12 hf, fg_0 hf, fv_0 hf]
    rw [← hQ]
    exact ⟨V2, _, rfl, rfl, fun q hq => b1 q (by omega) (by omega), b3, Or.inl ⟨rfl, z⟩⟩
  · rw [pm_pu_s, ux_75_4]
    simp only [ux_75_0, ux_75_1, ux_75_7, ux_75_8, ux_75_11, ux_75_12, pm_i_c, pm_l_c, pm_q_c, pm_r_c, pm_li_0, pm_li_s, pm_ll_0, pm_ll_s, pm_lq_0, pm_lq_s, pm_s1, pm_s2, pm_kl, pm_wI, pm_wR, pm_pu_n, pm_pu_s, pm_wt, List.take_succ_cons, List.take_zero, List.take_nil, List.drop_succ_cons, List.drop_zero, List.reverse_cons, List.reverse_nil, List.nil_append, List.cons_append, List.length_cons, List.length_nil, true_and, and_true, true_implies, tn_l, tn_0, Int.reduceToNat, Int.reduceLE, Int.reduceLT, Int.reduceEq, Int.reduceAdd, Int.reduceSub, Int.reduceMul, Int.reduceNeg, Nat.reduceAdd, Nat.reduceLeDiff, Nat.reduceEqDiff, Nat.reduceSub, Option.some.injEq, Sum.inl.injEq, Sum.inr.injEq, or_true, true_or, reduceCtorEq, ne_eq, not_false_eq_true, not_true_eq_false, false_implies, implies_true, false_and, and_false, false_or, or_false, if_true, if_false, fr_0_0 hf, fr_0_1 hf, fr_0_2 hf, fr_0_3 hf, fr_0_7 hf, fr_0_8 hf, fr_0_11 hf, fr_0_12 hf, fg_0 hf, fv_0 hf]
    rw [← hQ]
    exact ⟨V2, _, rfl, rfl, fun q hq => b1 q (by omega) (by omega), b3, Or.inr ⟨rfl, z⟩⟩
end
