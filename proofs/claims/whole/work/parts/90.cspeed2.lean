/-! THE CLASS: speed as a whole -/
section
variable {d : Nat} {h : pm_H} {V V2 W : Nat → Nat → Int} {R : Nat → Nat → Option Nat} {T : List (Nat × Nat)} {n : Nat} {A : Nat → Int}
theorem ca_sp (hq : ∀ q, q ≠ 0 → V2 q = V q) (h0 : ∀ j, j ≠ 9 → j ≠ 10 → V2 0 j = V 0 j) (hs : cSp V2 A n) (hc : caI V A n) : caI V2 A n := by
  obtain ⟨h1, h2, h3, h4, h5⟩ := hc
  have x1 : xL V2 50 = xL V 50 := xL_fr fun p hp => hq _ (by omega)
  have m1 : mL V2 50 = mL V 50 := mL_fr fun p hp => hq _ (by omega)
  refine ⟨?_, ?_, hs, ?_, ?_⟩
  · unfold cFr frO
    rw [h0 4 (by decide) (by decide), hq 45 (by omega), hq (45 + 1) (by omega), hq (45 + 2) (by omega), hq (45 + 3) (by omega), hq (45 + 4) (by omega)]
    exact h1
  · unfold cLa lyN lyI
    rw [h0 4 (by decide) (by decide), h0 5 (by decide) (by decide), h0 6 (by decide) (by decide), x1, m1, hq 50 (by omega), hq (50 + 1) (by omega), hq (50 + 2) (by omega), hq 79 (by omega), hq 80 (by omega)]
    exact h2
  · unfold cLv
    rw [hq 119 (by omega), hq 123 (by omega), hq 124 (by omega)]
    exact h4
  · unfold cDy
    rw [hq 125 (by omega), hq 130 (by omega)]
    exact h5
def fspQ (V : Nat → Nat → Int) (R : Nat → Nat → Option Nat) (T : List (Nat × Nat)) (A : Nat → Int) (n : Nat) (r : Option pm_V) (h2 : pm_H) : Prop := ∃ V2, h2 = (V2, R, T) ∧ r = none ∧ qfr V V2 ∧ caI V2 A n ∧ ∃ P, spP A n P ∧ V2 0 9 = (spA A n P : Int) ∧ V2 0 10 = (spB A n P : Int)
theorem fsp_out (hd : 1 ≤ d) (hf : fx R T) (hw : wf A n) (hW : qfr V W) (hc : caI W A n) {P : Nat → Bool} (hP : spP A n P) (m j : Int) : pm_w d 98 108 [some (.inr (.inr (some 0))), some (.inr (.inr (some 45))), some (.inl m), some (.inl (lnS A n P)), some (.inl (cpS A n P)), some (.inl j)] [] (W, R, T) (fspQ V R T A n) := by
  obtain ⟨a, ha⟩ : ∃ a : Nat, lnS A n P = (a : Int) := ⟨(lnS A n P).toNat, by have := (lnS_bd hw P).1; omega⟩
  obtain ⟨c, hcc⟩ : ∃ a : Nat, cpS A n P = (a : Int) := ⟨(cpS A n P).toNat, by have := (cpS_bd hw P).1; omega⟩
  have c1 := hP.1
  have c2 := (cpS_bd hw P).2
  have hg : 0 < Nat.gcd a c := Nat.gcd_pos_of_pos_right a (by omega)
  have eA : spA A n P = a / Nat.gcd a c := by unfold spA rdA; rw [ha, hcc]; rfl
  have eB : spB A n P = c / Nat.gcd a c := by unfold spB rdB; rw [ha, hcc]; rfl
  have ev := c_commonDivisor (d := d) (h := (W, R, T)) hd a c (by omega)
  rw [show max (Nat.gcd a c) 1 = Nat.gcd a c by omega] at ev
  rw [ha, hcc, ux_98_108]
  simp only [ux_98_0, ux_98_1, ux_98_4, ux_98_7, ux_98_8, ux_98_12, ux_98_13, ux_98_14, ux_98_15, ux_98_18, ux_98_21, ux_98_22, ux_98_23, ux_98_24, ux_98_25, ux_98_26, ux_98_27, ux_98_30, ux_98_31, ux_98_32, ux_98_33, ux_98_36, ux_98_38, ux_98_39, ux_98_42, ux_98_43, ux_98_45, ux_98_46, ux_98_50, ux_98_54, ux_98_57, ux_98_60, ux_98_61, ux_98_64, ux_98_67, ux_98_70, ux_98_71, ux_98_74, ux_98_77, ux_98_78, ux_98_79, ux_98_80, ux_98_83, ux_98_84, ux_98_85, ux_98_86, ux_98_89, ux_98_91, ux_98_92, ux_98_95, ux_98_96, ux_98_98, ux_98_99, ux_98_105, ux_98_109, ux_98_111, ux_98_114, ux_98_116, ux_98_117, ux_98_118, ux_98_120, ux_98_121, ux_98_124, ux_98_125, ux_98_127, ux_98_129, ux_98_130, ux_98_133, pm_i_c, pm_l_c, pm_q_c, pm_r_c, pm_li_0, pm_li_s, pm_ll_0, pm_ll_s, pm_lq_0, pm_lq_s, pm_s1, pm_s2, pm_kl, pm_wI, pm_wR, pm_pu_n, pm_pu_s, pm_wt, List.take_succ_cons, List.take_zero, List.take_nil, List.drop_succ_cons, List.drop_zero, List.reverse_cons, List.reverse_nil, List.nil_append, List.cons_append, List.length_cons, List.length_nil, true_and, and_true, true_implies, tn_l, tn_0, Int.reduceToNat, Int.reduceLE, Int.reduceLT, Int.reduceEq, Int.reduceAdd, Int.reduceSub, Int.reduceMul, Int.reduceNeg, Nat.reduceAdd, Nat.reduceLeDiff, Nat.reduceEqDiff, Nat.reduceSub, Option.some.injEq, Sum.inl.injEq, Sum.inr.injEq, or_true, true_or, reduceCtorEq, ne_eq, not_false_eq_true, not_true_eq_false, false_implies, implies_true, false_and, and_false, false_or, or_false, if_true, if_false, fr_0_0 hf, fr_0_1 hf, fr_0_2 hf, fr_0_3 hf, fr_0_7 hf, fr_0_8 hf, fr_0_11 hf, fr_0_12 hf, fg_0 hf, fv_0 hf, pm_ok_ev ev, edv]
  refine ⟨by omega, by omega, _, rfl, rfl, fun q hq => ?_, ?_, P, hP, ?_, ?_⟩
  · rw [pm_up_fr (by omega), pm_up_fr (by omega)]
    exact hW q hq
  · refine ca_sp (V := W) (fun q hq => by rw [pm_up_fr hq, pm_up_fr hq]) (fun j h1 h2 => by rw [pm_up_ne (by omega), pm_up_ne (by omega)]) ?_ hc
    refine Or.inr ⟨P, hP, ?_, ?_⟩
    · rw [pm_up_ne (by omega), pm_up_eq, eA]
    · rw [pm_up_eq, eB]
  · rw [pm_up_ne (by omega), pm_up_eq, eA]
  · rw [pm_up_eq, eB]
theorem fsp_loop {V1 : Nat → Nat → Int} (hd : 6 ≤ d) (hf : fx R T) (hw : wf A n) (hV : qfr V V1) (hc : caI V1 A n) (hO : frO V1 45 A n (A 0) 0) (hN : ∀ p, p < n → ¬ nwh A n p) : ∀ (K j : Nat) (W : Nat → Nat → Int) (P : Nat → Bool) (m : Int), lyF V1 W 87 → W 87 0 = n → W 87 2 = sm (nL A (cpS A n P)) n - tot n (nS A n 0) (xL W 87) → net A n (A 0) 0 (cpS A n P) (lnS A n P) (xL W 87) (fun p => decide (W (87 + 29) p ≠ -2)) (fun s => decide (W (87 + 30) s ≠ -2)) → 0 < lnS A n P → 0 < cpS A n P → j + K ≤ 1000 → (∀ P', (∀ P'', lnS A n P'' * cpS A n P - cpS A n P'' * lnS A n P ≤ lnS A n P' * cpS A n P - cpS A n P' * lnS A n P) → 0 < lnS A n P' * cpS A n P - cpS A n P' * lnS A n P → cpS A n P' < K) → pm_w d 98 52 [some (.inr (.inr (some 0))), some (.inr (.inr (some 45))), some (.inl m), some (.inl (lnS A n P)), some (.inl (cpS A n P)), some (.inl (j : Int))] [] (W, R, T) (fspQ V R T A n) := by
  intro K
  induction K using Nat.strongRecOn with
  | _ K ih =>
    intro j W P m hF h87 h872 hnet hl0 hc0 hjK hK
    have hA0 := hw.2.2.1
    have hT : tfc V1 W := fun q hq => hF q (by omega)
    have hcW : caI W A n := tfc_ca hT hc
    have hqW : qfr V W := qfr_tr hV (tfc_q hT)
    have hOW : frO W 45 A n (A 0) 0 := frO_keep (fun q h1 h2 => hF q (by omega)) hO
    have e : sm (nL A (cpS A n P)) n = sm (nL A 1) n * cpS A n P := by
      rw [← sm_mul]
      refine sm_congr fun p _ => ?_
      unfold nL
      rw [Int.mul_one]
    obtain ⟨x1, x2⟩ := sp_max (by omega) hnet
    rw [← e, ← h872] at x1 x2
    have evR := c_reachedPieces (d := d) (V := W) (by omega) (fx_87 hf) h87 hw.1
    generalize hP1 : (fun p => decide (W (87 + 29) p ≠ -2)) = P1 at *
    have evL := c_lengthsOf (d := d) (V := W) (by omega) hf hw hOW P1
    have evT := c_takesOf (d := d) (V := W) (by omega) hf hw hOW P1
    rw [ux_98_52]
    simp only [ux_98_0, ux_98_1, ux_98_4, ux_98_7, ux_98_8, ux_98_12, ux_98_13, ux_98_14, ux_98_15, ux_98_18, ux_98_21, ux_98_22, ux_98_23, ux_98_24, ux_98_25, ux_98_26, ux_98_27, ux_98_30, ux_98_31, ux_98_32, ux_98_33, ux_98_36, ux_98_38, ux_98_39, ux_98_42, ux_98_43, ux_98_45, ux_98_46, ux_98_50, ux_98_54, ux_98_57, ux_98_60, ux_98_61, ux_98_64, ux_98_67, ux_98_70, ux_98_71, ux_98_74, ux_98_77, ux_98_78, ux_98_79, ux_98_80, ux_98_83, ux_98_84, ux_98_85, ux_98_86, ux_98_89, ux_98_91, ux_98_92, ux_98_95, ux_98_96, ux_98_98, ux_98_99, ux_98_105, ux_98_109, ux_98_111, ux_98_114, ux_98_116, ux_98_117, ux_98_118, ux_98_120, ux_98_121, ux_98_124, ux_98_125, ux_98_127, ux_98_129, ux_98_130, ux_98_133, pm_i_c, pm_l_c, pm_q_c, pm_r_c, pm_li_0, pm_li_s, pm_ll_0, pm_ll_s, pm_lq_0, pm_lq_s, pm_s1, pm_s2, pm_kl, pm_wI, pm_wR, pm_pu_n, pm_pu_s, pm_wt, List.take_succ_cons, List.take_zero, List.take_nil, List.drop_succ_cons, List.drop_zero, List.reverse_cons, List.reverse_nil, List.nil_append, List.cons_append, List.length_cons, List.length_nil, true_and, and_true, true_implies, tn_l, tn_0, Int.reduceToNat, Int.reduceLE, Int.reduceLT, Int.reduceEq, Int.reduceAdd, Int.reduceSub, Int.reduceMul, Int.reduceNeg, Nat.reduceAdd, Nat.reduceLeDiff, Nat.reduceEqDiff, Nat.reduceSub, Option.some.injEq, Sum.inl.injEq, Sum.inr.injEq, or_true, true_or, reduceCtorEq, ne_eq, not_false_eq_true, not_true_eq_false, false_implies, implies_true, false_and, and_false, false_or, or_false, if_true, if_false, fr_0_0 hf, fr_0_1 hf, fr_0_2 hf, fr_0_3 hf, fr_0_7 hf, fr_0_8 hf, fr_0_11 hf, fr_0_12 hf, fg_0 hf, fv_0 hf, fr_45_4 hf, fr_45_5 hf, fr_45_6 hf, fr_45_7 hf, fg_45 hf, fv_45 hf, fr_87_3 hf, fr_87_4 hf, fr_87_5 hf, fr_87_6 hf, fr_87_7 hf, fr_87_8 hf, fr_87_9 hf, fg_87 hf, fv_87 hf, pm_ok_ev evR, pm_ok_ev evL, pm_ok_ev evT]
    refine ⟨fun z => by omega, fun _ => ⟨fun hle => ?_, fun hgt => ?_⟩⟩
    · have hsp : spP A n P := ⟨hc0, by omega, fun P' => by
        have := x1 P'
        have e2 : cpS A n P' * lnS A n P = lnS A n P * cpS A n P' := Int.mul_comm _ _
        omega⟩
      exact fsp_out (by omega) hf hw hqW hcW hsp m j
    · have pos : 0 < lnS A n P1 * cpS A n P - cpS A n P1 * lnS A n P := by omega
      have cb1 := cpS_bd hw P1
      have cb2 := cpS_360 hw P1
      have lb1 := lnS_bd hw P1
      have lpos : 0 < lnS A n P1 := by
        refine Classical.byContradiction fun z => ?_
        have k0 : lnS A n P1 = 0 := by omega
        have := Int.mul_nonneg cb1.1 (show 0 ≤ lnS A n P by omega)
        rw [k0, Int.zero_mul] at pos
        omega
      have cpos : 0 < cpS A n P1 := by
        obtain ⟨p, hp, hpp⟩ := lnS_ex lpos
        exact cpS_pos hw hN hp hpp
      have hlt : cpS A n P1 < K := hK P1 (fun P'' => by have := x1 P''; omega) pos
      obtain ⟨nb, nm⟩ := ntB_sp hw (a := lnS A n P1) (b := cpS A n P1) (by omega) (by omega)
      refine pm_ok_mono (c_layMost (d := d) (V := W) (by omega) (fx_45 hf) (fx_87 hf) (by omega) hw (by decide) (by decide) (by omega) hOW (cpS A n P1) (lnS A n P1) nb nm) ?_
      rintro r h2 ⟨W2, rfl, rfl, q1, q2, q3⟩
      rw [pm_pu_n, ux_98_102]
      simp only [ux_98_0, ux_98_1, ux_98_4, ux_98_7, ux_98_8, ux_98_12, ux_98_13, ux_98_14, ux_98_15, ux_98_18, ux_98_21, ux_98_22, ux_98_23, ux_98_24, ux_98_25, ux_98_26, ux_98_27, ux_98_30, ux_98_31, ux_98_32, ux_98_33, ux_98_36, ux_98_38, ux_98_39, ux_98_42, ux_98_43, ux_98_45, ux_98_46, ux_98_50, ux_98_54, ux_98_57, ux_98_60, ux_98_61, ux_98_64, ux_98_67, ux_98_70, ux_98_71, ux_98_74, ux_98_77, ux_98_78, ux_98_79, ux_98_80, ux_98_83, ux_98_84, ux_98_85, ux_98_86, ux_98_89, ux_98_91, ux_98_92, ux_98_95, ux_98_96, ux_98_98, ux_98_99, ux_98_105, ux_98_109, ux_98_111, ux_98_114, ux_98_116, ux_98_117, ux_98_118, ux_98_120, ux_98_121, ux_98_124, ux_98_125, ux_98_127, ux_98_129, ux_98_130, ux_98_133, pm_i_c, pm_l_c, pm_q_c, pm_r_c, pm_li_0, pm_li_s, pm_ll_0, pm_ll_s, pm_lq_0, pm_lq_s, pm_s1, pm_s2, pm_kl, pm_wI, pm_wR, pm_pu_n, pm_pu_s, pm_wt, List.take_succ_cons, List.take_zero, List.take_nil, List.drop_succ_cons, List.drop_zero, List.reverse_cons, List.reverse_nil, List.nil_append, List.cons_append, List.length_cons, List.length_nil, true_and, and_true, true_implies, tn_l, tn_0, Int.reduceToNat, Int.reduceLE, Int.reduceLT, Int.reduceEq, Int.reduceAdd, Int.reduceSub, Int.reduceMul, Int.reduceNeg, Nat.reduceAdd, Nat.reduceLeDiff, Nat.reduceEqDiff, Nat.reduceSub, Option.some.injEq, Sum.inl.injEq, Sum.inr.injEq, or_true, true_or, reduceCtorEq, ne_eq, not_false_eq_true, not_true_eq_false, false_implies, implies_true, false_and, and_false, false_or, or_false, if_true, if_false]
      refine ⟨by unfold pm_I32; omega, ?_⟩
      refine ih (cpS A n P1).toNat (by omega) (j + 1) W2 P1 _ (fun q hq => (q1 q hq).trans (hF q hq)) q2.1.1 q2.2.2.2.2.1 q3 lpos cpos (by omega) ?_
      intro P' g1 g2
      have := dk_dec (l1 := lnS A n P1) (c1 := cpS A n P1) (l2 := lnS A n P') (c2 := cpS A n P') (a1 := lnS A n P) (b1 := cpS A n P) (a2 := lnS A n P1) (b2 := cpS A n P1) (by have := x1 P'; omega) pos g2 (Int.mul_comm _ _) hc0 cpos cpos
      omega
theorem c_findSpeed (hd : 8 ≤ d) (hf : fx R T) (hs : shO V R T 1 A n) (hw : wf A n) (hc : caI V A n) (hn0 : n ≠ 0) (hN : ∀ p, p < n → ¬ nwh A n p) : pm_ok d 98 [.inr (.inr (some 0))] (V, R, T) (fspQ V R T A n) := by
  obtain ⟨d, rfl⟩ : ∃ k, d = k + 1 := ⟨d - 1, by omega⟩
  refine pm_ok_iff.mpr ⟨(Nat.le_of_ble_eq_true rfl), ?_⟩
  show pm_w d 98 0 [some (.inr (.inr (some 0))), none, none, none, none, none] [] (V, R, T) _
  have hA0 := hw.2.2.1
  have hn := hw.1
  simp only [ux_98_0, ux_98_1, ux_98_4, ux_98_7, ux_98_8, ux_98_9, ux_98_13, ux_98_14, ux_98_15, ux_98_18, ux_98_21, ux_98_22, ux_98_23, ux_98_24, ux_98_25, ux_98_26, ux_98_27, ux_98_30, ux_98_31, ux_98_32, ux_98_33, ux_98_36, ux_98_38, ux_98_39, ux_98_42, ux_98_43, ux_98_45, ux_98_46, ux_98_50, ux_98_54, ux_98_57, ux_98_60, ux_98_61, ux_98_64, ux_98_67, ux_98_70, ux_98_71, ux_98_74, ux_98_77, ux_98_78, ux_98_79, ux_98_80, ux_98_83, ux_98_84, ux_98_85, ux_98_86, ux_98_89, ux_98_91, ux_98_92, ux_98_95, ux_98_96, ux_98_98, ux_98_99, ux_98_105, ux_98_109, ux_98_111, ux_98_114, ux_98_116, ux_98_117, ux_98_118, ux_98_120, ux_98_121, ux_98_124, ux_98_125, ux_98_127, ux_98_129, ux_98_130, ux_98_133, pm_i_c, pm_l_c, pm_q_c, pm_r_c, pm_li_0, pm_li_s, pm_ll_0, pm_ll_s, pm_lq_0, pm_lq_s, pm_s1, pm_s2, pm_kl, pm_wI, pm_wR, pm_pu_n, pm_pu_s, pm_wt, List.take_succ_cons, List.take_zero, List.take_nil, List.drop_succ_cons, List.drop_zero, List.reverse_cons, List.reverse_nil, List.nil_append, List.cons_append, List.length_cons, List.length_nil, true_and, and_true, true_implies, tn_l, tn_0, Int.reduceToNat, Int.reduceLE, Int.reduceLT, Int.reduceEq, Int.reduceAdd, Int.reduceSub, Int.reduceMul, Int.reduceNeg, Nat.reduceAdd, Nat.reduceLeDiff, Nat.reduceEqDiff, Nat.reduceSub, Option.some.injEq, Sum.inl.injEq, Sum.inr.injEq, or_true, true_or, reduceCtorEq, ne_eq, not_false_eq_true, not_true_eq_false, false_implies, implies_true, false_and, and_false, false_or, or_false, if_true, if_false, fr_0_0 hf, fr_0_1 hf, fr_0_2 hf, fr_0_3 hf, fr_0_7 hf, fr_0_8 hf, fr_0_11 hf, fr_0_12 hf, fg_0 hf, fv_0 hf]
  refine ⟨fun _ => ?_, fun z => ?_⟩
  · refine pm_ok_mono (c_knownFrame (d := d) (by omega) hf hs hw hc) ?_
    rintro r h2 ⟨V1, rfl, rfl, b1, b2, b3, hO, hcV⟩
    have e12 : V1 1 2 = n := (congrFun (b1 1 (by omega) (by omega)) 2).trans hs.2.2.1
    have ea := btf_all n
    have p2 : (2 : Nat) ^ n ≤ 2 ^ 12 := Nat.pow_le_pow_right (by decide) hn
    have em : (1 : Int) * 2 ^ n - 1 = (btf (fun _ => true) n : Int) := by
      have h1 := i2p n
      have h2 : (0 : Int) ≤ 1 * 2 ^ n := by rw [Int.one_mul]; exact Int.le_of_lt (Int.pow_pos (by decide))
      omega
    have em2 : (1 : Int) * 2 ^ n ≤ 2147483647 := by omega
    have em3 : pm_I32 ((btf (fun _ => true) n : Nat) : Int) := by unfold pm_I32; omega
    have evL := c_lengthsOf (d := d) (V := V1) (by omega) hf hw hO (fun _ => true)
    have evT := c_takesOf (d := d) (V := V1) (by omega) hf hw hO (fun _ => true)
    have lpos : 0 < lnS A n (fun _ => true) := by
      have k1 := sm_ge1 (f := fun p => if (fun _ => true) p then nL A 1 p else 0) (n := n) (k := 0) (fun t ht => by
        have := (hw.2.2.2.2 t ht).2.1
        simp only [if_true]
        unfold nL
        omega) (by omega)
      have := (hw.2.2.2.2 0 (by omega)).2.1
      have e0 : nL A 1 0 = A (15 + 0) := by unfold nL; omega
      simp only [if_true] at k1
      have e1 : lnS A n (fun _ => true) = sm (fun p => nL A 1 p) n := by unfold lnS lnP; simp only [if_true]
      omega
    have cpos : 0 < cpS A n (fun _ => true) := cpS_pos hw hN (show 0 < n by omega) rfl
    have cb1 := cpS_bd hw (fun _ => true)
    have cb2 := cpS_360 hw (fun _ => true)
    have lb1 := lnS_bd hw (fun _ => true)
    obtain ⟨nb, nm⟩ := ntB_sp hw (a := lnS A n (fun _ => true)) (b := cpS A n (fun _ => true)) (by omega) (by omega)
    rw [pm_pu_s, ux_98_12]
    simp only [ux_98_0, ux_98_1, ux_98_4, ux_98_7, ux_98_8, ux_98_9, ux_98_13, ux_98_14, ux_98_15, ux_98_18, ux_98_21, ux_98_22, ux_98_23, ux_98_24, ux_98_25, ux_98_26, ux_98_27, ux_98_30, ux_98_31, ux_98_32, ux_98_33, ux_98_36, ux_98_38, ux_98_39, ux_98_42, ux_98_43, ux_98_45, ux_98_46, ux_98_50, ux_98_54, ux_98_57, ux_98_60, ux_98_61, ux_98_64, ux_98_67, ux_98_70, ux_98_71, ux_98_74, ux_98_77, ux_98_78, ux_98_79, ux_98_80, ux_98_83, ux_98_84, ux_98_85, ux_98_86, ux_98_89, ux_98_91, ux_98_92, ux_98_95, ux_98_96, ux_98_98, ux_98_99, ux_98_105, ux_98_109, ux_98_111, ux_98_114, ux_98_116, ux_98_117, ux_98_118, ux_98_120, ux_98_121, ux_98_124, ux_98_125, ux_98_127, ux_98_129, ux_98_130, ux_98_133, pm_i_c, pm_l_c, pm_q_c, pm_r_c, pm_li_0, pm_li_s, pm_ll_0, pm_ll_s, pm_lq_0, pm_lq_s, pm_s1, pm_s2, pm_kl, pm_wI, pm_wR, pm_pu_n, pm_pu_s, pm_wt, List.take_succ_cons, List.take_zero, List.take_nil, List.drop_succ_cons, List.drop_zero, List.reverse_cons, List.reverse_nil, List.nil_append, List.cons_append, List.length_cons, List.length_nil, true_and, and_true, true_implies, tn_l, tn_0, Int.reduceToNat, Int.reduceLE, Int.reduceLT, Int.reduceEq, Int.reduceAdd, Int.reduceSub, Int.reduceMul, Int.reduceNeg, Nat.reduceAdd, Nat.reduceLeDiff, Nat.reduceEqDiff, Nat.reduceSub, Option.some.injEq, Sum.inl.injEq, Sum.inr.injEq, or_true, true_or, reduceCtorEq, ne_eq, not_false_eq_true, not_true_eq_false, false_implies, implies_true, false_and, and_false, false_or, or_false, if_true, if_false, fr_0_0 hf, fr_0_1 hf, fr_0_2 hf, fr_0_3 hf, fr_0_7 hf, fr_0_8 hf, fr_0_11 hf, fr_0_12 hf, fg_0 hf, fv_0 hf, fr_1_3 hf, fg_1 hf, fv_1 hf, fr_45_4 hf, fr_45_5 hf, fr_45_6 hf, fr_45_7 hf, fg_45 hf, fv_45 hf, fr_87_3 hf, fr_87_4 hf, fr_87_5 hf, fr_87_6 hf, fr_87_7 hf, fr_87_8 hf, fr_87_9 hf, fg_87 hf, fv_87 hf, e12, Int.toNat_natCast, em, pm_ok_ev evL, pm_ok_ev evT]
    refine ⟨(by first | omega | exact ⟨by omega, by omega, em2⟩ | exact ⟨by omega, em2⟩), em3, ?_⟩
    refine pm_ok_mono (c_layMost (d := d) (V := V1) (by omega) (fx_45 hf) (fx_87 hf) (by omega) hw (by decide) (by decide) (by omega) hO (cpS A n (fun _ => true)) (lnS A n (fun _ => true)) nb nm) ?_
    rintro r h2 ⟨W2, rfl, rfl, q1, q2, q3⟩
    rw [pm_pu_n, ux_98_49]
    simp only [ux_98_0, ux_98_1, ux_98_4, ux_98_7, ux_98_8, ux_98_9, ux_98_13, ux_98_14, ux_98_15, ux_98_18, ux_98_21, ux_98_22, ux_98_23, ux_98_24, ux_98_25, ux_98_26, ux_98_27, ux_98_30, ux_98_31, ux_98_32, ux_98_33, ux_98_36, ux_98_38, ux_98_39, ux_98_42, ux_98_43, ux_98_45, ux_98_46, ux_98_50, ux_98_54, ux_98_57, ux_98_60, ux_98_61, ux_98_64, ux_98_67, ux_98_70, ux_98_71, ux_98_74, ux_98_77, ux_98_78, ux_98_79, ux_98_80, ux_98_83, ux_98_84, ux_98_85, ux_98_86, ux_98_89, ux_98_91, ux_98_92, ux_98_95, ux_98_96, ux_98_98, ux_98_99, ux_98_105, ux_98_109, ux_98_111, ux_98_114, ux_98_116, ux_98_117, ux_98_118, ux_98_120, ux_98_121, ux_98_124, ux_98_125, ux_98_127, ux_98_129, ux_98_130, ux_98_133, pm_i_c, pm_l_c, pm_q_c, pm_r_c, pm_li_0, pm_li_s, pm_ll_0, pm_ll_s, pm_lq_0, pm_lq_s, pm_s1, pm_s2, pm_kl, pm_wI, pm_wR, pm_pu_n, pm_pu_s, pm_wt, List.take_succ_cons, List.take_zero, List.take_nil, List.drop_succ_cons, List.drop_zero, List.reverse_cons, List.reverse_nil, List.nil_append, List.cons_append, List.length_cons, List.length_nil, true_and, and_true, true_implies, tn_l, tn_0, Int.reduceToNat, Int.reduceLE, Int.reduceLT, Int.reduceEq, Int.reduceAdd, Int.reduceSub, Int.reduceMul, Int.reduceNeg, Nat.reduceAdd, Nat.reduceLeDiff, Nat.reduceEqDiff, Nat.reduceSub, Option.some.injEq, Sum.inl.injEq, Sum.inr.injEq, or_true, true_or, reduceCtorEq, ne_eq, not_false_eq_true, not_true_eq_false, false_implies, implies_true, false_and, and_false, false_or, or_false, if_true, if_false]
    refine fsp_loop (V1 := V1) (by omega) hf hw (fun q hq => b1 q (by omega) (by omega)) hcV hO hN 361 0 W2 (fun _ => true) _ q1 q2.1.1 q2.2.2.2.2.1 q3 lpos cpos (by omega) ?_
    intro P' _ _
    have := cpS_360 hw P'
    omega
  · refine ⟨V, rfl, rfl, qfr_rf, hc, ?_⟩
    rcases hc.2.2.1 with y | y
    · exact absurd y z
    · exact y
theorem c_speed (hd : 9 ≤ d) (hf : fx R T) (hs : shO V R T 1 A n) (hw : wf A n) (hc : caI V A n) (w : Int) : pm_ok d 96 [.inr (.inr (some 0)), .inl w] (V, R, T) (anQ V R T A n (fun v => spO A n w v)) := by
  obtain ⟨d, rfl⟩ : ∃ k, d = k + 1 := ⟨d - 1, by omega⟩
  refine pm_ok_iff.mpr ⟨(Nat.le_of_ble_eq_true rfl), ?_⟩
  show pm_w d 96 0 [some (.inr (.inr (some 0))), some (.inl w)] [] (V, R, T) _
  generalize hQ : anQ V R T A n (fun v => spO A n w v) = Q
  have h12 := hs.2.2.1
  have bad : ¬ (0 ≤ w ∧ w ≤ 1) → Q (some (.inl (-1))) (V, R, T) := fun z => by rw [← hQ]; exact ⟨V, -1, rfl, rfl, qfr_rf, hc, Or.inl ⟨z, rfl⟩⟩
  simp only [ux_96_0, ux_96_1, ux_96_4, ux_96_5, ux_96_6, ux_96_9, ux_96_10, ux_96_12, ux_96_15, ux_96_18, ux_96_21, ux_96_23, ux_96_24, ux_96_25, ux_96_34, ux_96_36, ux_96_38, ux_96_42, ux_96_45, ux_96_46, ux_96_49, ux_96_52, ux_96_53, ux_96_56, pm_i_c, pm_l_c, pm_q_c, pm_r_c, pm_li_0, pm_li_s, pm_ll_0, pm_ll_s, pm_lq_0, pm_lq_s, pm_s1, pm_s2, pm_kl, pm_wI, pm_wR, pm_pu_n, pm_pu_s, pm_wt, List.take_succ_cons, List.take_zero, List.take_nil, List.drop_succ_cons, List.drop_zero, List.reverse_cons, List.reverse_nil, List.nil_append, List.cons_append, List.length_cons, List.length_nil, true_and, and_true, true_implies, tn_l, tn_0, Int.reduceToNat, Int.reduceLE, Int.reduceLT, Int.reduceEq, Int.reduceAdd, Int.reduceSub, Int.reduceMul, Int.reduceNeg, Nat.reduceAdd, Nat.reduceLeDiff, Nat.reduceEqDiff, Nat.reduceSub, Option.some.injEq, Sum.inl.injEq, Sum.inr.injEq, or_true, true_or, reduceCtorEq, ne_eq, not_false_eq_true, not_true_eq_false, false_implies, implies_true, false_and, and_false, false_or, or_false, if_true, if_false]
  refine ⟨fun z => bad (by omega), fun z => ⟨fun z2 => ?_, fun z2 => bad (by omega)⟩⟩
  have hg : 0 ≤ w ∧ w ≤ 1 := by omega
  rw [ux_96_11]
  simp only [ux_96_0, ux_96_1, ux_96_4, ux_96_5, ux_96_6, ux_96_9, ux_96_10, ux_96_12, ux_96_15, ux_96_18, ux_96_21, ux_96_23, ux_96_24, ux_96_25, ux_96_34, ux_96_36, ux_96_38, ux_96_42, ux_96_45, ux_96_46, ux_96_49, ux_96_52, ux_96_53, ux_96_56, pm_i_c, pm_l_c, pm_q_c, pm_r_c, pm_li_0, pm_li_s, pm_ll_0, pm_ll_s, pm_lq_0, pm_lq_s, pm_s1, pm_s2, pm_kl, pm_wI, pm_wR, pm_pu_n, pm_pu_s, pm_wt, List.take_succ_cons, List.take_zero, List.take_nil, List.drop_succ_cons, List.drop_zero, List.reverse_cons, List.reverse_nil, List.nil_append, List.cons_append, List.length_cons, List.length_nil, true_and, and_true, true_implies, tn_l, tn_0, Int.reduceToNat, Int.reduceLE, Int.reduceLT, Int.reduceEq, Int.reduceAdd, Int.reduceSub, Int.reduceMul, Int.reduceNeg, Nat.reduceAdd, Nat.reduceLeDiff, Nat.reduceEqDiff, Nat.reduceSub, Option.some.injEq, Sum.inl.injEq, Sum.inr.injEq, or_true, true_or, reduceCtorEq, ne_eq, not_false_eq_true, not_true_eq_false, false_implies, implies_true, false_and, and_false, false_or, or_false, if_true, if_false, fr_0_0 hf, fr_0_1 hf, fr_0_2 hf, fr_0_3 hf, fr_0_7 hf, fr_0_8 hf, fr_0_11 hf, fr_0_12 hf, fg_0 hf, fv_0 hf, fr_1_3 hf, fg_1 hf, fv_1 hf, h12]
  refine ⟨fun hn0 => ?_, fun hn0 => ?_⟩
  · have hn0 : n ≠ 0 := by omega
    refine pm_ok_mono (c_knownFrame (d := d) (by omega) hf hs hw hc) ?_
    rintro r h2 ⟨V1, rfl, rfl, b1, b2, b3, hO, hcV⟩
    have hq1 : qfr V V1 := fun q hq => b1 q (by omega) (by omega)
    rw [pm_pu_s, ux_96_28]
    simp only [ux_96_0, ux_96_1, ux_96_4, ux_96_5, ux_96_6, ux_96_9, ux_96_10, ux_96_12, ux_96_15, ux_96_18, ux_96_21, ux_96_23, ux_96_24, ux_96_25, ux_96_34, ux_96_36, ux_96_38, ux_96_42, ux_96_45, ux_96_46, ux_96_49, ux_96_52, ux_96_53, ux_96_56, pm_i_c, pm_l_c, pm_q_c, pm_r_c, pm_li_0, pm_li_s, pm_ll_0, pm_ll_s, pm_lq_0, pm_lq_s, pm_s1, pm_s2, pm_kl, pm_wI, pm_wR, pm_pu_n, pm_pu_s, pm_wt, List.take_succ_cons, List.take_zero, List.take_nil, List.drop_succ_cons, List.drop_zero, List.reverse_cons, List.reverse_nil, List.nil_append, List.cons_append, List.length_cons, List.length_nil, true_and, and_true, true_implies, tn_l, tn_0, Int.reduceToNat, Int.reduceLE, Int.reduceLT, Int.reduceEq, Int.reduceAdd, Int.reduceSub, Int.reduceMul, Int.reduceNeg, Nat.reduceAdd, Nat.reduceLeDiff, Nat.reduceEqDiff, Nat.reduceSub, Option.some.injEq, Sum.inl.injEq, Sum.inr.injEq, or_true, true_or, reduceCtorEq, ne_eq, not_false_eq_true, not_true_eq_false, false_implies, implies_true, false_and, and_false, false_or, or_false, if_true, if_false, fr_0_0 hf, fr_0_1 hf, fr_0_2 hf, fr_0_3 hf, fr_0_7 hf, fr_0_8 hf, fr_0_11 hf, fr_0_12 hf, fg_0 hf, fv_0 hf, fr_45_4 hf, fr_45_5 hf, fr_45_6 hf, fr_45_7 hf, fg_45 hf, fv_45 hf]
    refine pm_ok_mono (c_hasPieceNowhere (d := d) (V := V1) (by omega) hf hw hO) ?_
    rintro r h2 ⟨rfl, ⟨rfl, hp⟩ | ⟨rfl, hN⟩⟩
    · rw [pm_pu_s, ux_96_31]
      simp only [ux_96_0, ux_96_1, ux_96_4, ux_96_5, ux_96_6, ux_96_9, ux_96_10, ux_96_12, ux_96_15, ux_96_18, ux_96_21, ux_96_23, ux_96_24, ux_96_25, ux_96_34, ux_96_36, ux_96_38, ux_96_42, ux_96_45, ux_96_46, ux_96_49, ux_96_52, ux_96_53, ux_96_56, pm_i_c, pm_l_c, pm_q_c, pm_r_c, pm_li_0, pm_li_s, pm_ll_0, pm_ll_s, pm_lq_0, pm_lq_s, pm_s1, pm_s2, pm_kl, pm_wI, pm_wR, pm_pu_n, pm_pu_s, pm_wt, List.take_succ_cons, List.take_zero, List.take_nil, List.drop_succ_cons, List.drop_zero, List.reverse_cons, List.reverse_nil, List.nil_append, List.cons_append, List.length_cons, List.length_nil, true_and, and_true, true_implies, tn_l, tn_0, Int.reduceToNat, Int.reduceLE, Int.reduceLT, Int.reduceEq, Int.reduceAdd, Int.reduceSub, Int.reduceMul, Int.reduceNeg, Nat.reduceAdd, Nat.reduceLeDiff, Nat.reduceEqDiff, Nat.reduceSub, Option.some.injEq, Sum.inl.injEq, Sum.inr.injEq, or_true, true_or, reduceCtorEq, ne_eq, not_false_eq_true, not_true_eq_false, false_implies, implies_true, false_and, and_false, false_or, or_false, if_true, if_false]
      rw [← hQ]
      exact ⟨V1, _, rfl, rfl, hq1, hcV, Or.inr (Or.inr (Or.inl ⟨hg, hn0, hp, rfl⟩))⟩
    · rw [pm_pu_s, ux_96_31]
      simp only [ux_96_0, ux_96_1, ux_96_4, ux_96_5, ux_96_6, ux_96_9, ux_96_10, ux_96_12, ux_96_15, ux_96_18, ux_96_21, ux_96_23, ux_96_24, ux_96_25, ux_96_34, ux_96_36, ux_96_38, ux_96_42, ux_96_45, ux_96_46, ux_96_49, ux_96_52, ux_96_53, ux_96_56, pm_i_c, pm_l_c, pm_q_c, pm_r_c, pm_li_0, pm_li_s, pm_ll_0, pm_ll_s, pm_lq_0, pm_lq_s, pm_s1, pm_s2, pm_kl, pm_wI, pm_wR, pm_pu_n, pm_pu_s, pm_wt, List.take_succ_cons, List.take_zero, List.take_nil, List.drop_succ_cons, List.drop_zero, List.reverse_cons, List.reverse_nil, List.nil_append, List.cons_append, List.length_cons, List.length_nil, true_and, and_true, true_implies, tn_l, tn_0, Int.reduceToNat, Int.reduceLE, Int.reduceLT, Int.reduceEq, Int.reduceAdd, Int.reduceSub, Int.reduceMul, Int.reduceNeg, Nat.reduceAdd, Nat.reduceLeDiff, Nat.reduceEqDiff, Nat.reduceSub, Option.some.injEq, Sum.inl.injEq, Sum.inr.injEq, or_true, true_or, reduceCtorEq, ne_eq, not_false_eq_true, not_true_eq_false, false_implies, implies_true, false_and, and_false, false_or, or_false, if_true, if_false]
      rw [ux_96_37]
      simp only [ux_96_0, ux_96_1, ux_96_4, ux_96_5, ux_96_6, ux_96_9, ux_96_10, ux_96_12, ux_96_15, ux_96_18, ux_96_21, ux_96_23, ux_96_24, ux_96_25, ux_96_34, ux_96_36, ux_96_38, ux_96_42, ux_96_45, ux_96_46, ux_96_49, ux_96_52, ux_96_53, ux_96_56, pm_i_c, pm_l_c, pm_q_c, pm_r_c, pm_li_0, pm_li_s, pm_ll_0, pm_ll_s, pm_lq_0, pm_lq_s, pm_s1, pm_s2, pm_kl, pm_wI, pm_wR, pm_pu_n, pm_pu_s, pm_wt, List.take_succ_cons, List.take_zero, List.take_nil, List.drop_succ_cons, List.drop_zero, List.reverse_cons, List.reverse_nil, List.nil_append, List.cons_append, List.length_cons, List.length_nil, true_and, and_true, true_implies, tn_l, tn_0, Int.reduceToNat, Int.reduceLE, Int.reduceLT, Int.reduceEq, Int.reduceAdd, Int.reduceSub, Int.reduceMul, Int.reduceNeg, Nat.reduceAdd, Nat.reduceLeDiff, Nat.reduceEqDiff, Nat.reduceSub, Option.some.injEq, Sum.inl.injEq, Sum.inr.injEq, or_true, true_or, reduceCtorEq, ne_eq, not_false_eq_true, not_true_eq_false, false_implies, implies_true, false_and, and_false, false_or, or_false, if_true, if_false, fr_0_0 hf, fr_0_1 hf, fr_0_2 hf, fr_0_3 hf, fr_0_7 hf, fr_0_8 hf, fr_0_11 hf, fr_0_12 hf, fg_0 hf, fv_0 hf]
      refine pm_ok_mono (c_findSpeed (d := d) (V := V1) (by omega) hf (sh_q hq1 hs) hw hcV hn0 hN) ?_
      rintro r h2 ⟨V2, rfl, rfl, f1, f2, P, hP, f9, f10⟩
      rw [pm_pu_n, ux_96_41]
      simp only [ux_96_0, ux_96_1, ux_96_4, ux_96_5, ux_96_6, ux_96_9, ux_96_10, ux_96_12, ux_96_15, ux_96_18, ux_96_21, ux_96_23, ux_96_24, ux_96_25, ux_96_34, ux_96_36, ux_96_38, ux_96_42, ux_96_45, ux_96_46, ux_96_49, ux_96_52, ux_96_53, ux_96_56, pm_i_c, pm_l_c, pm_q_c, pm_r_c, pm_li_0, pm_li_s, pm_ll_0, pm_ll_s, pm_lq_0, pm_lq_s, pm_s1, pm_s2, pm_kl, pm_wI, pm_wR, pm_pu_n, pm_pu_s, pm_wt, List.take_succ_cons, List.take_zero, List.take_nil, List.drop_succ_cons, List.drop_zero, List.reverse_cons, List.reverse_nil, List.nil_append, List.cons_append, List.length_cons, List.length_nil, true_and, and_true, true_implies, tn_l, tn_0, Int.reduceToNat, Int.reduceLE, Int.reduceLT, Int.reduceEq, Int.reduceAdd, Int.reduceSub, Int.reduceMul, Int.reduceNeg, Nat.reduceAdd, Nat.reduceLeDiff, Nat.reduceEqDiff, Nat.reduceSub, Option.some.injEq, Sum.inl.injEq, Sum.inr.injEq, or_true, true_or, reduceCtorEq, ne_eq, not_false_eq_true, not_true_eq_false, false_implies, implies_true, false_and, and_false, false_or, or_false, if_true, if_false, fr_0_0 hf, fr_0_1 hf, fr_0_2 hf, fr_0_3 hf, fr_0_7 hf, fr_0_8 hf, fr_0_11 hf, fr_0_12 hf, fg_0 hf, fv_0 hf, f9, f10]
      rw [← hQ]
      refine ⟨fun c0 => ?_, fun c0 => ?_⟩
      · exact ⟨V2, _, rfl, rfl, qfr_tr hq1 f1, f2, Or.inr (Or.inr (Or.inr ⟨hg, hn0, hN, P, hP, by rw [if_neg c0]⟩))⟩
      · exact ⟨V2, _, rfl, rfl, qfr_tr hq1 f1, f2, Or.inr (Or.inr (Or.inr ⟨hg, hn0, hN, P, hP, by rw [if_pos (Classical.not_not.mp c0)]⟩))⟩
  · rw [← hQ]
    exact ⟨V, _, rfl, rfl, qfr_rf, hc, Or.inr (Or.inl ⟨hg, by omega, rfl⟩)⟩
end
