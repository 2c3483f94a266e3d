/-! THE REFERENCE: speed as a whole -/
section
variable {d : Nat} {h : pm_H} {V W : Nat → Nat → Int} {R : Nat → Nat → Option Nat} {T : List (Nat × Nat)} {n : Nat}
/-- the best sets of a net by below and above -/
theorem sp_max {A : Nat → Int} {a b : Int} {x : Nat → Nat → Int} {P Q : Nat → Bool} (ha : 0 ≤ a) (h : net A n (A 0) 0 b a x P Q) : (∀ P', lnS A n P' * b - cpS A n P' * a ≤ sm (nL A 1) n * b - tot n (nS A n 0) x) ∧ lnS A n P * b - cpS A n P * a = sm (nL A 1) n * b - tot n (nS A n 0) x := by
  have e : sm (nL A b) n = sm (nL A 1) n * b := by
    rw [← sm_mul]
    refine sm_congr fun p _ => ?_
    unfold nL
    rw [Int.mul_one]
  refine ⟨fun P' => ?_, ?_⟩
  · have := hall_le h.1 P'
    rw [lnS_mul, cpS_mul ha, e] at this
    exact this
  · have := hall_eq h
    rw [lnS_mul, cpS_mul ha, e] at this
    exact this
theorem sp_room {A : Nat → Int} {a b : Int} {x : Nat → Nat → Int} {P Q : Nat → Bool} (ha : 0 < a) (h : net A n (A 0) 0 b a x P Q) : sm (cutB n (nC A n (A 0) 0 1) (nR A n (A 0) 0 1) P Q) (nS A n 0) = cpS A n P := by
  refine sm_congr fun s hs => ?_
  have h1 := hall_min h s hs
  have e1 : nR A n (A 0) 0 a s = nR A n (A 0) 0 1 s * a := by unfold nR; rw [Int.mul_one]
  have e2 : sm (fun p => if P p then nC A n (A 0) 0 a p s else 0) n = sm (fun p => if P p then nC A n (A 0) 0 1 p s else 0) n * a := by
    rw [← sm_mul]
    refine sm_congr fun p _ => ?_
    unfold nC
    split
    · rw [Int.mul_one]
    · rw [Int.zero_mul]
  rw [e1, e2, min_mul (by omega)] at h1
  have e3 : cutB n (nC A n (A 0) 0 a) (nR A n (A 0) 0 a) P Q s = cutB n (nC A n (A 0) 0 1) (nR A n (A 0) 0 1) P Q s * a := by
    unfold cutB
    split
    · exact e1
    · exact e2
  rw [e3] at h1
  exact Int.eq_of_mul_eq_mul_right (by omega) h1
theorem sp_end {A : Nat → Int} {P : Nat → Bool} (hw : wf A n) (hc : 0 < cpS A n P) (h : ∀ P', lnS A n P' * (spB A n P : Int) - cpS A n P' * (spA A n P : Int) ≤ 0) : spP A n P := by
  obtain ⟨s1, s2, s3, s4⟩ := sp_bd hw hc
  refine ⟨hc, (lnS_bd hw P).1, fun P' => ?_⟩
  have h1 := h P'
  have h2 : lnS A n P' * (spB A n P : Int) * cpS A n P ≤ cpS A n P' * (spA A n P : Int) * cpS A n P := Int.mul_le_mul_of_nonneg_right (by omega) (by omega)
  have e1 : lnS A n P' * (spB A n P : Int) * cpS A n P = lnS A n P' * cpS A n P * (spB A n P : Int) := by grind
  have e2 : cpS A n P' * (spA A n P : Int) * cpS A n P = lnS A n P * cpS A n P' * (spB A n P : Int) := by
    rw [Int.mul_assoc, s4]
    grind
  rw [e1, e2] at h2
  exact Int.le_of_mul_le_mul_right h2 (by omega)
theorem sp_loop (hd : 8 ≤ d) (hf : fx R T) (hw : wf (V 132) n) (w : Int) (hw1 : 0 ≤ w ∧ w ≤ 1) (hn0 : n ≠ 0) (hN : ∀ p, p < n → ¬ nwh (V 132) n p) : ∀ (K : Nat) (W : Nat → Nat → Int) (P : Nat → Bool) (y2 : Option pm_V), spI V W n P → 0 < lnS (V 132) n P → (∀ P', (∀ P'', lnS (V 132) n P'' * (spB (V 132) n P : Int) - cpS (V 132) n P'' * (spA (V 132) n P : Int) ≤ lnS (V 132) n P' * (spB (V 132) n P : Int) - cpS (V 132) n P' * (spA (V 132) n P : Int)) → 0 < lnS (V 132) n P' * (spB (V 132) n P : Int) - cpS (V 132) n P' * (spA (V 132) n P : Int) → cpS (V 132) n P' < K) → pm_w d 160 81 [some (.inr (.inr (some 131))), some (.inl w), y2] [] (W, R, T) (spQ V R T n w) := by
  intro K
  induction K using Nat.strongRecOn with
  | _ K ih =>
    intro W P y2 hI hl0 hK
    obtain ⟨i1, i2, i3, i4, i5, i6, i7⟩ := hI
    obtain ⟨s1, s2, s3, s4⟩ := sp_bd hw i5
    have hn := hw.1
    have apos : 0 < (spA (V 132) n P : Int) := by
      refine Classical.byContradiction fun z => ?_
      have : (spA (V 132) n P : Int) = 0 := by omega
      rw [this, Int.zero_mul] at s4
      have := Int.mul_pos (show 0 < (spB (V 132) n P : Int) by omega) hl0
      omega
    rw [ux_160_81]
    simp only [ux_160_0, ux_160_1, ux_160_2, ux_160_3, ux_160_6, ux_160_9, ux_160_10, ux_160_11, ux_160_12, ux_160_15, ux_160_16, ux_160_17, ux_160_20, ux_160_22, ux_160_23, ux_160_24, ux_160_25, ux_160_28, ux_160_29, ux_160_30, ux_160_31, ux_160_35, ux_160_37, ux_160_38, ux_160_41, ux_160_42, ux_160_43, ux_160_46, ux_160_47, ux_160_48, ux_160_51, ux_160_54, ux_160_56, ux_160_57, ux_160_60, ux_160_64, ux_160_65, ux_160_68, ux_160_70, ux_160_71, ux_160_72, ux_160_73, ux_160_74, ux_160_77, ux_160_78, ux_160_82, ux_160_83, ux_160_86, ux_160_87, ux_160_90, ux_160_94, ux_160_97, ux_160_98, ux_160_99, ux_160_102, ux_160_103, ux_160_104, ux_160_107, ux_160_108, ux_160_112, ux_160_113, ux_160_114, ux_160_117, ux_160_118, ux_160_128, ux_160_131, ux_160_132, ux_160_135, ux_160_138, ux_160_139, ux_160_142, ux_160_143, pm_i_c, pm_l_c, pm_q_c, pm_r_c, pm_li_0, pm_li_s, pm_ll_0, pm_ll_s, pm_lq_0, pm_lq_s, pm_s1, pm_s2, pm_kl, pm_wI, pm_wR, pm_pu_n, pm_pu_s, pm_wt, List.take_succ_cons, List.take_zero, List.take_nil, List.drop_succ_cons, List.drop_zero, List.reverse_cons, List.reverse_nil, List.nil_append, List.cons_append, List.length_cons, List.length_nil, true_and, and_true, true_implies, tn_l, tn_0, Int.reduceToNat, Int.reduceLE, Int.reduceLT, Int.reduceEq, Int.reduceAdd, Int.reduceSub, Int.reduceMul, Int.reduceNeg, Nat.reduceAdd, Nat.reduceLeDiff, Nat.reduceEqDiff, Nat.reduceSub, Option.some.injEq, Sum.inl.injEq, Sum.inr.injEq, or_true, true_or, reduceCtorEq, ne_eq, not_false_eq_true, not_true_eq_false, false_implies, implies_true, false_and, and_false, false_or, or_false, if_true, if_false, fr_131_0 hf, fr_131_1 hf, fr_131_5 hf, fr_131_7 hf, fr_131_8 hf, fr_131_9 hf, fr_131_12 hf, fr_131_13 hf, fr_131_14 hf, fr_131_15 hf, fr_131_19 hf, fr_131_20 hf, fr_131_21 hf, fr_131_22 hf, fr_131_23 hf, fr_131_24 hf, fg_131 hf, fv_131 hf, fb_132 hf, fb_133 hf, fb_134 hf, fb_135 hf, fb_136 hf, fb_137 hf, fb_138 hf, fb_139 hf, fb_140 hf, fb_141 hf, fb_142 hf, fb_143 hf, fb_144 hf, fb_145 hf, fb_146 hf, fb_147 hf, i6, i7]
    refine pm_ok_mono (m_mostOf (d := d) (by omega) hf i2 (spB (V 132) n P : Int) (spA (V 132) n P : Int) (by omega) (by omega)) ?_
    rintro r h2 ⟨V2, rfl, rfl, b1, b2, b3, b4, b5, b6, b7, b8⟩
    have eA : V2 132 = V 132 := (rfr_now b1).trans (rfr_now i1)
    have hw2 : wf (V2 132) n := by rw [eA]; exact hw
    have hnet := rmx_net (A := V 132) (dl := 0) (n := n) eA b7 (b3.trans i3) (b4.trans i4) b5 b6
    obtain ⟨x1, x2⟩ := sp_max (by omega) hnet
    have c17 : V2 131 17 = (spA (V 132) n P : Int) := (b8 17 (by decide) (by decide)).trans i6
    have c18 : V2 131 18 = (spB (V 132) n P : Int) := (b8 18 (by decide) (by decide)).trans i7
    have eL : sm (fun j => V 132 (15 + j)) n = sm (nL (V 132) 1) n := nL1.symm
    have lb := sm_bd (n := n) (f := nL (V 132) 1) (B := 60) (fun p hp => by unfold nL; have := (hw.2.2.2.2 p hp).2.1; omega)
    have mb := mulbd (x := sm (nL (V 132) 1) n) (y := (spB (V 132) n P : Int)) (a := 720) (b := 146640) lb.1 (by omega) (by omega) (by omega)
    rw [pm_pu_s, ux_160_93]
    simp only [ux_160_0, ux_160_1, ux_160_2, ux_160_3, ux_160_6, ux_160_9, ux_160_10, ux_160_11, ux_160_12, ux_160_15, ux_160_16, ux_160_17, ux_160_20, ux_160_22, ux_160_23, ux_160_24, ux_160_25, ux_160_28, ux_160_29, ux_160_30, ux_160_31, ux_160_35, ux_160_37, ux_160_38, ux_160_41, ux_160_42, ux_160_43, ux_160_46, ux_160_47, ux_160_48, ux_160_51, ux_160_54, ux_160_56, ux_160_57, ux_160_60, ux_160_64, ux_160_65, ux_160_68, ux_160_70, ux_160_71, ux_160_72, ux_160_73, ux_160_74, ux_160_77, ux_160_78, ux_160_82, ux_160_83, ux_160_86, ux_160_87, ux_160_90, ux_160_94, ux_160_97, ux_160_98, ux_160_99, ux_160_102, ux_160_103, ux_160_104, ux_160_107, ux_160_108, ux_160_112, ux_160_113, ux_160_114, ux_160_117, ux_160_118, ux_160_128, ux_160_131, ux_160_132, ux_160_135, ux_160_138, ux_160_139, ux_160_142, ux_160_143, pm_i_c, pm_l_c, pm_q_c, pm_r_c, pm_li_0, pm_li_s, pm_ll_0, pm_ll_s, pm_lq_0, pm_lq_s, pm_s1, pm_s2, pm_kl, pm_wI, pm_wR, pm_pu_n, pm_pu_s, pm_wt, List.take_succ_cons, List.take_zero, List.take_nil, List.drop_succ_cons, List.drop_zero, List.reverse_cons, List.reverse_nil, List.nil_append, List.cons_append, List.length_cons, List.length_nil, true_and, and_true, true_implies, tn_l, tn_0, Int.reduceToNat, Int.reduceLE, Int.reduceLT, Int.reduceEq, Int.reduceAdd, Int.reduceSub, Int.reduceMul, Int.reduceNeg, Nat.reduceAdd, Nat.reduceLeDiff, Nat.reduceEqDiff, Nat.reduceSub, Option.some.injEq, Sum.inl.injEq, Sum.inr.injEq, or_true, true_or, reduceCtorEq, ne_eq, not_false_eq_true, not_true_eq_false, false_implies, implies_true, false_and, and_false, false_or, or_false, if_true, if_false, fr_131_0 hf, fr_131_1 hf, fr_131_5 hf, fr_131_7 hf, fr_131_8 hf, fr_131_9 hf, fr_131_12 hf, fr_131_13 hf, fr_131_14 hf, fr_131_15 hf, fr_131_19 hf, fr_131_20 hf, fr_131_21 hf, fr_131_22 hf, fr_131_23 hf, fr_131_24 hf, fg_131 hf, fv_131 hf, fb_132 hf, fb_133 hf, fb_134 hf, fb_135 hf, fb_136 hf, fb_137 hf, fb_138 hf, fb_139 hf, fb_140 hf, fb_141 hf, fb_142 hf, fb_143 hf, fb_144 hf, fb_145 hf, fb_146 hf, fb_147 hf, pm_ok_ev (m_lengths (d := d) (V := V2) (by omega) hf n hw2), eA, eL, c17, c18, lc_ge]
    refine ⟨by unfold pm_I64; omega, fun hc => ?_, fun hc => ?_⟩
    · have hP : spP (V 132) n P := sp_end hw i5 (fun P' => by
        have z1 := x1 P'
        have hSS : nS (V 132) n 0 = nst (mmL (V 132) 0 n) := rfl
        rw [hSS] at z1
        omega)
      rw [ux_160_127]
      simp only [ux_160_0, ux_160_1, ux_160_2, ux_160_3, ux_160_6, ux_160_9, ux_160_10, ux_160_11, ux_160_12, ux_160_15, ux_160_16, ux_160_17, ux_160_20, ux_160_22, ux_160_23, ux_160_24, ux_160_25, ux_160_28, ux_160_29, ux_160_30, ux_160_31, ux_160_35, ux_160_37, ux_160_38, ux_160_41, ux_160_42, ux_160_43, ux_160_46, ux_160_47, ux_160_48, ux_160_51, ux_160_54, ux_160_56, ux_160_57, ux_160_60, ux_160_64, ux_160_65, ux_160_68, ux_160_70, ux_160_71, ux_160_72, ux_160_73, ux_160_74, ux_160_77, ux_160_78, ux_160_82, ux_160_83, ux_160_86, ux_160_87, ux_160_90, ux_160_94, ux_160_97, ux_160_98, ux_160_99, ux_160_102, ux_160_103, ux_160_104, ux_160_107, ux_160_108, ux_160_112, ux_160_113, ux_160_114, ux_160_117, ux_160_118, ux_160_128, ux_160_131, ux_160_132, ux_160_135, ux_160_138, ux_160_139, ux_160_142, ux_160_143, pm_i_c, pm_l_c, pm_q_c, pm_r_c, pm_li_0, pm_li_s, pm_ll_0, pm_ll_s, pm_lq_0, pm_lq_s, pm_s1, pm_s2, pm_kl, pm_wI, pm_wR, pm_pu_n, pm_pu_s, pm_wt, List.take_succ_cons, List.take_zero, List.take_nil, List.drop_succ_cons, List.drop_zero, List.reverse_cons, List.reverse_nil, List.nil_append, List.cons_append, List.length_cons, List.length_nil, true_and, and_true, true_implies, tn_l, tn_0, Int.reduceToNat, Int.reduceLE, Int.reduceLT, Int.reduceEq, Int.reduceAdd, Int.reduceSub, Int.reduceMul, Int.reduceNeg, Nat.reduceAdd, Nat.reduceLeDiff, Nat.reduceEqDiff, Nat.reduceSub, Option.some.injEq, Sum.inl.injEq, Sum.inr.injEq, or_true, true_or, reduceCtorEq, ne_eq, not_false_eq_true, not_true_eq_false, false_implies, implies_true, false_and, and_false, false_or, or_false, if_true, if_false, fr_131_0 hf, fr_131_1 hf, fr_131_5 hf, fr_131_7 hf, fr_131_8 hf, fr_131_9 hf, fr_131_12 hf, fr_131_13 hf, fr_131_14 hf, fr_131_15 hf, fr_131_19 hf, fr_131_20 hf, fr_131_21 hf, fr_131_22 hf, fr_131_23 hf, fr_131_24 hf, fg_131 hf, fv_131 hf, fb_132 hf, fb_133 hf, fb_134 hf, fb_135 hf, fb_136 hf, fb_137 hf, fb_138 hf, fb_139 hf, fb_140 hf, fb_141 hf, fb_142 hf, fb_143 hf, fb_144 hf, fb_145 hf, fb_146 hf, fb_147 hf, c17, c18]
      have fin : ∀ v : Int, (v = if w = 0 then (spA (V 132) n P : Int) else (spB (V 132) n P : Int)) → spQ V R T n w (some (.inl v)) (V2, R, T) := fun v hv => ⟨V2, v, rfl, rfr_tr i1 b1, rfl, Or.inr (Or.inr (Or.inr ⟨hw1, hn0, hN, P, hP, hv⟩))⟩
      exact ⟨fun z => ⟨by unfold pm_I32; omega, fin _ (by rw [if_neg z])⟩, fun z => ⟨by unfold pm_I32; omega, fin _ (by rw [if_pos (Classical.not_not.mp z)])⟩⟩
    · refine pm_ok_mono (m_search (d := d) (by omega) hf b7.1 b7.2.1) ?_
      rintro r h2 ⟨W3, fr, m, rfl, rfl, q1, q2, q3, q4⟩
      have hx := rmx_search b7 q1 q2 q3
      obtain ⟨z1, z2, z3, z4⟩ := sfr_eq q1
      have e1 := q1 131 (by decide) (by decide) (by decide)
      have eA3 : W3 132 = V 132 := (q1 132 (by decide) (by decide) (by decide)).trans eA
      have hr3 : rfr V W3 := rfr_tr (rfr_tr i1 b1) (fun q j w => by
        by_cases c : q = 131
        · subst c; rw [e1]
        · rw [q1 q (by omega) (by omega) (by omega)])
      have hm3 : rmx W3 n (mmL (V 132) 0 n) := by
        refine ⟨sfr_S q1 b7.1, sfr_X q1 b7.2.1, ?_⟩
        rw [z1, z2, z3, z4]
        exact hx
      have v3 : W3 131 3 = 0 := (congrFun e1 3).trans (b3.trans i3)
      have v4 : W3 131 4 = V 132 0 := (congrFun e1 4).trans (b4.trans i4)
      have hnet3 := rmx_net (A := V 132) (dl := 0) (n := n) eA3 hm3 v3 v4 ((congrFun e1 10).trans b5) ((congrFun e1 11).trans b6)
      generalize hP1 : (fun p => decide (W3 138 p ≠ -2)) = P1 at hnet3
      generalize hQ1 : (fun s => decide (W3 139 s ≠ -2)) = Q1 at hnet3
      have eP : ∀ p, W3 138 p = -2 ↔ P1 p = false := fun p => by rw [← hP1]; dsimp only; rw [decide_eq_false_iff_not]; exact ⟨fun a b => b a, fun a => Classical.not_not.mp a⟩
      have eQ : ∀ p, W3 139 p = -2 ↔ Q1 p = false := fun p => by rw [← hQ1]; dsimp only; rw [decide_eq_false_iff_not]; exact ⟨fun a b => b a, fun a => Classical.not_not.mp a⟩
      obtain ⟨m1, m2⟩ := sp_max (by omega) hnet3
      have hroom := sp_room apos hnet3
      have htot : tot n (nS (V 132) n 0) (xR W3) = tot n (nst (mmL (V 132) 0 n)) (xR V2) := by rw [z4]; rfl
      have pos : 0 < lnS (V 132) n P1 * (spB (V 132) n P : Int) - cpS (V 132) n P1 * (spA (V 132) n P : Int) := by
        rw [m2, htot]; omega
      have cb1 := cpS_bd hw P1
      have lb1 := lnS_bd hw P1
      have lpos : 0 < lnS (V 132) n P1 := by
        refine Classical.byContradiction fun z => ?_
        have k0 : lnS (V 132) n P1 = 0 := by omega
        have := Int.mul_nonneg cb1.1 (show 0 ≤ (spA (V 132) n P : Int) by omega)
        rw [k0, Int.zero_mul] at pos
        omega
      have cpos : 0 < cpS (V 132) n P1 := by
        obtain ⟨p, hp, hpp⟩ := lnS_ex lpos
        exact cpS_pos hw hN hp hpp
      have hf0 : rf0 W3 n (mmL (V 132) 0 n) := ⟨hm3.1.1, hm3.1.2.1, hm3.1.2.2.1, hm3.1.2.2.2.1, hm3.1.2.2.2.2.1⟩
      have ev1 : pm_ev d 164 [.inr (.inr (some 131))] (W3, R, T) (some (.inr (.inl ((lnS (V 132) n P1).toNat : Int)))) (W3, R, T) := by
        have := m_lengthReached (d := d) (V := W3) (by omega) hf (n := n) (by rw [eA3]; exact hw)
        have e : sm (fun p => if W3 138 p = -2 then 0 else W3 132 (15 + p)) n = ((lnS (V 132) n P1).toNat : Int) := by
          rw [Int.toNat_of_nonneg lb1.1]
          refine sm_congr fun p _ => ?_
          rw [eA3]
          unfold nL
          cases hc : P1 p with
          | true => rw [if_neg (by rw [eP, hc]; decide)]; simp
          | false => rw [if_pos ((eP p).mpr hc)]; simp
        rw [e] at this
        exact this
      have ev2 : pm_ev d 165 [.inr (.inr (some 131))] (W3, R, T) (some (.inr (.inl ((cpS (V 132) n P1).toNat : Int)))) (W3, R, T) := by
        have := m_roomReached (d := d) (V := W3) (by omega) hf hf0
        have e : sm (rrS W3 n) (nst (mmL (V 132) 0 n)) = ((cpS (V 132) n P1).toNat : Int) := by
          rw [Int.toNat_of_nonneg cb1.1, ← hroom]
          refine sm_congr fun s hs => ?_
          obtain ⟨n1, n2, n3⟩ := rf_net (tm := 1) (rm := 1) (V := pm_up (pm_up W3 131 10 1) 131 11 1) (A := V 132) (dl := 0) (lo := V 132 0) (n := n) (by rw [pm_up_fr (by decide), pm_up_fr (by decide)]; exact eA3) (by
            unfold rfS
            rw [pm_up_fr (show 132 ≠ 131 by decide), pm_up_fr (show 132 ≠ 131 by decide), pm_up_fr (show 134 ≠ 131 by decide), pm_up_fr (show 134 ≠ 131 by decide)]
            refine ⟨hf0.1, hf0.2.1, ?_, ?_, ?_, ?_, ?_⟩
            · rw [pm_up_ne (by omega), pm_up_ne (by omega)]; exact hf0.2.2.1
            · rw [pm_up_ne (by omega), pm_up_ne (by omega)]; exact hf0.2.2.2.1
            · rw [pm_up_ne (by omega), pm_up_ne (by omega)]; exact hf0.2.2.2.2
            · rw [pm_up_ne (by omega), pm_up_eq]; decide
            · rw [pm_up_eq]; decide) (by rw [pm_up_ne (by omega), pm_up_ne (by omega)]; exact v3) (by rw [pm_up_ne (by omega), pm_up_ne (by omega)]; exact v4) (by rw [pm_up_ne (by omega)]; exact pm_up_eq) pm_up_eq
          have hc : ∀ p, p < n → tkA (W3 132) (W3 131 4) (W3 131 3) (W3 134) p s = nC (V 132) n (V 132 0) 0 1 p s := by
            intro p hp
            have := n2 p hp s hs
            unfold cR at this
            rw [pm_up_eq, Int.mul_one, pm_up_ne (by omega), pm_up_ne (by omega), pm_up_ne (by omega), pm_up_ne (by omega), pm_up_fr (show 132 ≠ 131 by decide), pm_up_fr (show 132 ≠ 131 by decide), pm_up_fr (show 134 ≠ 131 by decide), pm_up_fr (show 134 ≠ 131 by decide)] at this
            exact this
          have hr : rmA (W3 131 4) (W3 134) s = nR (V 132) n (V 132 0) 0 1 s := by
            have := n3 s hs
            unfold rR at this
            rw [pm_up_eq, Int.mul_one, pm_up_ne (by omega), pm_up_ne (by omega), pm_up_fr (show 134 ≠ 131 by decide), pm_up_fr (show 134 ≠ 131 by decide)] at this
            exact this
          unfold rrS cutB
          cases hq : Q1 s with
          | true =>
            rw [if_neg (by rw [eQ, hq]; decide), if_pos rfl, hr]
          | false =>
            rw [if_pos ((eQ s).mpr hq), if_neg (by decide)]
            refine sm_congr fun p hp => ?_
            rw [hc p hp]
            cases hc : P1 p with
            | true => rw [if_neg (by rw [eP, hc]; decide), if_pos rfl]
            | false => rw [if_pos ((eP p).mpr hc), if_neg (by decide)]
        rw [e] at this
        exact this
      rw [pm_pu_s, ux_160_111]
      simp only [ux_160_0, ux_160_1, ux_160_2, ux_160_3, ux_160_6, ux_160_9, ux_160_10, ux_160_11, ux_160_12, ux_160_15, ux_160_16, ux_160_17, ux_160_20, ux_160_22, ux_160_23, ux_160_24, ux_160_25, ux_160_28, ux_160_29, ux_160_30, ux_160_31, ux_160_35, ux_160_37, ux_160_38, ux_160_41, ux_160_42, ux_160_43, ux_160_46, ux_160_47, ux_160_48, ux_160_51, ux_160_54, ux_160_56, ux_160_57, ux_160_60, ux_160_64, ux_160_65, ux_160_68, ux_160_70, ux_160_71, ux_160_72, ux_160_73, ux_160_74, ux_160_77, ux_160_78, ux_160_82, ux_160_83, ux_160_86, ux_160_87, ux_160_90, ux_160_94, ux_160_97, ux_160_98, ux_160_99, ux_160_102, ux_160_103, ux_160_104, ux_160_107, ux_160_108, ux_160_112, ux_160_113, ux_160_114, ux_160_117, ux_160_118, ux_160_128, ux_160_131, ux_160_132, ux_160_135, ux_160_138, ux_160_139, ux_160_142, ux_160_143, pm_i_c, pm_l_c, pm_q_c, pm_r_c, pm_li_0, pm_li_s, pm_ll_0, pm_ll_s, pm_lq_0, pm_lq_s, pm_s1, pm_s2, pm_kl, pm_wI, pm_wR, pm_pu_n, pm_pu_s, pm_wt, List.take_succ_cons, List.take_zero, List.take_nil, List.drop_succ_cons, List.drop_zero, List.reverse_cons, List.reverse_nil, List.nil_append, List.cons_append, List.length_cons, List.length_nil, true_and, and_true, true_implies, tn_l, tn_0, Int.reduceToNat, Int.reduceLE, Int.reduceLT, Int.reduceEq, Int.reduceAdd, Int.reduceSub, Int.reduceMul, Int.reduceNeg, Nat.reduceAdd, Nat.reduceLeDiff, Nat.reduceEqDiff, Nat.reduceSub, Option.some.injEq, Sum.inl.injEq, Sum.inr.injEq, or_true, true_or, reduceCtorEq, ne_eq, not_false_eq_true, not_true_eq_false, false_implies, implies_true, false_and, and_false, false_or, or_false, if_true, if_false, fr_131_0 hf, fr_131_1 hf, fr_131_5 hf, fr_131_7 hf, fr_131_8 hf, fr_131_9 hf, fr_131_12 hf, fr_131_13 hf, fr_131_14 hf, fr_131_15 hf, fr_131_19 hf, fr_131_20 hf, fr_131_21 hf, fr_131_22 hf, fr_131_23 hf, fr_131_24 hf, fg_131 hf, fv_131 hf, fb_132 hf, fb_133 hf, fb_134 hf, fb_135 hf, fb_136 hf, fb_137 hf, fb_138 hf, fb_139 hf, fb_140 hf, fb_141 hf, fb_142 hf, fb_143 hf, fb_144 hf, fb_145 hf, fb_146 hf, fb_147 hf, pm_ok_ev ev1, pm_ok_ev ev2]
      rw [ux_160_121]
      simp only [ux_160_0, ux_160_1, ux_160_2, ux_160_3, ux_160_6, ux_160_9, ux_160_10, ux_160_11, ux_160_12, ux_160_15, ux_160_16, ux_160_17, ux_160_20, ux_160_22, ux_160_23, ux_160_24, ux_160_25, ux_160_28, ux_160_29, ux_160_30, ux_160_31, ux_160_35, ux_160_37, ux_160_38, ux_160_41, ux_160_42, ux_160_43, ux_160_46, ux_160_47, ux_160_48, ux_160_51, ux_160_54, ux_160_56, ux_160_57, ux_160_60, ux_160_64, ux_160_65, ux_160_68, ux_160_70, ux_160_71, ux_160_72, ux_160_73, ux_160_74, ux_160_77, ux_160_78, ux_160_82, ux_160_83, ux_160_86, ux_160_87, ux_160_90, ux_160_94, ux_160_97, ux_160_98, ux_160_99, ux_160_102, ux_160_103, ux_160_104, ux_160_107, ux_160_108, ux_160_112, ux_160_113, ux_160_114, ux_160_117, ux_160_118, ux_160_124, ux_160_128, ux_160_131, ux_160_132, ux_160_135, ux_160_138, ux_160_139, ux_160_142, ux_160_143, pm_i_c, pm_l_c, pm_q_c, pm_r_c, pm_li_0, pm_li_s, pm_ll_0, pm_ll_s, pm_lq_0, pm_lq_s, pm_s1, pm_s2, pm_kl, pm_wI, pm_wR, pm_pu_n, pm_pu_s, pm_wt, List.take_succ_cons, List.take_zero, List.take_nil, List.drop_succ_cons, List.drop_zero, List.reverse_cons, List.reverse_nil, List.nil_append, List.cons_append, List.length_cons, List.length_nil, true_and, and_true, true_implies, tn_l, tn_0, Int.reduceToNat, Int.reduceLE, Int.reduceLT, Int.reduceEq, Int.reduceAdd, Int.reduceSub, Int.reduceMul, Int.reduceNeg, Nat.reduceAdd, Nat.reduceLeDiff, Nat.reduceEqDiff, Nat.reduceSub, Option.some.injEq, Sum.inl.injEq, Sum.inr.injEq, or_true, true_or, reduceCtorEq, ne_eq, not_false_eq_true, not_true_eq_false, false_implies, implies_true, false_and, and_false, false_or, or_false, if_true, if_false, fr_131_0 hf, fr_131_1 hf, fr_131_5 hf, fr_131_7 hf, fr_131_8 hf, fr_131_9 hf, fr_131_12 hf, fr_131_13 hf, fr_131_14 hf, fr_131_15 hf, fr_131_19 hf, fr_131_20 hf, fr_131_21 hf, fr_131_22 hf, fr_131_23 hf, fr_131_24 hf, fg_131 hf, fv_131 hf, fb_132 hf, fb_133 hf, fb_134 hf, fb_135 hf, fb_136 hf, fb_137 hf, fb_138 hf, fb_139 hf, fb_140 hf, fb_141 hf, fb_142 hf, fb_143 hf, fb_144 hf, fb_145 hf, fb_146 hf, fb_147 hf, pm_ok_ev (m_reduce (d := d) (V := W3) (by omega) hf (lnS (V 132) n P1).toNat (cpS (V 132) n P1).toNat (by omega))]
      obtain ⟨t1, t2, t3, t4⟩ := sp_bd hw cpos
      have hlt : cpS (V 132) n P1 < K := hK P1 (fun P'' => by have := m1 P''; omega) pos
      refine ih (cpS (V 132) n P1).toNat (by omega) _ P1 _ ⟨rfr_tr hr3 (fun q j w => by rw [pm_up_ne (by omega), pm_up_ne (by omega)]), ?_, ?_, ?_, cpos, ?_, ?_⟩ lpos ?_
      · refine ⟨?_, ?_, ?_, ?_, ?_⟩
        · rw [pm_up_fr (by decide), pm_up_fr (by decide)]; exact hf0.1
        · rw [pm_up_fr (by decide), pm_up_fr (by decide)]; exact hf0.2.1
        · rw [pm_up_ne (by omega), pm_up_ne (by omega)]; exact hf0.2.2.1
        · rw [pm_up_ne (by omega), pm_up_ne (by omega)]; exact hf0.2.2.2.1
        · rw [pm_up_ne (by omega), pm_up_ne (by omega)]; exact hf0.2.2.2.2
      · rw [pm_up_ne (by omega), pm_up_ne (by omega)]; exact v3
      · rw [pm_up_ne (by omega), pm_up_ne (by omega)]; exact v4
      · rw [pm_up_ne (by omega), pm_up_eq]; rfl
      · rw [pm_up_eq]; rfl
      · intro P' g1 g2
        have := dk_dec (l1 := lnS (V 132) n P1) (c1 := cpS (V 132) n P1) (l2 := lnS (V 132) n P') (c2 := cpS (V 132) n P') (a1 := (spA (V 132) n P : Int)) (b1 := (spB (V 132) n P : Int)) (a2 := (spA (V 132) n P1 : Int)) (b2 := (spB (V 132) n P1 : Int)) (by have := m1 P'; omega) pos g2 t4 (by omega) (by omega) cpos
        omega
theorem m_speed (hd : 9 ≤ d) (hf : fx R T) (hw : wf (V 132) n) (w : Int) : pm_ok d 160 [.inr (.inr (some 131)), .inl w] (V, R, T) (spQ V R T n w) := by
  obtain ⟨d, rfl⟩ : ∃ k, d = k + 1 := ⟨d - 1, by omega⟩
  refine pm_ok_iff.mpr ⟨(Nat.le_of_ble_eq_true rfl), ?_⟩
  show pm_w d 160 0 [some (.inr (.inr (some 131))), some (.inl w), none] [] (V, R, T) _
  have hA0 := hw.2.2.1
  have hn := hw.1
  have hA2 := hw.2.1
  have h15 : n ≠ 0 → 1 ≤ V 132 15 ∧ V 132 15 ≤ 60 := fun z => (hw.2.2.2.2 0 (by omega)).2.1
  simp only [ux_160_0, ux_160_1, ux_160_2, ux_160_3, ux_160_6, ux_160_9, ux_160_10, ux_160_12, ux_160_15, ux_160_16, ux_160_17, ux_160_20, ux_160_22, ux_160_23, ux_160_24, ux_160_25, ux_160_28, ux_160_29, ux_160_30, ux_160_31, ux_160_35, ux_160_37, ux_160_38, ux_160_41, ux_160_42, ux_160_43, ux_160_46, ux_160_47, ux_160_48, ux_160_51, ux_160_54, ux_160_56, ux_160_57, ux_160_60, ux_160_64, ux_160_65, ux_160_68, ux_160_70, ux_160_71, ux_160_72, ux_160_73, ux_160_74, ux_160_77, ux_160_78, ux_160_82, ux_160_83, ux_160_86, ux_160_87, ux_160_90, ux_160_94, ux_160_97, ux_160_98, ux_160_99, ux_160_102, ux_160_103, ux_160_104, ux_160_107, ux_160_108, ux_160_112, ux_160_113, ux_160_114, ux_160_117, ux_160_118, ux_160_128, ux_160_131, ux_160_132, ux_160_135, ux_160_138, ux_160_139, ux_160_142, ux_160_143, pm_i_c, pm_l_c, pm_q_c, pm_r_c, pm_li_0, pm_li_s, pm_ll_0, pm_ll_s, pm_lq_0, pm_lq_s, pm_s1, pm_s2, pm_kl, pm_wI, pm_wR, pm_pu_n, pm_pu_s, pm_wt, List.take_succ_cons, List.take_zero, List.take_nil, List.drop_succ_cons, List.drop_zero, List.reverse_cons, List.reverse_nil, List.nil_append, List.cons_append, List.length_cons, List.length_nil, true_and, and_true, true_implies, tn_l, tn_0, Int.reduceToNat, Int.reduceLE, Int.reduceLT, Int.reduceEq, Int.reduceAdd, Int.reduceSub, Int.reduceMul, Int.reduceNeg, Nat.reduceAdd, Nat.reduceLeDiff, Nat.reduceEqDiff, Nat.reduceSub, Option.some.injEq, Sum.inl.injEq, Sum.inr.injEq, or_true, true_or, reduceCtorEq, ne_eq, not_false_eq_true, not_true_eq_false, false_implies, implies_true, false_and, and_false, false_or, or_false, if_true, if_false, fr_131_0 hf, fr_131_1 hf, fr_131_5 hf, fr_131_7 hf, fr_131_8 hf, fr_131_9 hf, fr_131_12 hf, fr_131_13 hf, fr_131_14 hf, fr_131_15 hf, fr_131_19 hf, fr_131_20 hf, fr_131_21 hf, fr_131_22 hf, fr_131_23 hf, fr_131_24 hf, fg_131 hf, fv_131 hf, fb_132 hf, fb_133 hf, fb_134 hf, fb_135 hf, fb_136 hf, fb_137 hf, fb_138 hf, fb_139 hf, fb_140 hf, fb_141 hf, fb_142 hf, fb_143 hf, fb_144 hf, fb_145 hf, fb_146 hf, fb_147 hf, pm_ok_ev (m_in (d := d) (by omega) _ _ _)]
  by_cases c1 : 0 ≤ w ∧ w ≤ 1
  · rw [if_pos c1]
    refine ⟨fun _ => ?_, fun z => absurd (by decide) z⟩
    rw [ux_160_11]
    simp only [ux_160_0, ux_160_1, ux_160_2, ux_160_3, ux_160_6, ux_160_9, ux_160_10, ux_160_12, ux_160_15, ux_160_16, ux_160_17, ux_160_20, ux_160_22, ux_160_23, ux_160_24, ux_160_25, ux_160_28, ux_160_29, ux_160_30, ux_160_31, ux_160_35, ux_160_37, ux_160_38, ux_160_41, ux_160_42, ux_160_43, ux_160_46, ux_160_47, ux_160_48, ux_160_51, ux_160_54, ux_160_56, ux_160_57, ux_160_60, ux_160_64, ux_160_65, ux_160_68, ux_160_70, ux_160_71, ux_160_72, ux_160_73, ux_160_74, ux_160_77, ux_160_78, ux_160_82, ux_160_83, ux_160_86, ux_160_87, ux_160_90, ux_160_94, ux_160_97, ux_160_98, ux_160_99, ux_160_102, ux_160_103, ux_160_104, ux_160_107, ux_160_108, ux_160_112, ux_160_113, ux_160_114, ux_160_117, ux_160_118, ux_160_128, ux_160_131, ux_160_132, ux_160_135, ux_160_138, ux_160_139, ux_160_142, ux_160_143, pm_i_c, pm_l_c, pm_q_c, pm_r_c, pm_li_0, pm_li_s, pm_ll_0, pm_ll_s, pm_lq_0, pm_lq_s, pm_s1, pm_s2, pm_kl, pm_wI, pm_wR, pm_pu_n, pm_pu_s, pm_wt, List.take_succ_cons, List.take_zero, List.take_nil, List.drop_succ_cons, List.drop_zero, List.reverse_cons, List.reverse_nil, List.nil_append, List.cons_append, List.length_cons, List.length_nil, true_and, and_true, true_implies, tn_l, tn_0, Int.reduceToNat, Int.reduceLE, Int.reduceLT, Int.reduceEq, Int.reduceAdd, Int.reduceSub, Int.reduceMul, Int.reduceNeg, Nat.reduceAdd, Nat.reduceLeDiff, Nat.reduceEqDiff, Nat.reduceSub, Option.some.injEq, Sum.inl.injEq, Sum.inr.injEq, or_true, true_or, reduceCtorEq, ne_eq, not_false_eq_true, not_true_eq_false, false_implies, implies_true, false_and, and_false, false_or, or_false, if_true, if_false, fr_131_0 hf, fr_131_1 hf, fr_131_5 hf, fr_131_7 hf, fr_131_8 hf, fr_131_9 hf, fr_131_12 hf, fr_131_13 hf, fr_131_14 hf, fr_131_15 hf, fr_131_19 hf, fr_131_20 hf, fr_131_21 hf, fr_131_22 hf, fr_131_23 hf, fr_131_24 hf, fg_131 hf, fv_131 hf, fb_132 hf, fb_133 hf, fb_134 hf, fb_135 hf, fb_136 hf, fb_137 hf, fb_138 hf, fb_139 hf, fb_140 hf, fb_141 hf, fb_142 hf, fb_143 hf, fb_144 hf, fb_145 hf, fb_146 hf, fb_147 hf, hA2]
    refine ⟨fun hn0 => ?_, fun hn0 => ⟨V, _, rfl, fun _ _ _ => rfl, rfl, Or.inr (Or.inl ⟨c1, by omega, rfl⟩)⟩⟩
    have hn0 : n ≠ 0 := by omega
    refine pm_ok_mono (m_settle (d := d) (by omega) hf n hw (V 132 0) 0 (by decide) (by decide)) ?_
    rintro r h2 ⟨rfl, V2, rfl, hst⟩
    obtain ⟨a1, a2, a3, a4, a5⟩ := st_rf0 hw (by decide) (by decide) hA0.1 (by omega) hst
    have hA22 : V2 132 2 = n := by rw [a2]; exact hA2
    rw [pm_pu_n, ux_160_34]
    simp only [ux_160_0, ux_160_1, ux_160_2, ux_160_3, ux_160_6, ux_160_9, ux_160_10, ux_160_12, ux_160_15, ux_160_16, ux_160_17, ux_160_20, ux_160_22, ux_160_23, ux_160_24, ux_160_25, ux_160_28, ux_160_29, ux_160_30, ux_160_31, ux_160_35, ux_160_37, ux_160_38, ux_160_41, ux_160_42, ux_160_43, ux_160_46, ux_160_47, ux_160_48, ux_160_51, ux_160_54, ux_160_56, ux_160_57, ux_160_60, ux_160_64, ux_160_65, ux_160_68, ux_160_70, ux_160_71, ux_160_72, ux_160_73, ux_160_74, ux_160_77, ux_160_78, ux_160_82, ux_160_83, ux_160_86, ux_160_87, ux_160_90, ux_160_94, ux_160_97, ux_160_98, ux_160_99, ux_160_102, ux_160_103, ux_160_104, ux_160_107, ux_160_108, ux_160_112, ux_160_113, ux_160_114, ux_160_117, ux_160_118, ux_160_128, ux_160_131, ux_160_132, ux_160_135, ux_160_138, ux_160_139, ux_160_142, ux_160_143, pm_i_c, pm_l_c, pm_q_c, pm_r_c, pm_li_0, pm_li_s, pm_ll_0, pm_ll_s, pm_lq_0, pm_lq_s, pm_s1, pm_s2, pm_kl, pm_wI, pm_wR, pm_pu_n, pm_pu_s, pm_wt, List.take_succ_cons, List.take_zero, List.take_nil, List.drop_succ_cons, List.drop_zero, List.reverse_cons, List.reverse_nil, List.nil_append, List.cons_append, List.length_cons, List.length_nil, true_and, and_true, true_implies, tn_l, tn_0, Int.reduceToNat, Int.reduceLE, Int.reduceLT, Int.reduceEq, Int.reduceAdd, Int.reduceSub, Int.reduceMul, Int.reduceNeg, Nat.reduceAdd, Nat.reduceLeDiff, Nat.reduceEqDiff, Nat.reduceSub, Option.some.injEq, Sum.inl.injEq, Sum.inr.injEq, or_true, true_or, reduceCtorEq, ne_eq, not_false_eq_true, not_true_eq_false, false_implies, implies_true, false_and, and_false, false_or, or_false, if_true, if_false, fr_131_0 hf, fr_131_1 hf, fr_131_5 hf, fr_131_7 hf, fr_131_8 hf, fr_131_9 hf, fr_131_12 hf, fr_131_13 hf, fr_131_14 hf, fr_131_15 hf, fr_131_19 hf, fr_131_20 hf, fr_131_21 hf, fr_131_22 hf, fr_131_23 hf, fr_131_24 hf, fg_131 hf, fv_131 hf, fb_132 hf, fb_133 hf, fb_134 hf, fb_135 hf, fb_136 hf, fb_137 hf, fb_138 hf, fb_139 hf, fb_140 hf, fb_141 hf, fb_142 hf, fb_143 hf, fb_144 hf, fb_145 hf, fb_146 hf, fb_147 hf]
    have hr := a1.2.1.1
    have etk : ∀ p, p < n → ∀ s, s < nS (V 132) n 0 → tkA (V2 132) (V2 131 4) (V2 131 3) (V2 134) p s = nC (V 132) n (V 132 0) 0 1 p s := by
      intro p hp s hs
      unfold nS nst at hs
      unfold nC tkA mlB nmo
      rw [a2, a4, a5, hr s (by omega), hr (s + 1) (by omega), Int.mul_one]
    have evT : ∀ p : Nat, p < n → pm_ev d 161 [.inr (.inr (some 131)), .inl (p : Int)] (V2, R, T) (some (.inl (sm (fun s => nC (V 132) n (V 132 0) 0 1 p s) (nS (V 132) n 0)))) (V2, R, T) := by
      intro p hp
      have := m_allTaken (d := d) (V := V2) (by omega) hf a1 p hp
      have e : sm (fun s => tkA (V2 132) (V2 131 4) (V2 131 3) (V2 134) p s) (nst (mmL (V 132) 0 n)) = sm (fun s => nC (V 132) n (V 132 0) 0 1 p s) (nS (V 132) n 0) := sm_congr (fun s hs => etk p hp s hs)
      rw [e] at this
      exact this
    obtain ⟨nb1, nb2⟩ := net_bd hw
    have hz : ∀ p, p < n → (sm (fun s => nC (V 132) n (V 132 0) 0 1 p s) (nS (V 132) n 0) = 0 ↔ nwh (V 132) n p) := by
      intro p hp
      constructor
      · intro e s hs
        have := sm_eqs (n := nS (V 132) n 0) (f := fun _ => 0) (g := fun s => nC (V 132) n (V 132 0) 0 1 p s) (fun j hj => (nb1 p hp j hj).1) (by rw [sm_zero]; omega) s hs
        exact this.symm
      · intro e
        rw [sm_congr (g := fun _ => 0) (fun s hs => e s hs), sm_zero]
    -- the loop
    have k2 : (∀ p, p < n → ¬ nwh (V 132) n p) → ∀ y, pm_w d 160 63 [some (.inr (.inr (some 131))), some (.inl w), y] [] (V2, R, T) (spQ V R T n w) := by
      intro hN y
      have e0 : ((0 : Nat) : Int) = 0 := rfl
      have ev0 := evT 0 (by omega)
      -- the first set: piece 0 alone
      have l0 : lnS (V 132) n (fun p => decide (p = 0)) = V 132 15 := by
        unfold lnS lnP
        obtain ⟨k, rfl⟩ : ∃ k, n = k + 1 := ⟨n - 1, by omega⟩
        have : ∀ k, sm (fun p => if decide (p = 0) then nL (V 132) 1 p else 0) (k + 1) = V 132 15 := by
          intro k
          induction k with
          | zero => show 0 + (if decide (0 = 0) then nL (V 132) 1 0 else 0) = _; unfold nL; simp
          | succ k ihk => show sm _ (k + 1) + (if decide (k + 1 = 0) then _ else 0) = _; rw [ihk]; simp
        exact this k
      have c0 : cpS (V 132) n (fun p => decide (p = 0)) = sm (fun s => nC (V 132) n (V 132 0) 0 1 0 s) (nS (V 132) n 0) := by
        refine sm_congr fun s hs => ?_
        have : sm (fun p => if decide (p = 0) then nC (V 132) n (V 132 0) 0 1 p s else 0) n = nC (V 132) n (V 132 0) 0 1 0 s := by
          obtain ⟨k, hk⟩ : ∃ k, n = k + 1 := ⟨n - 1, by omega⟩
          have : ∀ k, sm (fun p => if decide (p = 0) then nC (V 132) n (V 132 0) 0 1 p s else 0) (k + 1) = nC (V 132) n (V 132 0) 0 1 0 s := by
            intro k
            induction k with
            | zero => show 0 + (if decide (0 = 0) then nC (V 132) n (V 132 0) 0 1 0 s else 0) = _; simp
            | succ k ihk => show sm _ (k + 1) + (if decide (k + 1 = 0) then _ else 0) = _; rw [ihk]; simp
          have h2 := this k
          rw [← hk] at h2
          exact h2
        rw [this]
        have := nb1 0 (by omega) s hs
        omega
      have cpos : 0 < cpS (V 132) n (fun p => decide (p = 0)) := cpS_pos hw hN (show 0 < n by omega) (by decide)
      have cb := cpS_bd hw (fun p => decide (p = 0))
      have h15 := h15 hn0
      have ev1 : pm_ev d 161 [.inr (.inr (some 131)), .inl 0] (V2, R, T) (some (.inl ((cpS (V 132) n (fun p => decide (p = 0))).toNat : Int))) (V2, R, T) := by
        rw [← c0] at ev0
        rw [Int.toNat_of_nonneg cb.1]
        exact ev0
      have e15 : V2 132 15 = ((lnS (V 132) n (fun p => decide (p = 0))).toNat : Int) := by rw [a2, l0]; omega
      rw [ux_160_63]
      simp only [ux_160_0, ux_160_1, ux_160_2, ux_160_3, ux_160_6, ux_160_9, ux_160_10, ux_160_12, ux_160_15, ux_160_16, ux_160_17, ux_160_20, ux_160_22, ux_160_23, ux_160_24, ux_160_25, ux_160_28, ux_160_29, ux_160_30, ux_160_31, ux_160_35, ux_160_37, ux_160_38, ux_160_41, ux_160_42, ux_160_43, ux_160_46, ux_160_47, ux_160_48, ux_160_51, ux_160_54, ux_160_56, ux_160_57, ux_160_60, ux_160_64, ux_160_65, ux_160_68, ux_160_70, ux_160_71, ux_160_72, ux_160_73, ux_160_74, ux_160_77, ux_160_78, ux_160_82, ux_160_83, ux_160_86, ux_160_87, ux_160_90, ux_160_94, ux_160_97, ux_160_98, ux_160_99, ux_160_102, ux_160_103, ux_160_104, ux_160_107, ux_160_108, ux_160_112, ux_160_113, ux_160_114, ux_160_117, ux_160_118, ux_160_128, ux_160_131, ux_160_132, ux_160_135, ux_160_138, ux_160_139, ux_160_142, ux_160_143, pm_i_c, pm_l_c, pm_q_c, pm_r_c, pm_li_0, pm_li_s, pm_ll_0, pm_ll_s, pm_lq_0, pm_lq_s, pm_s1, pm_s2, pm_kl, pm_wI, pm_wR, pm_pu_n, pm_pu_s, pm_wt, List.take_succ_cons, List.take_zero, List.take_nil, List.drop_succ_cons, List.drop_zero, List.reverse_cons, List.reverse_nil, List.nil_append, List.cons_append, List.length_cons, List.length_nil, true_and, and_true, true_implies, tn_l, tn_0, Int.reduceToNat, Int.reduceLE, Int.reduceLT, Int.reduceEq, Int.reduceAdd, Int.reduceSub, Int.reduceMul, Int.reduceNeg, Nat.reduceAdd, Nat.reduceLeDiff, Nat.reduceEqDiff, Nat.reduceSub, Option.some.injEq, Sum.inl.injEq, Sum.inr.injEq, or_true, true_or, reduceCtorEq, ne_eq, not_false_eq_true, not_true_eq_false, false_implies, implies_true, false_and, and_false, false_or, or_false, if_true, if_false, fr_131_0 hf, fr_131_1 hf, fr_131_5 hf, fr_131_7 hf, fr_131_8 hf, fr_131_9 hf, fr_131_12 hf, fr_131_13 hf, fr_131_14 hf, fr_131_15 hf, fr_131_19 hf, fr_131_20 hf, fr_131_21 hf, fr_131_22 hf, fr_131_23 hf, fr_131_24 hf, fg_131 hf, fv_131 hf, fb_132 hf, fb_133 hf, fb_134 hf, fb_135 hf, fb_136 hf, fb_137 hf, fb_138 hf, fb_139 hf, fb_140 hf, fb_141 hf, fb_142 hf, fb_143 hf, fb_144 hf, fb_145 hf, fb_146 hf, fb_147 hf, e15, pm_ok_ev ev1, pm_ok_ev (m_reduce (d := d) (V := V2) (by omega) hf (lnS (V 132) n (fun p => decide (p = 0))).toNat (cpS (V 132) n (fun p => decide (p = 0))).toNat (by omega))]
      refine sp_loop (by omega) hf hw w c1 hn0 hN 146641 _ (fun p => decide (p = 0)) _ ⟨rfr_tr a3 (fun q j w => by rw [pm_up_ne (by omega), pm_up_ne (by omega)]), ?_, ?_, ?_, cpos, ?_, ?_⟩ (by rw [l0]; omega) ?_
      · refine ⟨?_, ?_, ?_, ?_, ?_⟩
        · rw [pm_up_fr (by decide), pm_up_fr (by decide)]; exact a1.1
        · rw [pm_up_fr (by decide), pm_up_fr (by decide)]; exact a1.2.1
        · rw [pm_up_ne (by omega), pm_up_ne (by omega)]; exact a1.2.2.1
        · rw [pm_up_ne (by omega), pm_up_ne (by omega)]; exact a1.2.2.2.1
        · rw [pm_up_ne (by omega), pm_up_ne (by omega)]; exact a1.2.2.2.2
      · rw [pm_up_ne (by omega), pm_up_ne (by omega)]; exact a4
      · rw [pm_up_ne (by omega), pm_up_ne (by omega)]; exact a5
      · rw [pm_up_ne (by omega), pm_up_eq]; rfl
      · rw [pm_up_eq]; rfl
      · intro P' _ _
        have := (cpS_bd hw P').2
        omega
    refine pm_up0 (fun p => (∀ q, q < p → ¬ nwh (V 132) n q) → pm_w d 160 36 [some (.inr (.inr (some 131))), some (.inl w), some (.inl (p : Int))] [] (V2, R, T) (spQ V R T n w)) n ?_ ?_ (fun q hq => by omega)
    · intro hN
      rw [ux_160_36]
      simp only [ux_160_0, ux_160_1, ux_160_2, ux_160_3, ux_160_6, ux_160_9, ux_160_10, ux_160_12, ux_160_15, ux_160_16, ux_160_17, ux_160_20, ux_160_22, ux_160_23, ux_160_24, ux_160_25, ux_160_28, ux_160_29, ux_160_30, ux_160_31, ux_160_35, ux_160_37, ux_160_38, ux_160_41, ux_160_42, ux_160_43, ux_160_46, ux_160_47, ux_160_48, ux_160_51, ux_160_54, ux_160_56, ux_160_57, ux_160_60, ux_160_64, ux_160_65, ux_160_68, ux_160_70, ux_160_71, ux_160_72, ux_160_73, ux_160_74, ux_160_77, ux_160_78, ux_160_82, ux_160_83, ux_160_86, ux_160_87, ux_160_90, ux_160_94, ux_160_97, ux_160_98, ux_160_99, ux_160_102, ux_160_103, ux_160_104, ux_160_107, ux_160_108, ux_160_112, ux_160_113, ux_160_114, ux_160_117, ux_160_118, ux_160_128, ux_160_131, ux_160_132, ux_160_135, ux_160_138, ux_160_139, ux_160_142, ux_160_143, pm_i_c, pm_l_c, pm_q_c, pm_r_c, pm_li_0, pm_li_s, pm_ll_0, pm_ll_s, pm_lq_0, pm_lq_s, pm_s1, pm_s2, pm_kl, pm_wI, pm_wR, pm_pu_n, pm_pu_s, pm_wt, List.take_succ_cons, List.take_zero, List.take_nil, List.drop_succ_cons, List.drop_zero, List.reverse_cons, List.reverse_nil, List.nil_append, List.cons_append, List.length_cons, List.length_nil, true_and, and_true, true_implies, tn_l, tn_0, Int.reduceToNat, Int.reduceLE, Int.reduceLT, Int.reduceEq, Int.reduceAdd, Int.reduceSub, Int.reduceMul, Int.reduceNeg, Nat.reduceAdd, Nat.reduceLeDiff, Nat.reduceEqDiff, Nat.reduceSub, Option.some.injEq, Sum.inl.injEq, Sum.inr.injEq, or_true, true_or, reduceCtorEq, ne_eq, not_false_eq_true, not_true_eq_false, false_implies, implies_true, false_and, and_false, false_or, or_false, if_true, if_false, fr_131_0 hf, fr_131_1 hf, fr_131_5 hf, fr_131_7 hf, fr_131_8 hf, fr_131_9 hf, fr_131_12 hf, fr_131_13 hf, fr_131_14 hf, fr_131_15 hf, fr_131_19 hf, fr_131_20 hf, fr_131_21 hf, fr_131_22 hf, fr_131_23 hf, fr_131_24 hf, fg_131 hf, fv_131 hf, fb_132 hf, fb_133 hf, fb_134 hf, fb_135 hf, fb_136 hf, fb_137 hf, fb_138 hf, fb_139 hf, fb_140 hf, fb_141 hf, fb_142 hf, fb_143 hf, fb_144 hf, fb_145 hf, fb_146 hf, fb_147 hf, hA22]
      exact ⟨fun _ => k2 hN _, fun z => absurd (Int.le_refl _) z⟩
    · intro p hp ih hN
      rw [ux_160_36]
      simp only [ux_160_0, ux_160_1, ux_160_2, ux_160_3, ux_160_6, ux_160_9, ux_160_10, ux_160_12, ux_160_15, ux_160_16, ux_160_17, ux_160_20, ux_160_22, ux_160_23, ux_160_24, ux_160_25, ux_160_28, ux_160_29, ux_160_30, ux_160_31, ux_160_35, ux_160_37, ux_160_38, ux_160_41, ux_160_42, ux_160_43, ux_160_46, ux_160_47, ux_160_48, ux_160_51, ux_160_54, ux_160_56, ux_160_57, ux_160_60, ux_160_64, ux_160_65, ux_160_68, ux_160_70, ux_160_71, ux_160_72, ux_160_73, ux_160_74, ux_160_77, ux_160_78, ux_160_82, ux_160_83, ux_160_86, ux_160_87, ux_160_90, ux_160_94, ux_160_97, ux_160_98, ux_160_99, ux_160_102, ux_160_103, ux_160_104, ux_160_107, ux_160_108, ux_160_112, ux_160_113, ux_160_114, ux_160_117, ux_160_118, ux_160_128, ux_160_131, ux_160_132, ux_160_135, ux_160_138, ux_160_139, ux_160_142, ux_160_143, pm_i_c, pm_l_c, pm_q_c, pm_r_c, pm_li_0, pm_li_s, pm_ll_0, pm_ll_s, pm_lq_0, pm_lq_s, pm_s1, pm_s2, pm_kl, pm_wI, pm_wR, pm_pu_n, pm_pu_s, pm_wt, List.take_succ_cons, List.take_zero, List.take_nil, List.drop_succ_cons, List.drop_zero, List.reverse_cons, List.reverse_nil, List.nil_append, List.cons_append, List.length_cons, List.length_nil, true_and, and_true, true_implies, tn_l, tn_0, Int.reduceToNat, Int.reduceLE, Int.reduceLT, Int.reduceEq, Int.reduceAdd, Int.reduceSub, Int.reduceMul, Int.reduceNeg, Nat.reduceAdd, Nat.reduceLeDiff, Nat.reduceEqDiff, Nat.reduceSub, Option.some.injEq, Sum.inl.injEq, Sum.inr.injEq, or_true, true_or, reduceCtorEq, ne_eq, not_false_eq_true, not_true_eq_false, false_implies, implies_true, false_and, and_false, false_or, or_false, if_true, if_false, fr_131_0 hf, fr_131_1 hf, fr_131_5 hf, fr_131_7 hf, fr_131_8 hf, fr_131_9 hf, fr_131_12 hf, fr_131_13 hf, fr_131_14 hf, fr_131_15 hf, fr_131_19 hf, fr_131_20 hf, fr_131_21 hf, fr_131_22 hf, fr_131_23 hf, fr_131_24 hf, fg_131 hf, fv_131 hf, fb_132 hf, fb_133 hf, fb_134 hf, fb_135 hf, fb_136 hf, fb_137 hf, fb_138 hf, fb_139 hf, fb_140 hf, fb_141 hf, fb_142 hf, fb_143 hf, fb_144 hf, fb_145 hf, fb_146 hf, fb_147 hf, hA22, pm_ok_ev (evT p hp)]
      refine ⟨fun z => by omega, fun _ => ⟨fun z => ⟨by unfold pm_I32; omega, ih (fun q hq => ?_)⟩, fun z => ⟨V2, _, rfl, a3, rfl, Or.inr (Or.inr (Or.inl ⟨c1, hn0, ⟨p, hp, (hz p hp).mp (Classical.not_not.mp z)⟩, rfl⟩))⟩⟩⟩
      by_cases e : q = p
      · subst e; exact fun w => z ((hz q hp).mpr w)
      · exact hN q (by omega)
  · rw [if_neg c1]
    exact ⟨fun z => absurd rfl z, fun _ => ⟨V, _, rfl, fun _ _ _ => rfl, rfl, Or.inl ⟨c1, rfl⟩⟩⟩
end
