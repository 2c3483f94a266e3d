/-! THE CLASS: speed -/
theorem btf_all : ∀ n, btf (fun _ => true) n + 1 = 2 ^ n
  | 0 => rfl
  | n + 1 => by
    have ih := btf_all n
    show btf (fun _ => true) n + 2 ^ n + 1 = 2 ^ (n + 1)
    rw [Nat.pow_succ]
    omega
theorem nmo_60 {A : Nat → Int} {n j : Nat} (hw : wf A n) (hj : j < (mmL A 0 n).length) : 0 ≤ nmo A n 0 j ∧ nmo A n 0 j ≤ 60 := by
  have hm : nmo A n 0 j ∈ mmL A 0 n := by
    unfold nmo
    rw [List.getD_eq_getElem?_getD, List.getElem?_eq_getElem hj]
    exact List.getElem_mem hj
  obtain ⟨p, hp, h⟩ := mmL_mem.mp hm
  have w1 := hw.2.2.2.1
  have w2 := (hw.2.2.2.2 p hp).2.2.1
  have w3 := (hw.2.2.2.2 p hp).2.2.2.1
  have w4 := (hw.2.2.2.2 p hp).2.2.2.2.2.2.2.1
  rcases h with h | h | ⟨h0, h | h⟩
  · omega
  · unfold lsA at h
    split at h <;> omega
  · have := w4 h0
    omega
  · have := w4 h0
    omega
theorem nR_tel {A : Nat → Int} {n : Nat} : ∀ S, sm (nR A n (A 0) 0 1) S = A 0 * (nmo A n 0 S - nmo A n 0 0)
  | 0 => by rw [Int.sub_self, Int.mul_zero]; rfl
  | S + 1 => by
    show sm (nR A n (A 0) 0 1) S + nR A n (A 0) 0 1 S = _
    rw [nR_tel S]
    unfold nR rmA
    rw [Int.mul_one, ← Int.mul_add]
    congr 1
    omega
theorem cpS_360 {A : Nat → Int} {n : Nat} (hw : wf A n) (P : Nat → Bool) : cpS A n P ≤ 360 := by
  have h1 : cpS A n P ≤ sm (nR A n (A 0) 0 1) (nS A n 0) := sm_le fun s _ => Int.min_le_left _ _
  rw [nR_tel] at h1
  have hA0 := hw.2.2.1
  by_cases hz : nS A n 0 = 0
  · rw [hz, Int.sub_self, Int.mul_zero] at h1
    omega
  · have hl : nS A n 0 < (mmL A 0 n).length := by unfold nS nst at hz ⊢; omega
    have b1 := nmo_60 hw hl
    have b2 := nmo_60 (j := 0) hw (by omega)
    have h2 : A 0 * (nmo A n 0 (nS A n 0) - nmo A n 0 0) ≤ A 0 * 60 := Int.mul_le_mul_of_nonneg_left (by omega) (by omega)
    omega
theorem ntB_sp {A : Nat → Int} {n : Nat} (hw : wf A n) {a b : Int} (ha : 0 ≤ a ∧ a ≤ 720) (hb : 0 ≤ b ∧ b ≤ 360) : ntB n (nS A n 0) (nL A b) (nC A n (A 0) 0 a) (nR A n (A 0) 0 a) ∧ sm (nL A b) n < 1000000 := by
  obtain ⟨n1, n2⟩ := net_bd hw
  have hl1 : ∀ p, p < n → 0 ≤ nL A b p ∧ nL A b p ≤ 60 * 360 := fun p hp => by
    have := (hw.2.2.2.2 p hp).2.1
    unfold nL
    exact mulbd (by omega) (by omega) hb.1 hb.2
  refine ⟨⟨hw.1, (nS_bd hw).1, fun p hp => by have := hl1 p hp; omega, fun p hp s hs => ?_, fun s hs => ?_⟩, ?_⟩
  · have h1 := n1 p hp s hs
    have h2 := n2 s hs
    have e : nC A n (A 0) 0 a p s = nC A n (A 0) 0 1 p s * a := by unfold nC; rw [Int.mul_one]
    rw [e]
    have := mulbd (x := nC A n (A 0) 0 1 p s) (y := a) (a := 3120) (b := 720) h1.1 (by omega) ha.1 ha.2
    omega
  · have h2 := n2 s hs
    have e : nR A n (A 0) 0 a s = nR A n (A 0) 0 1 s * a := by unfold nR; rw [Int.mul_one]
    rw [e]
    have := mulbd (x := nR A n (A 0) 0 1 s) (y := a) (a := 3120) (b := 720) (by omega) (by omega) ha.1 ha.2
    omega
  · have := sm_bd (n := n) (f := nL A b) (B := 60 * 360) hl1
    have := hw.1
    omega
section
variable {d : Nat} {h : pm_H} {V V2 W : Nat → Nat → Int} {R : Nat → Nat → Option Nat} {T : List (Nat × Nat)} {n : Nat} {A : Nat → Int}
theorem c_commonDivisor (hd : 1 ≤ d) (x y : Nat) (hy : y < 1000000) : pm_ev d 101 [.inl (x : Int), .inl (y : Int)] h (some (.inl ((max (Nat.gcd x y) 1 : Nat) : Int))) h := by
  refine pm_ev_of hd (Nat.le_of_ble_eq_true rfl) ?_
  show pm_w (d - 1) 101 0 [some (.inl (x : Int)), some (.inl (y : Int)), none, none, none, none] [] h _
  simp only [ux_101_0, ux_101_1, ux_101_2, ux_101_3, ux_101_4, ux_101_5, ux_101_9, ux_101_12, ux_101_15, ux_101_16, ux_101_19, ux_101_20, ux_101_21, ux_101_22, ux_101_24, ux_101_25, ux_101_26, ux_101_28, ux_101_29, ux_101_32, ux_101_36, ux_101_37, ux_101_40, pm_i_c, pm_l_c, pm_q_c, pm_r_c, pm_li_0, pm_li_s, pm_ll_0, pm_ll_s, pm_lq_0, pm_lq_s, pm_s1, pm_s2, pm_kl, pm_wI, pm_wR, pm_pu_n, pm_pu_s, pm_wt, List.take_succ_cons, List.take_zero, List.take_nil, List.drop_succ_cons, List.drop_zero, List.reverse_cons, List.reverse_nil, List.nil_append, List.cons_append, List.length_cons, List.length_nil, true_and, and_true, true_implies, tn_l, tn_0, Int.reduceToNat, Int.reduceLE, Int.reduceLT, Int.reduceEq, Int.reduceAdd, Int.reduceSub, Int.reduceMul, Int.reduceNeg, Nat.reduceAdd, Nat.reduceLeDiff, Nat.reduceEqDiff, Nat.reduceSub, Option.some.injEq, Sum.inl.injEq, Sum.inr.injEq, or_true, true_or, reduceCtorEq, ne_eq, not_false_eq_true, not_true_eq_false, false_implies, implies_true, false_and, and_false, false_or, or_false, if_true, if_false]
  have out : ∀ (a b j : Nat) (y5 : Option pm_V), Nat.gcd x y = a → pm_w (d - 1) 101 35 [some (.inl (x : Int)), some (.inl (y : Int)), some (.inl (a : Int)), some (.inl (b : Int)), some (.inl (j : Int)), y5] [] h (fun r2 h2 => r2 = some (.inl ((max (Nat.gcd x y) 1 : Nat) : Int)) ∧ h2 = h) := by
    intro a b j y5 hg
    rw [ux_101_35]
    simp only [ux_101_0, ux_101_1, ux_101_2, ux_101_3, ux_101_4, ux_101_5, ux_101_9, ux_101_12, ux_101_15, ux_101_16, ux_101_19, ux_101_20, ux_101_21, ux_101_22, ux_101_24, ux_101_25, ux_101_26, ux_101_28, ux_101_29, ux_101_32, ux_101_36, ux_101_37, ux_101_40, pm_i_c, pm_l_c, pm_q_c, pm_r_c, pm_li_0, pm_li_s, pm_ll_0, pm_ll_s, pm_lq_0, pm_lq_s, pm_s1, pm_s2, pm_kl, pm_wI, pm_wR, pm_pu_n, pm_pu_s, pm_wt, List.take_succ_cons, List.take_zero, List.take_nil, List.drop_succ_cons, List.drop_zero, List.reverse_cons, List.reverse_nil, List.nil_append, List.cons_append, List.length_cons, List.length_nil, true_and, and_true, true_implies, tn_l, tn_0, Int.reduceToNat, Int.reduceLE, Int.reduceLT, Int.reduceEq, Int.reduceAdd, Int.reduceSub, Int.reduceMul, Int.reduceNeg, Nat.reduceAdd, Nat.reduceLeDiff, Nat.reduceEqDiff, Nat.reduceSub, Option.some.injEq, Sum.inl.injEq, Sum.inr.injEq, or_true, true_or, reduceCtorEq, ne_eq, not_false_eq_true, not_true_eq_false, false_implies, implies_true, false_and, and_false, false_or, or_false, if_true, if_false]
    rw [hg]
    congr 2
    omega
  have key : ∀ (k a b j : Nat) (y5 : Option pm_V), b ≤ k → j + k < 1000000 → Nat.gcd a b = Nat.gcd x y → pm_w (d - 1) 101 7 [some (.inl (x : Int)), some (.inl (y : Int)), some (.inl (a : Int)), some (.inl (b : Int)), some (.inl (j : Int)), y5] [] h (fun r2 h2 => r2 = some (.inl ((max (Nat.gcd x y) 1 : Nat) : Int)) ∧ h2 = h) := by
    intro k
    induction k with
    | zero =>
      intro a b j y5 hb hj hg
      have o := out a b j y5 (by rw [← hg, show b = 0 by omega, Nat.gcd_zero_right])
      rw [ux_101_7]
      simp only [ux_101_0, ux_101_1, ux_101_2, ux_101_3, ux_101_4, ux_101_5, ux_101_9, ux_101_12, ux_101_15, ux_101_16, ux_101_19, ux_101_20, ux_101_21, ux_101_22, ux_101_24, ux_101_25, ux_101_26, ux_101_28, ux_101_29, ux_101_32, ux_101_36, ux_101_37, ux_101_40, pm_i_c, pm_l_c, pm_q_c, pm_r_c, pm_li_0, pm_li_s, pm_ll_0, pm_ll_s, pm_lq_0, pm_lq_s, pm_s1, pm_s2, pm_kl, pm_wI, pm_wR, pm_pu_n, pm_pu_s, pm_wt, List.take_succ_cons, List.take_zero, List.take_nil, List.drop_succ_cons, List.drop_zero, List.reverse_cons, List.reverse_nil, List.nil_append, List.cons_append, List.length_cons, List.length_nil, true_and, and_true, true_implies, tn_l, tn_0, Int.reduceToNat, Int.reduceLE, Int.reduceLT, Int.reduceEq, Int.reduceAdd, Int.reduceSub, Int.reduceMul, Int.reduceNeg, Nat.reduceAdd, Nat.reduceLeDiff, Nat.reduceEqDiff, Nat.reduceSub, Option.some.injEq, Sum.inl.injEq, Sum.inr.injEq, or_true, true_or, reduceCtorEq, ne_eq, not_false_eq_true, not_true_eq_false, false_implies, implies_true, false_and, and_false, false_or, or_false, if_true, if_false]
      exact ⟨fun _ => o, fun _ => ⟨fun _ => o, fun z => by omega⟩⟩
    | succ k ih =>
      intro a b j y5 hb hj hg
      rw [ux_101_7]
      simp only [ux_101_0, ux_101_1, ux_101_2, ux_101_3, ux_101_4, ux_101_5, ux_101_9, ux_101_12, ux_101_15, ux_101_16, ux_101_19, ux_101_20, ux_101_21, ux_101_22, ux_101_24, ux_101_25, ux_101_26, ux_101_28, ux_101_29, ux_101_32, ux_101_36, ux_101_37, ux_101_40, pm_i_c, pm_l_c, pm_q_c, pm_r_c, pm_li_0, pm_li_s, pm_ll_0, pm_ll_s, pm_lq_0, pm_lq_s, pm_s1, pm_s2, pm_kl, pm_wI, pm_wR, pm_pu_n, pm_pu_s, pm_wt, List.take_succ_cons, List.take_zero, List.take_nil, List.drop_succ_cons, List.drop_zero, List.reverse_cons, List.reverse_nil, List.nil_append, List.cons_append, List.length_cons, List.length_nil, true_and, and_true, true_implies, tn_l, tn_0, Int.reduceToNat, Int.reduceLE, Int.reduceLT, Int.reduceEq, Int.reduceAdd, Int.reduceSub, Int.reduceMul, Int.reduceNeg, Nat.reduceAdd, Nat.reduceLeDiff, Nat.reduceEqDiff, Nat.reduceSub, Option.some.injEq, Sum.inl.injEq, Sum.inr.injEq, or_true, true_or, reduceCtorEq, ne_eq, not_false_eq_true, not_true_eq_false, false_implies, implies_true, false_and, and_false, false_or, or_false, if_true, if_false, emd]
      refine ⟨fun z => by omega, fun _ => ⟨fun z => out a b j y5 (by rw [← hg, show b = 0 by omega, Nat.gcd_zero_right]), fun z => ?_⟩⟩
      have hpos : 0 < b := by omega
      have := Nat.mod_lt a hpos
      exact ⟨by omega, by unfold pm_I32; omega, ih b (a % b) (j + 1) _ (by omega) (by omega) (by rw [← hg, Nat.gcd_comm b, ← Nat.gcd_rec, Nat.gcd_comm])⟩
  exact key y x y 0 none (Nat.le_refl _) (by omega) rfl
theorem c_lengthsOf (hd : 1 ≤ d) (hf : fx R T) (hw : wf A n) (hO : frO V 45 A n (A 0) 0) (P : Nat → Bool) : pm_ev d 99 [.inr (.inr (some 45)), .inl (btf P n : Int)] (V, R, T) (some (.inl (lnS A n P))) (V, R, T) := by
  refine pm_ev_of hd (Nat.le_of_ble_eq_true rfl) ?_
  show pm_w (d - 1) 99 0 [some (.inr (.inr (some 45))), some (.inl (btf P n : Int)), none, none] [] (V, R, T) _
  have hn := hw.1
  have hb := fx_45 hf
  simp only [ux_99_0, ux_99_1, ux_99_2, ux_99_3, ux_99_5, ux_99_6, ux_99_9, ux_99_12, ux_99_13, ux_99_14, ux_99_15, ux_99_16, ux_99_17, ux_99_20, ux_99_21, ux_99_22, ux_99_25, ux_99_26, ux_99_27, ux_99_28, ux_99_29, ux_99_32, ux_99_35, ux_99_36, pm_i_c, pm_l_c, pm_q_c, pm_r_c, pm_li_0, pm_li_s, pm_ll_0, pm_ll_s, pm_lq_0, pm_lq_s, pm_s1, pm_s2, pm_kl, pm_wI, pm_wR, pm_pu_n, pm_pu_s, pm_wt, List.take_succ_cons, List.take_zero, List.take_nil, List.drop_succ_cons, List.drop_zero, List.reverse_cons, List.reverse_nil, List.nil_append, List.cons_append, List.length_cons, List.length_nil, true_and, and_true, true_implies, tn_l, tn_0, Int.reduceToNat, Int.reduceLE, Int.reduceLT, Int.reduceEq, Int.reduceAdd, Int.reduceSub, Int.reduceMul, Int.reduceNeg, Nat.reduceAdd, Nat.reduceLeDiff, Nat.reduceEqDiff, Nat.reduceSub, Option.some.injEq, Sum.inl.injEq, Sum.inr.injEq, or_true, true_or, reduceCtorEq, ne_eq, not_false_eq_true, not_true_eq_false, false_implies, implies_true, false_and, and_false, false_or, or_false, if_true, if_false, fr_45_4 hf, fr_45_5 hf, fr_45_6 hf, fr_45_7 hf, fg_45 hf, fv_45 hf, fb_47 hf]
  refine pm_up0 (fun p => pm_w (d - 1) 99 4 [some (.inr (.inr (some 45))), some (.inl (btf P n : Int)), some (.inl (sm (fun p => if P p then nL A 1 p else 0) p)), some (.inl (p : Int))] [] (V, R, T) (fun r2 h2 => r2 = some (.inl (lnS A n P)) ∧ h2 = (V, R, T))) n ?_ ?_
  · rw [ux_99_4]
    simp only [ux_99_0, ux_99_1, ux_99_2, ux_99_3, ux_99_5, ux_99_6, ux_99_9, ux_99_12, ux_99_13, ux_99_14, ux_99_15, ux_99_16, ux_99_17, ux_99_20, ux_99_21, ux_99_22, ux_99_25, ux_99_26, ux_99_27, ux_99_28, ux_99_29, ux_99_32, ux_99_35, ux_99_36, pm_i_c, pm_l_c, pm_q_c, pm_r_c, pm_li_0, pm_li_s, pm_ll_0, pm_ll_s, pm_lq_0, pm_lq_s, pm_s1, pm_s2, pm_kl, pm_wI, pm_wR, pm_pu_n, pm_pu_s, pm_wt, List.take_succ_cons, List.take_zero, List.take_nil, List.drop_succ_cons, List.drop_zero, List.reverse_cons, List.reverse_nil, List.nil_append, List.cons_append, List.length_cons, List.length_nil, true_and, and_true, true_implies, tn_l, tn_0, Int.reduceToNat, Int.reduceLE, Int.reduceLT, Int.reduceEq, Int.reduceAdd, Int.reduceSub, Int.reduceMul, Int.reduceNeg, Nat.reduceAdd, Nat.reduceLeDiff, Nat.reduceEqDiff, Nat.reduceSub, Option.some.injEq, Sum.inl.injEq, Sum.inr.injEq, or_true, true_or, reduceCtorEq, ne_eq, not_false_eq_true, not_true_eq_false, false_implies, implies_true, false_and, and_false, false_or, or_false, if_true, if_false, fr_45_4 hf, fr_45_5 hf, fr_45_6 hf, fr_45_7 hf, fg_45 hf, fv_45 hf, fb_47 hf, hO.2.1]
    exact ⟨fun _ => rfl, fun z => absurd (Int.le_refl _) z⟩
  · intro p hp ih
    have ebit := btf_bit (P := P) hp
    have e1 : (btf P n : Int) / 2 ^ p = ((btf P n / 2 ^ p : Nat) : Int) := by
      rw [Int.natCast_ediv, Int.natCast_pow]; rfl
    have ep : V 47 p = A (15 + p) := (hO.2.2.2.2.2 p hp).1
    have wp := (hw.2.2.2.2 p hp).2.1
    have sb := sm_bd (n := p) (f := fun p => if P p then nL A 1 p else 0) (B := 60) (fun j hj => by
      have := (hw.2.2.2.2 j (by omega)).2.1
      unfold nL
      split <;> omega)
    rw [show sm (fun p => if P p then nL A 1 p else 0) (p + 1) = sm (fun p => if P p then nL A 1 p else 0) p + (if P p then nL A 1 p else 0) from rfl] at ih
    generalize sm (fun p => if P p then nL A 1 p else 0) p = v at *
    rw [ux_99_4]
    simp only [ux_99_0, ux_99_1, ux_99_2, ux_99_3, ux_99_5, ux_99_6, ux_99_9, ux_99_12, ux_99_13, ux_99_14, ux_99_15, ux_99_16, ux_99_17, ux_99_20, ux_99_21, ux_99_22, ux_99_25, ux_99_26, ux_99_27, ux_99_28, ux_99_29, ux_99_32, ux_99_35, ux_99_36, pm_i_c, pm_l_c, pm_q_c, pm_r_c, pm_li_0, pm_li_s, pm_ll_0, pm_ll_s, pm_lq_0, pm_lq_s, pm_s1, pm_s2, pm_kl, pm_wI, pm_wR, pm_pu_n, pm_pu_s, pm_wt, List.take_succ_cons, List.take_zero, List.take_nil, List.drop_succ_cons, List.drop_zero, List.reverse_cons, List.reverse_nil, List.nil_append, List.cons_append, List.length_cons, List.length_nil, true_and, and_true, true_implies, tn_l, tn_0, Int.reduceToNat, Int.reduceLE, Int.reduceLT, Int.reduceEq, Int.reduceAdd, Int.reduceSub, Int.reduceMul, Int.reduceNeg, Nat.reduceAdd, Nat.reduceLeDiff, Nat.reduceEqDiff, Nat.reduceSub, Option.some.injEq, Sum.inl.injEq, Sum.inr.injEq, or_true, true_or, reduceCtorEq, ne_eq, not_false_eq_true, not_true_eq_false, false_implies, implies_true, false_and, and_false, false_or, or_false, if_true, if_false, fr_45_4 hf, fr_45_5 hf, fr_45_6 hf, fr_45_7 hf, fg_45 hf, fv_45 hf, fb_47 hf, hO.2.1, ep, e1, Int.toNat_natCast, Int.reduceToNat, Nat.and_one_is_mod, ebit]
    cases hP : P p with
    | true =>
      rw [hP, if_pos rfl, show nL A 1 p = A (15 + p) by unfold nL; omega] at ih
      refine ⟨fun z => by omega, fun _ => ⟨⟨by omega, by omega, by omega⟩, (by first | exact Int.natCast_nonneg _ | exact ⟨by decide, Int.natCast_nonneg _⟩), fun z => absurd z (by decide), fun _ => ⟨by omega, by unfold pm_I32; omega, by unfold pm_I32; omega, ih⟩⟩⟩
    | false =>
      rw [hP, if_neg (by decide), Int.add_zero] at ih
      refine ⟨fun z => by omega, fun _ => ⟨⟨by omega, by omega, by omega⟩, (by first | exact Int.natCast_nonneg _ | exact ⟨by decide, Int.natCast_nonneg _⟩), fun _ => ⟨by unfold pm_I32; omega, ih⟩, fun z => absurd rfl z⟩⟩
theorem c_takesOf (hd : 3 ≤ d) (hf : fx R T) (hw : wf A n) (hO : frO V 45 A n (A 0) 0) (P : Nat → Bool) : pm_ev d 100 [.inr (.inr (some 45)), .inl (btf P n : Int)] (V, R, T) (some (.inl (cpS A n P))) (V, R, T) := by
  refine pm_ev_of (by omega) (Nat.le_of_ble_eq_true rfl) ?_
  show pm_w (d - 1) 100 0 [some (.inr (.inr (some 45))), some (.inl (btf P n : Int)), none, none, none, none] [] (V, R, T) _
  have hn := hw.1
  have hA0 := hw.2.2.1
  have hb := fx_45 hf
  obtain ⟨n1, n2⟩ := net_bd hw
  obtain ⟨S1, S2, S3⟩ := nS_bd (dl := 0) hw
  simp only [ux_100_0, ux_100_1, ux_100_2, ux_100_3, ux_100_5, ux_100_6, ux_100_9, ux_100_12, ux_100_13, ux_100_15, ux_100_16, ux_100_20, ux_100_21, ux_100_24, ux_100_27, ux_100_28, ux_100_30, ux_100_31, ux_100_32, ux_100_33, ux_100_36, ux_100_38, ux_100_39, ux_100_41, ux_100_42, ux_100_45, ux_100_46, ux_100_48, ux_100_51, ux_100_55, ux_100_57, ux_100_58, ux_100_59, ux_100_62, ux_100_65, ux_100_66, ux_100_67, ux_100_70, ux_100_73, ux_100_74, pm_i_c, pm_l_c, pm_q_c, pm_r_c, pm_li_0, pm_li_s, pm_ll_0, pm_ll_s, pm_lq_0, pm_lq_s, pm_s1, pm_s2, pm_kl, pm_wI, pm_wR, pm_pu_n, pm_pu_s, pm_wt, List.take_succ_cons, List.take_zero, List.take_nil, List.drop_succ_cons, List.drop_zero, List.reverse_cons, List.reverse_nil, List.nil_append, List.cons_append, List.length_cons, List.length_nil, true_and, and_true, true_implies, tn_l, tn_0, Int.reduceToNat, Int.reduceLE, Int.reduceLT, Int.reduceEq, Int.reduceAdd, Int.reduceSub, Int.reduceMul, Int.reduceNeg, Nat.reduceAdd, Nat.reduceLeDiff, Nat.reduceEqDiff, Nat.reduceSub, Option.some.injEq, Sum.inl.injEq, Sum.inr.injEq, or_true, true_or, reduceCtorEq, ne_eq, not_false_eq_true, not_true_eq_false, false_implies, implies_true, false_and, and_false, false_or, or_false, if_true, if_false, fr_45_4 hf, fr_45_5 hf, fr_45_6 hf, fr_45_7 hf, fg_45 hf, fv_45 hf]
  refine pm_up0 (fun s => ∀ y4 y5, pm_w (d - 1) 100 4 [some (.inr (.inr (some 45))), some (.inl (btf P n : Int)), some (.inl (sm (fun s => min (nR A n (A 0) 0 1 s) (sm (fun p => if P p then nC A n (A 0) 0 1 p s else 0) n)) s)), some (.inl (s : Int)), y4, y5] [] (V, R, T) (fun r2 h2 => r2 = some (.inl (cpS A n P)) ∧ h2 = (V, R, T))) (nS A n 0) ?_ ?_ none none
  · intro y4 y5
    rw [ux_100_4]
    simp only [ux_100_0, ux_100_1, ux_100_2, ux_100_3, ux_100_5, ux_100_6, ux_100_9, ux_100_12, ux_100_13, ux_100_15, ux_100_16, ux_100_20, ux_100_21, ux_100_24, ux_100_27, ux_100_28, ux_100_30, ux_100_31, ux_100_32, ux_100_33, ux_100_36, ux_100_38, ux_100_39, ux_100_41, ux_100_42, ux_100_45, ux_100_46, ux_100_48, ux_100_51, ux_100_55, ux_100_57, ux_100_58, ux_100_59, ux_100_62, ux_100_65, ux_100_66, ux_100_67, ux_100_70, ux_100_73, ux_100_74, pm_i_c, pm_l_c, pm_q_c, pm_r_c, pm_li_0, pm_li_s, pm_ll_0, pm_ll_s, pm_lq_0, pm_lq_s, pm_s1, pm_s2, pm_kl, pm_wI, pm_wR, pm_pu_n, pm_pu_s, pm_wt, List.take_succ_cons, List.take_zero, List.take_nil, List.drop_succ_cons, List.drop_zero, List.reverse_cons, List.reverse_nil, List.nil_append, List.cons_append, List.length_cons, List.length_nil, true_and, and_true, true_implies, tn_l, tn_0, Int.reduceToNat, Int.reduceLE, Int.reduceLT, Int.reduceEq, Int.reduceAdd, Int.reduceSub, Int.reduceMul, Int.reduceNeg, Nat.reduceAdd, Nat.reduceLeDiff, Nat.reduceEqDiff, Nat.reduceSub, Option.some.injEq, Sum.inl.injEq, Sum.inr.injEq, or_true, true_or, reduceCtorEq, ne_eq, not_false_eq_true, not_true_eq_false, false_implies, implies_true, false_and, and_false, false_or, or_false, if_true, if_false, fr_45_4 hf, fr_45_5 hf, fr_45_6 hf, fr_45_7 hf, fg_45 hf, fv_45 hf, hO.2.2.2.1]
    exact ⟨fun _ => rfl, fun z => absurd (Int.le_refl _) z⟩
  · intro s hs ih y4 y5
    have sb := sm_bd (n := s) (f := fun s => min (nR A n (A 0) 0 1 s) (sm (fun p => if P p then nC A n (A 0) 0 1 p s else 0) n)) (B := 3120) (fun t ht => by
      have a := n2 t (by omega)
      have b : 0 ≤ sm (fun p => if P p then nC A n (A 0) 0 1 p t else 0) n := sm_nn fun p hp => by
        have := (n1 p hp t (by omega)).1
        split <;> omega
      omega)
    rw [show sm (fun s => min (nR A n (A 0) 0 1 s) (sm (fun p => if P p then nC A n (A 0) 0 1 p s else 0) n)) (s + 1) = sm (fun s => min (nR A n (A 0) 0 1 s) (sm (fun p => if P p then nC A n (A 0) 0 1 p s else 0) n)) s + min (nR A n (A 0) 0 1 s) (sm (fun p => if P p then nC A n (A 0) 0 1 p s else 0) n) from rfl] at ih
    generalize sm (fun s => min (nR A n (A 0) 0 1 s) (sm (fun p => if P p then nC A n (A 0) 0 1 p s else 0) n)) s = v at *
    have evS := c_stretchTakes (d := d - 1) (V := V) (by omega) hb hw (by decide) (by decide) ⟨by omega, by omega⟩ hO s hs
    have r2 := n2 s hs
    have pb : ∀ p, p ≤ n → 0 ≤ sm (fun p => if P p then nC A n (A 0) 0 1 p s else 0) p ∧ sm (fun p => if P p then nC A n (A 0) 0 1 p s else 0) p ≤ p * 3120 := fun p hp => sm_bd (fun j hj => by
      have := n1 j (by omega) s hs
      split <;> omega)
    rw [ux_100_4]
    simp only [ux_100_0, ux_100_1, ux_100_2, ux_100_3, ux_100_5, ux_100_6, ux_100_9, ux_100_12, ux_100_13, ux_100_15, ux_100_16, ux_100_20, ux_100_21, ux_100_24, ux_100_27, ux_100_28, ux_100_30, ux_100_31, ux_100_32, ux_100_33, ux_100_36, ux_100_38, ux_100_39, ux_100_41, ux_100_42, ux_100_45, ux_100_46, ux_100_48, ux_100_51, ux_100_55, ux_100_57, ux_100_58, ux_100_59, ux_100_62, ux_100_65, ux_100_66, ux_100_67, ux_100_70, ux_100_73, ux_100_74, pm_i_c, pm_l_c, pm_q_c, pm_r_c, pm_li_0, pm_li_s, pm_ll_0, pm_ll_s, pm_lq_0, pm_lq_s, pm_s1, pm_s2, pm_kl, pm_wI, pm_wR, pm_pu_n, pm_pu_s, pm_wt, List.take_succ_cons, List.take_zero, List.take_nil, List.drop_succ_cons, List.drop_zero, List.reverse_cons, List.reverse_nil, List.nil_append, List.cons_append, List.length_cons, List.length_nil, true_and, and_true, true_implies, tn_l, tn_0, Int.reduceToNat, Int.reduceLE, Int.reduceLT, Int.reduceEq, Int.reduceAdd, Int.reduceSub, Int.reduceMul, Int.reduceNeg, Nat.reduceAdd, Nat.reduceLeDiff, Nat.reduceEqDiff, Nat.reduceSub, Option.some.injEq, Sum.inl.injEq, Sum.inr.injEq, or_true, true_or, reduceCtorEq, ne_eq, not_false_eq_true, not_true_eq_false, false_implies, implies_true, false_and, and_false, false_or, or_false, if_true, if_false, fr_45_4 hf, fr_45_5 hf, fr_45_6 hf, fr_45_7 hf, fg_45 hf, fv_45 hf, hO.2.2.2.1]
    refine ⟨fun z => by omega, fun _ => ?_⟩
    refine pm_up0 (fun p => pm_w (d - 1) 100 18 [some (.inr (.inr (some 45))), some (.inl (btf P n : Int)), some (.inl v), some (.inl (s : Int)), some (.inl (sm (fun p => if P p then nC A n (A 0) 0 1 p s else 0) p)), some (.inl (p : Int))] [] (V, R, T) (fun r2 h2 => r2 = some (.inl (cpS A n P)) ∧ h2 = (V, R, T))) n ?_ ?_
    · have hz := pb n (Nat.le_refl _)
      generalize sm (fun p => if P p then nC A n (A 0) 0 1 p s else 0) n = w at *
      rw [Int.min_comm] at ih
      rw [ux_100_18]
      simp only [ux_100_0, ux_100_1, ux_100_2, ux_100_3, ux_100_5, ux_100_6, ux_100_9, ux_100_12, ux_100_13, ux_100_15, ux_100_16, ux_100_20, ux_100_21, ux_100_24, ux_100_27, ux_100_28, ux_100_30, ux_100_31, ux_100_32, ux_100_33, ux_100_36, ux_100_38, ux_100_39, ux_100_41, ux_100_42, ux_100_45, ux_100_46, ux_100_48, ux_100_51, ux_100_55, ux_100_57, ux_100_58, ux_100_59, ux_100_62, ux_100_65, ux_100_66, ux_100_67, ux_100_70, ux_100_73, ux_100_74, pm_i_c, pm_l_c, pm_q_c, pm_r_c, pm_li_0, pm_li_s, pm_ll_0, pm_ll_s, pm_lq_0, pm_lq_s, pm_s1, pm_s2, pm_kl, pm_wI, pm_wR, pm_pu_n, pm_pu_s, pm_wt, List.take_succ_cons, List.take_zero, List.take_nil, List.drop_succ_cons, List.drop_zero, List.reverse_cons, List.reverse_nil, List.nil_append, List.cons_append, List.length_cons, List.length_nil, true_and, and_true, true_implies, tn_l, tn_0, Int.reduceToNat, Int.reduceLE, Int.reduceLT, Int.reduceEq, Int.reduceAdd, Int.reduceSub, Int.reduceMul, Int.reduceNeg, Nat.reduceAdd, Nat.reduceLeDiff, Nat.reduceEqDiff, Nat.reduceSub, Option.some.injEq, Sum.inl.injEq, Sum.inr.injEq, or_true, true_or, reduceCtorEq, ne_eq, not_false_eq_true, not_true_eq_false, false_implies, implies_true, false_and, and_false, false_or, or_false, if_true, if_false, fr_45_4 hf, fr_45_5 hf, fr_45_6 hf, fr_45_7 hf, fg_45 hf, fv_45 hf, hO.2.1]
      refine ⟨fun _ => ?_, fun z => absurd (Int.le_refl _) z⟩
      rw [ux_100_54]
      simp only [ux_100_0, ux_100_1, ux_100_2, ux_100_3, ux_100_5, ux_100_6, ux_100_9, ux_100_12, ux_100_13, ux_100_15, ux_100_16, ux_100_20, ux_100_21, ux_100_24, ux_100_27, ux_100_28, ux_100_30, ux_100_31, ux_100_32, ux_100_33, ux_100_36, ux_100_38, ux_100_39, ux_100_41, ux_100_42, ux_100_45, ux_100_46, ux_100_48, ux_100_51, ux_100_55, ux_100_57, ux_100_58, ux_100_59, ux_100_62, ux_100_65, ux_100_66, ux_100_67, ux_100_70, ux_100_73, ux_100_74, pm_i_c, pm_l_c, pm_q_c, pm_r_c, pm_li_0, pm_li_s, pm_ll_0, pm_ll_s, pm_lq_0, pm_lq_s, pm_s1, pm_s2, pm_kl, pm_wI, pm_wR, pm_pu_n, pm_pu_s, pm_wt, List.take_succ_cons, List.take_zero, List.take_nil, List.drop_succ_cons, List.drop_zero, List.reverse_cons, List.reverse_nil, List.nil_append, List.cons_append, List.length_cons, List.length_nil, true_and, and_true, true_implies, tn_l, tn_0, Int.reduceToNat, Int.reduceLE, Int.reduceLT, Int.reduceEq, Int.reduceAdd, Int.reduceSub, Int.reduceMul, Int.reduceNeg, Nat.reduceAdd, Nat.reduceLeDiff, Nat.reduceEqDiff, Nat.reduceSub, Option.some.injEq, Sum.inl.injEq, Sum.inr.injEq, or_true, true_or, reduceCtorEq, ne_eq, not_false_eq_true, not_true_eq_false, false_implies, implies_true, false_and, and_false, false_or, or_false, if_true, if_false, fr_45_4 hf, fr_45_5 hf, fr_45_6 hf, fr_45_7 hf, fg_45 hf, fv_45 hf, pm_ok_ev evS]
      exact ⟨by unfold pm_I32; omega, by unfold pm_I32; omega, ih _ _⟩
    · intro p hp ihp
      have hz := pb p (by omega)
      rw [show sm (fun p => if P p then nC A n (A 0) 0 1 p s else 0) (p + 1) = sm (fun p => if P p then nC A n (A 0) 0 1 p s else 0) p + (if P p then nC A n (A 0) 0 1 p s else 0) from rfl] at ihp
      generalize sm (fun p => if P p then nC A n (A 0) 0 1 p s else 0) p = w at *
      have ebit := btf_bit (P := P) hp
      have e1 : (btf P n : Int) / 2 ^ p = ((btf P n / 2 ^ p : Nat) : Int) := by
        rw [Int.natCast_ediv, Int.natCast_pow]; rfl
      have evP := c_pieceTakes (d := d - 1) (V := V) (by omega) hb hw (by decide) (by decide) ⟨by omega, by omega⟩ hO p s hp hs
      have hc := n1 p hp s hs
      rw [ux_100_18]
      simp only [ux_100_0, ux_100_1, ux_100_2, ux_100_3, ux_100_5, ux_100_6, ux_100_9, ux_100_12, ux_100_13, ux_100_15, ux_100_16, ux_100_20, ux_100_21, ux_100_24, ux_100_27, ux_100_28, ux_100_30, ux_100_31, ux_100_32, ux_100_33, ux_100_36, ux_100_38, ux_100_39, ux_100_41, ux_100_42, ux_100_45, ux_100_46, ux_100_48, ux_100_51, ux_100_55, ux_100_57, ux_100_58, ux_100_59, ux_100_62, ux_100_65, ux_100_66, ux_100_67, ux_100_70, ux_100_73, ux_100_74, pm_i_c, pm_l_c, pm_q_c, pm_r_c, pm_li_0, pm_li_s, pm_ll_0, pm_ll_s, pm_lq_0, pm_lq_s, pm_s1, pm_s2, pm_kl, pm_wI, pm_wR, pm_pu_n, pm_pu_s, pm_wt, List.take_succ_cons, List.take_zero, List.take_nil, List.drop_succ_cons, List.drop_zero, List.reverse_cons, List.reverse_nil, List.nil_append, List.cons_append, List.length_cons, List.length_nil, true_and, and_true, true_implies, tn_l, tn_0, Int.reduceToNat, Int.reduceLE, Int.reduceLT, Int.reduceEq, Int.reduceAdd, Int.reduceSub, Int.reduceMul, Int.reduceNeg, Nat.reduceAdd, Nat.reduceLeDiff, Nat.reduceEqDiff, Nat.reduceSub, Option.some.injEq, Sum.inl.injEq, Sum.inr.injEq, or_true, true_or, reduceCtorEq, ne_eq, not_false_eq_true, not_true_eq_false, false_implies, implies_true, false_and, and_false, false_or, or_false, if_true, if_false, fr_45_4 hf, fr_45_5 hf, fr_45_6 hf, fr_45_7 hf, fg_45 hf, fv_45 hf, hO.2.1, e1, Int.toNat_natCast, Int.reduceToNat, Nat.and_one_is_mod, ebit, pm_ok_ev evP]
      cases hP : P p with
      | true =>
        rw [hP, if_pos rfl] at ihp
        refine ⟨fun z => by omega, fun _ => ⟨⟨by omega, by omega, by omega⟩, (by first | exact Int.natCast_nonneg _ | exact ⟨by decide, Int.natCast_nonneg _⟩), fun z => absurd z (by decide), fun _ => ⟨by unfold pm_I32; omega, by unfold pm_I32; omega, ihp⟩⟩⟩
      | false =>
        rw [hP, if_neg (by decide), Int.add_zero] at ihp
        refine ⟨fun z => by omega, fun _ => ⟨⟨by omega, by omega, by omega⟩, (by first | exact Int.natCast_nonneg _ | exact ⟨by decide, Int.natCast_nonneg _⟩), fun _ => ⟨by unfold pm_I32; omega, ihp⟩, fun z => absurd rfl z⟩⟩
theorem c_hasPieceNowhere (hd : 1 ≤ d) (hf : fx R T) (hw : wf A n) (hO : frO V 45 A n (A 0) 0) : pm_ok d 97 [.inr (.inr (some 45))] (V, R, T) (fun r h2 => h2 = (V, R, T) ∧ ((r = some (.inl 1) ∧ ∃ p, p < n ∧ nwh A n p) ∨ (r = some (.inl 0) ∧ ∀ p, p < n → ¬ nwh A n p))) := by
  obtain ⟨d, rfl⟩ : ∃ k, d = k + 1 := ⟨d - 1, by omega⟩
  refine pm_ok_iff.mpr ⟨(Nat.le_of_ble_eq_true rfl), ?_⟩
  show pm_w d 97 0 [some (.inr (.inr (some 45))), none] [] (V, R, T) _
  have hn := hw.1
  have hA0 := hw.2.2.1
  generalize hQ : (fun (r : Option pm_V) (h2 : pm_H) => h2 = (V, R, T) ∧ ((r = some (.inl 1) ∧ ∃ p, p < n ∧ nwh A n p) ∨ (r = some (.inl 0) ∧ ∀ p, p < n → ¬ nwh A n p))) = Q
  have iff1 : ∀ p, p < n → (V 49 p = 0 ↔ nwh A n p) := by
    intro p hp
    have e := (hO.2.2.2.2.2 p hp).2.2
    have e : V 49 p = (btf (fun s => mlB A 0 (nmo A n 0) p s) (nS A n 0) : Int) := e
    rw [e, show ((btf (fun s => mlB A 0 (nmo A n 0) p s) (nS A n 0) : Int) = 0 ↔ btf (fun s => mlB A 0 (nmo A n 0) p s) (nS A n 0) = 0) from by omega, btf_zero]
    have wp := (hw.2.2.2.2 p hp).2.2.2.2.2.2.1
    refine ⟨fun z s hs => ?_, fun z s hs => ?_⟩
    · unfold nC tkA
      rw [z s hs]
      simp
    · have h1 := z s hs
      have b3 := nmo_lt hw (dl := 0) (by decide) (by decide) hs
      cases hm : mlB A 0 (nmo A n 0) p s with
      | false => rfl
      | true =>
        unfold nC tkA at h1
        rw [hm, if_pos rfl, Int.mul_one] at h1
        have := Int.mul_pos (show 0 < min (A (51 + p)) (A 0) by omega) (show 0 < nmo A n 0 (s + 1) - nmo A n 0 s by omega)
        omega
  simp only [ux_97_0, ux_97_1, ux_97_3, ux_97_4, ux_97_7, ux_97_10, ux_97_11, ux_97_14, ux_97_15, ux_97_16, ux_97_17, ux_97_18, ux_97_21, ux_97_22, ux_97_23, ux_97_26, ux_97_29, ux_97_30, pm_i_c, pm_l_c, pm_q_c, pm_r_c, pm_li_0, pm_li_s, pm_ll_0, pm_ll_s, pm_lq_0, pm_lq_s, pm_s1, pm_s2, pm_kl, pm_wI, pm_wR, pm_pu_n, pm_pu_s, pm_wt, List.take_succ_cons, List.take_zero, List.take_nil, List.drop_succ_cons, List.drop_zero, List.reverse_cons, List.reverse_nil, List.nil_append, List.cons_append, List.length_cons, List.length_nil, true_and, and_true, true_implies, tn_l, tn_0, Int.reduceToNat, Int.reduceLE, Int.reduceLT, Int.reduceEq, Int.reduceAdd, Int.reduceSub, Int.reduceMul, Int.reduceNeg, Nat.reduceAdd, Nat.reduceLeDiff, Nat.reduceEqDiff, Nat.reduceSub, Option.some.injEq, Sum.inl.injEq, Sum.inr.injEq, or_true, true_or, reduceCtorEq, ne_eq, not_false_eq_true, not_true_eq_false, false_implies, implies_true, false_and, and_false, false_or, or_false, if_true, if_false, fr_45_4 hf, fr_45_5 hf, fr_45_6 hf, fr_45_7 hf, fg_45 hf, fv_45 hf, fb_49 hf]
  refine pm_up0 (fun p => (∀ q, q < p → ¬ nwh A n q) → pm_w d 97 2 [some (.inr (.inr (some 45))), some (.inl (p : Int))] [] (V, R, T) Q) n ?_ ?_ (fun q hq => by omega)
  · intro hN
    rw [ux_97_2]
    simp only [ux_97_0, ux_97_1, ux_97_3, ux_97_4, ux_97_7, ux_97_10, ux_97_11, ux_97_14, ux_97_15, ux_97_16, ux_97_17, ux_97_18, ux_97_21, ux_97_22, ux_97_23, ux_97_26, ux_97_29, ux_97_30, pm_i_c, pm_l_c, pm_q_c, pm_r_c, pm_li_0, pm_li_s, pm_ll_0, pm_ll_s, pm_lq_0, pm_lq_s, pm_s1, pm_s2, pm_kl, pm_wI, pm_wR, pm_pu_n, pm_pu_s, pm_wt, List.take_succ_cons, List.take_zero, List.take_nil, List.drop_succ_cons, List.drop_zero, List.reverse_cons, List.reverse_nil, List.nil_append, List.cons_append, List.length_cons, List.length_nil, true_and, and_true, true_implies, tn_l, tn_0, Int.reduceToNat, Int.reduceLE, Int.reduceLT, Int.reduceEq, Int.reduceAdd, Int.reduceSub, Int.reduceMul, Int.reduceNeg, Nat.reduceAdd, Nat.reduceLeDiff, Nat.reduceEqDiff, Nat.reduceSub, Option.some.injEq, Sum.inl.injEq, Sum.inr.injEq, or_true, true_or, reduceCtorEq, ne_eq, not_false_eq_true, not_true_eq_false, false_implies, implies_true, false_and, and_false, false_or, or_false, if_true, if_false, fr_45_4 hf, fr_45_5 hf, fr_45_6 hf, fr_45_7 hf, fg_45 hf, fv_45 hf, fb_49 hf, hO.2.1]
    refine ⟨fun _ => ?_, fun z => absurd (Int.le_refl _) z⟩
    rw [← hQ]
    exact ⟨rfl, Or.inr ⟨rfl, hN⟩⟩
  · intro p hp ih hN
    rw [ux_97_2]
    simp only [ux_97_0, ux_97_1, ux_97_3, ux_97_4, ux_97_7, ux_97_10, ux_97_11, ux_97_14, ux_97_15, ux_97_16, ux_97_17, ux_97_18, ux_97_21, ux_97_22, ux_97_23, ux_97_26, ux_97_29, ux_97_30, pm_i_c, pm_l_c, pm_q_c, pm_r_c, pm_li_0, pm_li_s, pm_ll_0, pm_ll_s, pm_lq_0, pm_lq_s, pm_s1, pm_s2, pm_kl, pm_wI, pm_wR, pm_pu_n, pm_pu_s, pm_wt, List.take_succ_cons, List.take_zero, List.take_nil, List.drop_succ_cons, List.drop_zero, List.reverse_cons, List.reverse_nil, List.nil_append, List.cons_append, List.length_cons, List.length_nil, true_and, and_true, true_implies, tn_l, tn_0, Int.reduceToNat, Int.reduceLE, Int.reduceLT, Int.reduceEq, Int.reduceAdd, Int.reduceSub, Int.reduceMul, Int.reduceNeg, Nat.reduceAdd, Nat.reduceLeDiff, Nat.reduceEqDiff, Nat.reduceSub, Option.some.injEq, Sum.inl.injEq, Sum.inr.injEq, or_true, true_or, reduceCtorEq, ne_eq, not_false_eq_true, not_true_eq_false, false_implies, implies_true, false_and, and_false, false_or, or_false, if_true, if_false, fr_45_4 hf, fr_45_5 hf, fr_45_6 hf, fr_45_7 hf, fg_45 hf, fv_45 hf, fb_49 hf, hO.2.1, lc_eq, iff1 p hp]
    refine ⟨fun z => by omega, fun _ => ⟨by omega, fun z => ⟨by unfold pm_I32; omega, ih (fun q hq => ?_)⟩, fun z => ?_⟩⟩
    · by_cases e : q = p
      · subst e; exact z
      · exact hN q (by omega)
    · rw [← hQ]
      exact ⟨rfl, Or.inl ⟨rfl, p, hp, Classical.not_not.mp z⟩⟩
end
