/-! THE CLASS: lies, on, cuts -/
section
variable {d : Nat} {h : pm_H} {V V2 W : Nat → Nat → Int} {R : Nat → Nat → Option Nat} {T : List (Nat × Nat)} {n : Nat} {A : Nat → Int}
def kcI (V : Nat → Nat → Int) (A : Nat → Int) (n : Nat) : Prop := caI V A n ∧ frO V 45 A n (A 0) 0 ∧ lyN V 50 A n (A 0) 0 1 1 ∧ clo A n (xL V 50)
def kcQ (V : Nat → Nat → Int) (R : Nat → Nat → Option Nat) (T : List (Nat × Nat)) (A : Nat → Int) (n : Nat) (r : Option pm_V) (h2 : pm_H) : Prop := ∃ V2, h2 = (V2, R, T) ∧ r = some (.inr (.inr (some 50))) ∧ (∀ q, q ≠ 0 → q < 45 ∨ 81 < q → V2 q = V q) ∧ kcI V2 A n
theorem c_knownCloth (hd : 7 ≤ d) (hf : fx R T) (hs : shO V R T 1 A n) (hw : wf A n) (hc : caI V A n) (hh : hal A n (A 0) 0) : pm_ok d 78 [.inr (.inr (some 0))] (V, R, T) (kcQ V R T A n) := by
  obtain ⟨d, rfl⟩ : ∃ k, d = k + 1 := ⟨d - 1, by omega⟩
  refine pm_ok_iff.mpr ⟨(Nat.le_of_ble_eq_true rfl), ?_⟩
  show pm_w d 78 0 [some (.inr (.inr (some 0))), none] [] (V, R, T) _
  have hA0 := hw.2.2.1
  simp only [ux_78_0, ux_78_1, ux_78_5, ux_78_6, ux_78_9, ux_78_12, ux_78_13, ux_78_17, ux_78_18, ux_78_21, ux_78_22, pm_i_c, pm_l_c, pm_q_c, pm_r_c, pm_li_0, pm_li_s, pm_ll_0, pm_ll_s, pm_lq_0, pm_lq_s, pm_s1, pm_s2, pm_kl, pm_wI, pm_wR, pm_pu_n, pm_pu_s, pm_wt, List.take_succ_cons, List.take_zero, List.take_nil, List.drop_succ_cons, List.drop_zero, List.reverse_cons, List.reverse_nil, List.nil_append, List.cons_append, List.length_cons, List.length_nil, true_and, and_true, true_implies, tn_l, tn_0, Int.reduceToNat, Int.reduceLE, Int.reduceLT, Int.reduceEq, Int.reduceAdd, Int.reduceSub, Int.reduceMul, Int.reduceNeg, Nat.reduceAdd, Nat.reduceLeDiff, Nat.reduceEqDiff, Nat.reduceSub, Option.some.injEq, Sum.inl.injEq, Sum.inr.injEq, or_true, true_or, reduceCtorEq, ne_eq, not_false_eq_true, not_true_eq_false, false_implies, implies_true, false_and, and_false, false_or, or_false, if_true, if_false, fr_0_0 hf, fr_0_1 hf, fr_0_2 hf, fr_0_3 hf, fr_0_7 hf, fr_0_8 hf, fr_0_11 hf, fr_0_12 hf, fg_0 hf, fv_0 hf]
  refine pm_ok_mono (c_knownLaying (d := d) (by omega) hf hs hw hc) ?_
  rintro r h2 ⟨V2, rfl, rfl, b1, b2, b3⟩
  rw [pm_pu_s, ux_78_4]
  simp only [ux_78_0, ux_78_1, ux_78_5, ux_78_6, ux_78_9, ux_78_12, ux_78_13, ux_78_17, ux_78_18, ux_78_21, ux_78_22, pm_i_c, pm_l_c, pm_q_c, pm_r_c, pm_li_0, pm_li_s, pm_ll_0, pm_ll_s, pm_lq_0, pm_lq_s, pm_s1, pm_s2, pm_kl, pm_wI, pm_wR, pm_pu_n, pm_pu_s, pm_wt, List.take_succ_cons, List.take_zero, List.take_nil, List.drop_succ_cons, List.drop_zero, List.reverse_cons, List.reverse_nil, List.nil_append, List.cons_append, List.length_cons, List.length_nil, true_and, and_true, true_implies, tn_l, tn_0, Int.reduceToNat, Int.reduceLE, Int.reduceLT, Int.reduceEq, Int.reduceAdd, Int.reduceSub, Int.reduceMul, Int.reduceNeg, Nat.reduceAdd, Nat.reduceLeDiff, Nat.reduceEqDiff, Nat.reduceSub, Option.some.injEq, Sum.inl.injEq, Sum.inr.injEq, or_true, true_or, reduceCtorEq, ne_eq, not_false_eq_true, not_true_eq_false, false_implies, implies_true, false_and, and_false, false_or, or_false, if_true, if_false, fr_0_0 hf, fr_0_1 hf, fr_0_2 hf, fr_0_3 hf, fr_0_7 hf, fr_0_8 hf, fr_0_11 hf, fr_0_12 hf, fg_0 hf, fv_0 hf, fr_50_3 hf, fr_50_4 hf, fr_50_5 hf, fr_50_6 hf, fr_50_7 hf, fr_50_8 hf, fr_50_9 hf, fg_50 hf, fv_50 hf]
  rcases b3.2.1 with ⟨z5, -⟩ | ⟨-, h4, hI, ⟨x, P, Q, hx, ht⟩, hwv⟩
  · omega
  · have hfr : frO V2 45 A n (A 0) 0 := by
      rcases b3.1 with z | ⟨-, z⟩
      · omega
      · exact z
    refine ⟨fun c => ?_, fun c => ?_⟩
    · rcases hwv with ⟨z, -⟩ | ⟨-, z⟩
      · exact absurd z c
      · exact ⟨V2, rfl, rfl, b1, b3, hfr, hI, z⟩
    · have c0 := Classical.not_not.mp c
      obtain ⟨nb, nm⟩ := ntB_1 (lo := A 0) (dl := 0) hw (by decide) (by decide) (by omega)
      have hfull : ∀ q, q < n → sm (xL V2 50 q) (nS A n 0) = nL A 1 q := by
        refine sm_eqs hI.2.2.2.2.2.2.1 ?_
        have h1 := (hal_iff hx).mp hh
        rw [ht] at h1
        show sm (nL A 1) n ≤ tot n (nS A n 0) (xL V2 50)
        omega
      refine pm_ok_mono (c_weave (d := d) (V := V2) (b := 50) (by omega) (fx_50 hf) nb (fun q hq => by have := (hw.2.2.2.2 q hq).2.1; unfold nL; omega) hI hfull) ?_
      rintro r h2 ⟨W, rfl, rfl, z1, z2, z3, z4⟩
      rw [pm_pu_n, ux_78_16]
      simp only [ux_78_0, ux_78_1, ux_78_5, ux_78_6, ux_78_9, ux_78_12, ux_78_13, ux_78_17, ux_78_18, ux_78_21, ux_78_22, pm_i_c, pm_l_c, pm_q_c, pm_r_c, pm_li_0, pm_li_s, pm_ll_0, pm_ll_s, pm_lq_0, pm_lq_s, pm_s1, pm_s2, pm_kl, pm_wI, pm_wR, pm_pu_n, pm_pu_s, pm_wt, List.take_succ_cons, List.take_zero, List.take_nil, List.drop_succ_cons, List.drop_zero, List.reverse_cons, List.reverse_nil, List.nil_append, List.cons_append, List.length_cons, List.length_nil, true_and, and_true, true_implies, tn_l, tn_0, Int.reduceToNat, Int.reduceLE, Int.reduceLT, Int.reduceEq, Int.reduceAdd, Int.reduceSub, Int.reduceMul, Int.reduceNeg, Nat.reduceAdd, Nat.reduceLeDiff, Nat.reduceEqDiff, Nat.reduceSub, Option.some.injEq, Sum.inl.injEq, Sum.inr.injEq, or_true, true_or, reduceCtorEq, ne_eq, not_false_eq_true, not_true_eq_false, false_implies, implies_true, false_and, and_false, false_or, or_false, if_true, if_false, fr_0_0 hf, fr_0_1 hf, fr_0_2 hf, fr_0_3 hf, fr_0_7 hf, fr_0_8 hf, fr_0_11 hf, fr_0_12 hf, fg_0 hf, fv_0 hf, fr_50_3 hf, fr_50_4 hf, fr_50_5 hf, fr_50_6 hf, fr_50_7 hf, fr_50_8 hf, fr_50_9 hf, fg_50 hf, fv_50 hf]
      have e : ∀ q, q ≠ 0 → pm_up W 0 6 1 q = W q := fun q hq => pm_up_fr hq
      have e0 : ∀ j, j ≠ 6 → pm_up W 0 6 1 0 j = V2 0 j := fun j hj => by rw [pm_up_ne (fun w => hj w.2), z1 0 (by omega)]
      have x1 : xL (pm_up W 0 6 1) 50 = xL W 50 := xL_fr fun p hp => e _ (by omega)
      have m1 : mL (pm_up W 0 6 1) 50 = mL W 50 := mL_fr fun p hp => e _ (by omega)
      have hclo : clo A n (xL W 50) := ⟨⟨z2.2.2.2.2.2, z3⟩, z4⟩
      have hfr2 : frO (pm_up W 0 6 1) 45 A n (A 0) 0 := frO_keep (fun q h1 h2 => by rw [e q (by omega)]; exact z1 q (by omega)) hfr
      have hI2 : lyN (pm_up W 0 6 1) 50 A n (A 0) 0 1 1 := by
        unfold lyN lyI
        rw [x1, m1, e 50 (by decide), e (50 + 1) (by decide), e (50 + 2) (by decide)]
        exact z2
      obtain ⟨i1, i2, i3, i4, i5⟩ := b3
      refine ⟨_, rfl, rfl, fun q h1 h2 => by rw [e q h1, z1 q (by omega)]; exact b1 q h1 h2, ⟨Or.inr ⟨by rw [e0 4 (by decide)]; exact h4, hfr2⟩, Or.inr ⟨by rw [e0 5 (by decide)]; exact b2, by rw [e0 4 (by decide)]; exact h4, hI2, ⟨x, P, Q, hx, ?_⟩, Or.inr ⟨pm_up_eq, by rw [x1]; exact hclo⟩⟩, ?_, ?_, ?_⟩, hfr2, hI2, by rw [x1]; exact hclo⟩
      · rw [x1, (hal_iff hx).mp hh]
        exact (sm_congr z3).symm
      · unfold cSp
        rw [e0 9 (by decide), e0 10 (by decide)]
        exact i3
      · unfold cLv
        rw [e 119 (by decide), e 123 (by decide), e 124 (by decide), z1 119 (by omega), z1 123 (by omega), z1 124 (by omega)]
        exact i4
      · unfold cDy
        rw [e 125 (by decide), e 130 (by decide), z1 125 (by omega), z1 130 (by omega)]
        exact i5
theorem kc_bd (hw : wf A n) (h : kcI V A n) : ∀ p, p < n → ∀ s, s < nS A n 0 → 0 ≤ xL V 50 p s ∧ xL V 50 p s ≤ 1560 := by
  intro p hp s hs
  have hA0 := hw.2.2.1
  have h1 := h.2.2.2.1.1.1 p hp s hs
  have hmo : mo (nmo A n 0) (mmL A 0 n) := mo_of hw (by decide) (by decide) (fun j hj => rfl)
  have := tkA_bd (lo := A 0) (dl := 0) hw hmo hp (show s + 1 < (mmL A 0 n).length by unfold nS nst at hs; omega) hA0.1 (by omega)
  unfold nC at h1
  omega
theorem c_stretchAt (hd : 1 ≤ d) (hf : fx R T) (hw : wf A n) (hO : frO V 45 A n (A 0) 0) (t : Nat) : pm_ev d 85 [.inr (.inr (some 45)), .inl (t : Int)] (V, R, T) (some (.inl (if stA (nmo A n 0) t (nS A n 0) 0 = nS A n 0 then -1 else (stA (nmo A n 0) t (nS A n 0) 0 : Int)))) (V, R, T) := by
  refine pm_ev_of hd (Nat.le_of_ble_eq_true rfl) ?_
  show pm_w (d - 1) 85 0 [some (.inr (.inr (some 45))), some (.inl (t : Int)), none] [] (V, R, T) _
  obtain ⟨S1, S2, S3⟩ := nS_bd (dl := 0) hw
  have hb := fx_45 hf
  simp only [ux_85_0, ux_85_1, ux_85_3, ux_85_4, ux_85_7, ux_85_10, ux_85_11, ux_85_14, ux_85_15, ux_85_16, ux_85_17, ux_85_20, ux_85_21, ux_85_22, ux_85_25, ux_85_26, ux_85_27, ux_85_28, ux_85_29, ux_85_32, ux_85_33, ux_85_34, ux_85_37, ux_85_40, ux_85_41, pm_i_c, pm_l_c, pm_q_c, pm_r_c, pm_li_0, pm_li_s, pm_ll_0, pm_ll_s, pm_lq_0, pm_lq_s, pm_s1, pm_s2, pm_kl, pm_wI, pm_wR, pm_pu_n, pm_pu_s, pm_wt, List.take_succ_cons, List.take_zero, List.take_nil, List.drop_succ_cons, List.drop_zero, List.reverse_cons, List.reverse_nil, List.nil_append, List.cons_append, List.length_cons, List.length_nil, true_and, and_true, true_implies, tn_l, tn_0, Int.reduceToNat, Int.reduceLE, Int.reduceLT, Int.reduceEq, Int.reduceAdd, Int.reduceSub, Int.reduceMul, Int.reduceNeg, Nat.reduceAdd, Nat.reduceLeDiff, Nat.reduceEqDiff, Nat.reduceSub, Option.some.injEq, Sum.inl.injEq, Sum.inr.injEq, or_true, true_or, reduceCtorEq, ne_eq, not_false_eq_true, not_true_eq_false, false_implies, implies_true, false_and, and_false, false_or, or_false, if_true, if_false, fr_45_4 hf, fr_45_5 hf, fr_45_6 hf, fr_45_7 hf, fg_45 hf, fv_45 hf, fb_46 hf]
  have key : ∀ (r k : Nat), k + r = nS A n 0 → stA (nmo A n 0) t r k = stA (nmo A n 0) t (nS A n 0) 0 → pm_w (d - 1) 85 2 [some (.inr (.inr (some 45))), some (.inl (t : Int)), some (.inl (k : Int))] [] (V, R, T) (fun r2 h2 => r2 = some (.inl (if stA (nmo A n 0) t (nS A n 0) 0 = nS A n 0 then -1 else (stA (nmo A n 0) t (nS A n 0) 0 : Int))) ∧ h2 = (V, R, T)) := by
    intro r
    induction r with
    | zero =>
      intro k hk he
      have he : k = stA (nmo A n 0) t (nS A n 0) 0 := he
      rw [← he, ux_85_2]
      simp only [ux_85_0, ux_85_1, ux_85_3, ux_85_4, ux_85_7, ux_85_10, ux_85_11, ux_85_14, ux_85_15, ux_85_16, ux_85_17, ux_85_20, ux_85_21, ux_85_22, ux_85_25, ux_85_26, ux_85_27, ux_85_28, ux_85_29, ux_85_32, ux_85_33, ux_85_34, ux_85_37, ux_85_40, ux_85_41, pm_i_c, pm_l_c, pm_q_c, pm_r_c, pm_li_0, pm_li_s, pm_ll_0, pm_ll_s, pm_lq_0, pm_lq_s, pm_s1, pm_s2, pm_kl, pm_wI, pm_wR, pm_pu_n, pm_pu_s, pm_wt, List.take_succ_cons, List.take_zero, List.take_nil, List.drop_succ_cons, List.drop_zero, List.reverse_cons, List.reverse_nil, List.nil_append, List.cons_append, List.length_cons, List.length_nil, true_and, and_true, true_implies, tn_l, tn_0, Int.reduceToNat, Int.reduceLE, Int.reduceLT, Int.reduceEq, Int.reduceAdd, Int.reduceSub, Int.reduceMul, Int.reduceNeg, Nat.reduceAdd, Nat.reduceLeDiff, Nat.reduceEqDiff, Nat.reduceSub, Option.some.injEq, Sum.inl.injEq, Sum.inr.injEq, or_true, true_or, reduceCtorEq, ne_eq, not_false_eq_true, not_true_eq_false, false_implies, implies_true, false_and, and_false, false_or, or_false, if_true, if_false, fr_45_4 hf, fr_45_5 hf, fr_45_6 hf, fr_45_7 hf, fg_45 hf, fv_45 hf, fb_46 hf, hO.2.2.2.1]
      refine ⟨fun _ => by rw [if_pos (by omega)], fun z => absurd (by omega) z⟩
    | succ r ih =>
      intro k hk he
      have e1 : V 46 k = nmo A n 0 k := hO.2.2.2.2.1 k (by omega)
      have e2 : V 46 (k + 1) = nmo A n 0 (k + 1) := hO.2.2.2.2.1 (k + 1) (by omega)
      have e3 : ((k : Int) + 1).toNat = k + 1 := by omega
      rw [show stA (nmo A n 0) (t : Int) (r + 1) k = if nmo A n 0 k ≤ (t : Int) ∧ (t : Int) < nmo A n 0 (k + 1) then k else stA (nmo A n 0) (t : Int) r (k + 1) from rfl] at he
      rw [ux_85_2]
      simp only [ux_85_0, ux_85_1, ux_85_3, ux_85_4, ux_85_7, ux_85_10, ux_85_11, ux_85_14, ux_85_15, ux_85_16, ux_85_17, ux_85_20, ux_85_21, ux_85_22, ux_85_25, ux_85_26, ux_85_27, ux_85_28, ux_85_29, ux_85_32, ux_85_33, ux_85_34, ux_85_37, ux_85_40, ux_85_41, pm_i_c, pm_l_c, pm_q_c, pm_r_c, pm_li_0, pm_li_s, pm_ll_0, pm_ll_s, pm_lq_0, pm_lq_s, pm_s1, pm_s2, pm_kl, pm_wI, pm_wR, pm_pu_n, pm_pu_s, pm_wt, List.take_succ_cons, List.take_zero, List.take_nil, List.drop_succ_cons, List.drop_zero, List.reverse_cons, List.reverse_nil, List.nil_append, List.cons_append, List.length_cons, List.length_nil, true_and, and_true, true_implies, tn_l, tn_0, Int.reduceToNat, Int.reduceLE, Int.reduceLT, Int.reduceEq, Int.reduceAdd, Int.reduceSub, Int.reduceMul, Int.reduceNeg, Nat.reduceAdd, Nat.reduceLeDiff, Nat.reduceEqDiff, Nat.reduceSub, Option.some.injEq, Sum.inl.injEq, Sum.inr.injEq, or_true, true_or, reduceCtorEq, ne_eq, not_false_eq_true, not_true_eq_false, false_implies, implies_true, false_and, and_false, false_or, or_false, if_true, if_false, fr_45_4 hf, fr_45_5 hf, fr_45_6 hf, fr_45_7 hf, fg_45 hf, fv_45 hf, fb_46 hf, hO.2.2.2.1, e1, e2, e3]
      by_cases c : nmo A n 0 k ≤ (t : Int) ∧ (t : Int) < nmo A n 0 (k + 1)
      · rw [if_pos c] at he
        rw [← he, if_neg (show ¬ k = nS A n 0 by omega)]
        refine ⟨fun z => by omega, fun _ => ⟨by omega, fun z => by omega, fun _ => ⟨by unfold pm_I32; omega, by omega, fun z => by omega, fun _ => rfl⟩⟩⟩
      · rw [if_neg c] at he
        have nx := ih (k + 1) (by omega) he
        refine ⟨fun z => by omega, fun _ => ⟨by omega, fun z => ⟨by unfold pm_I32; omega, nx⟩, fun z => ⟨by unfold pm_I32; omega, by omega, fun z2 => ⟨by unfold pm_I32; omega, nx⟩, fun z2 => absurd ⟨by omega, by omega⟩ c⟩⟩⟩
  exact key (nS A n 0) 0 (by omega) rfl
theorem c_pieceAtPlace (hd : 1 ≤ d) (hf : fx R T) (hw : wf A n) (hI : kcI V A n) (s : Nat) (hs : s < nS A n 0) (v : Int) (hv : -260 ≤ v ∧ v ≤ 2000) : pm_ev d 86 [.inr (.inr (some 50)), .inl (s : Int), .inl v] (V, R, T) (some (.inl (plA (fun p => xL V 50 p s) n 0 v))) (V, R, T) := by
  refine pm_ev_of hd (Nat.le_of_ble_eq_true rfl) ?_
  show pm_w (d - 1) 86 0 [some (.inr (.inr (some 50))), some (.inl (s : Int)), some (.inl v), none, none] [] (V, R, T) _
  have hn := hw.1
  have hb := fx_50 hf
  obtain ⟨S1, S2, S3⟩ := nS_bd (dl := 0) hw
  have h0 := hI.2.2.1.1.1
  have xb := kc_bd hw hI
  simp only [ux_86_0, ux_86_1, ux_86_2, ux_86_3, ux_86_7, ux_86_8, ux_86_11, ux_86_14, ux_86_15, ux_86_16, ux_86_19, ux_86_21, ux_86_22, ux_86_23, ux_86_24, ux_86_25, ux_86_26, ux_86_27, ux_86_28, ux_86_31, ux_86_33, ux_86_34, ux_86_37, ux_86_40, ux_86_42, pm_i_c, pm_l_c, pm_q_c, pm_r_c, pm_li_0, pm_li_s, pm_ll_0, pm_ll_s, pm_lq_0, pm_lq_s, pm_s1, pm_s2, pm_kl, pm_wI, pm_wR, pm_pu_n, pm_pu_s, pm_wt, List.take_succ_cons, List.take_zero, List.take_nil, List.drop_succ_cons, List.drop_zero, List.reverse_cons, List.reverse_nil, List.nil_append, List.cons_append, List.length_cons, List.length_nil, true_and, and_true, true_implies, tn_l, tn_0, Int.reduceToNat, Int.reduceLE, Int.reduceLT, Int.reduceEq, Int.reduceAdd, Int.reduceSub, Int.reduceMul, Int.reduceNeg, Nat.reduceAdd, Nat.reduceLeDiff, Nat.reduceEqDiff, Nat.reduceSub, Option.some.injEq, Sum.inl.injEq, Sum.inr.injEq, or_true, true_or, reduceCtorEq, ne_eq, not_false_eq_true, not_true_eq_false, false_implies, implies_true, false_and, and_false, false_or, or_false, if_true, if_false, ly_3 hb, ly_4 hb, ly_5 hb, ly_6 hb, ly_7 hb, ly_8 hb, ly_9 hb, ly_t hb, ly_v hb, ly_b1 hb, ly_b2 hb, ly_b3 hb, ly_b16 hb, ly_b29 hb, ly_b30 hb, ly_b31 hb]
  have key : ∀ (r p : Nat) (w : Int), p + r = n → 0 ≤ w → w ≤ 1560 * (p : Int) → plA (fun p => xL V 50 p s) r p (v - w) = plA (fun p => xL V 50 p s) n 0 v → pm_w (d - 1) 86 5 [some (.inr (.inr (some 50))), some (.inl (s : Int)), some (.inl v), some (.inl w), some (.inl (p : Int))] [] (V, R, T) (fun r2 h2 => r2 = some (.inl (plA (fun p => xL V 50 p s) n 0 v)) ∧ h2 = (V, R, T)) := by
    intro r
    induction r with
    | zero =>
      intro p w hp w1 w2 he
      have he : (-3 : Int) = plA (fun p => xL V 50 p s) n 0 v := he
      rw [ux_86_5]
      simp only [ux_86_0, ux_86_1, ux_86_2, ux_86_3, ux_86_7, ux_86_8, ux_86_11, ux_86_14, ux_86_15, ux_86_16, ux_86_19, ux_86_21, ux_86_22, ux_86_23, ux_86_24, ux_86_25, ux_86_26, ux_86_27, ux_86_28, ux_86_31, ux_86_33, ux_86_34, ux_86_37, ux_86_40, ux_86_42, pm_i_c, pm_l_c, pm_q_c, pm_r_c, pm_li_0, pm_li_s, pm_ll_0, pm_ll_s, pm_lq_0, pm_lq_s, pm_s1, pm_s2, pm_kl, pm_wI, pm_wR, pm_pu_n, pm_pu_s, pm_wt, List.take_succ_cons, List.take_zero, List.take_nil, List.drop_succ_cons, List.drop_zero, List.reverse_cons, List.reverse_nil, List.nil_append, List.cons_append, List.length_cons, List.length_nil, true_and, and_true, true_implies, tn_l, tn_0, Int.reduceToNat, Int.reduceLE, Int.reduceLT, Int.reduceEq, Int.reduceAdd, Int.reduceSub, Int.reduceMul, Int.reduceNeg, Nat.reduceAdd, Nat.reduceLeDiff, Nat.reduceEqDiff, Nat.reduceSub, Option.some.injEq, Sum.inl.injEq, Sum.inr.injEq, or_true, true_or, reduceCtorEq, ne_eq, not_false_eq_true, not_true_eq_false, false_implies, implies_true, false_and, and_false, false_or, or_false, if_true, if_false, ly_3 hb, ly_4 hb, ly_5 hb, ly_6 hb, ly_7 hb, ly_8 hb, ly_9 hb, ly_t hb, ly_v hb, ly_b1 hb, ly_b2 hb, ly_b3 hb, ly_b16 hb, ly_b29 hb, ly_b30 hb, ly_b31 hb, h0]
      refine ⟨fun _ => by rw [he], fun z => absurd (by omega) z⟩
    | succ r ih =>
      intro p w hp w1 w2 he
      have xp := xb p (by omega) s hs
      have ex : V (50 + 4 + p) s = xL V 50 p s := (xL_eq (by omega)).symm
      rw [show plA (fun p => xL V 50 p s) (r + 1) p (v - w) = if v - w - xL V 50 p s < 0 then (p : Int) else plA (fun p => xL V 50 p s) r (p + 1) (v - w - xL V 50 p s) from rfl] at he
      rw [ux_86_5]
      simp only [ux_86_0, ux_86_1, ux_86_2, ux_86_3, ux_86_7, ux_86_8, ux_86_11, ux_86_14, ux_86_15, ux_86_16, ux_86_19, ux_86_21, ux_86_22, ux_86_23, ux_86_24, ux_86_25, ux_86_26, ux_86_27, ux_86_28, ux_86_31, ux_86_33, ux_86_34, ux_86_37, ux_86_40, ux_86_42, pm_i_c, pm_l_c, pm_q_c, pm_r_c, pm_li_0, pm_li_s, pm_ll_0, pm_ll_s, pm_lq_0, pm_lq_s, pm_s1, pm_s2, pm_kl, pm_wI, pm_wR, pm_pu_n, pm_pu_s, pm_wt, List.take_succ_cons, List.take_zero, List.take_nil, List.drop_succ_cons, List.drop_zero, List.reverse_cons, List.reverse_nil, List.nil_append, List.cons_append, List.length_cons, List.length_nil, true_and, and_true, true_implies, tn_l, tn_0, Int.reduceToNat, Int.reduceLE, Int.reduceLT, Int.reduceEq, Int.reduceAdd, Int.reduceSub, Int.reduceMul, Int.reduceNeg, Nat.reduceAdd, Nat.reduceLeDiff, Nat.reduceEqDiff, Nat.reduceSub, Option.some.injEq, Sum.inl.injEq, Sum.inr.injEq, or_true, true_or, reduceCtorEq, ne_eq, not_false_eq_true, not_true_eq_false, false_implies, implies_true, false_and, and_false, false_or, or_false, if_true, if_false, ly_3 hb, ly_4 hb, ly_5 hb, ly_6 hb, ly_7 hb, ly_8 hb, ly_9 hb, ly_t hb, ly_v hb, ly_b1 hb, ly_b2 hb, ly_b3 hb, ly_b16 hb, ly_b29 hb, ly_b30 hb, ly_b31 hb, h0, ly_x hb (show p < 12 by omega), ly_bx hb (show p < 12 by omega), ex]
      by_cases c : v - w - xL V 50 p s < 0
      · rw [if_pos c] at he
        refine ⟨fun z => by omega, fun _ => ⟨Or.inl (by omega), by omega, by unfold pm_I32; omega, fun z => by omega, fun _ => by rw [he]⟩⟩
      · rw [if_neg c] at he
        refine ⟨fun z => by omega, fun _ => ⟨Or.inl (by omega), by omega, by unfold pm_I32; omega, fun _ => ⟨by unfold pm_I32; omega, ih (p + 1) (w + xL V 50 p s) (by omega) (by omega) (by omega) ?_⟩, fun z => absurd (by omega) z⟩⟩
        rw [← he]
        congr 1
        omega
  exact key n 0 0 (by omega) (by omega) (by omega) (by rw [Int.sub_zero])
theorem c_pieceInHour (hd : 2 ≤ d) (hf : fx R T) (hw : wf A n) (hI : kcI V A n) (l t : Nat) (hl : l ≤ 6) (ht : t ≤ 60) : pm_ev d 84 [.inr (.inr (some 0)), .inr (.inr (some 50)), .inl (l : Int), .inl (t : Int)] (V, R, T) (some (.inl (onA (nmo A n 0) (nS A n 0) n (xL V 50) l t))) (V, R, T) := by
  refine pm_ev_of (by omega) (Nat.le_of_ble_eq_true rfl) ?_
  show pm_w (d - 1) 84 0 [some (.inr (.inr (some 0))), some (.inr (.inr (some 50))), some (.inl (l : Int)), some (.inl (t : Int)), none, none] [] (V, R, T) _
  obtain ⟨S1, S2, S3⟩ := nS_bd (dl := 0) hw
  have hO := hI.2.1
  have ev := c_stretchAt (d := d - 1) (V := V) (by omega) hf hw hO t
  have sb := stA_bd (f := nmo A n 0) (t := (t : Int)) (nS A n 0) 0
  unfold onA
  generalize hsn : stA (nmo A n 0) t (nS A n 0) 0 = sn at ev sb ⊢
  simp only [ux_84_0, ux_84_1, ux_84_4, ux_84_5, ux_84_10, ux_84_12, ux_84_15, ux_84_17, ux_84_18, ux_84_19, ux_84_20, ux_84_23, ux_84_25, ux_84_28, ux_84_29, ux_84_30, ux_84_31, ux_84_32, ux_84_35, ux_84_38, ux_84_40, ux_84_41, ux_84_42, ux_84_44, ux_84_45, ux_84_47, ux_84_49, ux_84_52, pm_i_c, pm_l_c, pm_q_c, pm_r_c, pm_li_0, pm_li_s, pm_ll_0, pm_ll_s, pm_lq_0, pm_lq_s, pm_s1, pm_s2, pm_kl, pm_wI, pm_wR, pm_pu_n, pm_pu_s, pm_wt, List.take_succ_cons, List.take_zero, List.take_nil, List.drop_succ_cons, List.drop_zero, List.reverse_cons, List.reverse_nil, List.nil_append, List.cons_append, List.length_cons, List.length_nil, true_and, and_true, true_implies, tn_l, tn_0, Int.reduceToNat, Int.reduceLE, Int.reduceLT, Int.reduceEq, Int.reduceAdd, Int.reduceSub, Int.reduceMul, Int.reduceNeg, Nat.reduceAdd, Nat.reduceLeDiff, Nat.reduceEqDiff, Nat.reduceSub, Option.some.injEq, Sum.inl.injEq, Sum.inr.injEq, or_true, true_or, reduceCtorEq, ne_eq, not_false_eq_true, not_true_eq_false, false_implies, implies_true, false_and, and_false, false_or, or_false, if_true, if_false, fr_0_0 hf, fr_0_1 hf, fr_0_2 hf, fr_0_3 hf, fr_0_7 hf, fr_0_8 hf, fr_0_11 hf, fr_0_12 hf, fg_0 hf, fv_0 hf, fr_45_4 hf, fr_45_5 hf, fr_45_6 hf, fr_45_7 hf, fg_45 hf, fv_45 hf, pm_ok_ev ev]
  rw [ux_84_8]
  by_cases c : sn = nS A n 0
  · rw [if_pos c, if_pos c]
    simp only [ux_84_0, ux_84_1, ux_84_4, ux_84_5, ux_84_10, ux_84_12, ux_84_15, ux_84_17, ux_84_18, ux_84_19, ux_84_20, ux_84_23, ux_84_25, ux_84_28, ux_84_29, ux_84_30, ux_84_31, ux_84_32, ux_84_35, ux_84_38, ux_84_40, ux_84_41, ux_84_42, ux_84_44, ux_84_45, ux_84_47, ux_84_49, ux_84_52, pm_i_c, pm_l_c, pm_q_c, pm_r_c, pm_li_0, pm_li_s, pm_ll_0, pm_ll_s, pm_lq_0, pm_lq_s, pm_s1, pm_s2, pm_kl, pm_wI, pm_wR, pm_pu_n, pm_pu_s, pm_wt, List.take_succ_cons, List.take_zero, List.take_nil, List.drop_succ_cons, List.drop_zero, List.reverse_cons, List.reverse_nil, List.nil_append, List.cons_append, List.length_cons, List.length_nil, true_and, and_true, true_implies, tn_l, tn_0, Int.reduceToNat, Int.reduceLE, Int.reduceLT, Int.reduceEq, Int.reduceAdd, Int.reduceSub, Int.reduceMul, Int.reduceNeg, Nat.reduceAdd, Nat.reduceLeDiff, Nat.reduceEqDiff, Nat.reduceSub, Option.some.injEq, Sum.inl.injEq, Sum.inr.injEq, or_true, true_or, reduceCtorEq, ne_eq, not_false_eq_true, not_true_eq_false, false_implies, implies_true, false_and, and_false, false_or, or_false, if_true, if_false, fr_0_0 hf, fr_0_1 hf, fr_0_2 hf, fr_0_3 hf, fr_0_7 hf, fr_0_8 hf, fr_0_11 hf, fr_0_12 hf, fg_0 hf, fv_0 hf, fr_45_4 hf, fr_45_5 hf, fr_45_6 hf, fr_45_7 hf, fg_45 hf, fv_45 hf]
  · have b1 := nmo_bd hw (dl := 0) (by decide) (by decide) (show sn < (mmL A 0 n).length by omega)
    have b2 := nmo_bd hw (dl := 0) (by decide) (by decide) (show sn + 1 < (mmL A 0 n).length by omega)
    have b3 := nmo_lt hw (dl := 0) (by decide) (by decide) (show sn < nS A n 0 by omega)
    have mb := mulbd (x := (l : Int)) (y := nmo A n 0 (sn + 1) - nmo A n 0 sn) (a := 6) (b := 260) (by omega) (by omega) (by omega) (by omega)
    have em : V 46 sn = nmo A n 0 sn := hO.2.2.2.2.1 sn (by omega)
    rw [if_neg c, if_neg c]
    simp only [ux_84_0, ux_84_1, ux_84_4, ux_84_5, ux_84_10, ux_84_12, ux_84_15, ux_84_17, ux_84_18, ux_84_19, ux_84_20, ux_84_23, ux_84_25, ux_84_28, ux_84_29, ux_84_30, ux_84_31, ux_84_32, ux_84_35, ux_84_38, ux_84_40, ux_84_41, ux_84_42, ux_84_44, ux_84_45, ux_84_47, ux_84_49, ux_84_52, pm_i_c, pm_l_c, pm_q_c, pm_r_c, pm_li_0, pm_li_s, pm_ll_0, pm_ll_s, pm_lq_0, pm_lq_s, pm_s1, pm_s2, pm_kl, pm_wI, pm_wR, pm_pu_n, pm_pu_s, pm_wt, List.take_succ_cons, List.take_zero, List.take_nil, List.drop_succ_cons, List.drop_zero, List.reverse_cons, List.reverse_nil, List.nil_append, List.cons_append, List.length_cons, List.length_nil, true_and, and_true, true_implies, tn_l, tn_0, Int.reduceToNat, Int.reduceLE, Int.reduceLT, Int.reduceEq, Int.reduceAdd, Int.reduceSub, Int.reduceMul, Int.reduceNeg, Nat.reduceAdd, Nat.reduceLeDiff, Nat.reduceEqDiff, Nat.reduceSub, Option.some.injEq, Sum.inl.injEq, Sum.inr.injEq, or_true, true_or, reduceCtorEq, ne_eq, not_false_eq_true, not_true_eq_false, false_implies, implies_true, false_and, and_false, false_or, or_false, if_true, if_false, fr_0_0 hf, fr_0_1 hf, fr_0_2 hf, fr_0_3 hf, fr_0_7 hf, fr_0_8 hf, fr_0_11 hf, fr_0_12 hf, fg_0 hf, fv_0 hf, fr_45_4 hf, fr_45_5 hf, fr_45_6 hf, fr_45_7 hf, fg_45 hf, fv_45 hf, fb_46 hf, fr_50_3 hf, fr_50_4 hf, fr_50_5 hf, fr_50_6 hf, fr_50_7 hf, fr_50_8 hf, fr_50_9 hf, fg_50 hf, fv_50 hf, em, pm_ok_ev (c_stretchLength (d := d - 1) (V := V) (by omega) (fx_45 hf) hw (by decide) (by decide) hO sn (by omega)), pm_ok_ev (c_pieceAtPlace (d := d - 1) (V := V) (by omega) hf hw hI sn (by omega) ((l : Int) * (nmo A n 0 (sn + 1) - nmo A n 0 sn) + (t : Int) - nmo A n 0 sn) (by omega))]
    exact ⟨fun _ => ⟨by unfold pm_I32; omega, by unfold pm_I32; omega, by omega, by unfold pm_I32; omega⟩, fun z => absurd (by omega) z⟩
def liP (A : Nat → Int) (n : Nat) (p s v : Int) : Prop := (¬ ((0 ≤ p ∧ p < n) ∧ 0 ≤ s ∧ s < nS A n 0) ∧ v = -1) ∨ (((0 ≤ p ∧ p < n) ∧ 0 ≤ s ∧ s < nS A n 0) ∧ ¬ hal A n (A 0) 0 ∧ v = -2) ∨ (((0 ≤ p ∧ p < n) ∧ 0 ≤ s ∧ s < nS A n 0) ∧ hal A n (A 0) 0 ∧ ∃ x, clo A n x ∧ v = x p.toNat s.toNat)
theorem c_lies (hd : 8 ≤ d) (hf : fx R T) (hs : shO V R T 1 A n) (hw : wf A n) (hc : caI V A n) (p s : Int) : pm_ok d 77 [.inr (.inr (some 0)), .inl p, .inl s] (V, R, T) (anQ V R T A n (liP A n p s)) := by
  obtain ⟨d, rfl⟩ : ∃ k, d = k + 1 := ⟨d - 1, by omega⟩
  refine pm_ok_iff.mpr ⟨(Nat.le_of_ble_eq_true rfl), ?_⟩
  show pm_w d 77 0 [some (.inr (.inr (some 0))), some (.inl p), some (.inl s)] [] (V, R, T) _
  generalize hQ : anQ V R T A n (liP A n p s) = Q
  have hn := hw.1
  obtain ⟨S1, S2, S3⟩ := nS_bd (dl := 0) hw
  have bad : ∀ W, qfr V W → caI W A n → ¬ ((0 ≤ p ∧ p < n) ∧ 0 ≤ s ∧ s < nS A n 0) → pm_w d 77 26 [some (.inr (.inr (some 0))), some (.inl p), some (.inl s)] [] (W, R, T) Q := by
    intro W h1 h2 h3
    rw [ux_77_26]
    simp only [ux_77_0, ux_77_1, ux_77_4, ux_77_5, ux_77_8, ux_77_11, ux_77_12, ux_77_15, ux_77_16, ux_77_17, ux_77_23, ux_77_27, ux_77_29, ux_77_35, ux_77_37, ux_77_38, ux_77_39, ux_77_45, ux_77_46, ux_77_47, ux_77_48, ux_77_49, pm_i_c, pm_l_c, pm_q_c, pm_r_c, pm_li_0, pm_li_s, pm_ll_0, pm_ll_s, pm_lq_0, pm_lq_s, pm_s1, pm_s2, pm_kl, pm_wI, pm_wR, pm_pu_n, pm_pu_s, pm_wt, List.take_succ_cons, List.take_zero, List.take_nil, List.drop_succ_cons, List.drop_zero, List.reverse_cons, List.reverse_nil, List.nil_append, List.cons_append, List.length_cons, List.length_nil, true_and, and_true, true_implies, tn_l, tn_0, Int.reduceToNat, Int.reduceLE, Int.reduceLT, Int.reduceEq, Int.reduceAdd, Int.reduceSub, Int.reduceMul, Int.reduceNeg, Nat.reduceAdd, Nat.reduceLeDiff, Nat.reduceEqDiff, Nat.reduceSub, Option.some.injEq, Sum.inl.injEq, Sum.inr.injEq, or_true, true_or, reduceCtorEq, ne_eq, not_false_eq_true, not_true_eq_false, false_implies, implies_true, false_and, and_false, false_or, or_false, if_true, if_false]
    rw [← hQ]
    exact ⟨W, _, rfl, rfl, h1, h2, Or.inl ⟨h3, rfl⟩⟩
  simp only [ux_77_0, ux_77_1, ux_77_4, ux_77_5, ux_77_8, ux_77_11, ux_77_12, ux_77_15, ux_77_16, ux_77_17, ux_77_23, ux_77_27, ux_77_29, ux_77_35, ux_77_37, ux_77_38, ux_77_39, ux_77_45, ux_77_46, ux_77_47, ux_77_48, ux_77_49, pm_i_c, pm_l_c, pm_q_c, pm_r_c, pm_li_0, pm_li_s, pm_ll_0, pm_ll_s, pm_lq_0, pm_lq_s, pm_s1, pm_s2, pm_kl, pm_wI, pm_wR, pm_pu_n, pm_pu_s, pm_wt, List.take_succ_cons, List.take_zero, List.take_nil, List.drop_succ_cons, List.drop_zero, List.reverse_cons, List.reverse_nil, List.nil_append, List.cons_append, List.length_cons, List.length_nil, true_and, and_true, true_implies, tn_l, tn_0, Int.reduceToNat, Int.reduceLE, Int.reduceLT, Int.reduceEq, Int.reduceAdd, Int.reduceSub, Int.reduceMul, Int.reduceNeg, Nat.reduceAdd, Nat.reduceLeDiff, Nat.reduceEqDiff, Nat.reduceSub, Option.some.injEq, Sum.inl.injEq, Sum.inr.injEq, or_true, true_or, reduceCtorEq, ne_eq, not_false_eq_true, not_true_eq_false, false_implies, implies_true, false_and, and_false, false_or, or_false, if_true, if_false, fr_0_0 hf, fr_0_1 hf, fr_0_2 hf, fr_0_3 hf, fr_0_7 hf, fr_0_8 hf, fr_0_11 hf, fr_0_12 hf, fg_0 hf, fv_0 hf, fr_1_3 hf, fg_1 hf, fv_1 hf, pm_ok_ev (c_has (d := d) (by omega) hf hs hn p)]
  by_cases c1 : 0 ≤ p ∧ p < n
  · rw [if_pos c1]
    refine ⟨fun z => absurd z (by decide), fun _ => ⟨fun z => bad V qfr_rf hc (by omega), fun z => ?_⟩⟩
    refine pm_ok_mono (c_knownFrame (d := d) (by omega) hf hs hw hc) ?_
    rintro r h2 ⟨V2, rfl, rfl, b1, b2, b3, b4, b5⟩
    have q2 : qfr V V2 := fun q hq => b1 q (by omega) (by omega)
    have hs2 := sh_q q2 hs
    rw [pm_pu_s, ux_77_20]
    simp only [ux_77_0, ux_77_1, ux_77_4, ux_77_5, ux_77_8, ux_77_11, ux_77_12, ux_77_15, ux_77_16, ux_77_17, ux_77_23, ux_77_27, ux_77_29, ux_77_35, ux_77_37, ux_77_38, ux_77_39, ux_77_45, ux_77_46, ux_77_47, ux_77_48, ux_77_49, pm_i_c, pm_l_c, pm_q_c, pm_r_c, pm_li_0, pm_li_s, pm_ll_0, pm_ll_s, pm_lq_0, pm_lq_s, pm_s1, pm_s2, pm_kl, pm_wI, pm_wR, pm_pu_n, pm_pu_s, pm_wt, List.take_succ_cons, List.take_zero, List.take_nil, List.drop_succ_cons, List.drop_zero, List.reverse_cons, List.reverse_nil, List.nil_append, List.cons_append, List.length_cons, List.length_nil, true_and, and_true, true_implies, tn_l, tn_0, Int.reduceToNat, Int.reduceLE, Int.reduceLT, Int.reduceEq, Int.reduceAdd, Int.reduceSub, Int.reduceMul, Int.reduceNeg, Nat.reduceAdd, Nat.reduceLeDiff, Nat.reduceEqDiff, Nat.reduceSub, Option.some.injEq, Sum.inl.injEq, Sum.inr.injEq, or_true, true_or, reduceCtorEq, ne_eq, not_false_eq_true, not_true_eq_false, false_implies, implies_true, false_and, and_false, false_or, or_false, if_true, if_false, fr_0_0 hf, fr_0_1 hf, fr_0_2 hf, fr_0_3 hf, fr_0_7 hf, fr_0_8 hf, fr_0_11 hf, fr_0_12 hf, fg_0 hf, fv_0 hf, fr_45_4 hf, fr_45_5 hf, fr_45_6 hf, fr_45_7 hf, fg_45 hf, fv_45 hf, b4.2.2.2.1]
    refine ⟨fun z2 => ?_, fun z2 => bad V2 q2 b5 (by omega)⟩
    have hg : (0 ≤ p ∧ p < n) ∧ 0 ≤ s ∧ s < nS A n 0 := ⟨c1, by omega, by omega⟩
    rw [ux_77_28]
    simp only [ux_77_0, ux_77_1, ux_77_4, ux_77_5, ux_77_8, ux_77_11, ux_77_12, ux_77_15, ux_77_16, ux_77_17, ux_77_23, ux_77_27, ux_77_29, ux_77_35, ux_77_37, ux_77_38, ux_77_39, ux_77_45, ux_77_46, ux_77_47, ux_77_48, ux_77_49, pm_i_c, pm_l_c, pm_q_c, pm_r_c, pm_li_0, pm_li_s, pm_ll_0, pm_ll_s, pm_lq_0, pm_lq_s, pm_s1, pm_s2, pm_kl, pm_wI, pm_wR, pm_pu_n, pm_pu_s, pm_wt, List.take_succ_cons, List.take_zero, List.take_nil, List.drop_succ_cons, List.drop_zero, List.reverse_cons, List.reverse_nil, List.nil_append, List.cons_append, List.length_cons, List.length_nil, true_and, and_true, true_implies, tn_l, tn_0, Int.reduceToNat, Int.reduceLE, Int.reduceLT, Int.reduceEq, Int.reduceAdd, Int.reduceSub, Int.reduceMul, Int.reduceNeg, Nat.reduceAdd, Nat.reduceLeDiff, Nat.reduceEqDiff, Nat.reduceSub, Option.some.injEq, Sum.inl.injEq, Sum.inr.injEq, or_true, true_or, reduceCtorEq, ne_eq, not_false_eq_true, not_true_eq_false, false_implies, implies_true, false_and, and_false, false_or, or_false, if_true, if_false, fr_0_0 hf, fr_0_1 hf, fr_0_2 hf, fr_0_3 hf, fr_0_7 hf, fr_0_8 hf, fr_0_11 hf, fr_0_12 hf, fg_0 hf, fv_0 hf]
    refine pm_ok_mono (c_doAllFit (d := d) (V := V2) (by omega) hf hs2 hw b5) ?_
    rintro r h2 ⟨V3, rfl, d1, d2, d3, ⟨rfl, y⟩ | ⟨rfl, y⟩⟩
    · have q3 : qfr V V3 := qfr_tr q2 (fun q hq => d1 q (by omega) (by omega))
      rw [pm_pu_s, ux_77_32]
      simp only [ux_77_0, ux_77_1, ux_77_4, ux_77_5, ux_77_8, ux_77_11, ux_77_12, ux_77_15, ux_77_16, ux_77_17, ux_77_23, ux_77_27, ux_77_29, ux_77_35, ux_77_37, ux_77_38, ux_77_39, ux_77_45, ux_77_46, ux_77_47, ux_77_48, ux_77_49, pm_i_c, pm_l_c, pm_q_c, pm_r_c, pm_li_0, pm_li_s, pm_ll_0, pm_ll_s, pm_lq_0, pm_lq_s, pm_s1, pm_s2, pm_kl, pm_wI, pm_wR, pm_pu_n, pm_pu_s, pm_wt, List.take_succ_cons, List.take_zero, List.take_nil, List.drop_succ_cons, List.drop_zero, List.reverse_cons, List.reverse_nil, List.nil_append, List.cons_append, List.length_cons, List.length_nil, true_and, and_true, true_implies, tn_l, tn_0, Int.reduceToNat, Int.reduceLE, Int.reduceLT, Int.reduceEq, Int.reduceAdd, Int.reduceSub, Int.reduceMul, Int.reduceNeg, Nat.reduceAdd, Nat.reduceLeDiff, Nat.reduceEqDiff, Nat.reduceSub, Option.some.injEq, Sum.inl.injEq, Sum.inr.injEq, or_true, true_or, reduceCtorEq, ne_eq, not_false_eq_true, not_true_eq_false, false_implies, implies_true, false_and, and_false, false_or, or_false, if_true, if_false, fr_0_0 hf, fr_0_1 hf, fr_0_2 hf, fr_0_3 hf, fr_0_7 hf, fr_0_8 hf, fr_0_11 hf, fr_0_12 hf, fg_0 hf, fv_0 hf]
      refine pm_ok_mono (c_knownCloth (d := d) (V := V3) (by omega) hf (sh_q q3 hs) hw d3 y) ?_
      rintro r h2 ⟨V4, rfl, rfl, e1, e2⟩
      have q4 : qfr V V4 := qfr_tr q3 (fun q hq => e1 q (by omega) (by omega))
      obtain ⟨pn, rfl⟩ : ∃ k : Nat, p = k := ⟨p.toNat, by omega⟩
      obtain ⟨sn, rfl⟩ : ∃ k : Nat, s = k := ⟨s.toNat, by omega⟩
      have hb := fx_50 hf
      have ex : V4 (50 + 4 + pn) sn = xL V4 50 pn sn := (xL_eq (by omega)).symm
      rw [pm_pu_s, ux_77_42]
      simp only [ux_77_0, ux_77_1, ux_77_4, ux_77_5, ux_77_8, ux_77_11, ux_77_12, ux_77_15, ux_77_16, ux_77_17, ux_77_23, ux_77_27, ux_77_29, ux_77_35, ux_77_37, ux_77_38, ux_77_39, ux_77_45, ux_77_46, ux_77_47, ux_77_48, ux_77_49, pm_i_c, pm_l_c, pm_q_c, pm_r_c, pm_li_0, pm_li_s, pm_ll_0, pm_ll_s, pm_lq_0, pm_lq_s, pm_s1, pm_s2, pm_kl, pm_wI, pm_wR, pm_pu_n, pm_pu_s, pm_wt, List.take_succ_cons, List.take_zero, List.take_nil, List.drop_succ_cons, List.drop_zero, List.reverse_cons, List.reverse_nil, List.nil_append, List.cons_append, List.length_cons, List.length_nil, true_and, and_true, true_implies, tn_l, tn_0, Int.reduceToNat, Int.reduceLE, Int.reduceLT, Int.reduceEq, Int.reduceAdd, Int.reduceSub, Int.reduceMul, Int.reduceNeg, Nat.reduceAdd, Nat.reduceLeDiff, Nat.reduceEqDiff, Nat.reduceSub, Option.some.injEq, Sum.inl.injEq, Sum.inr.injEq, or_true, true_or, reduceCtorEq, ne_eq, not_false_eq_true, not_true_eq_false, false_implies, implies_true, false_and, and_false, false_or, or_false, if_true, if_false, ly_3 hb, ly_4 hb, ly_5 hb, ly_6 hb, ly_7 hb, ly_8 hb, ly_9 hb, ly_t hb, ly_v hb, ly_b1 hb, ly_b2 hb, ly_b3 hb, ly_b16 hb, ly_b29 hb, ly_b30 hb, ly_b31 hb, ly_x hb (show pn < 12 by omega), ly_bx hb (show pn < 12 by omega), ex]
      rw [← hQ]
      exact ⟨Or.inl (by omega), by omega, V4, _, rfl, rfl, q4, e2.1, Or.inr (Or.inr ⟨hg, y, _, e2.2.2.2, by rw [Int.toNat_natCast, Int.toNat_natCast]⟩)⟩
    · rw [pm_pu_s, ux_77_32]
      simp only [ux_77_0, ux_77_1, ux_77_4, ux_77_5, ux_77_8, ux_77_11, ux_77_12, ux_77_15, ux_77_16, ux_77_17, ux_77_23, ux_77_27, ux_77_29, ux_77_35, ux_77_37, ux_77_38, ux_77_39, ux_77_45, ux_77_46, ux_77_47, ux_77_48, ux_77_49, pm_i_c, pm_l_c, pm_q_c, pm_r_c, pm_li_0, pm_li_s, pm_ll_0, pm_ll_s, pm_lq_0, pm_lq_s, pm_s1, pm_s2, pm_kl, pm_wI, pm_wR, pm_pu_n, pm_pu_s, pm_wt, List.take_succ_cons, List.take_zero, List.take_nil, List.drop_succ_cons, List.drop_zero, List.reverse_cons, List.reverse_nil, List.nil_append, List.cons_append, List.length_cons, List.length_nil, true_and, and_true, true_implies, tn_l, tn_0, Int.reduceToNat, Int.reduceLE, Int.reduceLT, Int.reduceEq, Int.reduceAdd, Int.reduceSub, Int.reduceMul, Int.reduceNeg, Nat.reduceAdd, Nat.reduceLeDiff, Nat.reduceEqDiff, Nat.reduceSub, Option.some.injEq, Sum.inl.injEq, Sum.inr.injEq, or_true, true_or, reduceCtorEq, ne_eq, not_false_eq_true, not_true_eq_false, false_implies, implies_true, false_and, and_false, false_or, or_false, if_true, if_false, fr_0_0 hf, fr_0_1 hf, fr_0_2 hf, fr_0_3 hf, fr_0_7 hf, fr_0_8 hf, fr_0_11 hf, fr_0_12 hf, fg_0 hf, fv_0 hf]
      rw [← hQ]
      exact ⟨V3, _, rfl, rfl, qfr_tr q2 (fun q hq => d1 q (by omega) (by omega)), d3, Or.inr (Or.inl ⟨hg, y, rfl⟩)⟩
  · rw [if_neg c1]
    exact ⟨fun _ => bad V qfr_rf hc (fun w => c1 w.1), fun z => absurd rfl z⟩
def onP (A : Nat → Int) (n : Nat) (l t v : Int) : Prop := (¬ ((0 ≤ l ∧ l < A 0) ∧ 0 ≤ t ∧ t < 60) ∧ v = -1) ∨ (((0 ≤ l ∧ l < A 0) ∧ 0 ≤ t ∧ t < 60) ∧ ¬ hal A n (A 0) 0 ∧ v = -2) ∨ (((0 ≤ l ∧ l < A 0) ∧ 0 ≤ t ∧ t < 60) ∧ hal A n (A 0) 0 ∧ ∃ x, clo A n x ∧ v = onA (nmo A n 0) (nS A n 0) n x l.toNat t.toNat)
theorem c_on (hd : 8 ≤ d) (hf : fx R T) (hs : shO V R T 1 A n) (hw : wf A n) (hc : caI V A n) (l t : Int) : pm_ok d 83 [.inr (.inr (some 0)), .inl l, .inl t] (V, R, T) (anQ V R T A n (onP A n l t)) := by
  obtain ⟨d, rfl⟩ : ∃ k, d = k + 1 := ⟨d - 1, by omega⟩
  refine pm_ok_iff.mpr ⟨(Nat.le_of_ble_eq_true rfl), ?_⟩
  show pm_w d 83 0 [some (.inr (.inr (some 0))), some (.inl l), some (.inl t)] [] (V, R, T) _
  generalize hQ : anQ V R T A n (onP A n l t) = Q
  have hA0 := hw.2.2.1
  have bad : ¬ ((0 ≤ l ∧ l < A 0) ∧ 0 ≤ t ∧ t < 60) → Q (some (.inl (-1))) (V, R, T) := by
    intro h3
    rw [← hQ]
    exact ⟨V, _, rfl, rfl, qfr_rf, hc, Or.inl ⟨h3, rfl⟩⟩
  simp only [ux_83_0, ux_83_1, ux_83_4, ux_83_5, ux_83_6, ux_83_9, ux_83_12, ux_83_15, ux_83_16, ux_83_19, ux_83_20, ux_83_22, ux_83_25, ux_83_26, ux_83_28, ux_83_34, ux_83_36, ux_83_37, ux_83_38, ux_83_39, ux_83_43, ux_83_44, ux_83_47, pm_i_c, pm_l_c, pm_q_c, pm_r_c, pm_li_0, pm_li_s, pm_ll_0, pm_ll_s, pm_lq_0, pm_lq_s, pm_s1, pm_s2, pm_kl, pm_wI, pm_wR, pm_pu_n, pm_pu_s, pm_wt, List.take_succ_cons, List.take_zero, List.take_nil, List.drop_succ_cons, List.drop_zero, List.reverse_cons, List.reverse_nil, List.nil_append, List.cons_append, List.length_cons, List.length_nil, true_and, and_true, true_implies, tn_l, tn_0, Int.reduceToNat, Int.reduceLE, Int.reduceLT, Int.reduceEq, Int.reduceAdd, Int.reduceSub, Int.reduceMul, Int.reduceNeg, Nat.reduceAdd, Nat.reduceLeDiff, Nat.reduceEqDiff, Nat.reduceSub, Option.some.injEq, Sum.inl.injEq, Sum.inr.injEq, or_true, true_or, reduceCtorEq, ne_eq, not_false_eq_true, not_true_eq_false, false_implies, implies_true, false_and, and_false, false_or, or_false, if_true, if_false, fr_0_0 hf, fr_0_1 hf, fr_0_2 hf, fr_0_3 hf, fr_0_7 hf, fr_0_8 hf, fr_0_11 hf, fr_0_12 hf, fg_0 hf, fv_0 hf, fr_1_3 hf, fg_1 hf, fv_1 hf, hs.1]
  refine ⟨fun z => bad (by omega), fun z => ⟨fun z2 => bad (by omega), fun z2 => ⟨fun z3 => bad (by omega), fun z3 => ⟨fun z4 => ?_, fun z4 => bad (by omega)⟩⟩⟩⟩
  have hg : (0 ≤ l ∧ l < A 0) ∧ 0 ≤ t ∧ t < 60 := by omega
  rw [ux_83_27]
  simp only [ux_83_0, ux_83_1, ux_83_4, ux_83_5, ux_83_6, ux_83_9, ux_83_12, ux_83_15, ux_83_16, ux_83_19, ux_83_20, ux_83_22, ux_83_25, ux_83_26, ux_83_28, ux_83_34, ux_83_36, ux_83_37, ux_83_38, ux_83_39, ux_83_43, ux_83_44, ux_83_47, pm_i_c, pm_l_c, pm_q_c, pm_r_c, pm_li_0, pm_li_s, pm_ll_0, pm_ll_s, pm_lq_0, pm_lq_s, pm_s1, pm_s2, pm_kl, pm_wI, pm_wR, pm_pu_n, pm_pu_s, pm_wt, List.take_succ_cons, List.take_zero, List.take_nil, List.drop_succ_cons, List.drop_zero, List.reverse_cons, List.reverse_nil, List.nil_append, List.cons_append, List.length_cons, List.length_nil, true_and, and_true, true_implies, tn_l, tn_0, Int.reduceToNat, Int.reduceLE, Int.reduceLT, Int.reduceEq, Int.reduceAdd, Int.reduceSub, Int.reduceMul, Int.reduceNeg, Nat.reduceAdd, Nat.reduceLeDiff, Nat.reduceEqDiff, Nat.reduceSub, Option.some.injEq, Sum.inl.injEq, Sum.inr.injEq, or_true, true_or, reduceCtorEq, ne_eq, not_false_eq_true, not_true_eq_false, false_implies, implies_true, false_and, and_false, false_or, or_false, if_true, if_false, fr_0_0 hf, fr_0_1 hf, fr_0_2 hf, fr_0_3 hf, fr_0_7 hf, fr_0_8 hf, fr_0_11 hf, fr_0_12 hf, fg_0 hf, fv_0 hf]
  refine pm_ok_mono (c_doAllFit (d := d) (by omega) hf hs hw hc) ?_
  rintro r h2 ⟨V3, rfl, d1, d2, d3, ⟨rfl, y⟩ | ⟨rfl, y⟩⟩
  · have q3 : qfr V V3 := fun q hq => d1 q (by omega) (by omega)
    rw [pm_pu_s, ux_83_31]
    simp only [ux_83_0, ux_83_1, ux_83_4, ux_83_5, ux_83_6, ux_83_9, ux_83_12, ux_83_15, ux_83_16, ux_83_19, ux_83_20, ux_83_22, ux_83_25, ux_83_26, ux_83_28, ux_83_34, ux_83_36, ux_83_37, ux_83_38, ux_83_39, ux_83_43, ux_83_44, ux_83_47, pm_i_c, pm_l_c, pm_q_c, pm_r_c, pm_li_0, pm_li_s, pm_ll_0, pm_ll_s, pm_lq_0, pm_lq_s, pm_s1, pm_s2, pm_kl, pm_wI, pm_wR, pm_pu_n, pm_pu_s, pm_wt, List.take_succ_cons, List.take_zero, List.take_nil, List.drop_succ_cons, List.drop_zero, List.reverse_cons, List.reverse_nil, List.nil_append, List.cons_append, List.length_cons, List.length_nil, true_and, and_true, true_implies, tn_l, tn_0, Int.reduceToNat, Int.reduceLE, Int.reduceLT, Int.reduceEq, Int.reduceAdd, Int.reduceSub, Int.reduceMul, Int.reduceNeg, Nat.reduceAdd, Nat.reduceLeDiff, Nat.reduceEqDiff, Nat.reduceSub, Option.some.injEq, Sum.inl.injEq, Sum.inr.injEq, or_true, true_or, reduceCtorEq, ne_eq, not_false_eq_true, not_true_eq_false, false_implies, implies_true, false_and, and_false, false_or, or_false, if_true, if_false, fr_0_0 hf, fr_0_1 hf, fr_0_2 hf, fr_0_3 hf, fr_0_7 hf, fr_0_8 hf, fr_0_11 hf, fr_0_12 hf, fg_0 hf, fv_0 hf]
    refine pm_ok_mono (c_knownCloth (d := d) (V := V3) (by omega) hf (sh_q q3 hs) hw d3 y) ?_
    rintro r h2 ⟨V4, rfl, rfl, e1, e2⟩
    have q4 : qfr V V4 := qfr_tr q3 (fun q hq => e1 q (by omega) (by omega))
    obtain ⟨ln, rfl⟩ : ∃ k : Nat, l = k := ⟨l.toNat, by omega⟩
    obtain ⟨tn, rfl⟩ : ∃ k : Nat, t = k := ⟨t.toNat, by omega⟩
    rw [pm_pu_s, ux_83_42]
    simp only [ux_83_0, ux_83_1, ux_83_4, ux_83_5, ux_83_6, ux_83_9, ux_83_12, ux_83_15, ux_83_16, ux_83_19, ux_83_20, ux_83_22, ux_83_25, ux_83_26, ux_83_28, ux_83_34, ux_83_36, ux_83_37, ux_83_38, ux_83_39, ux_83_43, ux_83_44, ux_83_47, pm_i_c, pm_l_c, pm_q_c, pm_r_c, pm_li_0, pm_li_s, pm_ll_0, pm_ll_s, pm_lq_0, pm_lq_s, pm_s1, pm_s2, pm_kl, pm_wI, pm_wR, pm_pu_n, pm_pu_s, pm_wt, List.take_succ_cons, List.take_zero, List.take_nil, List.drop_succ_cons, List.drop_zero, List.reverse_cons, List.reverse_nil, List.nil_append, List.cons_append, List.length_cons, List.length_nil, true_and, and_true, true_implies, tn_l, tn_0, Int.reduceToNat, Int.reduceLE, Int.reduceLT, Int.reduceEq, Int.reduceAdd, Int.reduceSub, Int.reduceMul, Int.reduceNeg, Nat.reduceAdd, Nat.reduceLeDiff, Nat.reduceEqDiff, Nat.reduceSub, Option.some.injEq, Sum.inl.injEq, Sum.inr.injEq, or_true, true_or, reduceCtorEq, ne_eq, not_false_eq_true, not_true_eq_false, false_implies, implies_true, false_and, and_false, false_or, or_false, if_true, if_false, fr_0_0 hf, fr_0_1 hf, fr_0_2 hf, fr_0_3 hf, fr_0_7 hf, fr_0_8 hf, fr_0_11 hf, fr_0_12 hf, fg_0 hf, fv_0 hf, pm_ok_ev (c_pieceInHour (d := d) (V := V4) (by omega) hf hw e2 ln tn (by omega) (by omega))]
    rw [← hQ]
    exact ⟨V4, _, rfl, rfl, q4, e2.1, Or.inr (Or.inr ⟨hg, y, _, e2.2.2.2, by rw [Int.toNat_natCast, Int.toNat_natCast]⟩)⟩
  · rw [pm_pu_s, ux_83_31]
    simp only [ux_83_0, ux_83_1, ux_83_4, ux_83_5, ux_83_6, ux_83_9, ux_83_12, ux_83_15, ux_83_16, ux_83_19, ux_83_20, ux_83_22, ux_83_25, ux_83_26, ux_83_28, ux_83_34, ux_83_36, ux_83_37, ux_83_38, ux_83_39, ux_83_43, ux_83_44, ux_83_47, pm_i_c, pm_l_c, pm_q_c, pm_r_c, pm_li_0, pm_li_s, pm_ll_0, pm_ll_s, pm_lq_0, pm_lq_s, pm_s1, pm_s2, pm_kl, pm_wI, pm_wR, pm_pu_n, pm_pu_s, pm_wt, List.take_succ_cons, List.take_zero, List.take_nil, List.drop_succ_cons, List.drop_zero, List.reverse_cons, List.reverse_nil, List.nil_append, List.cons_append, List.length_cons, List.length_nil, true_and, and_true, true_implies, tn_l, tn_0, Int.reduceToNat, Int.reduceLE, Int.reduceLT, Int.reduceEq, Int.reduceAdd, Int.reduceSub, Int.reduceMul, Int.reduceNeg, Nat.reduceAdd, Nat.reduceLeDiff, Nat.reduceEqDiff, Nat.reduceSub, Option.some.injEq, Sum.inl.injEq, Sum.inr.injEq, or_true, true_or, reduceCtorEq, ne_eq, not_false_eq_true, not_true_eq_false, false_implies, implies_true, false_and, and_false, false_or, or_false, if_true, if_false, fr_0_0 hf, fr_0_1 hf, fr_0_2 hf, fr_0_3 hf, fr_0_7 hf, fr_0_8 hf, fr_0_11 hf, fr_0_12 hf, fg_0 hf, fv_0 hf]
    rw [← hQ]
    exact ⟨V3, _, rfl, rfl, fun q hq => d1 q (by omega) (by omega), d3, Or.inr (Or.inl ⟨hg, y, rfl⟩)⟩
theorem c_beginsOn (hd : 3 ≤ d) (hf : fx R T) (hw : wf A n) (hI : kcI V A n) (l : Nat) (hl : l ≤ 6) : pm_ev d 88 [.inr (.inr (some 0)), .inr (.inr (some 50)), .inl (l : Int)] (V, R, T) (some (.inl (bgF (fun t => onA (nmo A n 0) (nS A n 0) n (xL V 50) l t) 60))) (V, R, T) := by
  refine pm_ev_of (by omega) (Nat.le_of_ble_eq_true rfl) ?_
  show pm_w (d - 1) 88 0 [some (.inr (.inr (some 0))), some (.inr (.inr (some 50))), some (.inl (l : Int)), none, none, none, none] [] (V, R, T) _
  have hn := hw.1
  generalize hg : (fun t => onA (nmo A n 0) (nS A n 0) n (xL V 50) l t) = g
  have gb : ∀ t, g t = -3 ∨ (0 ≤ g t ∧ g t < n) := fun t => by rw [← hg]; exact onA_bd
  have ev : ∀ t : Nat, t ≤ 60 → pm_ev (d - 1) 84 [.inr (.inr (some 0)), .inr (.inr (some 50)), .inl (l : Int), .inl (t : Int)] (V, R, T) (some (.inl (g t))) (V, R, T) := fun t ht => by
    rw [← hg]
    exact c_pieceInHour (d := d - 1) (V := V) (by omega) hf hw hI l t hl ht
  simp only [ux_88_0, ux_88_1, ux_88_2, ux_88_4, ux_88_6, ux_88_7, ux_88_11, ux_88_13, ux_88_16, ux_88_17, ux_88_18, ux_88_19, ux_88_21, ux_88_24, ux_88_26, ux_88_28, ux_88_30, ux_88_33, ux_88_35, ux_88_37, ux_88_40, ux_88_43, ux_88_45, ux_88_47, ux_88_50, ux_88_53, ux_88_54, pm_i_c, pm_l_c, pm_q_c, pm_r_c, pm_li_0, pm_li_s, pm_ll_0, pm_ll_s, pm_lq_0, pm_lq_s, pm_s1, pm_s2, pm_kl, pm_wI, pm_wR, pm_pu_n, pm_pu_s, pm_wt, List.take_succ_cons, List.take_zero, List.take_nil, List.drop_succ_cons, List.drop_zero, List.reverse_cons, List.reverse_nil, List.nil_append, List.cons_append, List.length_cons, List.length_nil, true_and, and_true, true_implies, tn_l, tn_0, Int.reduceToNat, Int.reduceLE, Int.reduceLT, Int.reduceEq, Int.reduceAdd, Int.reduceSub, Int.reduceMul, Int.reduceNeg, Nat.reduceAdd, Nat.reduceLeDiff, Nat.reduceEqDiff, Nat.reduceSub, Option.some.injEq, Sum.inl.injEq, Sum.inr.injEq, or_true, true_or, reduceCtorEq, ne_eq, not_false_eq_true, not_true_eq_false, false_implies, implies_true, false_and, and_false, false_or, or_false, if_true, if_false, fr_0_0 hf, fr_0_1 hf, fr_0_2 hf, fr_0_3 hf, fr_0_7 hf, fr_0_8 hf, fr_0_11 hf, fr_0_12 hf, fg_0 hf, fv_0 hf]
  have key := pm_up0 (fun t => ∀ y6, pm_w (d - 1) 88 9 [some (.inr (.inr (some 0))), some (.inr (.inr (some 50))), some (.inl (l : Int)), some (.inl (bgF g t)), some (.inl (if t = 0 then -3 else g (t - 1))), some (.inl (t : Int)), y6] [] (V, R, T) (fun r2 h2 => r2 = some (.inl (bgF g 60)) ∧ h2 = (V, R, T))) 60 ?_ ?_
  · have := key none
    rw [if_pos rfl] at this
    exact this
  · intro y6
    rw [ux_88_9]
    simp only [ux_88_0, ux_88_1, ux_88_2, ux_88_4, ux_88_6, ux_88_7, ux_88_11, ux_88_13, ux_88_16, ux_88_17, ux_88_18, ux_88_19, ux_88_21, ux_88_24, ux_88_26, ux_88_28, ux_88_30, ux_88_33, ux_88_35, ux_88_37, ux_88_40, ux_88_43, ux_88_45, ux_88_47, ux_88_50, ux_88_53, ux_88_54, pm_i_c, pm_l_c, pm_q_c, pm_r_c, pm_li_0, pm_li_s, pm_ll_0, pm_ll_s, pm_lq_0, pm_lq_s, pm_s1, pm_s2, pm_kl, pm_wI, pm_wR, pm_pu_n, pm_pu_s, pm_wt, List.take_succ_cons, List.take_zero, List.take_nil, List.drop_succ_cons, List.drop_zero, List.reverse_cons, List.reverse_nil, List.nil_append, List.cons_append, List.length_cons, List.length_nil, true_and, and_true, true_implies, tn_l, tn_0, Int.reduceToNat, Int.reduceLE, Int.reduceLT, Int.reduceEq, Int.reduceAdd, Int.reduceSub, Int.reduceMul, Int.reduceNeg, Nat.reduceAdd, Nat.reduceLeDiff, Nat.reduceEqDiff, Nat.reduceSub, Option.some.injEq, Sum.inl.injEq, Sum.inr.injEq, or_true, true_or, reduceCtorEq, ne_eq, not_false_eq_true, not_true_eq_false, false_implies, implies_true, false_and, and_false, false_or, or_false, if_true, if_false, fr_0_0 hf, fr_0_1 hf, fr_0_2 hf, fr_0_3 hf, fr_0_7 hf, fr_0_8 hf, fr_0_11 hf, fr_0_12 hf, fg_0 hf, fv_0 hf]
    exact fun z => absurd (by decide) z
  · intro t ht ih y6
    have bb := bgF_bd (g := g) t
    have gg := gb t
    have e3 : bgF g (t + 1) = bgF g t + if 0 ≤ g t ∧ g t ≠ (if t = 0 then -3 else g (t - 1)) then 1 else 0 := rfl
    have ih2 := ih (some (.inl (g t)))
    rw [if_neg (show ¬ t + 1 = 0 by omega), show t + 1 - 1 = t by omega, e3] at ih2
    rw [ux_88_9]
    simp only [ux_88_0, ux_88_1, ux_88_2, ux_88_4, ux_88_6, ux_88_7, ux_88_11, ux_88_13, ux_88_16, ux_88_17, ux_88_18, ux_88_19, ux_88_21, ux_88_24, ux_88_26, ux_88_28, ux_88_30, ux_88_33, ux_88_35, ux_88_37, ux_88_40, ux_88_43, ux_88_45, ux_88_47, ux_88_50, ux_88_53, ux_88_54, pm_i_c, pm_l_c, pm_q_c, pm_r_c, pm_li_0, pm_li_s, pm_ll_0, pm_ll_s, pm_lq_0, pm_lq_s, pm_s1, pm_s2, pm_kl, pm_wI, pm_wR, pm_pu_n, pm_pu_s, pm_wt, List.take_succ_cons, List.take_zero, List.take_nil, List.drop_succ_cons, List.drop_zero, List.reverse_cons, List.reverse_nil, List.nil_append, List.cons_append, List.length_cons, List.length_nil, true_and, and_true, true_implies, tn_l, tn_0, Int.reduceToNat, Int.reduceLE, Int.reduceLT, Int.reduceEq, Int.reduceAdd, Int.reduceSub, Int.reduceMul, Int.reduceNeg, Nat.reduceAdd, Nat.reduceLeDiff, Nat.reduceEqDiff, Nat.reduceSub, Option.some.injEq, Sum.inl.injEq, Sum.inr.injEq, or_true, true_or, reduceCtorEq, ne_eq, not_false_eq_true, not_true_eq_false, false_implies, implies_true, false_and, and_false, false_or, or_false, if_true, if_false, fr_0_0 hf, fr_0_1 hf, fr_0_2 hf, fr_0_3 hf, fr_0_7 hf, fr_0_8 hf, fr_0_11 hf, fr_0_12 hf, fg_0 hf, fv_0 hf, pm_ok_ev (ev t (by omega))]
    generalize hq : (if t = 0 then -3 else g (t - 1)) = q at ih2 ⊢
    refine ⟨fun z => by omega, fun _ => ⟨fun z => ?_, fun z => ⟨fun z2 => ?_, fun z2 => ?_⟩⟩⟩
    · rw [if_neg (by omega), Int.add_zero] at ih2
      exact ⟨by unfold pm_I32; omega, ih2⟩
    · rw [if_neg (fun w => w.2 z2), Int.add_zero] at ih2
      exact ⟨by unfold pm_I32; omega, ih2⟩
    · rw [if_pos ⟨by omega, z2⟩] at ih2
      exact ⟨by unfold pm_I32; omega, by unfold pm_I32; omega, ih2⟩
def ctP (A : Nat → Int) (n : Nat) (v : Int) : Prop := (¬ hal A n (A 0) 0 ∧ v = -2) ∨ (hal A n (A 0) 0 ∧ ∃ x, clo A n x ∧ v = ctA A n x)
theorem c_cuts (hd : 8 ≤ d) (hf : fx R T) (hs : shO V R T 1 A n) (hw : wf A n) (hc : caI V A n) : pm_ok d 87 [.inr (.inr (some 0))] (V, R, T) (anQ V R T A n (ctP A n)) := by
  obtain ⟨d, rfl⟩ : ∃ k, d = k + 1 := ⟨d - 1, by omega⟩
  refine pm_ok_iff.mpr ⟨(Nat.le_of_ble_eq_true rfl), ?_⟩
  show pm_w d 87 0 [some (.inr (.inr (some 0))), none, none, none] [] (V, R, T) _
  generalize hQ : anQ V R T A n (ctP A n) = Q
  have hA0 := hw.2.2.1
  have hn := hw.1
  simp only [ux_87_0, ux_87_1, ux_87_7, ux_87_9, ux_87_10, ux_87_11, ux_87_15, ux_87_16, ux_87_17, ux_87_18, ux_87_20, ux_87_21, ux_87_24, ux_87_27, ux_87_30, ux_87_31, ux_87_32, ux_87_33, ux_87_34, ux_87_37, ux_87_38, ux_87_39, ux_87_42, ux_87_45, ux_87_46, ux_87_47, ux_87_50, ux_87_53, ux_87_54, pm_i_c, pm_l_c, pm_q_c, pm_r_c, pm_li_0, pm_li_s, pm_ll_0, pm_ll_s, pm_lq_0, pm_lq_s, pm_s1, pm_s2, pm_kl, pm_wI, pm_wR, pm_pu_n, pm_pu_s, pm_wt, List.take_succ_cons, List.take_zero, List.take_nil, List.drop_succ_cons, List.drop_zero, List.reverse_cons, List.reverse_nil, List.nil_append, List.cons_append, List.length_cons, List.length_nil, true_and, and_true, true_implies, tn_l, tn_0, Int.reduceToNat, Int.reduceLE, Int.reduceLT, Int.reduceEq, Int.reduceAdd, Int.reduceSub, Int.reduceMul, Int.reduceNeg, Nat.reduceAdd, Nat.reduceLeDiff, Nat.reduceEqDiff, Nat.reduceSub, Option.some.injEq, Sum.inl.injEq, Sum.inr.injEq, or_true, true_or, reduceCtorEq, ne_eq, not_false_eq_true, not_true_eq_false, false_implies, implies_true, false_and, and_false, false_or, or_false, if_true, if_false, fr_0_0 hf, fr_0_1 hf, fr_0_2 hf, fr_0_3 hf, fr_0_7 hf, fr_0_8 hf, fr_0_11 hf, fr_0_12 hf, fg_0 hf, fv_0 hf]
  refine pm_ok_mono (c_doAllFit (d := d) (by omega) hf hs hw hc) ?_
  rintro r h2 ⟨V3, rfl, d1, d2, d3, ⟨rfl, y⟩ | ⟨rfl, y⟩⟩
  · have q3 : qfr V V3 := fun q hq => d1 q (by omega) (by omega)
    rw [pm_pu_s, ux_87_4]
    simp only [ux_87_0, ux_87_1, ux_87_7, ux_87_9, ux_87_10, ux_87_11, ux_87_15, ux_87_16, ux_87_17, ux_87_18, ux_87_20, ux_87_21, ux_87_24, ux_87_27, ux_87_30, ux_87_31, ux_87_32, ux_87_33, ux_87_34, ux_87_37, ux_87_38, ux_87_39, ux_87_42, ux_87_45, ux_87_46, ux_87_47, ux_87_50, ux_87_53, ux_87_54, pm_i_c, pm_l_c, pm_q_c, pm_r_c, pm_li_0, pm_li_s, pm_ll_0, pm_ll_s, pm_lq_0, pm_lq_s, pm_s1, pm_s2, pm_kl, pm_wI, pm_wR, pm_pu_n, pm_pu_s, pm_wt, List.take_succ_cons, List.take_zero, List.take_nil, List.drop_succ_cons, List.drop_zero, List.reverse_cons, List.reverse_nil, List.nil_append, List.cons_append, List.length_cons, List.length_nil, true_and, and_true, true_implies, tn_l, tn_0, Int.reduceToNat, Int.reduceLE, Int.reduceLT, Int.reduceEq, Int.reduceAdd, Int.reduceSub, Int.reduceMul, Int.reduceNeg, Nat.reduceAdd, Nat.reduceLeDiff, Nat.reduceEqDiff, Nat.reduceSub, Option.some.injEq, Sum.inl.injEq, Sum.inr.injEq, or_true, true_or, reduceCtorEq, ne_eq, not_false_eq_true, not_true_eq_false, false_implies, implies_true, false_and, and_false, false_or, or_false, if_true, if_false, fr_0_0 hf, fr_0_1 hf, fr_0_2 hf, fr_0_3 hf, fr_0_7 hf, fr_0_8 hf, fr_0_11 hf, fr_0_12 hf, fg_0 hf, fv_0 hf]
    refine pm_ok_mono (c_knownCloth (d := d) (V := V3) (by omega) hf (sh_q q3 hs) hw d3 y) ?_
    rintro r h2 ⟨V4, rfl, rfl, e1, e2⟩
    have q4 : qfr V V4 := qfr_tr q3 (fun q hq => e1 q (by omega) (by omega))
    have hs4 := sh_q q4 hs
    obtain ⟨lo, hlo⟩ : ∃ k : Nat, A 0 = k := ⟨(A 0).toNat, by omega⟩
    have h10 : V4 1 0 = lo := by rw [hs4.1]; exact hlo
    have h12 := hs4.2.2.1
    rw [pm_pu_s, ux_87_14]
    simp only [ux_87_0, ux_87_1, ux_87_7, ux_87_9, ux_87_10, ux_87_11, ux_87_15, ux_87_16, ux_87_17, ux_87_18, ux_87_20, ux_87_21, ux_87_24, ux_87_27, ux_87_30, ux_87_31, ux_87_32, ux_87_33, ux_87_34, ux_87_37, ux_87_38, ux_87_39, ux_87_42, ux_87_45, ux_87_46, ux_87_47, ux_87_50, ux_87_53, ux_87_54, pm_i_c, pm_l_c, pm_q_c, pm_r_c, pm_li_0, pm_li_s, pm_ll_0, pm_ll_s, pm_lq_0, pm_lq_s, pm_s1, pm_s2, pm_kl, pm_wI, pm_wR, pm_pu_n, pm_pu_s, pm_wt, List.take_succ_cons, List.take_zero, List.take_nil, List.drop_succ_cons, List.drop_zero, List.reverse_cons, List.reverse_nil, List.nil_append, List.cons_append, List.length_cons, List.length_nil, true_and, and_true, true_implies, tn_l, tn_0, Int.reduceToNat, Int.reduceLE, Int.reduceLT, Int.reduceEq, Int.reduceAdd, Int.reduceSub, Int.reduceMul, Int.reduceNeg, Nat.reduceAdd, Nat.reduceLeDiff, Nat.reduceEqDiff, Nat.reduceSub, Option.some.injEq, Sum.inl.injEq, Sum.inr.injEq, or_true, true_or, reduceCtorEq, ne_eq, not_false_eq_true, not_true_eq_false, false_implies, implies_true, false_and, and_false, false_or, or_false, if_true, if_false, fr_0_0 hf, fr_0_1 hf, fr_0_2 hf, fr_0_3 hf, fr_0_7 hf, fr_0_8 hf, fr_0_11 hf, fr_0_12 hf, fg_0 hf, fv_0 hf]
    refine pm_up0 (fun l => pm_w d 87 19 [some (.inr (.inr (some 0))), some (.inr (.inr (some 50))), some (.inl (sm (fun l => bgF (fun t => onA (nmo A n 0) (nS A n 0) n (xL V4 50) l t) 60) l)), some (.inl (l : Int))] [] (V4, R, T) Q) lo ?_ ?_
    · have sb := sm_bd (n := lo) (f := fun l => bgF (fun t => onA (nmo A n 0) (nS A n 0) n (xL V4 50) l t) 60) (B := 60) (fun j _ => bgF_bd 60)
      rw [ux_87_19]
      simp only [ux_87_0, ux_87_1, ux_87_7, ux_87_9, ux_87_10, ux_87_11, ux_87_15, ux_87_16, ux_87_17, ux_87_18, ux_87_20, ux_87_21, ux_87_24, ux_87_27, ux_87_30, ux_87_31, ux_87_32, ux_87_33, ux_87_34, ux_87_37, ux_87_38, ux_87_39, ux_87_42, ux_87_45, ux_87_46, ux_87_47, ux_87_50, ux_87_53, ux_87_54, pm_i_c, pm_l_c, pm_q_c, pm_r_c, pm_li_0, pm_li_s, pm_ll_0, pm_ll_s, pm_lq_0, pm_lq_s, pm_s1, pm_s2, pm_kl, pm_wI, pm_wR, pm_pu_n, pm_pu_s, pm_wt, List.take_succ_cons, List.take_zero, List.take_nil, List.drop_succ_cons, List.drop_zero, List.reverse_cons, List.reverse_nil, List.nil_append, List.cons_append, List.length_cons, List.length_nil, true_and, and_true, true_implies, tn_l, tn_0, Int.reduceToNat, Int.reduceLE, Int.reduceLT, Int.reduceEq, Int.reduceAdd, Int.reduceSub, Int.reduceMul, Int.reduceNeg, Nat.reduceAdd, Nat.reduceLeDiff, Nat.reduceEqDiff, Nat.reduceSub, Option.some.injEq, Sum.inl.injEq, Sum.inr.injEq, or_true, true_or, reduceCtorEq, ne_eq, not_false_eq_true, not_true_eq_false, false_implies, implies_true, false_and, and_false, false_or, or_false, if_true, if_false, fr_0_0 hf, fr_0_1 hf, fr_0_2 hf, fr_0_3 hf, fr_0_7 hf, fr_0_8 hf, fr_0_11 hf, fr_0_12 hf, fg_0 hf, fv_0 hf, fr_1_3 hf, fg_1 hf, fv_1 hf, h10, h12]
      refine ⟨fun _ => ⟨by unfold pm_I32; omega, ?_⟩, fun z => absurd (Int.le_refl _) z⟩
      rw [← hQ]
      refine ⟨V4, _, rfl, rfl, q4, e2.1, Or.inr ⟨y, _, e2.2.2.2, ?_⟩⟩
      unfold ctA
      rw [hlo, Int.toNat_natCast]
    · intro l hl ih
      have sb := sm_bd (n := l) (f := fun l => bgF (fun t => onA (nmo A n 0) (nS A n 0) n (xL V4 50) l t) 60) (B := 60) (fun j _ => bgF_bd 60)
      have b1 := bgF_bd (g := fun t => onA (nmo A n 0) (nS A n 0) n (xL V4 50) l t) 60
      rw [ux_87_19]
      simp only [ux_87_0, ux_87_1, ux_87_7, ux_87_9, ux_87_10, ux_87_11, ux_87_15, ux_87_16, ux_87_17, ux_87_18, ux_87_20, ux_87_21, ux_87_24, ux_87_27, ux_87_30, ux_87_31, ux_87_32, ux_87_33, ux_87_34, ux_87_37, ux_87_38, ux_87_39, ux_87_42, ux_87_45, ux_87_46, ux_87_47, ux_87_50, ux_87_53, ux_87_54, pm_i_c, pm_l_c, pm_q_c, pm_r_c, pm_li_0, pm_li_s, pm_ll_0, pm_ll_s, pm_lq_0, pm_lq_s, pm_s1, pm_s2, pm_kl, pm_wI, pm_wR, pm_pu_n, pm_pu_s, pm_wt, List.take_succ_cons, List.take_zero, List.take_nil, List.drop_succ_cons, List.drop_zero, List.reverse_cons, List.reverse_nil, List.nil_append, List.cons_append, List.length_cons, List.length_nil, true_and, and_true, true_implies, tn_l, tn_0, Int.reduceToNat, Int.reduceLE, Int.reduceLT, Int.reduceEq, Int.reduceAdd, Int.reduceSub, Int.reduceMul, Int.reduceNeg, Nat.reduceAdd, Nat.reduceLeDiff, Nat.reduceEqDiff, Nat.reduceSub, Option.some.injEq, Sum.inl.injEq, Sum.inr.injEq, or_true, true_or, reduceCtorEq, ne_eq, not_false_eq_true, not_true_eq_false, false_implies, implies_true, false_and, and_false, false_or, or_false, if_true, if_false, fr_0_0 hf, fr_0_1 hf, fr_0_2 hf, fr_0_3 hf, fr_0_7 hf, fr_0_8 hf, fr_0_11 hf, fr_0_12 hf, fg_0 hf, fv_0 hf, fr_1_3 hf, fg_1 hf, fv_1 hf, h10, pm_ok_ev (c_beginsOn (d := d) (V := V4) (by omega) hf hw e2 l (by omega))]
      exact ⟨fun z => by omega, fun _ => ⟨by unfold pm_I32; omega, by unfold pm_I32; omega, ih⟩⟩
  · rw [pm_pu_s, ux_87_4]
    simp only [ux_87_0, ux_87_1, ux_87_7, ux_87_9, ux_87_10, ux_87_11, ux_87_15, ux_87_16, ux_87_17, ux_87_18, ux_87_20, ux_87_21, ux_87_24, ux_87_27, ux_87_30, ux_87_31, ux_87_32, ux_87_33, ux_87_34, ux_87_37, ux_87_38, ux_87_39, ux_87_42, ux_87_45, ux_87_46, ux_87_47, ux_87_50, ux_87_53, ux_87_54, pm_i_c, pm_l_c, pm_q_c, pm_r_c, pm_li_0, pm_li_s, pm_ll_0, pm_ll_s, pm_lq_0, pm_lq_s, pm_s1, pm_s2, pm_kl, pm_wI, pm_wR, pm_pu_n, pm_pu_s, pm_wt, List.take_succ_cons, List.take_zero, List.take_nil, List.drop_succ_cons, List.drop_zero, List.reverse_cons, List.reverse_nil, List.nil_append, List.cons_append, List.length_cons, List.length_nil, true_and, and_true, true_implies, tn_l, tn_0, Int.reduceToNat, Int.reduceLE, Int.reduceLT, Int.reduceEq, Int.reduceAdd, Int.reduceSub, Int.reduceMul, Int.reduceNeg, Nat.reduceAdd, Nat.reduceLeDiff, Nat.reduceEqDiff, Nat.reduceSub, Option.some.injEq, Sum.inl.injEq, Sum.inr.injEq, or_true, true_or, reduceCtorEq, ne_eq, not_false_eq_true, not_true_eq_false, false_implies, implies_true, false_and, and_false, false_or, or_false, if_true, if_false, fr_0_0 hf, fr_0_1 hf, fr_0_2 hf, fr_0_3 hf, fr_0_7 hf, fr_0_8 hf, fr_0_11 hf, fr_0_12 hf, fg_0 hf, fv_0 hf]
    rw [← hQ]
    exact ⟨V3, _, rfl, rfl, fun q hq => d1 q (by omega) (by omega), d3, Or.inl ⟨y, rfl⟩⟩
end
