/-! THE CLASS: layAlong, layMost -/
section
variable {d : Nat} {h : pm_H} {V V2 W : Nat → Nat → Int} {R : Nat → Nat → Option Nat} {T : List (Nat × Nat)} {n a p b S : Nat} {ln : Nat → Int} {c x0 : Nat → Nat → Int} {r : Nat → Int}
def laQ (V : Nat → Nat → Int) (R : Nat → Nat → Option Nat) (T : List (Nat × Nat)) (b n S : Nat) (ln : Nat → Int) (c : Nat → Nat → Int) (r : Nat → Int) (r0 : Option pm_V) (h2 : pm_H) : Prop := ∃ V2, h2 = (V2, R, T) ∧ r0 = none ∧ lyF V V2 b ∧ lyI V2 b n S ln c r ∧ tot n S (xL V b) < tot n S (xL V2 b)
theorem c_layAlong (hd : 3 ≤ d) (hb : lyq R T b) (hB : ntB n S ln c r) (hI : lyI V b n S ln c r) (hbf : bfs (12 + S) (fR ln (xL V b) n S) (fE c (xL V b) n S) (cmb n (V (b + 29)) (V (b + 30)))) {e : Nat} (he : e < S) (hg : V (b + 30) e ≠ -2) (hr : 0 < V (b + 2) e) : pm_ok d 71 [.inr (.inr (some b)), .inl (e : Int)] (V, R, T) (laQ V R T b n S ln c r) := by
  obtain ⟨d, rfl⟩ : ∃ k, d = k + 1 := ⟨d - 1, by omega⟩
  refine pm_ok_iff.mpr ⟨(Nat.le_of_ble_eq_true rfl), ?_⟩
  show pm_w d 71 0 [some (.inr (.inr (some b))), some (.inl (e : Int)), none, none] [] (V, R, T) _
  have hn := hB.1
  have hS := hB.2.1
  obtain ⟨d1, d2, d3, d4⟩ := ly_bd hB hI
  obtain ⟨⟨i0, i1⟩, i2, i3, i4, i5, l1, l2, l3⟩ := id hI
  obtain ⟨rp, rs, ht, hrs⟩ := bfs_tre hn hbf
  obtain ⟨rq, hq1, hq⟩ := rq_ex n (V (b + 29)) rp
  have hk := hrs e he hg
  have hk60 : rs e < 60 := by omega
  have sok := src_ok ht 60 e he hg hk60
  have ev := c_startOf (d := d) (V := V) (by omega) hb hn hS ht hq1 hq he hg hk60
  generalize hu : srcF (V (b + 29)) (V (b + 30)) 60 e = u at sok ev
  have hl := i2 u sok.1
  have p1 := d1 u sok.1
  have p2 := d2 e he
  simp only [ux_71_0, ux_71_1, ux_71_2, ux_71_5, ux_71_6, ux_71_7, ux_71_10, ux_71_11, ux_71_12, ux_71_13, ux_71_14, ux_71_17, ux_71_18, ux_71_19, ux_71_20, ux_71_23, ux_71_24, ux_71_25, ux_71_28, ux_71_32, ux_71_33, ux_71_34, ux_71_35, ux_71_39, ux_71_42, ux_71_43, ux_71_44, ux_71_45, ux_71_46, ux_71_47, ux_71_48, ux_71_49, ux_71_52, ux_71_53, ux_71_54, ux_71_55, ux_71_56, ux_71_57, ux_71_58, ux_71_59, ux_71_60, ux_71_63, ux_71_64, ux_71_65, ux_71_68, pm_i_c, pm_l_c, pm_q_c, pm_r_c, pm_li_0, pm_li_s, pm_ll_0, pm_ll_s, pm_lq_0, pm_lq_s, pm_s1, pm_s2, pm_kl, pm_wI, pm_wR, pm_pu_n, pm_pu_s, pm_wt, List.take_succ_cons, List.take_zero, List.take_nil, List.drop_succ_cons, List.drop_zero, List.reverse_cons, List.reverse_nil, List.nil_append, List.cons_append, List.length_cons, List.length_nil, true_and, and_true, true_implies, tn_l, tn_0, Int.reduceToNat, Int.reduceLE, Int.reduceLT, Int.reduceEq, Int.reduceAdd, Int.reduceSub, Int.reduceMul, Int.reduceNeg, Nat.reduceAdd, Nat.reduceLeDiff, Nat.reduceEqDiff, Nat.reduceSub, Option.some.injEq, Sum.inl.injEq, Sum.inr.injEq, or_true, true_or, reduceCtorEq, ne_eq, not_false_eq_true, not_true_eq_false, false_implies, implies_true, false_and, and_false, false_or, or_false, if_true, if_false, ly_3 hb, ly_4 hb, ly_5 hb, ly_6 hb, ly_7 hb, ly_8 hb, ly_9 hb, ly_t hb, ly_v hb, ly_b1 hb, ly_b2 hb, ly_b3 hb, ly_b16 hb, ly_b29 hb, ly_b30 hb, ly_b31 hb, pm_ok_ev ev]
  refine ⟨fun _ => ⟨by omega, by omega, ?_⟩, fun z => absurd (by omega) z⟩
  refine pm_ok_mono (c_narrowest (d := d) (V := V) (by omega) hb hn hS ht hq1 hq i4 he hg hk60 (min (V (b + 1) u) (V (b + 2) e)) (by have := sok.2.2; omega)) ?_
  rintro r0 h2 ⟨v, rfl, rfl, v1, v2, v3⟩
  rw [pm_pu_s, ux_71_31]
  simp only [ux_71_0, ux_71_1, ux_71_2, ux_71_5, ux_71_6, ux_71_7, ux_71_10, ux_71_11, ux_71_12, ux_71_13, ux_71_14, ux_71_17, ux_71_18, ux_71_19, ux_71_20, ux_71_23, ux_71_24, ux_71_25, ux_71_28, ux_71_32, ux_71_33, ux_71_34, ux_71_35, ux_71_39, ux_71_42, ux_71_43, ux_71_44, ux_71_45, ux_71_46, ux_71_47, ux_71_48, ux_71_49, ux_71_52, ux_71_53, ux_71_54, ux_71_55, ux_71_56, ux_71_57, ux_71_58, ux_71_59, ux_71_60, ux_71_63, ux_71_64, ux_71_65, ux_71_68, pm_i_c, pm_l_c, pm_q_c, pm_r_c, pm_li_0, pm_li_s, pm_ll_0, pm_ll_s, pm_lq_0, pm_lq_s, pm_s1, pm_s2, pm_kl, pm_wI, pm_wR, pm_pu_n, pm_pu_s, pm_wt, List.take_succ_cons, List.take_zero, List.take_nil, List.drop_succ_cons, List.drop_zero, List.reverse_cons, List.reverse_nil, List.nil_append, List.cons_append, List.length_cons, List.length_nil, true_and, and_true, true_implies, tn_l, tn_0, Int.reduceToNat, Int.reduceLE, Int.reduceLT, Int.reduceEq, Int.reduceAdd, Int.reduceSub, Int.reduceMul, Int.reduceNeg, Nat.reduceAdd, Nat.reduceLeDiff, Nat.reduceEqDiff, Nat.reduceSub, Option.some.injEq, Sum.inl.injEq, Sum.inr.injEq, or_true, true_or, reduceCtorEq, ne_eq, not_false_eq_true, not_true_eq_false, false_implies, implies_true, false_and, and_false, false_or, or_false, if_true, if_false, ly_3 hb, ly_4 hb, ly_5 hb, ly_6 hb, ly_7 hb, ly_8 hb, ly_9 hb, ly_t hb, ly_v hb, ly_b1 hb, ly_b2 hb, ly_b3 hb, ly_b16 hb, ly_b29 hb, ly_b30 hb, ly_b31 hb]
  refine pm_ok_mono (c_moveAlong (d := d) (V := V) (by omega) hb hn hS ht hq1 hq d3 he hg hk60 (by omega) v (by omega) (by omega)) ?_
  rintro r0 h2 ⟨W, rfl, rfl, F, hx⟩
  obtain ⟨la, lb⟩ := lay_aug (k := 60) (e := e) (v := v) (by omega) ht ⟨l1, l2, l3⟩ he hg hk60 v3 (by rw [hu]; omega) (by have := i3 e he; omega)
  obtain ⟨j1, j2, j3⟩ := aug_ok (v := v) (by omega) ht 60 e (xL V b) he hg hk60 v3 (fun _ _ _ => rfl) l1
  rw [hu] at j2
  have f1 : W (b + 1) = V (b + 1) := F.1 _ (by omega)
  have f2 : W (b + 2) = V (b + 2) := F.1 _ (by omega)
  have f0 : W b = V b := F.1 _ (by omega)
  have g1 : ∀ k x, pm_up W (b + 2) k x (b + 1) = V (b + 1) := fun k x => by rw [pm_up_fr (by omega)]; exact f1
  have g2 : ∀ k x k2 x2, pm_up (pm_up W (b + 2) k x) (b + 1) k2 x2 b = V b := fun k x k2 x2 => by rw [pm_up_fr (by omega), pm_up_fr (by omega)]; exact f0
  rw [pm_pu_n, ux_71_38]
  simp only [ux_71_0, ux_71_1, ux_71_2, ux_71_5, ux_71_6, ux_71_7, ux_71_10, ux_71_11, ux_71_12, ux_71_13, ux_71_14, ux_71_17, ux_71_18, ux_71_19, ux_71_20, ux_71_23, ux_71_24, ux_71_25, ux_71_28, ux_71_32, ux_71_33, ux_71_34, ux_71_35, ux_71_39, ux_71_42, ux_71_43, ux_71_44, ux_71_45, ux_71_46, ux_71_47, ux_71_48, ux_71_49, ux_71_52, ux_71_53, ux_71_54, ux_71_55, ux_71_56, ux_71_57, ux_71_58, ux_71_59, ux_71_60, ux_71_63, ux_71_64, ux_71_65, ux_71_68, pm_i_c, pm_l_c, pm_q_c, pm_r_c, pm_li_0, pm_li_s, pm_ll_0, pm_ll_s, pm_lq_0, pm_lq_s, pm_s1, pm_s2, pm_kl, pm_wI, pm_wR, pm_pu_n, pm_pu_s, pm_wt, List.take_succ_cons, List.take_zero, List.take_nil, List.drop_succ_cons, List.drop_zero, List.reverse_cons, List.reverse_nil, List.nil_append, List.cons_append, List.length_cons, List.length_nil, true_and, and_true, true_implies, tn_l, tn_0, Int.reduceToNat, Int.reduceLE, Int.reduceLT, Int.reduceEq, Int.reduceAdd, Int.reduceSub, Int.reduceMul, Int.reduceNeg, Nat.reduceAdd, Nat.reduceLeDiff, Nat.reduceEqDiff, Nat.reduceSub, Option.some.injEq, Sum.inl.injEq, Sum.inr.injEq, or_true, true_or, reduceCtorEq, ne_eq, not_false_eq_true, not_true_eq_false, false_implies, implies_true, false_and, and_false, false_or, or_false, if_true, if_false, ly_3 hb, ly_4 hb, ly_5 hb, ly_6 hb, ly_7 hb, ly_8 hb, ly_9 hb, ly_t hb, ly_v hb, ly_b1 hb, ly_b2 hb, ly_b3 hb, ly_b16 hb, ly_b29 hb, ly_b30 hb, ly_b31 hb, f2, g1, g2]
  refine ⟨by omega, by unfold pm_I32; omega, by omega, by omega, by unfold pm_I32; omega, by omega, by unfold pm_I32; omega, ?_⟩
  generalize hW2 : pm_up (pm_up (pm_up W (b + 2) e (V (b + 2) e - v)) (b + 1) u (V (b + 1) u - v)) b 2 (V b 2 - v) = W2
  have x2 : xL W2 b = augF (V (b + 29)) (V (b + 30)) v 60 e (xL V b) := by
    rw [← hx]
    exact xL_fr (fun q hq => by rw [← hW2, pm_up_fr (by omega), pm_up_fr (by omega), pm_up_fr (by omega)])
  have m2 : mL W2 b = mL W b := mL_fr (fun q hq => by rw [← hW2, pm_up_fr (by omega), pm_up_fr (by omega), pm_up_fr (by omega)])
  have a1 : W2 (b + 1) = fun j => if j = u then V (b + 1) u - v else V (b + 1) j := by rw [← hW2, pm_up_fr (by omega), pm_up_row, pm_up_fr (by omega), f1]
  have a2 : W2 (b + 2) = fun j => if j = e then V (b + 2) e - v else V (b + 2) j := by rw [← hW2, pm_up_fr (by omega), pm_up_fr (by omega), pm_up_row, f2]
  have a3 : ∀ j, j ≠ 2 → W2 b j = V b j := fun j hj => by rw [← hW2, pm_up_ne (fun w => hj w.2), pm_up_fr (by omega), pm_up_fr (by omega), f0]
  have a4 : W2 b 2 = V b 2 - v := by rw [← hW2, pm_up_eq]
  refine ⟨W2, rfl, rfl, fun q hq => ?_, ⟨⟨by rw [a3 0 (by decide)]; exact i0, by rw [a3 1 (by decide)]; exact i1⟩, fun q hq => ?_, fun t ht2 => ?_, fun q hq t ht2 => ?_, ?_, by rw [x2]; exact la⟩, by rw [x2, lb]; omega⟩
  · rw [← hW2, pm_up_fr (by omega), pm_up_fr (by omega), pm_up_fr (by omega)]; exact F.1 q (by omega)
  · rw [x2, a1, j2]
    dsimp only
    have := i2 q hq
    by_cases c : q = u
    · subst c; rw [if_pos rfl, if_pos rfl]; omega
    · rw [if_neg c, if_neg c]; omega
  · rw [x2, a2, j3]
    dsimp only
    have := i3 t ht2
    by_cases c : t = e
    · subst c; rw [if_pos rfl, if_pos rfl]; omega
    · rw [if_neg c, if_neg c]; omega
  · have h1 := F.2 q t
    have h2 := i4 q hq t ht2
    rw [x2, m2]
    rw [hx] at h1
    omega
  · rw [x2, a4, lb, i5]; omega
/-- layMost leaves a laying of the most, and what its last search reached -/
def lmQ (V : Nat → Nat → Int) (R : Nat → Nat → Option Nat) (T : List (Nat × Nat)) (b n S : Nat) (ln : Nat → Int) (c : Nat → Nat → Int) (r : Nat → Int) (r0 : Option pm_V) (h2 : pm_H) : Prop := ∃ V2, h2 = (V2, R, T) ∧ r0 = none ∧ lyF V V2 b ∧ lyI V2 b n S ln c r ∧ mxf n S ln c r (xL V2 b) (fun p => decide (V2 (b + 29) p ≠ -2)) (fun s => decide (V2 (b + 30) s ≠ -2))
theorem lyF_tr {V1 V2 V3 : Nat → Nat → Int} (h1 : lyF V1 V2 b) (h2 : lyF V2 V3 b) : lyF V1 V3 b := fun q hq => (h2 q hq).trans (h1 q hq)
theorem seF_ly (h : seF V W b) : lyF V W b := fun q hq => h.1 q (by omega) (by omega) (by omega) (by omega)
theorem c_layMost (hd : 4 ≤ d) {g : Nat} (hg : frq R T g) (hb : lyq R T b) (hgb : g + 4 < b ∨ b + 31 < g) {A : Nat → Int} {lo dl : Int} (hw : wf A n) (h0 : 0 ≤ dl) (h1 : dl ≤ 200) (hl : 1 ≤ lo ∧ lo ≤ 12) (hO : frO V g A n lo dl) (tm rm : Int) (hB : ntB n (nS A n dl) (nL A tm) (nC A n lo dl rm) (nR A n lo dl rm)) (hM : sm (nL A tm) n < 1000000) : pm_ok d 59 [.inr (.inr (some b)), .inr (.inr (some g)), .inl tm, .inl rm] (V, R, T) (lmQ V R T b n (nS A n dl) (nL A tm) (nC A n lo dl rm) (nR A n lo dl rm)) := by
  obtain ⟨d, rfl⟩ : ∃ k, d = k + 1 := ⟨d - 1, by omega⟩
  refine pm_ok_iff.mpr ⟨(Nat.le_of_ble_eq_true rfl), ?_⟩
  show pm_w d 59 0 [some (.inr (.inr (some b))), some (.inr (.inr (some g))), some (.inl tm), some (.inl rm), none, none] [] (V, R, T) _
  have hn := hB.1
  simp only [ux_59_0, ux_59_1, ux_59_2, ux_59_3, ux_59_4, ux_59_8, ux_59_12, ux_59_13, ux_59_16, ux_59_19, ux_59_20, ux_59_22, ux_59_28, ux_59_32, ux_59_37, ux_59_38, ux_59_42, ux_59_44, ux_59_47, ux_59_49, ux_59_52, ux_59_53, ux_59_55, ux_59_59, ux_59_64, ux_59_67, pm_i_c, pm_l_c, pm_q_c, pm_r_c, pm_li_0, pm_li_s, pm_ll_0, pm_ll_s, pm_lq_0, pm_lq_s, pm_s1, pm_s2, pm_kl, pm_wI, pm_wR, pm_pu_n, pm_pu_s, pm_wt, List.take_succ_cons, List.take_zero, List.take_nil, List.drop_succ_cons, List.drop_zero, List.reverse_cons, List.reverse_nil, List.nil_append, List.cons_append, List.length_cons, List.length_nil, true_and, and_true, true_implies, tn_l, tn_0, Int.reduceToNat, Int.reduceLE, Int.reduceLT, Int.reduceEq, Int.reduceAdd, Int.reduceSub, Int.reduceMul, Int.reduceNeg, Nat.reduceAdd, Nat.reduceLeDiff, Nat.reduceEqDiff, Nat.reduceSub, Option.some.injEq, Sum.inl.injEq, Sum.inr.injEq, or_true, true_or, reduceCtorEq, ne_eq, not_false_eq_true, not_true_eq_false, false_implies, implies_true, false_and, and_false, false_or, or_false, if_true, if_false, ly_3 hb, ly_4 hb, ly_5 hb, ly_6 hb, ly_7 hb, ly_8 hb, ly_9 hb, ly_t hb, ly_v hb, ly_b1 hb, ly_b2 hb, ly_b3 hb, ly_b16 hb, ly_b29 hb, ly_b30 hb, ly_b31 hb]
  refine pm_ok_mono (c_prepare (d := d) (by omega) hg hb hgb hw h0 h1 hl hO tm rm hB) ?_
  rintro r0 h2 ⟨V1, rfl, rfl, F1, I1, -⟩
  rw [pm_pu_n, ux_59_7]
  simp only [ux_59_0, ux_59_1, ux_59_2, ux_59_3, ux_59_4, ux_59_8, ux_59_12, ux_59_13, ux_59_16, ux_59_19, ux_59_20, ux_59_22, ux_59_28, ux_59_32, ux_59_37, ux_59_38, ux_59_42, ux_59_44, ux_59_47, ux_59_49, ux_59_52, ux_59_53, ux_59_55, ux_59_59, ux_59_64, ux_59_67, pm_i_c, pm_l_c, pm_q_c, pm_r_c, pm_li_0, pm_li_s, pm_ll_0, pm_ll_s, pm_lq_0, pm_lq_s, pm_s1, pm_s2, pm_kl, pm_wI, pm_wR, pm_pu_n, pm_pu_s, pm_wt, List.take_succ_cons, List.take_zero, List.take_nil, List.drop_succ_cons, List.drop_zero, List.reverse_cons, List.reverse_nil, List.nil_append, List.cons_append, List.length_cons, List.length_nil, true_and, and_true, true_implies, tn_l, tn_0, Int.reduceToNat, Int.reduceLE, Int.reduceLT, Int.reduceEq, Int.reduceAdd, Int.reduceSub, Int.reduceMul, Int.reduceNeg, Nat.reduceAdd, Nat.reduceLeDiff, Nat.reduceEqDiff, Nat.reduceSub, Option.some.injEq, Sum.inl.injEq, Sum.inr.injEq, or_true, true_or, reduceCtorEq, ne_eq, not_false_eq_true, not_true_eq_false, false_implies, implies_true, false_and, and_false, false_or, or_false, if_true, if_false, ly_3 hb, ly_4 hb, ly_5 hb, ly_6 hb, ly_7 hb, ly_8 hb, ly_9 hb, ly_t hb, ly_v hb, ly_b1 hb, ly_b2 hb, ly_b3 hb, ly_b16 hb, ly_b29 hb, ly_b30 hb, ly_b31 hb]
  generalize hQ : lmQ V R T b n (nS A n dl) (nL A tm) (nC A n lo dl rm) (nR A n lo dl rm) = Q
  -- rounds
  have fin : ∀ W y4 y5, lyF V W b → lyI W b n (nS A n dl) (nL A tm) (nC A n lo dl rm) (nR A n lo dl rm) → mxf n (nS A n dl) (nL A tm) (nC A n lo dl rm) (nR A n lo dl rm) (xL W b) (fun p => decide (W (b + 29) p ≠ -2)) (fun s => decide (W (b + 30) s ≠ -2)) → pm_w d 59 70 [some (.inr (.inr (some b))), some (.inr (.inr (some g))), some (.inl tm), some (.inl rm), y4, y5] [] (W, R, T) Q := by
    intro W y4 y5 h1 h2 h3
    rw [ux_59_70, ← hQ]
    exact ⟨rfl, W, rfl, rfl, h1, h2, h3⟩
  have key : ∀ (k i : Nat) (W W0 : Nat → Nat → Int) (e : Int), lyF V W0 b → lyI W0 b n (nS A n dl) (nL A tm) (nC A n lo dl rm) (nR A n lo dl rm) → seF W0 W b → bfs (12 + nS A n dl) (fR (nL A tm) (xL W0 b) n (nS A n dl)) (fE (nC A n lo dl rm) (xL W0 b) n (nS A n dl)) (cmb n (W (b + 29)) (W (b + 30))) → ((∃ e', e' < nS A n dl ∧ e = (e' : Int) ∧ W (b + 30) e' ≠ -2 ∧ 0 < W0 (b + 2) e') ∨ (e = -1 ∧ mxf n (nS A n dl) (nL A tm) (nC A n lo dl rm) (nR A n lo dl rm) (xL W0 b) (fun p => decide (W (b + 29) p ≠ -2)) (fun s => decide (W (b + 30) s ≠ -2)))) → (i : Int) ≤ tot n (nS A n dl) (xL W0 b) → sm (nL A tm) n - tot n (nS A n dl) (xL W0 b) ≤ k → pm_w d 59 40 [some (.inr (.inr (some b))), some (.inr (.inr (some g))), some (.inl tm), some (.inl rm), some (.inl e), some (.inl (i : Int))] [] (W, R, T) Q := by
    intro k
    induction k with
    | zero =>
      intro i W W0 e w1 w2 w3 w4 w5 w6 w7
      have lt := (lay_tot w2.2.2.2.2.2).2
      obtain ⟨ex, em⟩ := seF_x w3
      rcases w5 with ⟨e', e1, rfl, e3, e4⟩ | ⟨rfl, hx⟩
      · exfalso
        obtain ⟨rp, rs, ht, hrs⟩ := bfs_tre hn w4
        have hsk := src_ok ht (rs e' + 1) e' e1 e3 (by omega)
        have : ∀ p, p < n → sm (xL W0 b p) (nS A n dl) = nL A tm p := by
          refine sm_eqs w2.2.2.2.2.2.2.1 ?_
          have : tot n (nS A n dl) (xL W0 b) = sm (fun p => sm (xL W0 b p) (nS A n dl)) n := rfl
          have e3 : sm (fun p => nL A tm p) n = sm (nL A tm) n := rfl
          omega
        have h1 := this _ hsk.1
        have h2 := hsk.2.2
        omega
      · rw [ux_59_40]
        simp only [ux_59_0, ux_59_1, ux_59_2, ux_59_3, ux_59_4, ux_59_8, ux_59_12, ux_59_13, ux_59_16, ux_59_19, ux_59_20, ux_59_22, ux_59_28, ux_59_32, ux_59_37, ux_59_38, ux_59_42, ux_59_44, ux_59_47, ux_59_49, ux_59_52, ux_59_53, ux_59_55, ux_59_59, ux_59_64, ux_59_67, pm_i_c, pm_l_c, pm_q_c, pm_r_c, pm_li_0, pm_li_s, pm_ll_0, pm_ll_s, pm_lq_0, pm_lq_s, pm_s1, pm_s2, pm_kl, pm_wI, pm_wR, pm_pu_n, pm_pu_s, pm_wt, List.take_succ_cons, List.take_zero, List.take_nil, List.drop_succ_cons, List.drop_zero, List.reverse_cons, List.reverse_nil, List.nil_append, List.cons_append, List.length_cons, List.length_nil, true_and, and_true, true_implies, tn_l, tn_0, Int.reduceToNat, Int.reduceLE, Int.reduceLT, Int.reduceEq, Int.reduceAdd, Int.reduceSub, Int.reduceMul, Int.reduceNeg, Nat.reduceAdd, Nat.reduceLeDiff, Nat.reduceEqDiff, Nat.reduceSub, Option.some.injEq, Sum.inl.injEq, Sum.inr.injEq, or_true, true_or, reduceCtorEq, ne_eq, not_false_eq_true, not_true_eq_false, false_implies, implies_true, false_and, and_false, false_or, or_false, if_true, if_false, ly_3 hb, ly_4 hb, ly_5 hb, ly_6 hb, ly_7 hb, ly_8 hb, ly_9 hb, ly_t hb, ly_v hb, ly_b1 hb, ly_b2 hb, ly_b3 hb, ly_b16 hb, ly_b29 hb, ly_b30 hb, ly_b31 hb]
        have := fin W (some (.inl (-1))) (some (.inl (i : Int))) (lyF_tr w1 (seF_ly w3)) (seF_I w3 w2) (by rw [ex]; exact hx)
        exact ⟨fun _ => this, fun _ => this⟩
    | succ k ih =>
      intro i W W0 e w1 w2 w3 w4 w5 w6 w7
      have lt := (lay_tot w2.2.2.2.2.2).2
      obtain ⟨ex, em⟩ := seF_x w3
      have wI := seF_I w3 w2
      rcases w5 with ⟨e', e1, rfl, e3, e4⟩ | ⟨rfl, hx⟩
      · rw [ux_59_40]
        simp only [ux_59_0, ux_59_1, ux_59_2, ux_59_3, ux_59_4, ux_59_8, ux_59_12, ux_59_13, ux_59_16, ux_59_19, ux_59_20, ux_59_22, ux_59_28, ux_59_32, ux_59_37, ux_59_38, ux_59_42, ux_59_44, ux_59_47, ux_59_49, ux_59_52, ux_59_53, ux_59_55, ux_59_59, ux_59_64, ux_59_67, pm_i_c, pm_l_c, pm_q_c, pm_r_c, pm_li_0, pm_li_s, pm_ll_0, pm_ll_s, pm_lq_0, pm_lq_s, pm_s1, pm_s2, pm_kl, pm_wI, pm_wR, pm_pu_n, pm_pu_s, pm_wt, List.take_succ_cons, List.take_zero, List.take_nil, List.drop_succ_cons, List.drop_zero, List.reverse_cons, List.reverse_nil, List.nil_append, List.cons_append, List.length_cons, List.length_nil, true_and, and_true, true_implies, tn_l, tn_0, Int.reduceToNat, Int.reduceLE, Int.reduceLT, Int.reduceEq, Int.reduceAdd, Int.reduceSub, Int.reduceMul, Int.reduceNeg, Nat.reduceAdd, Nat.reduceLeDiff, Nat.reduceEqDiff, Nat.reduceSub, Option.some.injEq, Sum.inl.injEq, Sum.inr.injEq, or_true, true_or, reduceCtorEq, ne_eq, not_false_eq_true, not_true_eq_false, false_implies, implies_true, false_and, and_false, false_or, or_false, if_true, if_false, ly_3 hb, ly_4 hb, ly_5 hb, ly_6 hb, ly_7 hb, ly_8 hb, ly_9 hb, ly_t hb, ly_v hb, ly_b1 hb, ly_b2 hb, ly_b3 hb, ly_b16 hb, ly_b29 hb, ly_b30 hb, ly_b31 hb]
        refine ⟨fun z => by omega, fun _ => ⟨fun z => by omega, fun _ => ?_⟩⟩
        refine pm_ok_mono (c_layAlong (d := d) (V := W) (by omega) hb hB wI (by rw [ex]; exact w4) e1 e3 (by rw [w3.1 (b + 2) (by omega) (by omega) (by omega) (by omega)]; exact e4)) ?_
        rintro r0 h2 ⟨W2, rfl, rfl, z1, z2, z3⟩
        rw [pm_pu_n, ux_59_58]
        simp only [ux_59_0, ux_59_1, ux_59_2, ux_59_3, ux_59_4, ux_59_8, ux_59_12, ux_59_13, ux_59_16, ux_59_19, ux_59_20, ux_59_22, ux_59_28, ux_59_32, ux_59_37, ux_59_38, ux_59_42, ux_59_44, ux_59_47, ux_59_49, ux_59_52, ux_59_53, ux_59_55, ux_59_59, ux_59_64, ux_59_67, pm_i_c, pm_l_c, pm_q_c, pm_r_c, pm_li_0, pm_li_s, pm_ll_0, pm_ll_s, pm_lq_0, pm_lq_s, pm_s1, pm_s2, pm_kl, pm_wI, pm_wR, pm_pu_n, pm_pu_s, pm_wt, List.take_succ_cons, List.take_zero, List.take_nil, List.drop_succ_cons, List.drop_zero, List.reverse_cons, List.reverse_nil, List.nil_append, List.cons_append, List.length_cons, List.length_nil, true_and, and_true, true_implies, tn_l, tn_0, Int.reduceToNat, Int.reduceLE, Int.reduceLT, Int.reduceEq, Int.reduceAdd, Int.reduceSub, Int.reduceMul, Int.reduceNeg, Nat.reduceAdd, Nat.reduceLeDiff, Nat.reduceEqDiff, Nat.reduceSub, Option.some.injEq, Sum.inl.injEq, Sum.inr.injEq, or_true, true_or, reduceCtorEq, ne_eq, not_false_eq_true, not_true_eq_false, false_implies, implies_true, false_and, and_false, false_or, or_false, if_true, if_false, ly_3 hb, ly_4 hb, ly_5 hb, ly_6 hb, ly_7 hb, ly_8 hb, ly_9 hb, ly_t hb, ly_v hb, ly_b1 hb, ly_b2 hb, ly_b3 hb, ly_b16 hb, ly_b29 hb, ly_b30 hb, ly_b31 hb]
        refine pm_ok_mono (c_findRoom (d := d) (V := W2) (by omega) hb hB z2) ?_
        rintro r0 h2 ⟨W3, rfl, y1, y2, y3⟩
        have hgo : ∀ e2 : Int, r0 = some (.inl e2) → ((∃ e', e' < nS A n dl ∧ e2 = (e' : Int) ∧ W3 (b + 30) e' ≠ -2 ∧ 0 < W2 (b + 2) e') ∨ (e2 = -1 ∧ mxf n (nS A n dl) (nL A tm) (nC A n lo dl rm) (nR A n lo dl rm) (xL W2 b) (fun p => decide (W3 (b + 29) p ≠ -2)) (fun s => decide (W3 (b + 30) s ≠ -2)))) → pm_w d 59 62 [some (.inr (.inr (some b))), some (.inr (.inr (some g))), some (.inl tm), some (.inl rm), some (.inl (e' : Int)), some (.inl (i : Int))] (pm_pu r0 []) (W3, R, T) Q := by
          intro e2 he2 hh
          rw [he2, pm_pu_s, ux_59_62]
          simp only [ux_59_0, ux_59_1, ux_59_2, ux_59_3, ux_59_4, ux_59_8, ux_59_12, ux_59_13, ux_59_16, ux_59_19, ux_59_20, ux_59_22, ux_59_28, ux_59_32, ux_59_37, ux_59_38, ux_59_42, ux_59_44, ux_59_47, ux_59_49, ux_59_52, ux_59_53, ux_59_55, ux_59_59, ux_59_64, ux_59_67, pm_i_c, pm_l_c, pm_q_c, pm_r_c, pm_li_0, pm_li_s, pm_ll_0, pm_ll_s, pm_lq_0, pm_lq_s, pm_s1, pm_s2, pm_kl, pm_wI, pm_wR, pm_pu_n, pm_pu_s, pm_wt, List.take_succ_cons, List.take_zero, List.take_nil, List.drop_succ_cons, List.drop_zero, List.reverse_cons, List.reverse_nil, List.nil_append, List.cons_append, List.length_cons, List.length_nil, true_and, and_true, true_implies, tn_l, tn_0, Int.reduceToNat, Int.reduceLE, Int.reduceLT, Int.reduceEq, Int.reduceAdd, Int.reduceSub, Int.reduceMul, Int.reduceNeg, Nat.reduceAdd, Nat.reduceLeDiff, Nat.reduceEqDiff, Nat.reduceSub, Option.some.injEq, Sum.inl.injEq, Sum.inr.injEq, or_true, true_or, reduceCtorEq, ne_eq, not_false_eq_true, not_true_eq_false, false_implies, implies_true, false_and, and_false, false_or, or_false, if_true, if_false, ly_3 hb, ly_4 hb, ly_5 hb, ly_6 hb, ly_7 hb, ly_8 hb, ly_9 hb, ly_t hb, ly_v hb, ly_b1 hb, ly_b2 hb, ly_b3 hb, ly_b16 hb, ly_b29 hb, ly_b30 hb, ly_b31 hb]
          rw [ex] at z3
          exact ⟨by unfold pm_I32; omega, ih (i + 1) W3 W2 e2 (lyF_tr (lyF_tr w1 (seF_ly w3)) z1) z2 y1 y2 hh (by omega) (by omega)⟩
        rcases y3 with ⟨e2, u1, u2, u3, u4⟩ | ⟨u1, u2⟩
        · exact hgo _ u2 (Or.inl ⟨e2, u1, rfl, u3, u4⟩)
        · exact hgo _ u1 (Or.inr ⟨rfl, u2⟩)
      · rw [ux_59_40]
        simp only [ux_59_0, ux_59_1, ux_59_2, ux_59_3, ux_59_4, ux_59_8, ux_59_12, ux_59_13, ux_59_16, ux_59_19, ux_59_20, ux_59_22, ux_59_28, ux_59_32, ux_59_37, ux_59_38, ux_59_42, ux_59_44, ux_59_47, ux_59_49, ux_59_52, ux_59_53, ux_59_55, ux_59_59, ux_59_64, ux_59_67, pm_i_c, pm_l_c, pm_q_c, pm_r_c, pm_li_0, pm_li_s, pm_ll_0, pm_ll_s, pm_lq_0, pm_lq_s, pm_s1, pm_s2, pm_kl, pm_wI, pm_wR, pm_pu_n, pm_pu_s, pm_wt, List.take_succ_cons, List.take_zero, List.take_nil, List.drop_succ_cons, List.drop_zero, List.reverse_cons, List.reverse_nil, List.nil_append, List.cons_append, List.length_cons, List.length_nil, true_and, and_true, true_implies, tn_l, tn_0, Int.reduceToNat, Int.reduceLE, Int.reduceLT, Int.reduceEq, Int.reduceAdd, Int.reduceSub, Int.reduceMul, Int.reduceNeg, Nat.reduceAdd, Nat.reduceLeDiff, Nat.reduceEqDiff, Nat.reduceSub, Option.some.injEq, Sum.inl.injEq, Sum.inr.injEq, or_true, true_or, reduceCtorEq, ne_eq, not_false_eq_true, not_true_eq_false, false_implies, implies_true, false_and, and_false, false_or, or_false, if_true, if_false, ly_3 hb, ly_4 hb, ly_5 hb, ly_6 hb, ly_7 hb, ly_8 hb, ly_9 hb, ly_t hb, ly_v hb, ly_b1 hb, ly_b2 hb, ly_b3 hb, ly_b16 hb, ly_b29 hb, ly_b30 hb, ly_b31 hb]
        have := fin W (some (.inl (-1))) (some (.inl (i : Int))) (lyF_tr w1 (seF_ly w3)) (seF_I w3 w2) (by rw [ex]; exact hx)
        exact ⟨fun _ => this, fun _ => this⟩
  -- plainly
  refine pm_up0 (fun i => ∀ W, lyF V W b → lyI W b n (nS A n dl) (nL A tm) (nC A n lo dl rm) (nR A n lo dl rm) → pm_w d 59 10 [some (.inr (.inr (some b))), some (.inr (.inr (some g))), some (.inl tm), some (.inl rm), some (.inl (i : Int)), none] [] (W, R, T) Q) n ?_ ?_ V1 F1 I1
  · intro W w1 w2
    rw [ux_59_10]
    simp only [ux_59_0, ux_59_1, ux_59_2, ux_59_3, ux_59_4, ux_59_8, ux_59_12, ux_59_13, ux_59_16, ux_59_19, ux_59_20, ux_59_22, ux_59_28, ux_59_32, ux_59_37, ux_59_38, ux_59_42, ux_59_44, ux_59_47, ux_59_49, ux_59_52, ux_59_53, ux_59_55, ux_59_59, ux_59_64, ux_59_67, pm_i_c, pm_l_c, pm_q_c, pm_r_c, pm_li_0, pm_li_s, pm_ll_0, pm_ll_s, pm_lq_0, pm_lq_s, pm_s1, pm_s2, pm_kl, pm_wI, pm_wR, pm_pu_n, pm_pu_s, pm_wt, List.take_succ_cons, List.take_zero, List.take_nil, List.drop_succ_cons, List.drop_zero, List.reverse_cons, List.reverse_nil, List.nil_append, List.cons_append, List.length_cons, List.length_nil, true_and, and_true, true_implies, tn_l, tn_0, Int.reduceToNat, Int.reduceLE, Int.reduceLT, Int.reduceEq, Int.reduceAdd, Int.reduceSub, Int.reduceMul, Int.reduceNeg, Nat.reduceAdd, Nat.reduceLeDiff, Nat.reduceEqDiff, Nat.reduceSub, Option.some.injEq, Sum.inl.injEq, Sum.inr.injEq, or_true, true_or, reduceCtorEq, ne_eq, not_false_eq_true, not_true_eq_false, false_implies, implies_true, false_and, and_false, false_or, or_false, if_true, if_false, ly_3 hb, ly_4 hb, ly_5 hb, ly_6 hb, ly_7 hb, ly_8 hb, ly_9 hb, ly_t hb, ly_v hb, ly_b1 hb, ly_b2 hb, ly_b3 hb, ly_b16 hb, ly_b29 hb, ly_b30 hb, ly_b31 hb, w2.1.1]
    refine ⟨fun _ => ?_, fun z => absurd (Int.le_refl _) z⟩
    rw [ux_59_31]
    simp only [ux_59_0, ux_59_1, ux_59_2, ux_59_3, ux_59_4, ux_59_8, ux_59_12, ux_59_13, ux_59_16, ux_59_19, ux_59_20, ux_59_22, ux_59_28, ux_59_32, ux_59_37, ux_59_38, ux_59_42, ux_59_44, ux_59_47, ux_59_49, ux_59_52, ux_59_53, ux_59_55, ux_59_59, ux_59_64, ux_59_67, pm_i_c, pm_l_c, pm_q_c, pm_r_c, pm_li_0, pm_li_s, pm_ll_0, pm_ll_s, pm_lq_0, pm_lq_s, pm_s1, pm_s2, pm_kl, pm_wI, pm_wR, pm_pu_n, pm_pu_s, pm_wt, List.take_succ_cons, List.take_zero, List.take_nil, List.drop_succ_cons, List.drop_zero, List.reverse_cons, List.reverse_nil, List.nil_append, List.cons_append, List.length_cons, List.length_nil, true_and, and_true, true_implies, tn_l, tn_0, Int.reduceToNat, Int.reduceLE, Int.reduceLT, Int.reduceEq, Int.reduceAdd, Int.reduceSub, Int.reduceMul, Int.reduceNeg, Nat.reduceAdd, Nat.reduceLeDiff, Nat.reduceEqDiff, Nat.reduceSub, Option.some.injEq, Sum.inl.injEq, Sum.inr.injEq, or_true, true_or, reduceCtorEq, ne_eq, not_false_eq_true, not_true_eq_false, false_implies, implies_true, false_and, and_false, false_or, or_false, if_true, if_false, ly_3 hb, ly_4 hb, ly_5 hb, ly_6 hb, ly_7 hb, ly_8 hb, ly_9 hb, ly_t hb, ly_v hb, ly_b1 hb, ly_b2 hb, ly_b3 hb, ly_b16 hb, ly_b29 hb, ly_b30 hb, ly_b31 hb]
    refine pm_ok_mono (c_findRoom (d := d) (V := W) (by omega) hb hB w2) ?_
    rintro r0 h2 ⟨W3, rfl, y1, y2, y3⟩
    have hgo : ∀ e2 : Int, r0 = some (.inl e2) → ((∃ e', e' < nS A n dl ∧ e2 = (e' : Int) ∧ W3 (b + 30) e' ≠ -2 ∧ 0 < W (b + 2) e') ∨ (e2 = -1 ∧ mxf n (nS A n dl) (nL A tm) (nC A n lo dl rm) (nR A n lo dl rm) (xL W b) (fun p => decide (W3 (b + 29) p ≠ -2)) (fun s => decide (W3 (b + 30) s ≠ -2)))) → pm_w d 59 35 [some (.inr (.inr (some b))), some (.inr (.inr (some g))), some (.inl tm), some (.inl rm), some (.inl (n : Int)), none] (pm_pu r0 []) (W3, R, T) Q := by
      intro e2 he2 hh
      rw [he2, pm_pu_s, ux_59_35]
      simp only [ux_59_0, ux_59_1, ux_59_2, ux_59_3, ux_59_4, ux_59_8, ux_59_12, ux_59_13, ux_59_16, ux_59_19, ux_59_20, ux_59_22, ux_59_28, ux_59_32, ux_59_37, ux_59_38, ux_59_42, ux_59_44, ux_59_47, ux_59_49, ux_59_52, ux_59_53, ux_59_55, ux_59_59, ux_59_64, ux_59_67, pm_i_c, pm_l_c, pm_q_c, pm_r_c, pm_li_0, pm_li_s, pm_ll_0, pm_ll_s, pm_lq_0, pm_lq_s, pm_s1, pm_s2, pm_kl, pm_wI, pm_wR, pm_pu_n, pm_pu_s, pm_wt, List.take_succ_cons, List.take_zero, List.take_nil, List.drop_succ_cons, List.drop_zero, List.reverse_cons, List.reverse_nil, List.nil_append, List.cons_append, List.length_cons, List.length_nil, true_and, and_true, true_implies, tn_l, tn_0, Int.reduceToNat, Int.reduceLE, Int.reduceLT, Int.reduceEq, Int.reduceAdd, Int.reduceSub, Int.reduceMul, Int.reduceNeg, Nat.reduceAdd, Nat.reduceLeDiff, Nat.reduceEqDiff, Nat.reduceSub, Option.some.injEq, Sum.inl.injEq, Sum.inr.injEq, or_true, true_or, reduceCtorEq, ne_eq, not_false_eq_true, not_true_eq_false, false_implies, implies_true, false_and, and_false, false_or, or_false, if_true, if_false, ly_3 hb, ly_4 hb, ly_5 hb, ly_6 hb, ly_7 hb, ly_8 hb, ly_9 hb, ly_t hb, ly_v hb, ly_b1 hb, ly_b2 hb, ly_b3 hb, ly_b16 hb, ly_b29 hb, ly_b30 hb, ly_b31 hb]
      have ht := (lay_tot w2.2.2.2.2.2).1
      have hsn : 0 ≤ sm (nL A tm) n := sm_nn fun p hp => (hB.2.2.1 p hp).1
      exact key (sm (nL A tm) n).toNat 0 W3 W e2 w1 w2 y1 y2 hh (by omega) (by omega)
    rcases y3 with ⟨e2, u1, u2, u3, u4⟩ | ⟨u1, u2⟩
    · exact hgo _ u2 (Or.inl ⟨e2, u1, rfl, u3, u4⟩)
    · exact hgo _ u1 (Or.inr ⟨rfl, u2⟩)
  · intro i hi ih W w1 w2
    rw [ux_59_10]
    simp only [ux_59_0, ux_59_1, ux_59_2, ux_59_3, ux_59_4, ux_59_8, ux_59_12, ux_59_13, ux_59_16, ux_59_19, ux_59_20, ux_59_22, ux_59_28, ux_59_32, ux_59_37, ux_59_38, ux_59_42, ux_59_44, ux_59_47, ux_59_49, ux_59_52, ux_59_53, ux_59_55, ux_59_59, ux_59_64, ux_59_67, pm_i_c, pm_l_c, pm_q_c, pm_r_c, pm_li_0, pm_li_s, pm_ll_0, pm_ll_s, pm_lq_0, pm_lq_s, pm_s1, pm_s2, pm_kl, pm_wI, pm_wR, pm_pu_n, pm_pu_s, pm_wt, List.take_succ_cons, List.take_zero, List.take_nil, List.drop_succ_cons, List.drop_zero, List.reverse_cons, List.reverse_nil, List.nil_append, List.cons_append, List.length_cons, List.length_nil, true_and, and_true, true_implies, tn_l, tn_0, Int.reduceToNat, Int.reduceLE, Int.reduceLT, Int.reduceEq, Int.reduceAdd, Int.reduceSub, Int.reduceMul, Int.reduceNeg, Nat.reduceAdd, Nat.reduceLeDiff, Nat.reduceEqDiff, Nat.reduceSub, Option.some.injEq, Sum.inl.injEq, Sum.inr.injEq, or_true, true_or, reduceCtorEq, ne_eq, not_false_eq_true, not_true_eq_false, false_implies, implies_true, false_and, and_false, false_or, or_false, if_true, if_false, ly_3 hb, ly_4 hb, ly_5 hb, ly_6 hb, ly_7 hb, ly_8 hb, ly_9 hb, ly_t hb, ly_v hb, ly_b1 hb, ly_b2 hb, ly_b3 hb, ly_b16 hb, ly_b29 hb, ly_b30 hb, ly_b31 hb, w2.1.1]
    refine ⟨fun z => by omega, fun _ => ?_⟩
    refine pm_ok_mono (c_layPlainly (d := d) (V := W) (by omega) hb hB w2 hi) ?_
    rintro r0 h2 ⟨W2, rfl, rfl, z1, z2⟩
    rw [pm_pu_n, ux_59_25]
    simp only [ux_59_0, ux_59_1, ux_59_2, ux_59_3, ux_59_4, ux_59_8, ux_59_12, ux_59_13, ux_59_16, ux_59_19, ux_59_20, ux_59_22, ux_59_28, ux_59_32, ux_59_37, ux_59_38, ux_59_42, ux_59_44, ux_59_47, ux_59_49, ux_59_52, ux_59_53, ux_59_55, ux_59_59, ux_59_64, ux_59_67, pm_i_c, pm_l_c, pm_q_c, pm_r_c, pm_li_0, pm_li_s, pm_ll_0, pm_ll_s, pm_lq_0, pm_lq_s, pm_s1, pm_s2, pm_kl, pm_wI, pm_wR, pm_pu_n, pm_pu_s, pm_wt, List.take_succ_cons, List.take_zero, List.take_nil, List.drop_succ_cons, List.drop_zero, List.reverse_cons, List.reverse_nil, List.nil_append, List.cons_append, List.length_cons, List.length_nil, true_and, and_true, true_implies, tn_l, tn_0, Int.reduceToNat, Int.reduceLE, Int.reduceLT, Int.reduceEq, Int.reduceAdd, Int.reduceSub, Int.reduceMul, Int.reduceNeg, Nat.reduceAdd, Nat.reduceLeDiff, Nat.reduceEqDiff, Nat.reduceSub, Option.some.injEq, Sum.inl.injEq, Sum.inr.injEq, or_true, true_or, reduceCtorEq, ne_eq, not_false_eq_true, not_true_eq_false, false_implies, implies_true, false_and, and_false, false_or, or_false, if_true, if_false, ly_3 hb, ly_4 hb, ly_5 hb, ly_6 hb, ly_7 hb, ly_8 hb, ly_9 hb, ly_t hb, ly_v hb, ly_b1 hb, ly_b2 hb, ly_b3 hb, ly_b16 hb, ly_b29 hb, ly_b30 hb, ly_b31 hb]
    exact ⟨by unfold pm_I32; omega, ih W2 (lyF_tr w1 z1) z2⟩
end
