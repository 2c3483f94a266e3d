/-! THE CLASS: the cloth -/
def wR (p0 : Nat) (a : Nat) (v : Int) : Prop := a = p0 ∧ v = -1 ∧ p0 < 12
def wE (c x : Nat → Nat → Int) (n S p0 s0 : Nat) (k a : Nat) (v : Int) : Prop := (∃ q t, q < n ∧ t < S ∧ k = 12 + t ∧ a = q ∧ v = (t : Int) ∧ 0 < x q t ∧ p0 < q) ∨ ∃ q t, q < n ∧ t < S ∧ k = q ∧ a = 12 + t ∧ v = (q : Int) ∧ x q t < c q t ∧ (q = p0 → t = s0)
/-- the tree of a swap -/
theorem bfs_tre2 {n S p0 s0 : Nat} {c x : Nat → Nat → Int} {f g : Nat → Int} (hn : n ≤ 12) (h : bfs (12 + S) (wR p0) (wE c x n S p0 s0) (cmb n f g)) : ∃ rp rs, tre n S c x (fun p => p = p0) f g rp rs ∧ (∀ s, s < S → g s ≠ -2 → rs s < 12 + S) ∧ (∀ q, q < n → f q ≠ -2 → q = p0 ∨ p0 < q) ∧ ∀ t, t < S → g t = (p0 : Int) → t = s0 := by
  obtain ⟨rk, h⟩ := h
  refine ⟨rk, fun s => rk (12 + s), ⟨fun p hp hf => ?_, fun s hs hg => ?_⟩, fun s hs hg => ?_, fun p hp hf => ?_, fun s hs hg => ?_⟩
  · have hm : cmb n f g p ≠ -2 := by rw [cmb_P hp hn]; exact hf
    rcases (h p (by omega) hm).2 with ⟨a1, a2, a3⟩ | ⟨k, k1, k2, k3, ⟨q, s, e1, e2, e3, e4, e5, e6, e7⟩ | ⟨q, s, e1, e2, e3, e4, _⟩⟩
    · rw [cmb_P hp hn] at a2
      exact Or.inl ⟨a2, a1⟩
    · subst e4
      subst e3
      rw [cmb_P e1 hn] at e5
      rw [cmb_S] at k2
      exact Or.inr ⟨s, e2, e5, k2, e6, k3⟩
    · omega
  · have hm : cmb n f g (12 + s) ≠ -2 := by rw [cmb_S]; exact hg
    rcases (h (12 + s) (by omega) hm).2 with ⟨a1, a2, a3⟩ | ⟨k, k1, k2, k3, ⟨q, s', e1, e2, e3, e4, _⟩ | ⟨q, s', e1, e2, e3, e4, e5, e6, e7⟩⟩
    · omega
    · omega
    · have : s' = s := by omega
      subst this
      subst e3
      rw [cmb_S] at e5
      rw [cmb_P e1 hn] at k2
      exact ⟨k, e1, e5, k2, e6, k3⟩
  · have hm : cmb n f g (12 + s) ≠ -2 := by rw [cmb_S]; exact hg
    have h1 := (h (12 + s) (by omega) hm).1
    have h2 := cnt_le (f := cmb n f g) (n := 12 + S)
    show rk (12 + s) < 12 + S
    omega
  · have hm : cmb n f g p ≠ -2 := by rw [cmb_P hp hn]; exact hf
    rcases (h p (by omega) hm).2 with ⟨a1, a2, a3⟩ | ⟨k, k1, k2, k3, ⟨q, s, e1, e2, e3, e4, e5, e6, e7⟩ | ⟨q, s, e1, e2, e3, e4, _⟩⟩
    · exact Or.inl a1
    · exact Or.inr (by omega)
    · omega
  · have hm : cmb n f g (12 + s) ≠ -2 := by rw [cmb_S, hg]; omega
    rcases (h (12 + s) (by omega) hm).2 with ⟨a1, a2, a3⟩ | ⟨k, k1, k2, k3, ⟨q, s', e1, e2, e3, e4, _⟩ | ⟨q, s', e1, e2, e3, e4, e5, e6, e7⟩⟩
    · omega
    · omega
    · have : s' = s := by omega
      subst this
      rw [cmb_S] at e5
      exact e7 (by omega)
theorem aug_un {n S : Nat} {c x0 : Nat → Nat → Int} {st : Nat → Prop} {f g : Nat → Int} {rp rs : Nat → Nat} {v : Int} {q u : Nat} (ht : tre n S c x0 st f g rp rs) (h1 : ∀ s, s < S → g s = (q : Int) → s ≠ u) (h2 : f q ≠ (u : Int)) : ∀ (k s : Nat) (x : Nat → Nat → Int), s < S → g s ≠ -2 → rs s < k → augF f g v k s x q u = x q u
  | 0, _, _, _, _, h => by omega
  | k + 1, s, x, hs, hg, hk => by
    obtain ⟨p, hp, e1, hf, hl, hr⟩ := ht.2 s hs hg
    have e2 : (g s).toNat = p := by omega
    have n1 : ¬ (q = p ∧ u = s) := fun w => h1 s hs (by rw [e1, w.1]) w.2.symm
    unfold augF
    rw [e2]
    rcases ht.1 p hp hf with ⟨f1, f2⟩ | ⟨t, f1, f2, f3, f4, f5⟩
    · rw [if_pos (by omega)]
      exact upx_ne n1
    · rw [if_neg (by omega), show (f p).toNat = t by omega, aug_un ht h1 h2 k t _ f1 f3 (by omega)]
      rw [upx_ne (fun w => h2 (by rw [w.1, f2, w.2])), upx_ne n1]
section
variable {d : Nat} {h : pm_H} {V V2 W : Nat → Nat → Int} {R : Nat → Nat → Option Nat} {T : List (Nat × Nat)} {n b S p s : Nat} {ln : Nat → Int} {c x0 : Nat → Nat → Int} {r : Nat → Int}
theorem c_lastLaid (hd : 1 ≤ d) (hb : lyq R T b) (hp : p < 12) (hS : S ≤ 47) (h1 : V b 1 = S) : pm_ok d 81 [.inr (.inr (some b)), .inl (p : Int), .inl (s : Int)] (V, R, T) (fun r0 h2 => h2 = (V, R, T) ∧ ((∃ t, s < t ∧ t < S ∧ 0 < xL V b p t ∧ r0 = some (.inl (t : Int))) ∨ (r0 = some (.inl (-1)) ∧ ∀ t, s < t → t < S → ¬ 0 < xL V b p t))) := by
  obtain ⟨d, rfl⟩ : ∃ k, d = k + 1 := ⟨d - 1, by omega⟩
  refine pm_ok_iff.mpr ⟨(Nat.le_of_ble_eq_true rfl), ?_⟩
  show pm_w d 81 0 [some (.inr (.inr (some b))), some (.inl (p : Int)), some (.inl (s : Int)), none] [] (V, R, T) _
  generalize hQ : (fun (r0 : Option pm_V) (h2 : pm_H) => h2 = (V, R, T) ∧ ((∃ t, s < t ∧ t < S ∧ 0 < xL V b p t ∧ r0 = some (.inl (t : Int))) ∨ (r0 = some (.inl (-1)) ∧ ∀ t, s < t → t < S → ¬ 0 < xL V b p t))) = Q
  simp only [ux_81_0, ux_81_1, ux_81_4, ux_81_5, ux_81_6, ux_81_8, ux_81_9, ux_81_12, ux_81_13, ux_81_16, ux_81_17, ux_81_18, ux_81_19, ux_81_20, ux_81_23, ux_81_24, ux_81_25, ux_81_28, ux_81_31, ux_81_32, pm_i_c, pm_l_c, pm_q_c, pm_r_c, pm_li_0, pm_li_s, pm_ll_0, pm_ll_s, pm_lq_0, pm_lq_s, pm_s1, pm_s2, pm_kl, pm_wI, pm_wR, pm_pu_n, pm_pu_s, pm_wt, List.take_succ_cons, List.take_zero, List.take_nil, List.drop_succ_cons, List.drop_zero, List.reverse_cons, List.reverse_nil, List.nil_append, List.cons_append, List.length_cons, List.length_nil, true_and, and_true, true_implies, tn_l, tn_0, Int.reduceToNat, Int.reduceLE, Int.reduceLT, Int.reduceEq, Int.reduceAdd, Int.reduceSub, Int.reduceMul, Int.reduceNeg, Nat.reduceAdd, Nat.reduceLeDiff, Nat.reduceEqDiff, Nat.reduceSub, Option.some.injEq, Sum.inl.injEq, Sum.inr.injEq, or_true, true_or, reduceCtorEq, ne_eq, not_false_eq_true, not_true_eq_false, false_implies, implies_true, false_and, and_false, false_or, or_false, if_true, if_false, ly_3 hb, ly_4 hb, ly_5 hb, ly_6 hb, ly_7 hb, ly_8 hb, ly_9 hb, ly_t hb, ly_v hb, ly_b1 hb, ly_b2 hb, ly_b3 hb, ly_b16 hb, ly_b29 hb, ly_b30 hb, ly_b31 hb, h1]
  refine ⟨by unfold pm_I32; omega, ?_⟩
  have key : ∀ (j : Nat), j ≤ S → (∀ t, j ≤ t → t < S → s < t → ¬ 0 < xL V b p t) → pm_w d 81 7 [some (.inr (.inr (some b))), some (.inl (p : Int)), some (.inl (s : Int)), some (.inl ((j : Int) - 1))] [] (V, R, T) Q := by
    intro j
    induction j with
    | zero =>
      intro hj hn
      rw [ux_81_7]
      simp only [ux_81_0, ux_81_1, ux_81_4, ux_81_5, ux_81_6, ux_81_8, ux_81_9, ux_81_12, ux_81_13, ux_81_16, ux_81_17, ux_81_18, ux_81_19, ux_81_20, ux_81_23, ux_81_24, ux_81_25, ux_81_28, ux_81_31, ux_81_32, pm_i_c, pm_l_c, pm_q_c, pm_r_c, pm_li_0, pm_li_s, pm_ll_0, pm_ll_s, pm_lq_0, pm_lq_s, pm_s1, pm_s2, pm_kl, pm_wI, pm_wR, pm_pu_n, pm_pu_s, pm_wt, List.take_succ_cons, List.take_zero, List.take_nil, List.drop_succ_cons, List.drop_zero, List.reverse_cons, List.reverse_nil, List.nil_append, List.cons_append, List.length_cons, List.length_nil, true_and, and_true, true_implies, tn_l, tn_0, Int.reduceToNat, Int.reduceLE, Int.reduceLT, Int.reduceEq, Int.reduceAdd, Int.reduceSub, Int.reduceMul, Int.reduceNeg, Nat.reduceAdd, Nat.reduceLeDiff, Nat.reduceEqDiff, Nat.reduceSub, Option.some.injEq, Sum.inl.injEq, Sum.inr.injEq, or_true, true_or, reduceCtorEq, ne_eq, not_false_eq_true, not_true_eq_false, false_implies, implies_true, false_and, and_false, false_or, or_false, if_true, if_false, ly_3 hb, ly_4 hb, ly_5 hb, ly_6 hb, ly_7 hb, ly_8 hb, ly_9 hb, ly_t hb, ly_v hb, ly_b1 hb, ly_b2 hb, ly_b3 hb, ly_b16 hb, ly_b29 hb, ly_b30 hb, ly_b31 hb]
      refine ⟨fun _ => ?_, fun z => absurd (by omega) z⟩
      rw [← hQ]
      exact ⟨rfl, Or.inr ⟨rfl, fun t h1 h2 => hn t (by omega) h2 h1⟩⟩
    | succ j ih =>
      intro hj hn
      have ej : (((j + 1 : Nat) : Int) - 1) = (j : Int) := by omega
      have ex : V (b + 4 + p) j = xL V b p j := (xL_eq hp).symm
      have ek : ((j : Int) + -1) = (j : Int) - 1 := by omega
      rw [ej, ux_81_7]
      simp only [ux_81_0, ux_81_1, ux_81_4, ux_81_5, ux_81_6, ux_81_8, ux_81_9, ux_81_12, ux_81_13, ux_81_16, ux_81_17, ux_81_18, ux_81_19, ux_81_20, ux_81_23, ux_81_24, ux_81_25, ux_81_28, ux_81_31, ux_81_32, pm_i_c, pm_l_c, pm_q_c, pm_r_c, pm_li_0, pm_li_s, pm_ll_0, pm_ll_s, pm_lq_0, pm_lq_s, pm_s1, pm_s2, pm_kl, pm_wI, pm_wR, pm_pu_n, pm_pu_s, pm_wt, List.take_succ_cons, List.take_zero, List.take_nil, List.drop_succ_cons, List.drop_zero, List.reverse_cons, List.reverse_nil, List.nil_append, List.cons_append, List.length_cons, List.length_nil, true_and, and_true, true_implies, tn_l, tn_0, Int.reduceToNat, Int.reduceLE, Int.reduceLT, Int.reduceEq, Int.reduceAdd, Int.reduceSub, Int.reduceMul, Int.reduceNeg, Nat.reduceAdd, Nat.reduceLeDiff, Nat.reduceEqDiff, Nat.reduceSub, Option.some.injEq, Sum.inl.injEq, Sum.inr.injEq, or_true, true_or, reduceCtorEq, ne_eq, not_false_eq_true, not_true_eq_false, false_implies, implies_true, false_and, and_false, false_or, or_false, if_true, if_false, ly_3 hb, ly_4 hb, ly_5 hb, ly_6 hb, ly_7 hb, ly_8 hb, ly_9 hb, ly_t hb, ly_v hb, ly_b1 hb, ly_b2 hb, ly_b3 hb, ly_b16 hb, ly_b29 hb, ly_b30 hb, ly_b31 hb, ly_x hb hp, ly_bx hb hp, ex, ek]
      refine ⟨fun z => ?_, fun z => ⟨Or.inl (by omega), by omega, fun z2 => ⟨by unfold pm_I32; omega, ih (by omega) (fun t h1 h2 h3 => ?_)⟩, fun z2 => ?_⟩⟩
      · rw [← hQ]
        exact ⟨rfl, Or.inr ⟨rfl, fun t h1 h2 => hn t (by omega) h2 h1⟩⟩
      · by_cases e : t = j
        · subst e; omega
        · exact hn t (by omega) h2 h3
      · rw [← hQ]
        exact ⟨rfl, Or.inl ⟨j, by omega, by omega, by omega, rfl⟩⟩
  exact key S (Nat.le_refl _) (fun t h1 h2 => by omega)
/-- findSwap -/
def fsQ (V : Nat → Nat → Int) (R : Nat → Nat → Option Nat) (T : List (Nat × Nat)) (b n S : Nat) (ln : Nat → Int) (c : Nat → Nat → Int) (r : Nat → Int) (p0 s0 : Nat) (r0 : Option pm_V) (h2 : pm_H) : Prop := ∃ W, h2 = (W, R, T) ∧ seF V W b ∧ ((∃ e, e < S ∧ r0 = some (.inl (e : Int)) ∧ W (b + 30) e ≠ -2 ∧ (0 < V (b + 2) e ∨ (s0 < e ∧ 0 < xL V b p0 e)) ∧ bfs (12 + S) (wR p0) (wE c (xL V b) n S p0 s0) (cmb n (W (b + 29)) (W (b + 30))) ∧ W (b + 29) p0 = -1) ∨ (r0 = some (.inl (-1)) ∧ ((∀ p, p < n → sm (xL V b p) S = ln p) → ∀ y, fl n S ln c r y → (∀ q' t', q' < n → t' < S → bef q' t' p0 s0 → y q' t' = xL V b q' t') → y p0 s0 ≤ xL V b p0 s0)))
theorem c_findSwap (hd : 3 ≤ d) (hb : lyq R T b) (hB : ntB n S ln c r) (hI : lyI V b n S ln c r) {p0 s0 : Nat} (hp0 : p0 < n) (hs0 : s0 < S) (hm0 : 0 < mL V b p0 s0) : pm_ok d 82 [.inr (.inr (some b)), .inl (p0 : Int), .inl (s0 : Int)] (V, R, T) (fsQ V R T b n S ln c r p0 s0) := by
  obtain ⟨d, rfl⟩ : ∃ k, d = k + 1 := ⟨d - 1, by omega⟩
  refine pm_ok_iff.mpr ⟨(Nat.le_of_ble_eq_true rfl), ?_⟩
  show pm_w d 82 0 [some (.inr (.inr (some b))), some (.inl (p0 : Int)), some (.inl (s0 : Int)), none, none] [] (V, R, T) _
  have hn := hB.1
  have hS := hB.2.1
  have bd := ly_bd hB hI
  obtain ⟨⟨i0, i1⟩, i2, i3, i4, i5, l1, l2, l3⟩ := id hI
  simp only [ux_82_0, ux_82_1, ux_82_5, ux_82_8, ux_82_9, ux_82_10, ux_82_11, ux_82_12, ux_82_15, ux_82_16, ux_82_17, ux_82_18, ux_82_19, ux_82_22, ux_82_23, ux_82_24, ux_82_25, ux_82_26, ux_82_27, ux_82_30, ux_82_31, ux_82_33, ux_82_34, ux_82_37, ux_82_40, ux_82_41, ux_82_43, ux_82_46, ux_82_47, ux_82_50, ux_82_51, ux_82_52, ux_82_54, ux_82_55, ux_82_58, ux_82_60, ux_82_61, ux_82_64, ux_82_66, ux_82_67, ux_82_70, ux_82_71, ux_82_74, ux_82_75, ux_82_76, ux_82_78, ux_82_79, ux_82_82, ux_82_84, ux_82_86, ux_82_88, ux_82_89, ux_82_90, ux_82_91, ux_82_97, ux_82_100, ux_82_101, pm_i_c, pm_l_c, pm_q_c, pm_r_c, pm_li_0, pm_li_s, pm_ll_0, pm_ll_s, pm_lq_0, pm_lq_s, pm_s1, pm_s2, pm_kl, pm_wI, pm_wR, pm_pu_n, pm_pu_s, pm_wt, List.take_succ_cons, List.take_zero, List.take_nil, List.drop_succ_cons, List.drop_zero, List.reverse_cons, List.reverse_nil, List.nil_append, List.cons_append, List.length_cons, List.length_nil, true_and, and_true, true_implies, tn_l, tn_0, Int.reduceToNat, Int.reduceLE, Int.reduceLT, Int.reduceEq, Int.reduceAdd, Int.reduceSub, Int.reduceMul, Int.reduceNeg, Nat.reduceAdd, Nat.reduceLeDiff, Nat.reduceEqDiff, Nat.reduceSub, Option.some.injEq, Sum.inl.injEq, Sum.inr.injEq, or_true, true_or, reduceCtorEq, ne_eq, not_false_eq_true, not_true_eq_false, false_implies, implies_true, false_and, and_false, false_or, or_false, if_true, if_false, ly_3 hb, ly_4 hb, ly_5 hb, ly_6 hb, ly_7 hb, ly_8 hb, ly_9 hb, ly_t hb, ly_v hb, ly_b1 hb, ly_b2 hb, ly_b3 hb, ly_b16 hb, ly_b29 hb, ly_b30 hb, ly_b31 hb]
  refine pm_ok_mono (c_clearSearch (d := d) (n := n) (S := S) (by omega) hb hn hS) ?_
  rintro r0 h2 ⟨W0, rfl, rfl, a1, a2, a3, a4⟩
  obtain ⟨s0I, -⟩ := sI_0 (rt := wR p0) (E := wE c (xL V b) n S p0 s0) (ex := fun _ => False) a1 a2 a3 a4
  rw [pm_pu_n, ux_82_4]
  simp only [ux_82_0, ux_82_1, ux_82_5, ux_82_8, ux_82_9, ux_82_10, ux_82_11, ux_82_12, ux_82_15, ux_82_16, ux_82_17, ux_82_18, ux_82_19, ux_82_22, ux_82_23, ux_82_24, ux_82_25, ux_82_26, ux_82_27, ux_82_30, ux_82_31, ux_82_33, ux_82_34, ux_82_37, ux_82_40, ux_82_41, ux_82_43, ux_82_46, ux_82_47, ux_82_50, ux_82_51, ux_82_52, ux_82_54, ux_82_55, ux_82_58, ux_82_60, ux_82_61, ux_82_64, ux_82_66, ux_82_67, ux_82_70, ux_82_71, ux_82_74, ux_82_75, ux_82_76, ux_82_78, ux_82_79, ux_82_82, ux_82_84, ux_82_86, ux_82_88, ux_82_89, ux_82_90, ux_82_91, ux_82_97, ux_82_100, ux_82_101, pm_i_c, pm_l_c, pm_q_c, pm_r_c, pm_li_0, pm_li_s, pm_ll_0, pm_ll_s, pm_lq_0, pm_lq_s, pm_s1, pm_s2, pm_kl, pm_wI, pm_wR, pm_pu_n, pm_pu_s, pm_wt, List.take_succ_cons, List.take_zero, List.take_nil, List.drop_succ_cons, List.drop_zero, List.reverse_cons, List.reverse_nil, List.nil_append, List.cons_append, List.length_cons, List.length_nil, true_and, and_true, true_implies, tn_l, tn_0, Int.reduceToNat, Int.reduceLE, Int.reduceLT, Int.reduceEq, Int.reduceAdd, Int.reduceSub, Int.reduceMul, Int.reduceNeg, Nat.reduceAdd, Nat.reduceLeDiff, Nat.reduceEqDiff, Nat.reduceSub, Option.some.injEq, Sum.inl.injEq, Sum.inr.injEq, or_true, true_or, reduceCtorEq, ne_eq, not_false_eq_true, not_true_eq_false, false_implies, implies_true, false_and, and_false, false_or, or_false, if_true, if_false, ly_3 hb, ly_4 hb, ly_5 hb, ly_6 hb, ly_7 hb, ly_8 hb, ly_9 hb, ly_t hb, ly_v hb, ly_b1 hb, ly_b2 hb, ly_b3 hb, ly_b16 hb, ly_b29 hb, ly_b30 hb, ly_b31 hb]
  refine ⟨by omega, by omega, ?_⟩
  generalize hW1 : pm_up (pm_up (pm_up (pm_up W0 (b + 29) p0 (-1)) (b + 30) s0 (p0 : Int)) (b + 31) 0 (s0 : Int)) b 10 1 = W1
  have f1 : ∀ q, q ≠ b → q ≠ b + 29 → q ≠ b + 30 → q ≠ b + 31 → W1 q = W0 q := fun q h1 h2 h3 h4 => by rw [← hW1, pm_up_fr h1, pm_up_fr h4, pm_up_fr h3, pm_up_fr h2]
  have f29 : W1 (b + 29) = fun j => if j = p0 then -1 else W0 (b + 29) j := by rw [← hW1, pm_up_fr (by omega), pm_up_fr (by omega), pm_up_fr (by omega), pm_up_row]
  have f30 : W1 (b + 30) = fun j => if j = s0 then (p0 : Int) else W0 (b + 30) j := by rw [← hW1, pm_up_fr (by omega), pm_up_fr (by omega), pm_up_row, pm_up_fr (by omega)]
  have f31 : W1 (b + 31) = fun j => if j = 0 then (s0 : Int) else W0 (b + 31) j := by rw [← hW1, pm_up_fr (by omega), pm_up_row, pm_up_fr (by omega), pm_up_fr (by omega)]
  have f10 : W1 b 10 = 1 := by rw [← hW1, pm_up_eq]
  have fb : ∀ j, j ≠ 10 → W1 b j = W0 b j := fun j hj => by rw [← hW1, pm_up_ne (fun w => hj w.2), pm_up_fr (by omega), pm_up_fr (by omega), pm_up_fr (by omega)]
  have hMp : cmb n (W0 (b + 29)) (W0 (b + 30)) p0 = -2 := by rw [cmb_P hp0 hn]; exact a3 p0 hp0
  have bf1 : bfs (12 + S) (wR p0) (wE c (xL V b) n S p0 s0) (cmb n (fun j => if j = p0 then -1 else W0 (b + 29) j) (W0 (b + 30))) := by
    rw [cmb_p hp0 hn]
    exact bfs_push s0I.2.1 (by omega) hMp (by decide) (Or.inl ⟨rfl, rfl, by omega⟩)
  have sI1 : sI V b n S (wR p0) (wE c (xL V b) n S p0 s0) W1 1 := by
    refine ⟨⟨fun q h1 h2 h3 h4 => by rw [f1 q h1 h2 h3 h4]; exact a1.1 q h1 h2 h3 h4, fun j hj => by rw [fb j hj]; exact a1.2 j hj⟩, ?_, f10, ?_⟩
    · rw [f29, f30, cmb_s]
      refine bfs_push bf1 (by omega) (by rw [cmb_S]; exact a4 s0 hs0) (by omega) (Or.inr ⟨p0, by omega, ?_, Or.inr ⟨p0, s0, hp0, hs0, rfl, rfl, rfl, by have := i4 p0 hp0 s0 hs0; omega, fun _ => rfl⟩⟩)
      rw [cmb_P hp0 hn, if_pos rfl]
      decide
    · rw [f30, f31]
      exact que_push (m := 0) s0I.2.2.2 hs0 (a4 s0 hs0) (by omega)
  have sP1 : sP V b n S (fun q => q = p0) W1 := by
    intro q hq hm hx
    rw [f29] at hm
    dsimp only at hm
    rw [if_neg hx, a3 q hq] at hm
    exact absurd rfl hm
  have k2 : ∀ (j i : Nat) (W : Nat → Nat → Int) (m : Nat) (y4 : Option pm_V), S < j + i → i ≤ m → sI V b n S (wR p0) (wE c (xL V b) n S p0 s0) W m → sP V b n S (fun q => q = p0) W → W (b + 29) p0 = -1 → W (b + 30) s0 ≠ -2 → (∀ k, k < i → ∀ t, t < S → W (b + 31) k = (t : Int) → ¬ 0 < V (b + 2) t ∧ ¬ (s0 < t ∧ 0 < xL V b p0 t) ∧ ∀ q, p0 < q → q < n → 0 < xL V b q t → W (b + 29) q ≠ -2) → pm_w d 82 32 [some (.inr (.inr (some b))), some (.inl (p0 : Int)), some (.inl (s0 : Int)), some (.inl (i : Int)), y4] [] (W, R, T) (fsQ V R T b n S ln c r p0 s0) := by
    intro j
    induction j with
    | zero =>
      intro i W m y4 hj him w1 w2 w3 w4 w5
      have := que_m w1.2.2.2
      omega
    | succ j ih =>
      intro i W m y4 hj him w1 w2 w3 w4 w5
      have hm := que_m w1.2.2.2
      have e10 : W b 10 = m := w1.2.2.1
      have fin : m ≤ i → fsQ V R T b n S ln c r p0 s0 (some (.inl (-1))) (W, R, T) := by
        intro hmi
        refine ⟨W, rfl, w1.1, Or.inr ⟨rfl, fun hfull => ?_⟩⟩
        refine cl_stop (P := fun q => decide (W (b + 29) q ≠ -2 ∧ q ≠ p0)) (Q := fun t => decide (W (b + 30) t ≠ -2)) ⟨⟨l1, l2, l3⟩, hfull⟩ hp0 hs0 (decide_eq_true w4) (fun t ht hQ q hq hP hbf hne => ?_) (fun q hq hP t ht hQ hbf => ?_) (decide_eq_false (fun w => w.2 rfl)) (Or.inl fun t ht hQ => ?_)
        · obtain ⟨k, k1, k2⟩ := w1.2.2.2.2.2 t ht (of_decide_eq_true hQ)
          obtain ⟨g1, g2, g3⟩ := w5 k (by omega) t ht k2
          have x0 := (l1 q hq t ht).1
          by_cases c1 : q = p0
          · subst c1
            unfold bef at hbf
            have : ¬ 0 < xL V b q t := fun w => g2 ⟨by omega, w⟩
            omega
          · have hgt : p0 < q := by unfold bef at hbf; omega
            have : ¬ 0 < xL V b q t := fun w => of_decide_eq_false hP ⟨g3 q hgt hq w, c1⟩
            omega
        · have hp := of_decide_eq_true hP
          have h1 := i4 q hq t ht
          have h2 := (l1 q hq t ht).2
          have : ¬ 0 < mL V b q t := fun w => of_decide_eq_false hQ (w2 q hq hp.1 hp.2 t ht w)
          omega
        · obtain ⟨k, k1, k2⟩ := w1.2.2.2.2.2 t ht (of_decide_eq_true hQ)
          have h1 := (w5 k (by omega) t ht k2).1
          have h2 := i3 t ht
          have h3 := (bd.2.1 t ht).1
          omega
      rw [ux_82_32]
      simp only [ux_82_0, ux_82_1, ux_82_5, ux_82_8, ux_82_9, ux_82_10, ux_82_11, ux_82_12, ux_82_15, ux_82_16, ux_82_17, ux_82_18, ux_82_19, ux_82_22, ux_82_23, ux_82_24, ux_82_25, ux_82_26, ux_82_27, ux_82_30, ux_82_31, ux_82_33, ux_82_34, ux_82_37, ux_82_40, ux_82_41, ux_82_43, ux_82_46, ux_82_47, ux_82_50, ux_82_51, ux_82_52, ux_82_54, ux_82_55, ux_82_58, ux_82_60, ux_82_61, ux_82_64, ux_82_66, ux_82_67, ux_82_70, ux_82_71, ux_82_74, ux_82_75, ux_82_76, ux_82_78, ux_82_79, ux_82_82, ux_82_84, ux_82_86, ux_82_88, ux_82_89, ux_82_90, ux_82_91, ux_82_97, ux_82_100, ux_82_101, pm_i_c, pm_l_c, pm_q_c, pm_r_c, pm_li_0, pm_li_s, pm_ll_0, pm_ll_s, pm_lq_0, pm_lq_s, pm_s1, pm_s2, pm_kl, pm_wI, pm_wR, pm_pu_n, pm_pu_s, pm_wt, List.take_succ_cons, List.take_zero, List.take_nil, List.drop_succ_cons, List.drop_zero, List.reverse_cons, List.reverse_nil, List.nil_append, List.cons_append, List.length_cons, List.length_nil, true_and, and_true, true_implies, tn_l, tn_0, Int.reduceToNat, Int.reduceLE, Int.reduceLT, Int.reduceEq, Int.reduceAdd, Int.reduceSub, Int.reduceMul, Int.reduceNeg, Nat.reduceAdd, Nat.reduceLeDiff, Nat.reduceEqDiff, Nat.reduceSub, Option.some.injEq, Sum.inl.injEq, Sum.inr.injEq, or_true, true_or, reduceCtorEq, ne_eq, not_false_eq_true, not_true_eq_false, false_implies, implies_true, false_and, and_false, false_or, or_false, if_true, if_false, ly_3 hb, ly_4 hb, ly_5 hb, ly_6 hb, ly_7 hb, ly_8 hb, ly_9 hb, ly_t hb, ly_v hb, ly_b1 hb, ly_b2 hb, ly_b3 hb, ly_b16 hb, ly_b29 hb, ly_b30 hb, ly_b31 hb, e10]
      refine ⟨fun z => fin (by omega), fun z => ⟨fun z2 => fin (by omega), fun z2 => ⟨by omega, ?_⟩⟩⟩
      obtain ⟨t, s1, s2, s3⟩ := w1.2.2.2.2.1 i (by omega)
      have er : W (b + 2) t = V (b + 2) t := by rw [w1.1.1 (b + 2) (by omega) (by omega) (by omega) (by omega)]
      have ex : W (b + 4 + p0) t = xL V b p0 t := by rw [xL_eq (by omega), w1.1.1 _ (by omega) (by omega) (by omega) (by omega)]
      have found : (0 < V (b + 2) t ∨ (s0 < t ∧ 0 < xL V b p0 t)) → fsQ V R T b n S ln c r p0 s0 (some (.inl (t : Int))) (W, R, T) := fun z => ⟨W, rfl, w1.1, Or.inl ⟨t, s1, rfl, s3, z, w1.2.1, w3⟩⟩
      have next : ¬ 0 < V (b + 2) t → ¬ (s0 < t ∧ 0 < xL V b p0 t) → pm_w d 82 85 [some (.inr (.inr (some b))), some (.inl (p0 : Int)), some (.inl (s0 : Int)), some (.inl (i : Int)), some (.inl (t : Int))] [] (W, R, T) (fsQ V R T b n S ln c r p0 s0) := by
        intro c1 c2
        have e1 : ((p0 : Int) + 1) = ((p0 + 1 : Nat) : Int) := by omega
        rw [ux_82_85]
        simp only [ux_82_0, ux_82_1, ux_82_5, ux_82_8, ux_82_9, ux_82_10, ux_82_11, ux_82_12, ux_82_15, ux_82_16, ux_82_17, ux_82_18, ux_82_19, ux_82_22, ux_82_23, ux_82_24, ux_82_25, ux_82_26, ux_82_27, ux_82_30, ux_82_31, ux_82_33, ux_82_34, ux_82_37, ux_82_40, ux_82_41, ux_82_43, ux_82_46, ux_82_47, ux_82_50, ux_82_51, ux_82_52, ux_82_54, ux_82_55, ux_82_58, ux_82_60, ux_82_61, ux_82_64, ux_82_66, ux_82_67, ux_82_70, ux_82_71, ux_82_74, ux_82_75, ux_82_76, ux_82_78, ux_82_79, ux_82_82, ux_82_84, ux_82_86, ux_82_88, ux_82_89, ux_82_90, ux_82_91, ux_82_97, ux_82_100, ux_82_101, pm_i_c, pm_l_c, pm_q_c, pm_r_c, pm_li_0, pm_li_s, pm_ll_0, pm_ll_s, pm_lq_0, pm_lq_s, pm_s1, pm_s2, pm_kl, pm_wI, pm_wR, pm_pu_n, pm_pu_s, pm_wt, List.take_succ_cons, List.take_zero, List.take_nil, List.drop_succ_cons, List.drop_zero, List.reverse_cons, List.reverse_nil, List.nil_append, List.cons_append, List.length_cons, List.length_nil, true_and, and_true, true_implies, tn_l, tn_0, Int.reduceToNat, Int.reduceLE, Int.reduceLT, Int.reduceEq, Int.reduceAdd, Int.reduceSub, Int.reduceMul, Int.reduceNeg, Nat.reduceAdd, Nat.reduceLeDiff, Nat.reduceEqDiff, Nat.reduceSub, Option.some.injEq, Sum.inl.injEq, Sum.inr.injEq, or_true, true_or, reduceCtorEq, ne_eq, not_false_eq_true, not_true_eq_false, false_implies, implies_true, false_and, and_false, false_or, or_false, if_true, if_false, ly_3 hb, ly_4 hb, ly_5 hb, ly_6 hb, ly_7 hb, ly_8 hb, ly_9 hb, ly_t hb, ly_v hb, ly_b1 hb, ly_b2 hb, ly_b3 hb, ly_b16 hb, ly_b29 hb, ly_b30 hb, ly_b31 hb, e1]
        refine ⟨by unfold pm_I32; omega, ?_⟩
        refine pm_ok_mono (c_reachFromStretch (d := d) (V := V) (low := p0 + 1) (s := t) (by omega) hb hn hS i0 i1 (fun q u hl hq hu hmm => Or.inr ⟨q, u, hq, hu, rfl, rfl, rfl, by have := i4 q hq u hu; omega, fun w => by omega⟩) (by omega) (fun q hl hq hx => Or.inl ⟨q, t, hq, s1, rfl, rfl, rfl, hx, by omega⟩) s1 w1 w2 s3) ?_
        rintro r0 h2 ⟨W2, m2, rfl, rfl, y1, y2', y3, y4', y5, y6⟩
        rw [pm_pu_n, ux_82_94]
        simp only [ux_82_0, ux_82_1, ux_82_5, ux_82_8, ux_82_9, ux_82_10, ux_82_11, ux_82_12, ux_82_15, ux_82_16, ux_82_17, ux_82_18, ux_82_19, ux_82_22, ux_82_23, ux_82_24, ux_82_25, ux_82_26, ux_82_27, ux_82_30, ux_82_31, ux_82_33, ux_82_34, ux_82_37, ux_82_40, ux_82_41, ux_82_43, ux_82_46, ux_82_47, ux_82_50, ux_82_51, ux_82_52, ux_82_54, ux_82_55, ux_82_58, ux_82_60, ux_82_61, ux_82_64, ux_82_66, ux_82_67, ux_82_70, ux_82_71, ux_82_74, ux_82_75, ux_82_76, ux_82_78, ux_82_79, ux_82_82, ux_82_84, ux_82_86, ux_82_88, ux_82_89, ux_82_90, ux_82_91, ux_82_97, ux_82_100, ux_82_101, pm_i_c, pm_l_c, pm_q_c, pm_r_c, pm_li_0, pm_li_s, pm_ll_0, pm_ll_s, pm_lq_0, pm_lq_s, pm_s1, pm_s2, pm_kl, pm_wI, pm_wR, pm_pu_n, pm_pu_s, pm_wt, List.take_succ_cons, List.take_zero, List.take_nil, List.drop_succ_cons, List.drop_zero, List.reverse_cons, List.reverse_nil, List.nil_append, List.cons_append, List.length_cons, List.length_nil, true_and, and_true, true_implies, tn_l, tn_0, Int.reduceToNat, Int.reduceLE, Int.reduceLT, Int.reduceEq, Int.reduceAdd, Int.reduceSub, Int.reduceMul, Int.reduceNeg, Nat.reduceAdd, Nat.reduceLeDiff, Nat.reduceEqDiff, Nat.reduceSub, Option.some.injEq, Sum.inl.injEq, Sum.inr.injEq, or_true, true_or, reduceCtorEq, ne_eq, not_false_eq_true, not_true_eq_false, false_implies, implies_true, false_and, and_false, false_or, or_false, if_true, if_false, ly_3 hb, ly_4 hb, ly_5 hb, ly_6 hb, ly_7 hb, ly_8 hb, ly_9 hb, ly_t hb, ly_v hb, ly_b1 hb, ly_b2 hb, ly_b3 hb, ly_b16 hb, ly_b29 hb, ly_b30 hb, ly_b31 hb]
        refine ⟨by unfold pm_I32; omega, ih (i + 1) W2 m2 _ (by omega) (by omega) y1 y2' (by rw [y6 p0 (by omega)]; exact w3) (y3.1 s0 w4) (fun k hk u hu huu => ?_)⟩
        have hu2 : W (b + 31) k = (u : Int) := by rw [← y3.2.2 k (by rw [e10]; omega)]; exact huu
        by_cases e : k = i
        · subst e
          have : u = t := by omega
          subst this
          exact ⟨c1, c2, fun q h1 h2 h3 => y5 q (by omega) h2 h3⟩
        · obtain ⟨g1, g2, g3⟩ := w5 k (by omega) u hu hu2
          exact ⟨g1, g2, fun q h1 h2 h3 => y3.2.1 q (g3 q h1 h2 h3)⟩
      rw [s2]
      simp only [ux_82_0, ux_82_1, ux_82_5, ux_82_8, ux_82_9, ux_82_10, ux_82_11, ux_82_12, ux_82_15, ux_82_16, ux_82_17, ux_82_18, ux_82_19, ux_82_22, ux_82_23, ux_82_24, ux_82_25, ux_82_26, ux_82_27, ux_82_30, ux_82_31, ux_82_33, ux_82_34, ux_82_37, ux_82_40, ux_82_41, ux_82_43, ux_82_46, ux_82_47, ux_82_50, ux_82_51, ux_82_52, ux_82_54, ux_82_55, ux_82_58, ux_82_60, ux_82_61, ux_82_64, ux_82_66, ux_82_67, ux_82_70, ux_82_71, ux_82_74, ux_82_75, ux_82_76, ux_82_78, ux_82_79, ux_82_82, ux_82_84, ux_82_86, ux_82_88, ux_82_89, ux_82_90, ux_82_91, ux_82_97, ux_82_100, ux_82_101, pm_i_c, pm_l_c, pm_q_c, pm_r_c, pm_li_0, pm_li_s, pm_ll_0, pm_ll_s, pm_lq_0, pm_lq_s, pm_s1, pm_s2, pm_kl, pm_wI, pm_wR, pm_pu_n, pm_pu_s, pm_wt, List.take_succ_cons, List.take_zero, List.take_nil, List.drop_succ_cons, List.drop_zero, List.reverse_cons, List.reverse_nil, List.nil_append, List.cons_append, List.length_cons, List.length_nil, true_and, and_true, true_implies, tn_l, tn_0, Int.reduceToNat, Int.reduceLE, Int.reduceLT, Int.reduceEq, Int.reduceAdd, Int.reduceSub, Int.reduceMul, Int.reduceNeg, Nat.reduceAdd, Nat.reduceLeDiff, Nat.reduceEqDiff, Nat.reduceSub, Option.some.injEq, Sum.inl.injEq, Sum.inr.injEq, or_true, true_or, reduceCtorEq, ne_eq, not_false_eq_true, not_true_eq_false, false_implies, implies_true, false_and, and_false, false_or, or_false, if_true, if_false, ly_3 hb, ly_4 hb, ly_5 hb, ly_6 hb, ly_7 hb, ly_8 hb, ly_9 hb, ly_t hb, ly_v hb, ly_b1 hb, ly_b2 hb, ly_b3 hb, ly_b16 hb, ly_b29 hb, ly_b30 hb, ly_b31 hb, er, ex, ly_x hb (show p0 < 12 by omega), ly_bx hb (show p0 < 12 by omega)]
      refine ⟨by omega, fun c1 => found (Or.inl (by omega)), fun c1 => ⟨fun c2 => next (by omega) (by omega), fun c2 => ⟨Or.inl (by omega), by omega, fun c3 => next (by omega) (by omega), fun c3 => found (Or.inr (by omega))⟩⟩⟩
  refine k2 (S + 1) 0 W1 1 none (by omega) (by omega) sI1 sP1 ?_ ?_ (fun k hk => by omega)
  · rw [f29]; exact if_pos rfl
  · rw [f30]; dsimp only; rw [if_pos rfl]; omega
end
