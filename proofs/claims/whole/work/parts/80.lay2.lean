/-! THE CLASS: laying plainly; searching -/
section
variable {d : Nat} {h : pm_H} {V V2 W : Nat → Nat → Int} {R : Nat → Nat → Option Nat} {T : List (Nat × Nat)} {n a p b S : Nat} {ln : Nat → Int} {c : Nat → Nat → Int} {r : Nat → Int}
/-- something is laid at once -/
theorem ly_put (hB : ntB n S ln c r) (hI : lyI W b n S ln c r) {p s : Nat} (hp : p < n) (hs : s < S) {v : Int} (hv : 0 ≤ v) (h1 : v ≤ W (b + 1) p) (h2 : v ≤ W (b + 2) s) (h3 : v ≤ mL W b p s) : ∀ W2, W2 = pm_up (pm_up (pm_up (pm_up (pm_up W (b + 4 + p) s (xL W b p s + v)) (b + 17 + p) s (mL W b p s + -v)) (b + 2) s (W (b + 2) s - v)) (b + 1) p (W (b + 1) p - v)) b 2 (W b 2 - v) → lyI W2 b n S ln c r := by
  intro W2 hW2
  have hn := hB.1
  obtain ⟨⟨i0, i1⟩, i2, i3, i4, i5, l1, l2, l3⟩ := hI
  have x1 : xL W2 b = upx (xL W b) p s v := by
    rw [← xL_up (W := W) (b := b) (p := p) (s := s) (v := v) (by omega)]
    refine xL_fr (fun q hq => ?_)
    rw [hW2, pm_up_fr (by omega), pm_up_fr (by omega), pm_up_fr (by omega), pm_up_fr (by omega)]
  have m1 : mL W2 b = upx (mL W b) p s (-v) := by
    have e : mL (pm_up W (b + 4 + p) s (xL W b p s + v)) b = mL W b := mL_fr (fun q hq => pm_up_fr (by omega))
    have := mL_up (W := pm_up W (b + 4 + p) s (xL W b p s + v)) (b := b) (p := p) (s := s) (v := -v) (by omega)
    rw [e] at this
    rw [← this]
    refine mL_fr (fun q hq => ?_)
    rw [hW2, pm_up_fr (by omega), pm_up_fr (by omega), pm_up_fr (by omega)]
  have a1 : W2 (b + 1) = fun j => if j = p then W (b + 1) p - v else W (b + 1) j := by rw [hW2, pm_up_fr (by omega), pm_up_row, pm_up_fr (by omega), pm_up_fr (by omega), pm_up_fr (by omega)]
  have a2 : W2 (b + 2) = fun j => if j = s then W (b + 2) s - v else W (b + 2) j := by rw [hW2, pm_up_fr (by omega), pm_up_fr (by omega), pm_up_row, pm_up_fr (by omega), pm_up_fr (by omega)]
  have a3 : ∀ j, j ≠ 2 → W2 b j = W b j := fun j hj => by rw [hW2, pm_up_ne (fun w => hj w.2), pm_up_fr (by omega), pm_up_fr (by omega), pm_up_fr (by omega), pm_up_fr (by omega)]
  have a4 : W2 b 2 = W b 2 - v := by rw [hW2, pm_up_eq]
  have hx := l1 p hp s hs
  have hm := i4 p hp s hs
  have hr := i3 s hs
  have hl := i2 p hp
  refine ⟨⟨by rw [a3 0 (by decide)]; exact i0, by rw [a3 1 (by decide)]; exact i1⟩, fun q hq => ?_, fun t ht => ?_, fun q hq t ht => ?_, ?_, fun q hq t ht => ?_, fun q hq => ?_, fun t ht => ?_⟩
  · rw [x1, a1, upx_row hs]
    dsimp only
    have := i2 q hq
    by_cases e : q = p
    · subst e; rw [if_pos rfl, if_pos rfl]; omega
    · rw [if_neg e, if_neg e]; omega
  · rw [x1, a2, upx_col hp]
    dsimp only
    have := i3 t ht
    by_cases e : t = s
    · subst e; rw [if_pos rfl, if_pos rfl]; omega
    · rw [if_neg e, if_neg e]; omega
  · rw [x1, m1]
    have := i4 q hq t ht
    unfold upx
    split <;> omega
  · rw [x1, a4, i5]
    have : tot n S (upx (xL W b) p s v) = tot n S (xL W b) + v := by
      unfold tot
      rw [← sm_up1 hp]
      refine sm_congr fun q _ => ?_
      rw [upx_row hs]
      split <;> omega
    omega
  · rw [x1]
    have := l1 q hq t ht
    unfold upx
    by_cases e : q = p ∧ t = s
    · rw [if_pos e, e.1, e.2]; omega
    · rw [if_neg e]; exact this
  · rw [x1, upx_row hs]
    have := l2 q hq
    by_cases e : q = p
    · subst e; rw [if_pos rfl]; omega
    · rw [if_neg e]; omega
  · rw [x1, upx_col hp]
    have := l3 t ht
    by_cases e : t = s
    · subst e; rw [if_pos rfl]; omega
    · rw [if_neg e]; omega
def lpQ (V : Nat → Nat → Int) (R : Nat → Nat → Option Nat) (T : List (Nat × Nat)) (b n S : Nat) (ln : Nat → Int) (c : Nat → Nat → Int) (r : Nat → Int) (r0 : Option pm_V) (h2 : pm_H) : Prop := ∃ V2, h2 = (V2, R, T) ∧ r0 = none ∧ lyF V V2 b ∧ lyI V2 b n S ln c r
theorem c_layPlainly (hd : 2 ≤ d) (hb : lyq R T b) (hB : ntB n S ln c r) (hI : lyI V b n S ln c r) (hp : p < n) : pm_ok d 64 [.inr (.inr (some b)), .inl (p : Int)] (V, R, T) (lpQ V R T b n S ln c r) := by
  obtain ⟨d, rfl⟩ : ∃ k, d = k + 1 := ⟨d - 1, by omega⟩
  refine pm_ok_iff.mpr ⟨(Nat.le_of_ble_eq_true rfl), ?_⟩
  show pm_w d 64 0 [some (.inr (.inr (some b))), some (.inl (p : Int)), none, none] [] (V, R, T) _
  have hn := hB.1
  have hS := hB.2.1
  simp only [ux_64_0, ux_64_1, ux_64_3, ux_64_4, ux_64_7, ux_64_10, ux_64_11, ux_64_14, ux_64_15, ux_64_16, ux_64_19, ux_64_20, ux_64_23, ux_64_24, ux_64_25, ux_64_26, ux_64_29, ux_64_30, ux_64_31, ux_64_32, ux_64_35, ux_64_36, ux_64_37, ux_64_38, ux_64_39, ux_64_42, ux_64_45, ux_64_46, ux_64_47, ux_64_48, ux_64_49, ux_64_50, ux_64_54, ux_64_57, ux_64_58, ux_64_59, ux_64_60, ux_64_61, ux_64_62, ux_64_63, ux_64_64, ux_64_67, ux_64_68, ux_64_69, ux_64_70, ux_64_71, ux_64_72, ux_64_73, ux_64_74, ux_64_75, ux_64_78, ux_64_79, ux_64_80, ux_64_83, ux_64_86, ux_64_89, pm_i_c, pm_l_c, pm_q_c, pm_r_c, pm_li_0, pm_li_s, pm_ll_0, pm_ll_s, pm_lq_0, pm_lq_s, pm_s1, pm_s2, pm_kl, pm_wI, pm_wR, pm_pu_n, pm_pu_s, pm_wt, List.take_succ_cons, List.take_zero, List.take_nil, List.drop_succ_cons, List.drop_zero, List.reverse_cons, List.reverse_nil, List.nil_append, List.cons_append, List.length_cons, List.length_nil, true_and, and_true, true_implies, tn_l, tn_0, Int.reduceToNat, Int.reduceLE, Int.reduceLT, Int.reduceEq, Int.reduceAdd, Int.reduceSub, Int.reduceMul, Int.reduceNeg, Nat.reduceAdd, Nat.reduceLeDiff, Nat.reduceEqDiff, Nat.reduceSub, Option.some.injEq, Sum.inl.injEq, Sum.inr.injEq, or_true, true_or, reduceCtorEq, ne_eq, not_false_eq_true, not_true_eq_false, false_implies, implies_true, false_and, and_false, false_or, or_false, if_true, if_false, ly_3 hb, ly_4 hb, ly_5 hb, ly_6 hb, ly_7 hb, ly_8 hb, ly_9 hb, ly_t hb, ly_v hb, ly_b1 hb, ly_b2 hb, ly_b3 hb, ly_b16 hb, ly_b29 hb, ly_b30 hb, ly_b31 hb]
  refine pm_up0 (fun s => ∀ (W : Nat → Nat → Int) (y : Option pm_V), lyF V W b → lyI W b n S ln c r → pm_w d 64 2 [some (.inr (.inr (some b))), some (.inl (p : Int)), some (.inl (s : Int)), y] [] (W, R, T) (lpQ V R T b n S ln c r)) S ?_ ?_ V none (fun _ _ => rfl) hI
  · intro W y w1 w2
    rw [ux_64_2]
    simp only [ux_64_0, ux_64_1, ux_64_3, ux_64_4, ux_64_7, ux_64_10, ux_64_11, ux_64_14, ux_64_15, ux_64_16, ux_64_19, ux_64_20, ux_64_23, ux_64_24, ux_64_25, ux_64_26, ux_64_29, ux_64_30, ux_64_31, ux_64_32, ux_64_35, ux_64_36, ux_64_37, ux_64_38, ux_64_39, ux_64_42, ux_64_45, ux_64_46, ux_64_47, ux_64_48, ux_64_49, ux_64_50, ux_64_54, ux_64_57, ux_64_58, ux_64_59, ux_64_60, ux_64_61, ux_64_62, ux_64_63, ux_64_64, ux_64_67, ux_64_68, ux_64_69, ux_64_70, ux_64_71, ux_64_72, ux_64_73, ux_64_74, ux_64_75, ux_64_78, ux_64_79, ux_64_80, ux_64_83, ux_64_86, ux_64_89, pm_i_c, pm_l_c, pm_q_c, pm_r_c, pm_li_0, pm_li_s, pm_ll_0, pm_ll_s, pm_lq_0, pm_lq_s, pm_s1, pm_s2, pm_kl, pm_wI, pm_wR, pm_pu_n, pm_pu_s, pm_wt, List.take_succ_cons, List.take_zero, List.take_nil, List.drop_succ_cons, List.drop_zero, List.reverse_cons, List.reverse_nil, List.nil_append, List.cons_append, List.length_cons, List.length_nil, true_and, and_true, true_implies, tn_l, tn_0, Int.reduceToNat, Int.reduceLE, Int.reduceLT, Int.reduceEq, Int.reduceAdd, Int.reduceSub, Int.reduceMul, Int.reduceNeg, Nat.reduceAdd, Nat.reduceLeDiff, Nat.reduceEqDiff, Nat.reduceSub, Option.some.injEq, Sum.inl.injEq, Sum.inr.injEq, or_true, true_or, reduceCtorEq, ne_eq, not_false_eq_true, not_true_eq_false, false_implies, implies_true, false_and, and_false, false_or, or_false, if_true, if_false, ly_3 hb, ly_4 hb, ly_5 hb, ly_6 hb, ly_7 hb, ly_8 hb, ly_9 hb, ly_t hb, ly_v hb, ly_b1 hb, ly_b2 hb, ly_b3 hb, ly_b16 hb, ly_b29 hb, ly_b30 hb, ly_b31 hb, w2.1.2]
    exact ⟨fun _ => ⟨W, rfl, rfl, w1, w2⟩, fun z => absurd (Int.le_refl _) z⟩
  · intro s hs ih W y w1 w2
    obtain ⟨d1, d2, d3, d4⟩ := ly_bd hB w2
    have p1 := d1 p hp
    have p2 := d2 s hs
    obtain ⟨p3, p4⟩ := d3 p hp s hs
    have em : W (b + 17 + p) s = mL W b p s := (mL_eq (by omega)).symm
    generalize hv : min (W (b + 1) p) (min (W (b + 2) s) (mL W b p s)) = v
    have ev := c_move (d := d) (V := W) (by omega) hb p s (by omega) (by omega) v (by unfold pm_I32; omega) (by unfold pm_I32; omega)
    rw [ux_64_2]
    simp only [ux_64_0, ux_64_1, ux_64_3, ux_64_4, ux_64_7, ux_64_10, ux_64_11, ux_64_14, ux_64_15, ux_64_16, ux_64_19, ux_64_20, ux_64_23, ux_64_24, ux_64_25, ux_64_26, ux_64_29, ux_64_30, ux_64_31, ux_64_32, ux_64_35, ux_64_36, ux_64_37, ux_64_38, ux_64_39, ux_64_42, ux_64_45, ux_64_46, ux_64_47, ux_64_48, ux_64_49, ux_64_50, ux_64_54, ux_64_57, ux_64_58, ux_64_59, ux_64_60, ux_64_61, ux_64_62, ux_64_63, ux_64_64, ux_64_67, ux_64_68, ux_64_69, ux_64_70, ux_64_71, ux_64_72, ux_64_73, ux_64_74, ux_64_75, ux_64_78, ux_64_79, ux_64_80, ux_64_83, ux_64_86, ux_64_89, pm_i_c, pm_l_c, pm_q_c, pm_r_c, pm_li_0, pm_li_s, pm_ll_0, pm_ll_s, pm_lq_0, pm_lq_s, pm_s1, pm_s2, pm_kl, pm_wI, pm_wR, pm_pu_n, pm_pu_s, pm_wt, List.take_succ_cons, List.take_zero, List.take_nil, List.drop_succ_cons, List.drop_zero, List.reverse_cons, List.reverse_nil, List.nil_append, List.cons_append, List.length_cons, List.length_nil, true_and, and_true, true_implies, tn_l, tn_0, Int.reduceToNat, Int.reduceLE, Int.reduceLT, Int.reduceEq, Int.reduceAdd, Int.reduceSub, Int.reduceMul, Int.reduceNeg, Nat.reduceAdd, Nat.reduceLeDiff, Nat.reduceEqDiff, Nat.reduceSub, Option.some.injEq, Sum.inl.injEq, Sum.inr.injEq, or_true, true_or, reduceCtorEq, ne_eq, not_false_eq_true, not_true_eq_false, false_implies, implies_true, false_and, and_false, false_or, or_false, if_true, if_false, ly_3 hb, ly_4 hb, ly_5 hb, ly_6 hb, ly_7 hb, ly_8 hb, ly_9 hb, ly_t hb, ly_v hb, ly_b1 hb, ly_b2 hb, ly_b3 hb, ly_b16 hb, ly_b29 hb, ly_b30 hb, ly_b31 hb, w2.1.2, ly_m hb (show p < 12 by omega), ly_bm hb (show p < 12 by omega), em, hv, pm_ok_ev ev]
    refine ⟨fun z => by omega, fun _ => ⟨by omega, fun z => ⟨W, rfl, rfl, w1, w2⟩, fun z => ⟨by omega, by omega, Or.inl (by omega), by omega, ?_⟩⟩⟩
    rw [ux_64_53]
    generalize hW1 : pm_up (pm_up W (b + 4 + p) s (xL W b p s + v)) (b + 17 + p) s (mL W b p s + -v) = W1
    have f1 : ∀ q, q ≠ b + 4 + p → q ≠ b + 17 + p → W1 q = W q := fun q h1 h2 => by rw [← hW1, pm_up_fr h2, pm_up_fr h1]
    have e1 : W1 (b + 2) = W (b + 2) := f1 _ (by omega) (by omega)
    have e2 : ∀ k x, pm_up W1 (b + 2) k x (b + 1) = W (b + 1) := fun k x => by rw [pm_up_fr (by omega)]; exact f1 _ (by omega) (by omega)
    have e3 : ∀ k x k2 x2, pm_up (pm_up W1 (b + 2) k x) (b + 1) k2 x2 b = W b := fun k x k2 x2 => by rw [pm_up_fr (by omega), pm_up_fr (by omega)]; exact f1 _ (by omega) (by omega)
    simp only [ux_64_0, ux_64_1, ux_64_3, ux_64_4, ux_64_7, ux_64_10, ux_64_11, ux_64_14, ux_64_15, ux_64_16, ux_64_19, ux_64_20, ux_64_23, ux_64_24, ux_64_25, ux_64_26, ux_64_29, ux_64_30, ux_64_31, ux_64_32, ux_64_35, ux_64_36, ux_64_37, ux_64_38, ux_64_39, ux_64_42, ux_64_45, ux_64_46, ux_64_47, ux_64_48, ux_64_49, ux_64_50, ux_64_54, ux_64_57, ux_64_58, ux_64_59, ux_64_60, ux_64_61, ux_64_62, ux_64_63, ux_64_64, ux_64_67, ux_64_68, ux_64_69, ux_64_70, ux_64_71, ux_64_72, ux_64_73, ux_64_74, ux_64_75, ux_64_78, ux_64_79, ux_64_80, ux_64_83, ux_64_86, ux_64_89, pm_i_c, pm_l_c, pm_q_c, pm_r_c, pm_li_0, pm_li_s, pm_ll_0, pm_ll_s, pm_lq_0, pm_lq_s, pm_s1, pm_s2, pm_kl, pm_wI, pm_wR, pm_pu_n, pm_pu_s, pm_wt, List.take_succ_cons, List.take_zero, List.take_nil, List.drop_succ_cons, List.drop_zero, List.reverse_cons, List.reverse_nil, List.nil_append, List.cons_append, List.length_cons, List.length_nil, true_and, and_true, true_implies, tn_l, tn_0, Int.reduceToNat, Int.reduceLE, Int.reduceLT, Int.reduceEq, Int.reduceAdd, Int.reduceSub, Int.reduceMul, Int.reduceNeg, Nat.reduceAdd, Nat.reduceLeDiff, Nat.reduceEqDiff, Nat.reduceSub, Option.some.injEq, Sum.inl.injEq, Sum.inr.injEq, or_true, true_or, reduceCtorEq, ne_eq, not_false_eq_true, not_true_eq_false, false_implies, implies_true, false_and, and_false, false_or, or_false, if_true, if_false, ly_3 hb, ly_4 hb, ly_5 hb, ly_6 hb, ly_7 hb, ly_8 hb, ly_9 hb, ly_t hb, ly_v hb, ly_b1 hb, ly_b2 hb, ly_b3 hb, ly_b16 hb, ly_b29 hb, ly_b30 hb, ly_b31 hb, e1, e2, e3]
    refine ⟨by omega, by unfold pm_I32; omega, by omega, by omega, by unfold pm_I32; omega, by omega, by unfold pm_I32; omega, by unfold pm_I32; omega, ih _ _ (fun q hq => ?_) ?_⟩
    · rw [pm_up_fr (by omega), pm_up_fr (by omega), pm_up_fr (by omega), f1 q (by omega) (by omega)]; exact w1 q hq
    · exact ly_put (v := v) hB w2 hp hs (by omega) (by omega) (by omega) (by omega) _ (by rw [hW1])
/-! searching -/
def seF (V W : Nat → Nat → Int) (b : Nat) : Prop := (∀ q, q ≠ b → q ≠ b + 29 → q ≠ b + 30 → q ≠ b + 31 → W q = V q) ∧ ∀ j, j ≠ 10 → W b j = V b j
theorem seF_rf : seF V V b := ⟨fun _ _ _ _ _ => rfl, fun _ _ => rfl⟩
theorem seF_x (h : seF V W b) : xL W b = xL V b ∧ mL W b = mL V b := ⟨xL_fr fun q hq => h.1 _ (by omega) (by omega) (by omega) (by omega), mL_fr fun q hq => h.1 _ (by omega) (by omega) (by omega) (by omega)⟩
theorem seF_I (h : seF V W b) (hI : lyI V b n S ln c r) : lyI W b n S ln c r := by
  obtain ⟨e1, e2⟩ := seF_x h
  unfold lyI
  rw [e1, e2, h.2 0 (by decide), h.2 1 (by decide), h.2 2 (by decide), h.1 (b + 1) (by omega) (by omega) (by omega) (by omega), h.1 (b + 2) (by omega) (by omega) (by omega) (by omega)]
  exact hI
theorem bfs_min {N : Nat} {rt : Nat → Int → Prop} {E : Nat → Nat → Int → Prop} {M : Nat → Int} (h : bfs N rt E M) (Z : Nat → Prop) (h1 : ∀ a v, rt a v → Z a) (h2 : ∀ b a v, Z b → E b a v → Z a) : ∀ a, a < N → M a ≠ -2 → Z a := by
  obtain ⟨rk, h⟩ := h
  have key : ∀ k a, rk a ≤ k → a < N → M a ≠ -2 → Z a := by
    intro k
    induction k using Nat.strongRecOn with
    | _ k ih =>
      intro a hk ha hm
      rcases (h a ha hm).2 with w | ⟨b, b1, b2, b3, b4⟩
      · exact h1 a _ w
      · exact h2 b a _ (ih (rk b) (by omega) b (Nat.le_refl _) b1 b2) b4
  exact fun a ha hm => key (rk a) a (Nat.le_refl _) ha hm
def sI (V : Nat → Nat → Int) (b n S : Nat) (rt : Nat → Int → Prop) (E : Nat → Nat → Int → Prop) (W : Nat → Nat → Int) (m : Nat) : Prop := seF V W b ∧ bfs (12 + S) rt E (cmb n (W (b + 29)) (W (b + 30))) ∧ W b 10 = m ∧ que S (W (b + 30)) (W (b + 31)) m
/-- each reached piece but ex has its stretches reached -/
def sP (V : Nat → Nat → Int) (b n S : Nat) (ex : Nat → Prop) (W : Nat → Nat → Int) : Prop := ∀ p, p < n → W (b + 29) p ≠ -2 → ¬ ex p → ∀ s, s < S → 0 < mL V b p s → W (b + 30) s ≠ -2
/-- marks grow, those of pieces but p stay -/
def sG (W W2 : Nat → Nat → Int) (b : Nat) : Prop := (∀ s, W (b + 30) s ≠ -2 → W2 (b + 30) s ≠ -2) ∧ (∀ q, W (b + 29) q ≠ -2 → W2 (b + 29) q ≠ -2) ∧ ∀ j, j < (W b 10).toNat → W2 (b + 31) j = W (b + 31) j
theorem sG_rf : sG W W b := ⟨fun _ h => h, fun _ h => h, fun _ _ => rfl⟩
theorem sG_tr {W1 W2 W3 : Nat → Nat → Int} (h1 : sG W1 W2 b) (hm : (W1 b 10).toNat ≤ (W2 b 10).toNat) (h2 : sG W2 W3 b) : sG W1 W3 b := ⟨fun s h => h2.1 s (h1.1 s h), fun s h => h2.2.1 s (h1.2.1 s h), fun j hj => (h2.2.2 j (by omega)).trans (h1.2.2 j hj)⟩
def rpQ (V : Nat → Nat → Int) (R : Nat → Nat → Option Nat) (T : List (Nat × Nat)) (b n S : Nat) (rt : Nat → Int → Prop) (E : Nat → Nat → Int → Prop) (ex : Nat → Prop) (W : Nat → Nat → Int) (m p : Nat) (r0 : Option pm_V) (h2 : pm_H) : Prop := ∃ W2 m2, h2 = (W2, R, T) ∧ r0 = none ∧ sI V b n S rt E W2 m2 ∧ sP V b n S ex W2 ∧ sG W W2 b ∧ m ≤ m2 ∧ W2 (b + 29) p ≠ -2 ∧ ∀ q, q ≠ p → W2 (b + 29) q = W (b + 29) q
theorem c_reachFromPiece (hd : 1 ≤ d) (hb : lyq R T b) (hn : n ≤ 12) (hS : S ≤ 47) (h1 : V b 1 = S) {rt : Nat → Int → Prop} {E : Nat → Nat → Int → Prop} {ex : Nat → Prop} {m p : Nat} (hE : ∀ s, s < S → 0 < mL V b p s → E p (12 + s) (p : Int)) (hp : p < n) (hI : sI V b n S rt E W m) (hP : sP V b n S ex W) (hf : W (b + 29) p = -2) (v : Int) (hv : v ≠ -2) (hval : rt p v ∨ ∃ k, k < 12 + S ∧ cmb n (W (b + 29)) (W (b + 30)) k ≠ -2 ∧ E k p v) : pm_ok d 69 [.inr (.inr (some b)), .inl (p : Int), .inl v] (W, R, T) (rpQ V R T b n S rt E ex W m p) := by
  obtain ⟨d, rfl⟩ : ∃ k, d = k + 1 := ⟨d - 1, by omega⟩
  refine pm_ok_iff.mpr ⟨(Nat.le_of_ble_eq_true rfl), ?_⟩
  show pm_w d 69 0 [some (.inr (.inr (some b))), some (.inl (p : Int)), some (.inl v), none] [] (W, R, T) _
  obtain ⟨w1, w2, w3, w4⟩ := hI
  have hM : cmb n (W (b + 29)) (W (b + 30)) p = -2 := by rw [cmb_P hp hn]; exact hf
  simp only [ux_69_0, ux_69_1, ux_69_4, ux_69_5, ux_69_6, ux_69_7, ux_69_8, ux_69_10, ux_69_11, ux_69_14, ux_69_17, ux_69_18, ux_69_21, ux_69_22, ux_69_23, ux_69_24, ux_69_25, ux_69_28, ux_69_29, ux_69_32, ux_69_33, ux_69_34, ux_69_36, ux_69_39, ux_69_40, ux_69_43, ux_69_45, ux_69_48, ux_69_49, ux_69_52, ux_69_53, ux_69_54, ux_69_55, ux_69_56, ux_69_59, ux_69_60, ux_69_63, ux_69_64, ux_69_65, ux_69_66, ux_69_67, ux_69_70, ux_69_71, ux_69_72, ux_69_78, ux_69_81, pm_i_c, pm_l_c, pm_q_c, pm_r_c, pm_li_0, pm_li_s, pm_ll_0, pm_ll_s, pm_lq_0, pm_lq_s, pm_s1, pm_s2, pm_kl, pm_wI, pm_wR, pm_pu_n, pm_pu_s, pm_wt, List.take_succ_cons, List.take_zero, List.take_nil, List.drop_succ_cons, List.drop_zero, List.reverse_cons, List.reverse_nil, List.nil_append, List.cons_append, List.length_cons, List.length_nil, true_and, and_true, true_implies, tn_l, tn_0, Int.reduceToNat, Int.reduceLE, Int.reduceLT, Int.reduceEq, Int.reduceAdd, Int.reduceSub, Int.reduceMul, Int.reduceNeg, Nat.reduceAdd, Nat.reduceLeDiff, Nat.reduceEqDiff, Nat.reduceSub, Option.some.injEq, Sum.inl.injEq, Sum.inr.injEq, or_true, true_or, reduceCtorEq, ne_eq, not_false_eq_true, not_true_eq_false, false_implies, implies_true, false_and, and_false, false_or, or_false, if_true, if_false, ly_3 hb, ly_4 hb, ly_5 hb, ly_6 hb, ly_7 hb, ly_8 hb, ly_9 hb, ly_t hb, ly_v hb, ly_b1 hb, ly_b2 hb, ly_b3 hb, ly_b16 hb, ly_b29 hb, ly_b30 hb, ly_b31 hb]
  refine ⟨by omega, ?_⟩
  generalize hW1 : pm_up W (b + 29) p v = W1
  have f1 : ∀ q, q ≠ b + 29 → W1 q = W q := fun q hq => by rw [← hW1, pm_up_fr hq]
  have f2 : W1 (b + 29) = fun j => if j = p then v else W (b + 29) j := by rw [← hW1, pm_up_row]
  refine pm_up0 (fun s => ∀ (W2 : Nat → Nat → Int) (m2 : Nat), sI V b n S rt E W2 m2 → W2 (b + 29) = W1 (b + 29) → sG W W2 b → m ≤ m2 → (∀ t, t < s → 0 < mL V b p t → W2 (b + 30) t ≠ -2) → pm_w d 69 9 [some (.inr (.inr (some b))), some (.inl (p : Int)), some (.inl v), some (.inl (s : Int))] [] (W2, R, T) (rpQ V R T b n S rt E ex W m p)) S ?_ ?_ W1 m ⟨⟨fun q a1 a2 a3 a4 => by rw [f1 q a2]; exact w1.1 q a1 a2 a3 a4, fun j hj => by rw [f1 b (by omega)]; exact w1.2 j hj⟩, ?_, ?_, ?_⟩ rfl ⟨fun s h => by rw [f1 (b + 30) (by omega)]; exact h, fun q h => ?_, fun j hj => by rw [f1 (b + 31) (by omega)]⟩ (Nat.le_refl _) (fun t ht => by omega)
  · intro W2 m2 z1 z2 z3 z4 z5
    have e1 : W2 b 1 = S := by rw [z1.1.2 1 (by decide)]; exact h1
    rw [ux_69_9]
    simp only [ux_69_0, ux_69_1, ux_69_4, ux_69_5, ux_69_6, ux_69_7, ux_69_8, ux_69_10, ux_69_11, ux_69_14, ux_69_17, ux_69_18, ux_69_21, ux_69_22, ux_69_23, ux_69_24, ux_69_25, ux_69_28, ux_69_29, ux_69_32, ux_69_33, ux_69_34, ux_69_36, ux_69_39, ux_69_40, ux_69_43, ux_69_45, ux_69_48, ux_69_49, ux_69_52, ux_69_53, ux_69_54, ux_69_55, ux_69_56, ux_69_59, ux_69_60, ux_69_63, ux_69_64, ux_69_65, ux_69_66, ux_69_67, ux_69_70, ux_69_71, ux_69_72, ux_69_78, ux_69_81, pm_i_c, pm_l_c, pm_q_c, pm_r_c, pm_li_0, pm_li_s, pm_ll_0, pm_ll_s, pm_lq_0, pm_lq_s, pm_s1, pm_s2, pm_kl, pm_wI, pm_wR, pm_pu_n, pm_pu_s, pm_wt, List.take_succ_cons, List.take_zero, List.take_nil, List.drop_succ_cons, List.drop_zero, List.reverse_cons, List.reverse_nil, List.nil_append, List.cons_append, List.length_cons, List.length_nil, true_and, and_true, true_implies, tn_l, tn_0, Int.reduceToNat, Int.reduceLE, Int.reduceLT, Int.reduceEq, Int.reduceAdd, Int.reduceSub, Int.reduceMul, Int.reduceNeg, Nat.reduceAdd, Nat.reduceLeDiff, Nat.reduceEqDiff, Nat.reduceSub, Option.some.injEq, Sum.inl.injEq, Sum.inr.injEq, or_true, true_or, reduceCtorEq, ne_eq, not_false_eq_true, not_true_eq_false, false_implies, implies_true, false_and, and_false, false_or, or_false, if_true, if_false, ly_3 hb, ly_4 hb, ly_5 hb, ly_6 hb, ly_7 hb, ly_8 hb, ly_9 hb, ly_t hb, ly_v hb, ly_b1 hb, ly_b2 hb, ly_b3 hb, ly_b16 hb, ly_b29 hb, ly_b30 hb, ly_b31 hb, e1]
    refine ⟨fun _ => ⟨W2, m2, rfl, rfl, z1, fun q hq hm hx s hs hl => ?_, z3, z4, ?_, fun q hq => ?_⟩, fun z => absurd (Int.le_refl _) z⟩
    · by_cases e : q = p
      · subst e; exact z5 s hs hl
      · refine z3.1 s (hP q hq ?_ hx s hs hl)
        rw [z2, f2] at hm
        dsimp only at hm
        rw [if_neg e] at hm
        exact hm
    · rw [z2, f2]; dsimp only; rw [if_pos rfl]; exact hv
    · rw [z2, f2]; exact if_neg hq
  · intro s hs ih W2 m2 z1 z2 z3 z4 z5
    have e1 : W2 b 1 = S := by rw [z1.1.2 1 (by decide)]; exact h1
    have e2 : W2 (b + 17 + p) s = mL V b p s := by rw [mL_eq (by omega), z1.1.1 _ (by omega) (by omega) (by omega) (by omega)]
    have e3 : W2 b 10 = m2 := z1.2.2.1
    have hm2 : m2 ≤ S := que_m z1.2.2.2
    have skip : (0 < mL V b p s → W2 (b + 30) s ≠ -2) → pm_w d 69 75 [some (.inr (.inr (some b))), some (.inl (p : Int)), some (.inl v), some (.inl (s : Int))] [] (W2, R, T) (rpQ V R T b n S rt E ex W m p) := by
      intro hh
      rw [ux_69_75]
      simp only [ux_69_0, ux_69_1, ux_69_4, ux_69_5, ux_69_6, ux_69_7, ux_69_8, ux_69_10, ux_69_11, ux_69_14, ux_69_17, ux_69_18, ux_69_21, ux_69_22, ux_69_23, ux_69_24, ux_69_25, ux_69_28, ux_69_29, ux_69_32, ux_69_33, ux_69_34, ux_69_36, ux_69_39, ux_69_40, ux_69_43, ux_69_45, ux_69_48, ux_69_49, ux_69_52, ux_69_53, ux_69_54, ux_69_55, ux_69_56, ux_69_59, ux_69_60, ux_69_63, ux_69_64, ux_69_65, ux_69_66, ux_69_67, ux_69_70, ux_69_71, ux_69_72, ux_69_78, ux_69_81, pm_i_c, pm_l_c, pm_q_c, pm_r_c, pm_li_0, pm_li_s, pm_ll_0, pm_ll_s, pm_lq_0, pm_lq_s, pm_s1, pm_s2, pm_kl, pm_wI, pm_wR, pm_pu_n, pm_pu_s, pm_wt, List.take_succ_cons, List.take_zero, List.take_nil, List.drop_succ_cons, List.drop_zero, List.reverse_cons, List.reverse_nil, List.nil_append, List.cons_append, List.length_cons, List.length_nil, true_and, and_true, true_implies, tn_l, tn_0, Int.reduceToNat, Int.reduceLE, Int.reduceLT, Int.reduceEq, Int.reduceAdd, Int.reduceSub, Int.reduceMul, Int.reduceNeg, Nat.reduceAdd, Nat.reduceLeDiff, Nat.reduceEqDiff, Nat.reduceSub, Option.some.injEq, Sum.inl.injEq, Sum.inr.injEq, or_true, true_or, reduceCtorEq, ne_eq, not_false_eq_true, not_true_eq_false, false_implies, implies_true, false_and, and_false, false_or, or_false, if_true, if_false]
      refine ⟨by unfold pm_I32; omega, ih W2 m2 z1 z2 z3 z4 (fun t ht hl => ?_)⟩
      by_cases e : t = s
      · subst e; exact hh hl
      · exact z5 t (by omega) hl
    rw [ux_69_9]
    simp only [ux_69_0, ux_69_1, ux_69_4, ux_69_5, ux_69_6, ux_69_7, ux_69_8, ux_69_10, ux_69_11, ux_69_14, ux_69_17, ux_69_18, ux_69_21, ux_69_22, ux_69_23, ux_69_24, ux_69_25, ux_69_28, ux_69_29, ux_69_32, ux_69_33, ux_69_34, ux_69_36, ux_69_39, ux_69_40, ux_69_43, ux_69_45, ux_69_48, ux_69_49, ux_69_52, ux_69_53, ux_69_54, ux_69_55, ux_69_56, ux_69_59, ux_69_60, ux_69_63, ux_69_64, ux_69_65, ux_69_66, ux_69_67, ux_69_70, ux_69_71, ux_69_72, ux_69_78, ux_69_81, pm_i_c, pm_l_c, pm_q_c, pm_r_c, pm_li_0, pm_li_s, pm_ll_0, pm_ll_s, pm_lq_0, pm_lq_s, pm_s1, pm_s2, pm_kl, pm_wI, pm_wR, pm_pu_n, pm_pu_s, pm_wt, List.take_succ_cons, List.take_zero, List.take_nil, List.drop_succ_cons, List.drop_zero, List.reverse_cons, List.reverse_nil, List.nil_append, List.cons_append, List.length_cons, List.length_nil, true_and, and_true, true_implies, tn_l, tn_0, Int.reduceToNat, Int.reduceLE, Int.reduceLT, Int.reduceEq, Int.reduceAdd, Int.reduceSub, Int.reduceMul, Int.reduceNeg, Nat.reduceAdd, Nat.reduceLeDiff, Nat.reduceEqDiff, Nat.reduceSub, Option.some.injEq, Sum.inl.injEq, Sum.inr.injEq, or_true, true_or, reduceCtorEq, ne_eq, not_false_eq_true, not_true_eq_false, false_implies, implies_true, false_and, and_false, false_or, or_false, if_true, if_false, ly_3 hb, ly_4 hb, ly_5 hb, ly_6 hb, ly_7 hb, ly_8 hb, ly_9 hb, ly_t hb, ly_v hb, ly_b1 hb, ly_b2 hb, ly_b3 hb, ly_b16 hb, ly_b29 hb, ly_b30 hb, ly_b31 hb, e1, e2, e3, ly_m hb (show p < 12 by omega), ly_bm hb (show p < 12 by omega)]
    refine ⟨fun z => by omega, fun _ => ⟨Or.inl (by omega), by omega, fun c1 => skip (fun z => by omega), fun c1 => ⟨by omega, fun c2 => skip (fun _ => c2), fun c2 => ⟨fun c3 => ?_, fun c3 => ?_⟩⟩⟩⟩
    · -- the queue is never full while a stretch is unseen
      exfalso
      have g2 := Classical.not_not.mp c2
      have : cnt (fun j => if j = s then 0 else W2 (b + 30) j) S = cnt (W2 (b + 30)) S + 1 := cnt_up g2 (by decide) hs
      have h3 := cnt_le (f := fun j => if j = s then 0 else W2 (b + 30) j) (n := S)
      have h4 := z1.2.2.2.1
      omega
    · have g2 := Classical.not_not.mp c2
      have e4 : ∀ k x, pm_up W2 (b + 30) k x b 10 = m2 := fun k x => by rw [pm_up_fr (by omega)]; exact e3
      have e5 : ∀ k x k2 x2, pm_up (pm_up W2 (b + 30) k x) (b + 31) k2 x2 b 10 = m2 := fun k x k2 x2 => by rw [pm_up_fr (by omega), pm_up_fr (by omega)]; exact e3
      simp only [e4, e5, tn_0]
      refine ⟨by omega, by omega, by unfold pm_I32; omega, ?_⟩
      generalize hW3 : pm_up (pm_up (pm_up W2 (b + 30) s (p : Int)) (b + 31) m2 (s : Int)) b 10 ((m2 : Int) + 1) = W3
      have k1 : ∀ q, q ≠ b → q ≠ b + 30 → q ≠ b + 31 → W3 q = W2 q := fun q a1 a2 a3 => by rw [← hW3, pm_up_fr a1, pm_up_fr a3, pm_up_fr a2]
      have k2 : ∀ j, j ≠ 10 → W3 b j = W2 b j := fun j hj => by rw [← hW3, pm_up_ne (fun w => hj w.2), pm_up_fr (by omega), pm_up_fr (by omega)]
      have k3 : W3 b 10 = ((m2 + 1 : Nat) : Int) := by rw [← hW3, pm_up_eq]; rfl
      have k4 : W3 (b + 30) = fun j => if j = s then (p : Int) else W2 (b + 30) j := by rw [← hW3, pm_up_fr (by omega), pm_up_fr (by omega), pm_up_row]
      have k5 : W3 (b + 31) = fun j => if j = m2 then (s : Int) else W2 (b + 31) j := by rw [← hW3, pm_up_fr (by omega), pm_up_row, pm_up_fr (by omega)]
      have k6 : W3 (b + 29) = W2 (b + 29) := k1 _ (by omega) (by omega) (by omega)
      have hMs : cmb n (W2 (b + 29)) (W2 (b + 30)) (12 + s) = -2 := by rw [cmb_S]; exact g2
      have hfp : W2 (b + 29) p ≠ -2 := by rw [z2, f2]; dsimp only; rw [if_pos rfl]; exact hv
      have hgr : ∀ t, W2 (b + 30) t ≠ -2 → W3 (b + 30) t ≠ -2 := by
        intro t ht
        rw [k4]
        dsimp only
        split
        · omega
        · exact ht
      rw [ux_69_75]
      simp only [ux_69_0, ux_69_1, ux_69_4, ux_69_5, ux_69_6, ux_69_7, ux_69_8, ux_69_10, ux_69_11, ux_69_14, ux_69_17, ux_69_18, ux_69_21, ux_69_22, ux_69_23, ux_69_24, ux_69_25, ux_69_28, ux_69_29, ux_69_32, ux_69_33, ux_69_34, ux_69_36, ux_69_39, ux_69_40, ux_69_43, ux_69_45, ux_69_48, ux_69_49, ux_69_52, ux_69_53, ux_69_54, ux_69_55, ux_69_56, ux_69_59, ux_69_60, ux_69_63, ux_69_64, ux_69_65, ux_69_66, ux_69_67, ux_69_70, ux_69_71, ux_69_72, ux_69_78, ux_69_81, pm_i_c, pm_l_c, pm_q_c, pm_r_c, pm_li_0, pm_li_s, pm_ll_0, pm_ll_s, pm_lq_0, pm_lq_s, pm_s1, pm_s2, pm_kl, pm_wI, pm_wR, pm_pu_n, pm_pu_s, pm_wt, List.take_succ_cons, List.take_zero, List.take_nil, List.drop_succ_cons, List.drop_zero, List.reverse_cons, List.reverse_nil, List.nil_append, List.cons_append, List.length_cons, List.length_nil, true_and, and_true, true_implies, tn_l, tn_0, Int.reduceToNat, Int.reduceLE, Int.reduceLT, Int.reduceEq, Int.reduceAdd, Int.reduceSub, Int.reduceMul, Int.reduceNeg, Nat.reduceAdd, Nat.reduceLeDiff, Nat.reduceEqDiff, Nat.reduceSub, Option.some.injEq, Sum.inl.injEq, Sum.inr.injEq, or_true, true_or, reduceCtorEq, ne_eq, not_false_eq_true, not_true_eq_false, false_implies, implies_true, false_and, and_false, false_or, or_false, if_true, if_false]
      refine ⟨by unfold pm_I32; omega, ih W3 (m2 + 1) ⟨⟨fun q a1 a2 a3 a4 => by rw [k1 q a1 a3 a4]; exact z1.1.1 q a1 a2 a3 a4, fun j hj => by rw [k2 j hj]; exact z1.1.2 j hj⟩, ?_, k3, ?_⟩ (k6.trans z2) ⟨fun t ht => hgr t (z3.1 t ht), fun q hq => by rw [k6]; exact z3.2.1 q hq, fun j hj => ?_⟩ (by omega) (fun t ht hl => ?_)⟩
      · rw [k6, k4, cmb_s]
        exact bfs_push z1.2.1 (by omega) hMs (by omega) (Or.inr ⟨p, by omega, by rw [cmb_P hp hn]; exact hfp, hE s hs (by omega)⟩)
      · rw [k4, k5]
        exact que_push z1.2.2.2 hs g2 (by omega)
      · rw [k5]
        dsimp only
        rw [if_neg (by omega)]
        exact z3.2.2 j hj
      · by_cases e : t = s
        · subst e; rw [k4]; dsimp only; rw [if_pos rfl]; omega
        · exact hgr t (z5 t (by omega) hl)
  · rw [f2, f1 (b + 30) (by omega), cmb_p hp hn]
    exact bfs_push w2 (by omega) hM hv hval
  · rw [f1 b (by omega)]; exact w3
  · rw [f1 (b + 30) (by omega), f1 (b + 31) (by omega)]; exact w4
  · rw [f2]
    dsimp only
    split
    · exact hv
    · exact h
end
