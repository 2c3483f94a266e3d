/-! THE CLASS: findRoom -/
section
variable {d : Nat} {h : pm_H} {V V2 W : Nat → Nat → Int} {R : Nat → Nat → Option Nat} {T : List (Nat × Nat)} {n a p b S : Nat} {ln : Nat → Int} {c : Nat → Nat → Int} {r : Nat → Int} {rt : Nat → Int → Prop} {E : Nat → Nat → Int → Prop} {ex : Nat → Prop}
def rsQ (V : Nat → Nat → Int) (R : Nat → Nat → Option Nat) (T : List (Nat × Nat)) (b n S : Nat) (rt : Nat → Int → Prop) (E : Nat → Nat → Int → Prop) (ex : Nat → Prop) (W : Nat → Nat → Int) (m s low : Nat) (r0 : Option pm_V) (h2 : pm_H) : Prop := ∃ W2 m2, h2 = (W2, R, T) ∧ r0 = none ∧ sI V b n S rt E W2 m2 ∧ sP V b n S ex W2 ∧ sG W W2 b ∧ m ≤ m2 ∧ (∀ q, low ≤ q → q < n → 0 < xL V b q s → W2 (b + 29) q ≠ -2) ∧ ∀ q, q < low → W2 (b + 29) q = W (b + 29) q
theorem c_reachFromStretch (hd : 2 ≤ d) (hb : lyq R T b) (hn : n ≤ 12) (hS : S ≤ 47) (h0 : V b 0 = n) (h1 : V b 1 = S) {m s low : Nat} (hE : ∀ q s, low ≤ q → q < n → s < S → 0 < mL V b q s → E q (12 + s) (q : Int)) (hlow : low ≤ n) (hE2 : ∀ q, low ≤ q → q < n → 0 < xL V b q s → E (12 + s) q (s : Int)) (hs : s < S) (hI : sI V b n S rt E W m) (hP : sP V b n S ex W) (hg : W (b + 30) s ≠ -2) : pm_ok d 70 [.inr (.inr (some b)), .inl (s : Int), .inl (low : Int)] (W, R, T) (rsQ V R T b n S rt E ex W m s low) := by
  obtain ⟨d, rfl⟩ : ∃ k, d = k + 1 := ⟨d - 1, by omega⟩
  refine pm_ok_iff.mpr ⟨(Nat.le_of_ble_eq_true rfl), ?_⟩
  show pm_w d 70 0 [some (.inr (.inr (some b))), some (.inl (s : Int)), some (.inl (low : Int)), none] [] (W, R, T) _
  simp only [ux_70_0, ux_70_1, ux_70_3, ux_70_4, ux_70_7, ux_70_10, ux_70_11, ux_70_14, ux_70_15, ux_70_16, ux_70_18, ux_70_21, ux_70_22, ux_70_25, ux_70_26, ux_70_27, ux_70_28, ux_70_29, ux_70_32, ux_70_33, ux_70_34, ux_70_35, ux_70_41, ux_70_44, pm_i_c, pm_l_c, pm_q_c, pm_r_c, pm_li_0, pm_li_s, pm_ll_0, pm_ll_s, pm_lq_0, pm_lq_s, pm_s1, pm_s2, pm_kl, pm_wI, pm_wR, pm_pu_n, pm_pu_s, pm_wt, List.take_succ_cons, List.take_zero, List.take_nil, List.drop_succ_cons, List.drop_zero, List.reverse_cons, List.reverse_nil, List.nil_append, List.cons_append, List.length_cons, List.length_nil, true_and, and_true, true_implies, tn_l, tn_0, Int.reduceToNat, Int.reduceLE, Int.reduceLT, Int.reduceEq, Int.reduceAdd, Int.reduceSub, Int.reduceMul, Int.reduceNeg, Nat.reduceAdd, Nat.reduceLeDiff, Nat.reduceEqDiff, Nat.reduceSub, Option.some.injEq, Sum.inl.injEq, Sum.inr.injEq, or_true, true_or, reduceCtorEq, ne_eq, not_false_eq_true, not_true_eq_false, false_implies, implies_true, false_and, and_false, false_or, or_false, if_true, if_false, ly_3 hb, ly_4 hb, ly_5 hb, ly_6 hb, ly_7 hb, ly_8 hb, ly_9 hb, ly_t hb, ly_v hb, ly_b1 hb, ly_b2 hb, ly_b3 hb, ly_b16 hb, ly_b29 hb, ly_b30 hb, ly_b31 hb]
  have key : ∀ (k i : Nat) (W2 : Nat → Nat → Int) (m2 : Nat), i + k = n → low ≤ i → sI V b n S rt E W2 m2 → sP V b n S ex W2 → sG W W2 b → m ≤ m2 → (∀ q, low ≤ q → q < i → 0 < xL V b q s → W2 (b + 29) q ≠ -2) → (∀ q, q < low → W2 (b + 29) q = W (b + 29) q) → pm_w d 70 2 [some (.inr (.inr (some b))), some (.inl (s : Int)), some (.inl (low : Int)), some (.inl (i : Int))] [] (W2, R, T) (rsQ V R T b n S rt E ex W m s low) := by
    intro k
    induction k with
    | zero =>
      intro i W2 m2 hi hli z1 z2 z3 z4 z5 z6
      have e0 : W2 b 0 = n := by rw [z1.1.2 0 (by decide)]; exact h0
      have ei : i = n := by omega
      subst ei
      rw [ux_70_2]
      simp only [ux_70_0, ux_70_1, ux_70_3, ux_70_4, ux_70_7, ux_70_10, ux_70_11, ux_70_14, ux_70_15, ux_70_16, ux_70_18, ux_70_21, ux_70_22, ux_70_25, ux_70_26, ux_70_27, ux_70_28, ux_70_29, ux_70_32, ux_70_33, ux_70_34, ux_70_35, ux_70_41, ux_70_44, pm_i_c, pm_l_c, pm_q_c, pm_r_c, pm_li_0, pm_li_s, pm_ll_0, pm_ll_s, pm_lq_0, pm_lq_s, pm_s1, pm_s2, pm_kl, pm_wI, pm_wR, pm_pu_n, pm_pu_s, pm_wt, List.take_succ_cons, List.take_zero, List.take_nil, List.drop_succ_cons, List.drop_zero, List.reverse_cons, List.reverse_nil, List.nil_append, List.cons_append, List.length_cons, List.length_nil, true_and, and_true, true_implies, tn_l, tn_0, Int.reduceToNat, Int.reduceLE, Int.reduceLT, Int.reduceEq, Int.reduceAdd, Int.reduceSub, Int.reduceMul, Int.reduceNeg, Nat.reduceAdd, Nat.reduceLeDiff, Nat.reduceEqDiff, Nat.reduceSub, Option.some.injEq, Sum.inl.injEq, Sum.inr.injEq, or_true, true_or, reduceCtorEq, ne_eq, not_false_eq_true, not_true_eq_false, false_implies, implies_true, false_and, and_false, false_or, or_false, if_true, if_false, ly_3 hb, ly_4 hb, ly_5 hb, ly_6 hb, ly_7 hb, ly_8 hb, ly_9 hb, ly_t hb, ly_v hb, ly_b1 hb, ly_b2 hb, ly_b3 hb, ly_b16 hb, ly_b29 hb, ly_b30 hb, ly_b31 hb, e0]
      exact ⟨fun _ => ⟨W2, m2, rfl, rfl, z1, z2, z3, z4, z5, z6⟩, fun z => absurd (Int.le_refl _) z⟩
    | succ k ih =>
      intro i W2 m2 hi hli z1 z2 z3 z4 z5 z6
      have e0 : W2 b 0 = n := by rw [z1.1.2 0 (by decide)]; exact h0
      have ex2 : W2 (b + 4 + i) s = xL V b i s := by rw [xL_eq (by omega), z1.1.1 _ (by omega) (by omega) (by omega) (by omega)]
      have skip : (0 < xL V b i s → W2 (b + 29) i ≠ -2) → pm_w d 70 38 [some (.inr (.inr (some b))), some (.inl (s : Int)), some (.inl (low : Int)), some (.inl (i : Int))] [] (W2, R, T) (rsQ V R T b n S rt E ex W m s low) := by
        intro hh
        rw [ux_70_38]
        simp only [ux_70_0, ux_70_1, ux_70_3, ux_70_4, ux_70_7, ux_70_10, ux_70_11, ux_70_14, ux_70_15, ux_70_16, ux_70_18, ux_70_21, ux_70_22, ux_70_25, ux_70_26, ux_70_27, ux_70_28, ux_70_29, ux_70_32, ux_70_33, ux_70_34, ux_70_35, ux_70_41, ux_70_44, pm_i_c, pm_l_c, pm_q_c, pm_r_c, pm_li_0, pm_li_s, pm_ll_0, pm_ll_s, pm_lq_0, pm_lq_s, pm_s1, pm_s2, pm_kl, pm_wI, pm_wR, pm_pu_n, pm_pu_s, pm_wt, List.take_succ_cons, List.take_zero, List.take_nil, List.drop_succ_cons, List.drop_zero, List.reverse_cons, List.reverse_nil, List.nil_append, List.cons_append, List.length_cons, List.length_nil, true_and, and_true, true_implies, tn_l, tn_0, Int.reduceToNat, Int.reduceLE, Int.reduceLT, Int.reduceEq, Int.reduceAdd, Int.reduceSub, Int.reduceMul, Int.reduceNeg, Nat.reduceAdd, Nat.reduceLeDiff, Nat.reduceEqDiff, Nat.reduceSub, Option.some.injEq, Sum.inl.injEq, Sum.inr.injEq, or_true, true_or, reduceCtorEq, ne_eq, not_false_eq_true, not_true_eq_false, false_implies, implies_true, false_and, and_false, false_or, or_false, if_true, if_false]
        refine ⟨by unfold pm_I32; omega, ih (i + 1) W2 m2 (by omega) (by omega) z1 z2 z3 z4 (fun q h1 h2 h3 => ?_) z6⟩
        by_cases e : q = i
        · subst e; exact hh h3
        · exact z5 q h1 (by omega) h3
      rw [ux_70_2]
      simp only [ux_70_0, ux_70_1, ux_70_3, ux_70_4, ux_70_7, ux_70_10, ux_70_11, ux_70_14, ux_70_15, ux_70_16, ux_70_18, ux_70_21, ux_70_22, ux_70_25, ux_70_26, ux_70_27, ux_70_28, ux_70_29, ux_70_32, ux_70_33, ux_70_34, ux_70_35, ux_70_41, ux_70_44, pm_i_c, pm_l_c, pm_q_c, pm_r_c, pm_li_0, pm_li_s, pm_ll_0, pm_ll_s, pm_lq_0, pm_lq_s, pm_s1, pm_s2, pm_kl, pm_wI, pm_wR, pm_pu_n, pm_pu_s, pm_wt, List.take_succ_cons, List.take_zero, List.take_nil, List.drop_succ_cons, List.drop_zero, List.reverse_cons, List.reverse_nil, List.nil_append, List.cons_append, List.length_cons, List.length_nil, true_and, and_true, true_implies, tn_l, tn_0, Int.reduceToNat, Int.reduceLE, Int.reduceLT, Int.reduceEq, Int.reduceAdd, Int.reduceSub, Int.reduceMul, Int.reduceNeg, Nat.reduceAdd, Nat.reduceLeDiff, Nat.reduceEqDiff, Nat.reduceSub, Option.some.injEq, Sum.inl.injEq, Sum.inr.injEq, or_true, true_or, reduceCtorEq, ne_eq, not_false_eq_true, not_true_eq_false, false_implies, implies_true, false_and, and_false, false_or, or_false, if_true, if_false, ly_3 hb, ly_4 hb, ly_5 hb, ly_6 hb, ly_7 hb, ly_8 hb, ly_9 hb, ly_t hb, ly_v hb, ly_b1 hb, ly_b2 hb, ly_b3 hb, ly_b16 hb, ly_b29 hb, ly_b30 hb, ly_b31 hb, e0, ly_x hb (show i < 12 by omega), ly_bx hb (show i < 12 by omega), ex2]
      refine ⟨fun z => by omega, fun _ => ⟨by omega, fun c1 => skip (fun _ => c1), fun c1 => ⟨Or.inl (by omega), by omega, fun c2 => skip (fun z => by omega), fun c2 => ?_⟩⟩⟩
      have g1 := Classical.not_not.mp c1
      refine pm_ok_mono (c_reachFromPiece (d := d) (V := V) (by omega) hb hn hS h1 (fun t ht hm => hE i t hli (by omega) ht hm) (show i < n by omega) z1 z2 g1 (s : Int) (by omega) (Or.inr ⟨12 + s, by omega, by rw [cmb_S]; exact z3.1 s hg, hE2 i hli (by omega) (by omega)⟩)) ?_
      rintro r0 h2 ⟨W3, m3, rfl, rfl, y1, y2, y3, y4, y5, y6⟩
      rw [pm_pu_n, ux_70_38]
      simp only [ux_70_0, ux_70_1, ux_70_3, ux_70_4, ux_70_7, ux_70_10, ux_70_11, ux_70_14, ux_70_15, ux_70_16, ux_70_18, ux_70_21, ux_70_22, ux_70_25, ux_70_26, ux_70_27, ux_70_28, ux_70_29, ux_70_32, ux_70_33, ux_70_34, ux_70_35, ux_70_41, ux_70_44, pm_i_c, pm_l_c, pm_q_c, pm_r_c, pm_li_0, pm_li_s, pm_ll_0, pm_ll_s, pm_lq_0, pm_lq_s, pm_s1, pm_s2, pm_kl, pm_wI, pm_wR, pm_pu_n, pm_pu_s, pm_wt, List.take_succ_cons, List.take_zero, List.take_nil, List.drop_succ_cons, List.drop_zero, List.reverse_cons, List.reverse_nil, List.nil_append, List.cons_append, List.length_cons, List.length_nil, true_and, and_true, true_implies, tn_l, tn_0, Int.reduceToNat, Int.reduceLE, Int.reduceLT, Int.reduceEq, Int.reduceAdd, Int.reduceSub, Int.reduceMul, Int.reduceNeg, Nat.reduceAdd, Nat.reduceLeDiff, Nat.reduceEqDiff, Nat.reduceSub, Option.some.injEq, Sum.inl.injEq, Sum.inr.injEq, or_true, true_or, reduceCtorEq, ne_eq, not_false_eq_true, not_true_eq_false, false_implies, implies_true, false_and, and_false, false_or, or_false, if_true, if_false]
      have hmm : (W b 10).toNat ≤ (W2 b 10).toNat := by rw [hI.2.2.1, z1.2.2.1]; omega
      refine ⟨by unfold pm_I32; omega, ih (i + 1) W3 m3 (by omega) (by omega) y1 y2 (sG_tr z3 hmm y3) (by omega) (fun q h1 h2 h3 => ?_) (fun q hq => ?_)⟩
      · by_cases e : q = i
        · subst e; exact y5
        · exact y3.2.1 q (z5 q h1 (by omega) h3)
      · rw [y6 q (by omega)]; exact z6 q hq
  exact key (n - low) low W m (by omega) (Nat.le_refl _) hI hP sG_rf (Nat.le_refl _) (fun q h1 h2 => by omega) (fun _ _ => rfl)
/-- Arrays.fill -/
def fiQ (V : Nat → Nat → Int) (R : Nat → Nat → Option Nat) (T : List (Nat × Nat)) (a len : Nat) (v : Int) (r0 : Option pm_V) (h2 : pm_H) : Prop := ∃ V2, h2 = (V2, R, T) ∧ r0 = none ∧ (∀ q, q ≠ a → V2 q = V q) ∧ ∀ j, j < len → V2 a j = v
theorem c_fill (hd : 1 ≤ d) {len : Nat} (ht : T[a]? = some (20, len)) (hl : len ≤ 1000) (v : Int) : pm_ok d 68 [.inr (.inr (some a)), .inl v] (V, R, T) (fiQ V R T a len v) := by
  obtain ⟨d, rfl⟩ : ∃ k, d = k + 1 := ⟨d - 1, by omega⟩
  refine pm_ok_iff.mpr ⟨(Nat.le_of_ble_eq_true rfl), ?_⟩
  show pm_w d 68 0 [some (.inr (.inr (some a))), some (.inl v), none, none] [] (V, R, T) _
  have hb : ∀ (V : Nat → Nat → Int) (x : Int), pm_inb (V, R, T) a 20 x ↔ 0 ≤ x ∧ x < (len : Int) := fun V x => pm_inb_iff ht
  simp only [ux_68_0, ux_68_1, ux_68_2, ux_68_3, ux_68_4, ux_68_6, ux_68_7, ux_68_10, ux_68_11, ux_68_12, ux_68_13, ux_68_14, ux_68_17, ux_68_20, pm_i_c, pm_l_c, pm_q_c, pm_r_c, pm_li_0, pm_li_s, pm_ll_0, pm_ll_s, pm_lq_0, pm_lq_s, pm_s1, pm_s2, pm_kl, pm_wI, pm_wR, pm_pu_n, pm_pu_s, pm_wt, List.take_succ_cons, List.take_zero, List.take_nil, List.drop_succ_cons, List.drop_zero, List.reverse_cons, List.reverse_nil, List.nil_append, List.cons_append, List.length_cons, List.length_nil, true_and, and_true, true_implies, tn_l, tn_0, Int.reduceToNat, Int.reduceLE, Int.reduceLT, Int.reduceEq, Int.reduceAdd, Int.reduceSub, Int.reduceMul, Int.reduceNeg, Nat.reduceAdd, Nat.reduceLeDiff, Nat.reduceEqDiff, Nat.reduceSub, Option.some.injEq, Sum.inl.injEq, Sum.inr.injEq, or_true, true_or, reduceCtorEq, ne_eq, not_false_eq_true, not_true_eq_false, false_implies, implies_true, false_and, and_false, false_or, or_false, if_true, if_false]
  refine ⟨len, ht, ?_⟩
  refine pm_up0 (fun i => ∀ (W : Nat → Nat → Int), (∀ q, q ≠ a → W q = V q) → (∀ j, j < i → W a j = v) → pm_w d 68 5 [some (.inr (.inr (some a))), some (.inl v), some (.inl (i : Int)), some (.inl (len : Int))] [] (W, R, T) (fiQ V R T a len v)) len ?_ ?_ V (fun _ _ => rfl) (fun j hj => by omega)
  · intro W w1 w2
    rw [ux_68_5]
    simp only [ux_68_0, ux_68_1, ux_68_2, ux_68_3, ux_68_4, ux_68_6, ux_68_7, ux_68_10, ux_68_11, ux_68_12, ux_68_13, ux_68_14, ux_68_17, ux_68_20, pm_i_c, pm_l_c, pm_q_c, pm_r_c, pm_li_0, pm_li_s, pm_ll_0, pm_ll_s, pm_lq_0, pm_lq_s, pm_s1, pm_s2, pm_kl, pm_wI, pm_wR, pm_pu_n, pm_pu_s, pm_wt, List.take_succ_cons, List.take_zero, List.take_nil, List.drop_succ_cons, List.drop_zero, List.reverse_cons, List.reverse_nil, List.nil_append, List.cons_append, List.length_cons, List.length_nil, true_and, and_true, true_implies, tn_l, tn_0, Int.reduceToNat, Int.reduceLE, Int.reduceLT, Int.reduceEq, Int.reduceAdd, Int.reduceSub, Int.reduceMul, Int.reduceNeg, Nat.reduceAdd, Nat.reduceLeDiff, Nat.reduceEqDiff, Nat.reduceSub, Option.some.injEq, Sum.inl.injEq, Sum.inr.injEq, or_true, true_or, reduceCtorEq, ne_eq, not_false_eq_true, not_true_eq_false, false_implies, implies_true, false_and, and_false, false_or, or_false, if_true, if_false]
    exact ⟨fun _ => ⟨W, rfl, rfl, w1, w2⟩, fun z => absurd (Int.le_refl _) z⟩
  · intro i hi ih W w1 w2
    rw [ux_68_5]
    simp only [ux_68_0, ux_68_1, ux_68_2, ux_68_3, ux_68_4, ux_68_6, ux_68_7, ux_68_10, ux_68_11, ux_68_12, ux_68_13, ux_68_14, ux_68_17, ux_68_20, pm_i_c, pm_l_c, pm_q_c, pm_r_c, pm_li_0, pm_li_s, pm_ll_0, pm_ll_s, pm_lq_0, pm_lq_s, pm_s1, pm_s2, pm_kl, pm_wI, pm_wR, pm_pu_n, pm_pu_s, pm_wt, List.take_succ_cons, List.take_zero, List.take_nil, List.drop_succ_cons, List.drop_zero, List.reverse_cons, List.reverse_nil, List.nil_append, List.cons_append, List.length_cons, List.length_nil, true_and, and_true, true_implies, tn_l, tn_0, Int.reduceToNat, Int.reduceLE, Int.reduceLT, Int.reduceEq, Int.reduceAdd, Int.reduceSub, Int.reduceMul, Int.reduceNeg, Nat.reduceAdd, Nat.reduceLeDiff, Nat.reduceEqDiff, Nat.reduceSub, Option.some.injEq, Sum.inl.injEq, Sum.inr.injEq, or_true, true_or, reduceCtorEq, ne_eq, not_false_eq_true, not_true_eq_false, false_implies, implies_true, false_and, and_false, false_or, or_false, if_true, if_false, hb]
    refine ⟨fun z => by omega, fun _ => ⟨by omega, by unfold pm_I32; omega, ih _ (fun q hq => by rw [pm_up_fr hq]; exact w1 q hq) (fun j hj => ?_)⟩⟩
    rw [pm_up_row]
    dsimp only
    split
    · rfl
    · exact w2 j (by omega)
theorem c_clearSearch (hd : 2 ≤ d) (hb : lyq R T b) (hn : n ≤ 12) (hS : S ≤ 47) : pm_ok d 67 [.inr (.inr (some b))] (V, R, T) (fun r0 h2 => ∃ W, h2 = (W, R, T) ∧ r0 = none ∧ seF V W b ∧ W b 10 = 0 ∧ (∀ q, q < n → W (b + 29) q = -2) ∧ ∀ s, s < S → W (b + 30) s = -2) := by
  obtain ⟨d, rfl⟩ : ∃ k, d = k + 1 := ⟨d - 1, by omega⟩
  refine pm_ok_iff.mpr ⟨(Nat.le_of_ble_eq_true rfl), ?_⟩
  show pm_w d 67 0 [some (.inr (.inr (some b)))] [] (V, R, T) _
  simp only [ux_67_0, ux_67_1, ux_67_4, ux_67_6, ux_67_10, ux_67_13, ux_67_15, ux_67_19, ux_67_20, ux_67_23, pm_i_c, pm_l_c, pm_q_c, pm_r_c, pm_li_0, pm_li_s, pm_ll_0, pm_ll_s, pm_lq_0, pm_lq_s, pm_s1, pm_s2, pm_kl, pm_wI, pm_wR, pm_pu_n, pm_pu_s, pm_wt, List.take_succ_cons, List.take_zero, List.take_nil, List.drop_succ_cons, List.drop_zero, List.reverse_cons, List.reverse_nil, List.nil_append, List.cons_append, List.length_cons, List.length_nil, true_and, and_true, true_implies, tn_l, tn_0, Int.reduceToNat, Int.reduceLE, Int.reduceLT, Int.reduceEq, Int.reduceAdd, Int.reduceSub, Int.reduceMul, Int.reduceNeg, Nat.reduceAdd, Nat.reduceLeDiff, Nat.reduceEqDiff, Nat.reduceSub, Option.some.injEq, Sum.inl.injEq, Sum.inr.injEq, or_true, true_or, reduceCtorEq, ne_eq, not_false_eq_true, not_true_eq_false, false_implies, implies_true, false_and, and_false, false_or, or_false, if_true, if_false, ly_3 hb, ly_4 hb, ly_5 hb, ly_6 hb, ly_7 hb, ly_8 hb, ly_9 hb, ly_t hb, ly_v hb, ly_b1 hb, ly_b2 hb, ly_b3 hb, ly_b16 hb, ly_b29 hb, ly_b30 hb, ly_b31 hb]
  refine pm_ok_mono (c_fill (d := d) (by omega) hb.2.2.1.2.2.2.2.1 (by decide) (-2)) ?_
  rintro r0 h2 ⟨V2, rfl, rfl, a1, a2⟩
  rw [pm_pu_n, ux_67_9]
  simp only [ux_67_0, ux_67_1, ux_67_4, ux_67_6, ux_67_10, ux_67_13, ux_67_15, ux_67_19, ux_67_20, ux_67_23, pm_i_c, pm_l_c, pm_q_c, pm_r_c, pm_li_0, pm_li_s, pm_ll_0, pm_ll_s, pm_lq_0, pm_lq_s, pm_s1, pm_s2, pm_kl, pm_wI, pm_wR, pm_pu_n, pm_pu_s, pm_wt, List.take_succ_cons, List.take_zero, List.take_nil, List.drop_succ_cons, List.drop_zero, List.reverse_cons, List.reverse_nil, List.nil_append, List.cons_append, List.length_cons, List.length_nil, true_and, and_true, true_implies, tn_l, tn_0, Int.reduceToNat, Int.reduceLE, Int.reduceLT, Int.reduceEq, Int.reduceAdd, Int.reduceSub, Int.reduceMul, Int.reduceNeg, Nat.reduceAdd, Nat.reduceLeDiff, Nat.reduceEqDiff, Nat.reduceSub, Option.some.injEq, Sum.inl.injEq, Sum.inr.injEq, or_true, true_or, reduceCtorEq, ne_eq, not_false_eq_true, not_true_eq_false, false_implies, implies_true, false_and, and_false, false_or, or_false, if_true, if_false, ly_3 hb, ly_4 hb, ly_5 hb, ly_6 hb, ly_7 hb, ly_8 hb, ly_9 hb, ly_t hb, ly_v hb, ly_b1 hb, ly_b2 hb, ly_b3 hb, ly_b16 hb, ly_b29 hb, ly_b30 hb, ly_b31 hb]
  refine pm_ok_mono (c_fill (d := d) (V := V2) (by omega) hb.2.2.1.2.2.2.2.2.1 (by decide) (-2)) ?_
  rintro r0 h2 ⟨V3, rfl, rfl, b1, b2⟩
  rw [pm_pu_n, ux_67_18]
  simp only [ux_67_0, ux_67_1, ux_67_4, ux_67_6, ux_67_10, ux_67_13, ux_67_15, ux_67_19, ux_67_20, ux_67_23, pm_i_c, pm_l_c, pm_q_c, pm_r_c, pm_li_0, pm_li_s, pm_ll_0, pm_ll_s, pm_lq_0, pm_lq_s, pm_s1, pm_s2, pm_kl, pm_wI, pm_wR, pm_pu_n, pm_pu_s, pm_wt, List.take_succ_cons, List.take_zero, List.take_nil, List.drop_succ_cons, List.drop_zero, List.reverse_cons, List.reverse_nil, List.nil_append, List.cons_append, List.length_cons, List.length_nil, true_and, and_true, true_implies, tn_l, tn_0, Int.reduceToNat, Int.reduceLE, Int.reduceLT, Int.reduceEq, Int.reduceAdd, Int.reduceSub, Int.reduceMul, Int.reduceNeg, Nat.reduceAdd, Nat.reduceLeDiff, Nat.reduceEqDiff, Nat.reduceSub, Option.some.injEq, Sum.inl.injEq, Sum.inr.injEq, or_true, true_or, reduceCtorEq, ne_eq, not_false_eq_true, not_true_eq_false, false_implies, implies_true, false_and, and_false, false_or, or_false, if_true, if_false, ly_3 hb, ly_4 hb, ly_5 hb, ly_6 hb, ly_7 hb, ly_8 hb, ly_9 hb, ly_t hb, ly_v hb, ly_b1 hb, ly_b2 hb, ly_b3 hb, ly_b16 hb, ly_b29 hb, ly_b30 hb, ly_b31 hb]
  refine ⟨_, rfl, ⟨fun q h1 h2 h3 h4 => ?_, fun j hj => ?_⟩, pm_up_eq, fun q hq => ?_, fun s hs => ?_⟩
  · rw [pm_up_fr h1, b1 q h3, a1 q h2]
  · rw [pm_up_ne (fun w => hj w.2), b1 b (by omega), a1 b (by omega)]
  · rw [pm_up_fr (by omega), b1 _ (by omega)]; exact a2 q (by omega)
  · rw [pm_up_fr (by omega)]; exact b2 s (by omega)
theorem sI_0 {W : Nat → Nat → Int} (h1 : seF V W b) (h2 : W b 10 = 0) (h3 : ∀ q, q < n → W (b + 29) q = -2) (h4 : ∀ s, s < S → W (b + 30) s = -2) : sI V b n S rt E W 0 ∧ sP V b n S ex W := by
  have hz : ∀ a, a < 12 + S → cmb n (W (b + 29)) (W (b + 30)) a = -2 := by
    intro a ha
    refine Classical.byContradiction fun w => ?_
    rcases cmb_cs ha w with ⟨b1, b2, b3⟩ | ⟨s, b1, b2, b3⟩
    · exact b3 (h3 a b1)
    · exact b3 (h4 s b1)
  have hc : ∀ N, (∀ a, a < N → W (b + 30) a = -2) → cnt (W (b + 30)) N = 0 := by
    intro N
    induction N with
    | zero => intro _; rfl
    | succ N ihN =>
      intro hh
      show cnt _ N + (if W (b + 30) N = -2 then 0 else 1) = 0
      rw [ihN (fun a ha => hh a (by omega)), if_pos (hh N (by omega))]
  exact ⟨⟨h1, ⟨fun _ => 0, fun a ha hm => absurd (hz a ha) hm⟩, h2, (hc S h4).symm, fun j hj => by omega, fun s hs hm => absurd (h4 s hs) hm⟩, fun p hp hm => absurd (h3 p hp) hm⟩
/-- findRoom: from pieces not laid whole -/
def fR (ln : Nat → Int) (x : Nat → Nat → Int) (n S : Nat) (a : Nat) (v : Int) : Prop := a < n ∧ v = -1 ∧ sm (x a) S < ln a
def fE (c x : Nat → Nat → Int) (n S : Nat) (k a : Nat) (v : Int) : Prop := (∃ q s, q < n ∧ s < S ∧ k = 12 + s ∧ a = q ∧ v = (s : Int) ∧ 0 < x q s) ∨ ∃ q s, q < n ∧ s < S ∧ k = q ∧ a = 12 + s ∧ v = (q : Int) ∧ x q s < c q s
theorem bfs_tre {f g : Nat → Int} {x : Nat → Nat → Int} (hn : n ≤ 12) (h : bfs (12 + S) (fR ln x n S) (fE c x n S) (cmb n f g)) : ∃ rp rs, tre n S c x (fun p => sm (x p) S < ln p) f g rp rs ∧ (∀ s, s < S → g s ≠ -2 → rs s < 12 + S) := by
  obtain ⟨rk, h⟩ := h
  refine ⟨rk, fun s => rk (12 + s), ⟨fun p hp hf => ?_, fun s hs hg => ?_⟩, fun s hs hg => ?_⟩
  · have hm : cmb n f g p ≠ -2 := by rw [cmb_P hp hn]; exact hf
    rcases (h p (by omega) hm).2 with ⟨a1, a2, a3⟩ | ⟨k, k1, k2, k3, ⟨q, s, e1, e2, e3, e4, e5, e6⟩ | ⟨q, s, e1, e2, e3, e4, _⟩⟩
    · rw [cmb_P hp hn] at a2
      exact Or.inl ⟨a2, a3⟩
    · subst e4
      subst e3
      rw [cmb_P e1 hn] at e5
      rw [cmb_S] at k2
      exact Or.inr ⟨s, e2, e5, k2, e6, k3⟩
    · omega
  · have hm : cmb n f g (12 + s) ≠ -2 := by rw [cmb_S]; exact hg
    rcases (h (12 + s) (by omega) hm).2 with ⟨a1, a2, a3⟩ | ⟨k, k1, k2, k3, ⟨q, s', e1, e2, e3, e4, _⟩ | ⟨q, s', e1, e2, e3, e4, e5, e6⟩⟩
    · omega
    · omega
    · have : s' = s := by omega
      subst this
      subst e3
      rw [cmb_S] at e5
      rw [cmb_P e1 hn] at k2
      exact ⟨k, e1, e5, k2, e6, k3⟩
  · have hm : cmb n f g (12 + s) ≠ -2 := by rw [cmb_S]; exact hg
    have h1 := (h (12 + s) (by omega) hm).1
    have h2 := cnt_le (f := cmb n f g) (n := 12 + S)
    show rk (12 + s) < 12 + S
    omega
def frQ (V : Nat → Nat → Int) (R : Nat → Nat → Option Nat) (T : List (Nat × Nat)) (b n S : Nat) (ln : Nat → Int) (c : Nat → Nat → Int) (r : Nat → Int) (r0 : Option pm_V) (h2 : pm_H) : Prop := ∃ W, h2 = (W, R, T) ∧ seF V W b ∧ bfs (12 + S) (fR ln (xL V b) n S) (fE c (xL V b) n S) (cmb n (W (b + 29)) (W (b + 30))) ∧ ((∃ e, e < S ∧ r0 = some (.inl (e : Int)) ∧ W (b + 30) e ≠ -2 ∧ 0 < V (b + 2) e) ∨ (r0 = some (.inl (-1)) ∧ mxf n S ln c r (xL V b) (fun p => decide (W (b + 29) p ≠ -2)) (fun s => decide (W (b + 30) s ≠ -2))))
theorem c_findRoom (hd : 3 ≤ d) (hb : lyq R T b) (hB : ntB n S ln c r) (hI : lyI V b n S ln c r) : pm_ok d 66 [.inr (.inr (some b))] (V, R, T) (frQ V R T b n S ln c r) := by
  obtain ⟨d, rfl⟩ : ∃ k, d = k + 1 := ⟨d - 1, by omega⟩
  refine pm_ok_iff.mpr ⟨(Nat.le_of_ble_eq_true rfl), ?_⟩
  show pm_w d 66 0 [some (.inr (.inr (some b))), none, none] [] (V, R, T) _
  have hn := hB.1
  have hS := hB.2.1
  have bd := ly_bd hB hI
  obtain ⟨⟨i0, i1⟩, i2, i3, i4, i5, l1, l2, l3⟩ := id hI
  have hE : ∀ q s, q < n → s < S → 0 < mL V b q s → fE c (xL V b) n S q (12 + s) (q : Int) := fun q s hq hs hm => Or.inr ⟨q, s, hq, hs, rfl, rfl, rfl, by have := i4 q hq s hs; omega⟩
  simp only [ux_66_0, ux_66_1, ux_66_5, ux_66_7, ux_66_8, ux_66_11, ux_66_14, ux_66_15, ux_66_18, ux_66_19, ux_66_20, ux_66_23, ux_66_24, ux_66_25, ux_66_26, ux_66_32, ux_66_36, ux_66_38, ux_66_39, ux_66_42, ux_66_45, ux_66_46, ux_66_48, ux_66_51, ux_66_52, ux_66_55, ux_66_56, ux_66_57, ux_66_58, ux_66_59, ux_66_62, ux_66_63, ux_66_64, ux_66_67, ux_66_68, ux_66_70, ux_66_71, ux_66_72, ux_66_78, ux_66_81, ux_66_82, pm_i_c, pm_l_c, pm_q_c, pm_r_c, pm_li_0, pm_li_s, pm_ll_0, pm_ll_s, pm_lq_0, pm_lq_s, pm_s1, pm_s2, pm_kl, pm_wI, pm_wR, pm_pu_n, pm_pu_s, pm_wt, List.take_succ_cons, List.take_zero, List.take_nil, List.drop_succ_cons, List.drop_zero, List.reverse_cons, List.reverse_nil, List.nil_append, List.cons_append, List.length_cons, List.length_nil, true_and, and_true, true_implies, tn_l, tn_0, Int.reduceToNat, Int.reduceLE, Int.reduceLT, Int.reduceEq, Int.reduceAdd, Int.reduceSub, Int.reduceMul, Int.reduceNeg, Nat.reduceAdd, Nat.reduceLeDiff, Nat.reduceEqDiff, Nat.reduceSub, Option.some.injEq, Sum.inl.injEq, Sum.inr.injEq, or_true, true_or, reduceCtorEq, ne_eq, not_false_eq_true, not_true_eq_false, false_implies, implies_true, false_and, and_false, false_or, or_false, if_true, if_false, ly_3 hb, ly_4 hb, ly_5 hb, ly_6 hb, ly_7 hb, ly_8 hb, ly_9 hb, ly_t hb, ly_v hb, ly_b1 hb, ly_b2 hb, ly_b3 hb, ly_b16 hb, ly_b29 hb, ly_b30 hb, ly_b31 hb]
  refine pm_ok_mono (c_clearSearch (d := d) (n := n) (S := S) (by omega) hb hn hS) ?_
  rintro r0 h2 ⟨W0, rfl, rfl, a1, a2, a3, a4⟩
  obtain ⟨s0, p0⟩ := sI_0 (rt := fR ln (xL V b) n S) (E := fE c (xL V b) n S) (ex := fun _ => False) a1 a2 a3 a4
  rw [pm_pu_n, ux_66_4]
  simp only [ux_66_0, ux_66_1, ux_66_5, ux_66_7, ux_66_8, ux_66_11, ux_66_14, ux_66_15, ux_66_18, ux_66_19, ux_66_20, ux_66_23, ux_66_24, ux_66_25, ux_66_26, ux_66_32, ux_66_36, ux_66_38, ux_66_39, ux_66_42, ux_66_45, ux_66_46, ux_66_48, ux_66_51, ux_66_52, ux_66_55, ux_66_56, ux_66_57, ux_66_58, ux_66_59, ux_66_62, ux_66_63, ux_66_64, ux_66_67, ux_66_68, ux_66_70, ux_66_71, ux_66_72, ux_66_78, ux_66_81, ux_66_82, pm_i_c, pm_l_c, pm_q_c, pm_r_c, pm_li_0, pm_li_s, pm_ll_0, pm_ll_s, pm_lq_0, pm_lq_s, pm_s1, pm_s2, pm_kl, pm_wI, pm_wR, pm_pu_n, pm_pu_s, pm_wt, List.take_succ_cons, List.take_zero, List.take_nil, List.drop_succ_cons, List.drop_zero, List.reverse_cons, List.reverse_nil, List.nil_append, List.cons_append, List.length_cons, List.length_nil, true_and, and_true, true_implies, tn_l, tn_0, Int.reduceToNat, Int.reduceLE, Int.reduceLT, Int.reduceEq, Int.reduceAdd, Int.reduceSub, Int.reduceMul, Int.reduceNeg, Nat.reduceAdd, Nat.reduceLeDiff, Nat.reduceEqDiff, Nat.reduceSub, Option.some.injEq, Sum.inl.injEq, Sum.inr.injEq, or_true, true_or, reduceCtorEq, ne_eq, not_false_eq_true, not_true_eq_false, false_implies, implies_true, false_and, and_false, false_or, or_false, if_true, if_false, ly_3 hb, ly_4 hb, ly_5 hb, ly_6 hb, ly_7 hb, ly_8 hb, ly_9 hb, ly_t hb, ly_v hb, ly_b1 hb, ly_b2 hb, ly_b3 hb, ly_b16 hb, ly_b29 hb, ly_b30 hb, ly_b31 hb]
  -- the queue
  have k2 : ∀ (j i : Nat) (W : Nat → Nat → Int) (m : Nat) (y2 : Option pm_V), S < j + i → i ≤ m → sI V b n S (fR ln (xL V b) n S) (fE c (xL V b) n S) W m → sP V b n S (fun _ => False) W → (∀ p, p < n → sm (xL V b p) S < ln p → W (b + 29) p ≠ -2) → (∀ k, k < i → ∀ s, s < S → W (b + 31) k = (s : Int) → ¬ 0 < V (b + 2) s ∧ ∀ q, q < n → 0 < xL V b q s → W (b + 29) q ≠ -2) → pm_w d 66 37 [some (.inr (.inr (some b))), some (.inl (i : Int)), y2] [] (W, R, T) (frQ V R T b n S ln c r) := by
    intro j
    induction j with
    | zero =>
      intro i W m y2 hj him w1 w2 w3 w4
      have := que_m w1.2.2.2
      omega
    | succ j ih =>
      intro i W m y2 hj him w1 w2 w3 w4
      have hm := que_m w1.2.2.2
      have e10 : W b 10 = m := w1.2.2.1
      have fin : m ≤ i → frQ V R T b n S ln c r (some (.inl (-1))) (W, R, T) := by
        intro hmi
        refine ⟨W, rfl, w1.1, w1.2.1, Or.inr ⟨rfl, ⟨l1, l2, l3⟩, ⟨fun p hp hl => decide_eq_true (w3 p hp hl), fun p hp hP s hs hl => decide_eq_true ?_, fun s hs hQ p hp hl => decide_eq_true ?_⟩, fun s hs hQ => ?_, fun P' Q' hc => ?_⟩⟩
        · exact w2 p hp (of_decide_eq_true hP) (fun z => z) s hs (by have := i4 p hp s hs; omega)
        · obtain ⟨k, k1, k2⟩ := w1.2.2.2.2.2 s hs (of_decide_eq_true hQ)
          exact (w4 k (by omega) s hs k2).2 p hp hl
        · obtain ⟨k, k1, k2⟩ := w1.2.2.2.2.2 s hs (of_decide_eq_true hQ)
          have h1 := (w4 k (by omega) s hs k2).1
          have h2 := i3 s hs
          have h3 := (bd.2.1 s hs).1
          omega
        · have key := bfs_min w1.2.1 (fun a => (∀ p, p < n → a = p → P' p = true) ∧ ∀ s, s < S → a = 12 + s → Q' s = true) (fun a v ⟨h1, h2, h3⟩ => ⟨fun p hp e => by rw [← e]; exact hc.1 a h1 h3, fun s hs e => by omega⟩) (fun k a v hz he => ?_)
          · refine ⟨fun p hp hP => (key p (by omega) (by rw [cmb_P hp hn]; exact of_decide_eq_true hP)).1 p hp rfl, fun s hs hQ => (key (12 + s) (by omega) (by rw [cmb_S]; exact of_decide_eq_true hQ)).2 s hs rfl⟩
          · rcases he with ⟨q, s, e1, e2, e3, e4, e5, e6⟩ | ⟨q, s, e1, e2, e3, e4, e5, e6⟩
            · refine ⟨fun p hp e => ?_, fun t ht e => by omega⟩
              rw [← e, e4]
              exact hc.2.2 s e2 (hz.2 s e2 e3) q e1 e6
            · refine ⟨fun p hp e => by omega, fun t ht e => ?_⟩
              rw [show t = s by omega]
              exact hc.2.1 q e1 (hz.1 q e1 e3) s e2 e6
      rw [ux_66_37]
      simp only [ux_66_0, ux_66_1, ux_66_5, ux_66_7, ux_66_8, ux_66_11, ux_66_14, ux_66_15, ux_66_18, ux_66_19, ux_66_20, ux_66_23, ux_66_24, ux_66_25, ux_66_26, ux_66_32, ux_66_36, ux_66_38, ux_66_39, ux_66_42, ux_66_45, ux_66_46, ux_66_48, ux_66_51, ux_66_52, ux_66_55, ux_66_56, ux_66_57, ux_66_58, ux_66_59, ux_66_62, ux_66_63, ux_66_64, ux_66_67, ux_66_68, ux_66_70, ux_66_71, ux_66_72, ux_66_78, ux_66_81, ux_66_82, pm_i_c, pm_l_c, pm_q_c, pm_r_c, pm_li_0, pm_li_s, pm_ll_0, pm_ll_s, pm_lq_0, pm_lq_s, pm_s1, pm_s2, pm_kl, pm_wI, pm_wR, pm_pu_n, pm_pu_s, pm_wt, List.take_succ_cons, List.take_zero, List.take_nil, List.drop_succ_cons, List.drop_zero, List.reverse_cons, List.reverse_nil, List.nil_append, List.cons_append, List.length_cons, List.length_nil, true_and, and_true, true_implies, tn_l, tn_0, Int.reduceToNat, Int.reduceLE, Int.reduceLT, Int.reduceEq, Int.reduceAdd, Int.reduceSub, Int.reduceMul, Int.reduceNeg, Nat.reduceAdd, Nat.reduceLeDiff, Nat.reduceEqDiff, Nat.reduceSub, Option.some.injEq, Sum.inl.injEq, Sum.inr.injEq, or_true, true_or, reduceCtorEq, ne_eq, not_false_eq_true, not_true_eq_false, false_implies, implies_true, false_and, and_false, false_or, or_false, if_true, if_false, ly_3 hb, ly_4 hb, ly_5 hb, ly_6 hb, ly_7 hb, ly_8 hb, ly_9 hb, ly_t hb, ly_v hb, ly_b1 hb, ly_b2 hb, ly_b3 hb, ly_b16 hb, ly_b29 hb, ly_b30 hb, ly_b31 hb, e10]
      refine ⟨fun z => fin (by omega), fun z => ⟨fun z2 => fin (by omega), fun z2 => ⟨by omega, ?_⟩⟩⟩
      obtain ⟨s, s1, s2, s3⟩ := w1.2.2.2.2.1 i (by omega)
      have er : W (b + 2) s = V (b + 2) s := by rw [w1.1.1 (b + 2) (by omega) (by omega) (by omega) (by omega)]
      rw [s2]
      simp only [tn_0, er]
      refine ⟨by omega, fun c1 => ?_, fun c1 => ⟨W, rfl, w1.1, w1.2.1, Or.inl ⟨s, s1, rfl, s3, by omega⟩⟩⟩
      rw [ux_66_69]
      simp only [ux_66_0, ux_66_1, ux_66_5, ux_66_7, ux_66_8, ux_66_11, ux_66_14, ux_66_15, ux_66_18, ux_66_19, ux_66_20, ux_66_23, ux_66_24, ux_66_25, ux_66_26, ux_66_32, ux_66_36, ux_66_38, ux_66_39, ux_66_42, ux_66_45, ux_66_46, ux_66_48, ux_66_51, ux_66_52, ux_66_55, ux_66_56, ux_66_57, ux_66_58, ux_66_59, ux_66_62, ux_66_63, ux_66_64, ux_66_67, ux_66_68, ux_66_70, ux_66_71, ux_66_72, ux_66_78, ux_66_81, ux_66_82, pm_i_c, pm_l_c, pm_q_c, pm_r_c, pm_li_0, pm_li_s, pm_ll_0, pm_ll_s, pm_lq_0, pm_lq_s, pm_s1, pm_s2, pm_kl, pm_wI, pm_wR, pm_pu_n, pm_pu_s, pm_wt, List.take_succ_cons, List.take_zero, List.take_nil, List.drop_succ_cons, List.drop_zero, List.reverse_cons, List.reverse_nil, List.nil_append, List.cons_append, List.length_cons, List.length_nil, true_and, and_true, true_implies, tn_l, tn_0, Int.reduceToNat, Int.reduceLE, Int.reduceLT, Int.reduceEq, Int.reduceAdd, Int.reduceSub, Int.reduceMul, Int.reduceNeg, Nat.reduceAdd, Nat.reduceLeDiff, Nat.reduceEqDiff, Nat.reduceSub, Option.some.injEq, Sum.inl.injEq, Sum.inr.injEq, or_true, true_or, reduceCtorEq, ne_eq, not_false_eq_true, not_true_eq_false, false_implies, implies_true, false_and, and_false, false_or, or_false, if_true, if_false, ly_3 hb, ly_4 hb, ly_5 hb, ly_6 hb, ly_7 hb, ly_8 hb, ly_9 hb, ly_t hb, ly_v hb, ly_b1 hb, ly_b2 hb, ly_b3 hb, ly_b16 hb, ly_b29 hb, ly_b30 hb, ly_b31 hb]
      refine pm_ok_mono (c_reachFromStretch (d := d) (V := V) (low := 0) (s := s) (by omega) hb hn hS i0 i1 (fun q t _ hq ht hm => hE q t hq ht hm) (Nat.zero_le _) (fun q _ hq hx => Or.inl ⟨q, s, hq, s1, rfl, rfl, rfl, hx⟩) s1 w1 w2 s3) ?_
      rintro r0 h2 ⟨W2, m2, rfl, rfl, y1, y2', y3, y4, y5, y6⟩
      rw [pm_pu_n, ux_66_75]
      simp only [ux_66_0, ux_66_1, ux_66_5, ux_66_7, ux_66_8, ux_66_11, ux_66_14, ux_66_15, ux_66_18, ux_66_19, ux_66_20, ux_66_23, ux_66_24, ux_66_25, ux_66_26, ux_66_32, ux_66_36, ux_66_38, ux_66_39, ux_66_42, ux_66_45, ux_66_46, ux_66_48, ux_66_51, ux_66_52, ux_66_55, ux_66_56, ux_66_57, ux_66_58, ux_66_59, ux_66_62, ux_66_63, ux_66_64, ux_66_67, ux_66_68, ux_66_70, ux_66_71, ux_66_72, ux_66_78, ux_66_81, ux_66_82, pm_i_c, pm_l_c, pm_q_c, pm_r_c, pm_li_0, pm_li_s, pm_ll_0, pm_ll_s, pm_lq_0, pm_lq_s, pm_s1, pm_s2, pm_kl, pm_wI, pm_wR, pm_pu_n, pm_pu_s, pm_wt, List.take_succ_cons, List.take_zero, List.take_nil, List.drop_succ_cons, List.drop_zero, List.reverse_cons, List.reverse_nil, List.nil_append, List.cons_append, List.length_cons, List.length_nil, true_and, and_true, true_implies, tn_l, tn_0, Int.reduceToNat, Int.reduceLE, Int.reduceLT, Int.reduceEq, Int.reduceAdd, Int.reduceSub, Int.reduceMul, Int.reduceNeg, Nat.reduceAdd, Nat.reduceLeDiff, Nat.reduceEqDiff, Nat.reduceSub, Option.some.injEq, Sum.inl.injEq, Sum.inr.injEq, or_true, true_or, reduceCtorEq, ne_eq, not_false_eq_true, not_true_eq_false, false_implies, implies_true, false_and, and_false, false_or, or_false, if_true, if_false, ly_3 hb, ly_4 hb, ly_5 hb, ly_6 hb, ly_7 hb, ly_8 hb, ly_9 hb, ly_t hb, ly_v hb, ly_b1 hb, ly_b2 hb, ly_b3 hb, ly_b16 hb, ly_b29 hb, ly_b30 hb, ly_b31 hb]
      refine ⟨by unfold pm_I32; omega, ih (i + 1) W2 m2 _ (by omega) (by omega) y1 y2' (fun p hp hl => y3.2.1 p (w3 p hp hl)) (fun k hk t ht hu => ?_)⟩
      have hu2 : W (b + 31) k = (t : Int) := by rw [← y3.2.2 k (by rw [e10]; omega)]; exact hu
      by_cases e : k = i
      · subst e
        have : t = s := by omega
        subst this
        exact ⟨by omega, fun q hq hx => y5 q (Nat.zero_le _) hq hx⟩
      · obtain ⟨g1, g2⟩ := w4 k (by omega) t ht hu2
        exact ⟨g1, fun q hq hx => y3.2.1 q (g2 q hq hx)⟩
  -- the pieces
  refine pm_up0 (fun i => ∀ (W : Nat → Nat → Int) (m : Nat), sI V b n S (fR ln (xL V b) n S) (fE c (xL V b) n S) W m → sP V b n S (fun _ => False) W → (∀ p, p < i → sm (xL V b p) S < ln p → W (b + 29) p ≠ -2) → (∀ p, i ≤ p → p < n → W (b + 29) p = -2) → pm_w d 66 6 [some (.inr (.inr (some b))), some (.inl (i : Int)), none] [] (W, R, T) (frQ V R T b n S ln c r)) n ?_ ?_ W0 0 s0 p0 (fun p hp => by omega) (fun p _ hp => a3 p hp)
  · intro W m w1 w2 w3 w4
    have e0 : W b 0 = n := by rw [w1.1.2 0 (by decide)]; exact i0
    rw [ux_66_6]
    simp only [ux_66_0, ux_66_1, ux_66_5, ux_66_7, ux_66_8, ux_66_11, ux_66_14, ux_66_15, ux_66_18, ux_66_19, ux_66_20, ux_66_23, ux_66_24, ux_66_25, ux_66_26, ux_66_32, ux_66_36, ux_66_38, ux_66_39, ux_66_42, ux_66_45, ux_66_46, ux_66_48, ux_66_51, ux_66_52, ux_66_55, ux_66_56, ux_66_57, ux_66_58, ux_66_59, ux_66_62, ux_66_63, ux_66_64, ux_66_67, ux_66_68, ux_66_70, ux_66_71, ux_66_72, ux_66_78, ux_66_81, ux_66_82, pm_i_c, pm_l_c, pm_q_c, pm_r_c, pm_li_0, pm_li_s, pm_ll_0, pm_ll_s, pm_lq_0, pm_lq_s, pm_s1, pm_s2, pm_kl, pm_wI, pm_wR, pm_pu_n, pm_pu_s, pm_wt, List.take_succ_cons, List.take_zero, List.take_nil, List.drop_succ_cons, List.drop_zero, List.reverse_cons, List.reverse_nil, List.nil_append, List.cons_append, List.length_cons, List.length_nil, true_and, and_true, true_implies, tn_l, tn_0, Int.reduceToNat, Int.reduceLE, Int.reduceLT, Int.reduceEq, Int.reduceAdd, Int.reduceSub, Int.reduceMul, Int.reduceNeg, Nat.reduceAdd, Nat.reduceLeDiff, Nat.reduceEqDiff, Nat.reduceSub, Option.some.injEq, Sum.inl.injEq, Sum.inr.injEq, or_true, true_or, reduceCtorEq, ne_eq, not_false_eq_true, not_true_eq_false, false_implies, implies_true, false_and, and_false, false_or, or_false, if_true, if_false, ly_3 hb, ly_4 hb, ly_5 hb, ly_6 hb, ly_7 hb, ly_8 hb, ly_9 hb, ly_t hb, ly_v hb, ly_b1 hb, ly_b2 hb, ly_b3 hb, ly_b16 hb, ly_b29 hb, ly_b30 hb, ly_b31 hb, e0]
    refine ⟨fun _ => ?_, fun z => absurd (Int.le_refl _) z⟩
    rw [ux_66_35]
    simp only [ux_66_0, ux_66_1, ux_66_5, ux_66_7, ux_66_8, ux_66_11, ux_66_14, ux_66_15, ux_66_18, ux_66_19, ux_66_20, ux_66_23, ux_66_24, ux_66_25, ux_66_26, ux_66_32, ux_66_36, ux_66_38, ux_66_39, ux_66_42, ux_66_45, ux_66_46, ux_66_48, ux_66_51, ux_66_52, ux_66_55, ux_66_56, ux_66_57, ux_66_58, ux_66_59, ux_66_62, ux_66_63, ux_66_64, ux_66_67, ux_66_68, ux_66_70, ux_66_71, ux_66_72, ux_66_78, ux_66_81, ux_66_82, pm_i_c, pm_l_c, pm_q_c, pm_r_c, pm_li_0, pm_li_s, pm_ll_0, pm_ll_s, pm_lq_0, pm_lq_s, pm_s1, pm_s2, pm_kl, pm_wI, pm_wR, pm_pu_n, pm_pu_s, pm_wt, List.take_succ_cons, List.take_zero, List.take_nil, List.drop_succ_cons, List.drop_zero, List.reverse_cons, List.reverse_nil, List.nil_append, List.cons_append, List.length_cons, List.length_nil, true_and, and_true, true_implies, tn_l, tn_0, Int.reduceToNat, Int.reduceLE, Int.reduceLT, Int.reduceEq, Int.reduceAdd, Int.reduceSub, Int.reduceMul, Int.reduceNeg, Nat.reduceAdd, Nat.reduceLeDiff, Nat.reduceEqDiff, Nat.reduceSub, Option.some.injEq, Sum.inl.injEq, Sum.inr.injEq, or_true, true_or, reduceCtorEq, ne_eq, not_false_eq_true, not_true_eq_false, false_implies, implies_true, false_and, and_false, false_or, or_false, if_true, if_false, ly_3 hb, ly_4 hb, ly_5 hb, ly_6 hb, ly_7 hb, ly_8 hb, ly_9 hb, ly_t hb, ly_v hb, ly_b1 hb, ly_b2 hb, ly_b3 hb, ly_b16 hb, ly_b29 hb, ly_b30 hb, ly_b31 hb]
    exact k2 (S + 1) 0 W m _ (by omega) (by omega) w1 w2 w3 (fun k hk => by omega)
  · intro i hi ih W m w1 w2 w3 w4
    have e0 : W b 0 = n := by rw [w1.1.2 0 (by decide)]; exact i0
    have el : W (b + 1) i = V (b + 1) i := by rw [w1.1.1 (b + 1) (by omega) (by omega) (by omega) (by omega)]
    have hl := i2 i hi
    rw [ux_66_6]
    simp only [ux_66_0, ux_66_1, ux_66_5, ux_66_7, ux_66_8, ux_66_11, ux_66_14, ux_66_15, ux_66_18, ux_66_19, ux_66_20, ux_66_23, ux_66_24, ux_66_25, ux_66_26, ux_66_32, ux_66_36, ux_66_38, ux_66_39, ux_66_42, ux_66_45, ux_66_46, ux_66_48, ux_66_51, ux_66_52, ux_66_55, ux_66_56, ux_66_57, ux_66_58, ux_66_59, ux_66_62, ux_66_63, ux_66_64, ux_66_67, ux_66_68, ux_66_70, ux_66_71, ux_66_72, ux_66_78, ux_66_81, ux_66_82, pm_i_c, pm_l_c, pm_q_c, pm_r_c, pm_li_0, pm_li_s, pm_ll_0, pm_ll_s, pm_lq_0, pm_lq_s, pm_s1, pm_s2, pm_kl, pm_wI, pm_wR, pm_pu_n, pm_pu_s, pm_wt, List.take_succ_cons, List.take_zero, List.take_nil, List.drop_succ_cons, List.drop_zero, List.reverse_cons, List.reverse_nil, List.nil_append, List.cons_append, List.length_cons, List.length_nil, true_and, and_true, true_implies, tn_l, tn_0, Int.reduceToNat, Int.reduceLE, Int.reduceLT, Int.reduceEq, Int.reduceAdd, Int.reduceSub, Int.reduceMul, Int.reduceNeg, Nat.reduceAdd, Nat.reduceLeDiff, Nat.reduceEqDiff, Nat.reduceSub, Option.some.injEq, Sum.inl.injEq, Sum.inr.injEq, or_true, true_or, reduceCtorEq, ne_eq, not_false_eq_true, not_true_eq_false, false_implies, implies_true, false_and, and_false, false_or, or_false, if_true, if_false, ly_3 hb, ly_4 hb, ly_5 hb, ly_6 hb, ly_7 hb, ly_8 hb, ly_9 hb, ly_t hb, ly_v hb, ly_b1 hb, ly_b2 hb, ly_b3 hb, ly_b16 hb, ly_b29 hb, ly_b30 hb, ly_b31 hb, e0, el]
    refine ⟨fun z => by omega, fun _ => ⟨by omega, fun c1 => ?_, fun c1 => ?_⟩⟩
    · rw [ux_66_29]
      simp only [ux_66_0, ux_66_1, ux_66_5, ux_66_7, ux_66_8, ux_66_11, ux_66_14, ux_66_15, ux_66_18, ux_66_19, ux_66_20, ux_66_23, ux_66_24, ux_66_25, ux_66_26, ux_66_32, ux_66_36, ux_66_38, ux_66_39, ux_66_42, ux_66_45, ux_66_46, ux_66_48, ux_66_51, ux_66_52, ux_66_55, ux_66_56, ux_66_57, ux_66_58, ux_66_59, ux_66_62, ux_66_63, ux_66_64, ux_66_67, ux_66_68, ux_66_70, ux_66_71, ux_66_72, ux_66_78, ux_66_81, ux_66_82, pm_i_c, pm_l_c, pm_q_c, pm_r_c, pm_li_0, pm_li_s, pm_ll_0, pm_ll_s, pm_lq_0, pm_lq_s, pm_s1, pm_s2, pm_kl, pm_wI, pm_wR, pm_pu_n, pm_pu_s, pm_wt, List.take_succ_cons, List.take_zero, List.take_nil, List.drop_succ_cons, List.drop_zero, List.reverse_cons, List.reverse_nil, List.nil_append, List.cons_append, List.length_cons, List.length_nil, true_and, and_true, true_implies, tn_l, tn_0, Int.reduceToNat, Int.reduceLE, Int.reduceLT, Int.reduceEq, Int.reduceAdd, Int.reduceSub, Int.reduceMul, Int.reduceNeg, Nat.reduceAdd, Nat.reduceLeDiff, Nat.reduceEqDiff, Nat.reduceSub, Option.some.injEq, Sum.inl.injEq, Sum.inr.injEq, or_true, true_or, reduceCtorEq, ne_eq, not_false_eq_true, not_true_eq_false, false_implies, implies_true, false_and, and_false, false_or, or_false, if_true, if_false, ly_3 hb, ly_4 hb, ly_5 hb, ly_6 hb, ly_7 hb, ly_8 hb, ly_9 hb, ly_t hb, ly_v hb, ly_b1 hb, ly_b2 hb, ly_b3 hb, ly_b16 hb, ly_b29 hb, ly_b30 hb, ly_b31 hb]
      refine ⟨by unfold pm_I32; omega, ih W m w1 w2 (fun p hp hl2 => ?_) (fun p h1 h2 => w4 p (by omega) h2)⟩
      by_cases e : p = i
      · subst e; omega
      · exact w3 p (by omega) hl2
    · refine pm_ok_mono (c_reachFromPiece (d := d) (V := V) (by omega) hb hn hS i1 (fun t ht hm => hE i t hi ht hm) hi w1 w2 (w4 i (Nat.le_refl _) hi) (-1) (by decide) (Or.inl ⟨hi, rfl, by omega⟩)) ?_
      rintro r0 h2 ⟨W3, m3, rfl, rfl, y1, y2, y3, y4, y5, y6⟩
      rw [pm_pu_n, ux_66_29]
      simp only [ux_66_0, ux_66_1, ux_66_5, ux_66_7, ux_66_8, ux_66_11, ux_66_14, ux_66_15, ux_66_18, ux_66_19, ux_66_20, ux_66_23, ux_66_24, ux_66_25, ux_66_26, ux_66_32, ux_66_36, ux_66_38, ux_66_39, ux_66_42, ux_66_45, ux_66_46, ux_66_48, ux_66_51, ux_66_52, ux_66_55, ux_66_56, ux_66_57, ux_66_58, ux_66_59, ux_66_62, ux_66_63, ux_66_64, ux_66_67, ux_66_68, ux_66_70, ux_66_71, ux_66_72, ux_66_78, ux_66_81, ux_66_82, pm_i_c, pm_l_c, pm_q_c, pm_r_c, pm_li_0, pm_li_s, pm_ll_0, pm_ll_s, pm_lq_0, pm_lq_s, pm_s1, pm_s2, pm_kl, pm_wI, pm_wR, pm_pu_n, pm_pu_s, pm_wt, List.take_succ_cons, List.take_zero, List.take_nil, List.drop_succ_cons, List.drop_zero, List.reverse_cons, List.reverse_nil, List.nil_append, List.cons_append, List.length_cons, List.length_nil, true_and, and_true, true_implies, tn_l, tn_0, Int.reduceToNat, Int.reduceLE, Int.reduceLT, Int.reduceEq, Int.reduceAdd, Int.reduceSub, Int.reduceMul, Int.reduceNeg, Nat.reduceAdd, Nat.reduceLeDiff, Nat.reduceEqDiff, Nat.reduceSub, Option.some.injEq, Sum.inl.injEq, Sum.inr.injEq, or_true, true_or, reduceCtorEq, ne_eq, not_false_eq_true, not_true_eq_false, false_implies, implies_true, false_and, and_false, false_or, or_false, if_true, if_false, ly_3 hb, ly_4 hb, ly_5 hb, ly_6 hb, ly_7 hb, ly_8 hb, ly_9 hb, ly_t hb, ly_v hb, ly_b1 hb, ly_b2 hb, ly_b3 hb, ly_b16 hb, ly_b29 hb, ly_b30 hb, ly_b31 hb]
      refine ⟨by unfold pm_I32; omega, ih W3 m3 y1 y2 (fun p hp hl2 => ?_) (fun p h1 h2 => by rw [y6 p (by omega)]; exact w4 p (by omega) h2)⟩
      by_cases e : p = i
      · subst e; exact y5
      · exact y3.2.1 p (w3 p (by omega) hl2)
end
