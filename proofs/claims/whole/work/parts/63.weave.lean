/-! THE REFERENCE: weave -/
theorem fl_congr {n S : Nat} {ln ln' : Nat → Int} {c c' : Nat → Nat → Int} {r r' : Nat → Int} {x x' : Nat → Nat → Int} (h1 : ∀ p, p < n → ln p = ln' p) (h2 : ∀ p, p < n → ∀ s, s < S → c p s = c' p s) (h3 : ∀ s, s < S → r s = r' s) (h4 : ∀ p, p < n → ∀ s, s < S → x p s = x' p s) (h : fl n S ln c r x) : fl n S ln' c' r' x' := by
  refine ⟨lay_congr h1 h2 h3 h4 h.1, fun p hp => ?_⟩
  rw [← sm_congr (fun s hs => h4 p hp s hs), ← h1 p hp]
  exact h.2 p hp
theorem lexU_congr {n S p s : Nat} {ln ln' : Nat → Int} {c c' : Nat → Nat → Int} {r r' : Nat → Int} {x : Nat → Nat → Int} (h1 : ∀ p, p < n → ln p = ln' p) (h2 : ∀ p, p < n → ∀ s, s < S → c p s = c' p s) (h3 : ∀ s, s < S → r s = r' s) (h : lexU n S ln c r x p s) : lexU n S ln' c' r' x p s := fun q t hq ht hb y hy => h q t hq ht hb y (fl_congr (fun p hp => (h1 p hp).symm) (fun p hp s hs => (h2 p hp s hs).symm) (fun s hs => (h3 s hs).symm) (fun _ _ _ _ => rfl) hy)
theorem rf_net {V : Nat → Nat → Int} {A : Nat → Int} {n : Nat} {lo dl tm rm : Int} (hA : V 132 = A) (a : rfS V n (mmL A dl n)) (e3 : V 131 3 = dl) (e4 : V 131 4 = lo) (e10 : V 131 10 = tm) (e11 : V 131 11 = rm) : (∀ p, p < n → lR V p = nL A tm p) ∧ (∀ p, p < n → ∀ s, s < nS A n dl → cR V p s = nC A n lo dl rm p s) ∧ ∀ s, s < nS A n dl → rR V s = nR A n lo dl rm s := by
  have hr := a.2.1.1
  refine ⟨fun p hp => ?_, fun p hp s hs => ?_, fun s hs => ?_⟩
  · unfold lR nL; rw [hA, e10]
  · unfold nS nst at hs
    unfold cR nC tkA mlB nmo
    rw [hA, e3, e4, e11, hr s (by omega), hr (s + 1) (by omega)]
  · unfold nS nst at hs
    unfold rR nR rmA nmo
    rw [e4, e11, hr s (by omega), hr (s + 1) (by omega)]
/-- the cloth of a shed -/
def clo (A : Nat → Int) (n : Nat) (x : Nat → Nat → Int) : Prop := fl n (nS A n 0) (nL A 1) (nC A n (A 0) 0 1) (nR A n (A 0) 0 1) x ∧ lexU n (nS A n 0) (nL A 1) (nC A n (A 0) 0 1) (nR A n (A 0) 0 1) x n 0
theorem clo_un {A : Nat → Int} {n : Nat} {x y : Nat → Nat → Int} (hx : clo A n x) (hy : clo A n y) : ∀ p, p < n → ∀ s, s < nS A n 0 → x p s = y p s := lexU_un hx.1 hy.1 hx.2 hy.2
/-- what weave may change -/
def wfr (V W : Nat → Nat → Int) : Prop := (∀ q, q ≠ 131 → q ≠ 135 → q ≠ 137 → q ≠ 138 → q ≠ 139 → q ≠ 140 → q ≠ 141 → W q = V q) ∧ ∀ j, j ≠ 16 → W 131 j = V 131 j
theorem wfr_eq {V W : Nat → Nat → Int} (h : wfr V W) : lR W = lR V ∧ cR W = cR V ∧ rR W = rR V := by
  have e2 := h.1 132 (by decide) (by decide) (by decide) (by decide) (by decide) (by decide) (by decide)
  have e4 := h.1 134 (by decide) (by decide) (by decide) (by decide) (by decide) (by decide) (by decide)
  refine ⟨?_, ?_, ?_⟩
  · funext p; unfold lR; rw [h.2 10 (by decide), e2]
  · funext p s; unfold cR; rw [h.2 3 (by decide), h.2 4 (by decide), h.2 11 (by decide), e2, e4]
  · funext s; unfold rR; rw [h.2 4 (by decide), h.2 11 (by decide), e4]
theorem wfr_S {V W : Nat → Nat → Int} {n : Nat} {L : List Int} (h : wfr V W) (hS : rfS V n L) : rfS W n L := by
  unfold rfS
  rw [h.1 132 (by decide) (by decide) (by decide) (by decide) (by decide) (by decide) (by decide), h.1 134 (by decide) (by decide) (by decide) (by decide) (by decide) (by decide) (by decide), h.2 3 (by decide), h.2 4 (by decide), h.2 6 (by decide), h.2 10 (by decide), h.2 11 (by decide)]
  exact hS
theorem wfr_tf {V W W2 : Nat → Nat → Int} (h : wfr V W) (h2 : tfr W W2) : wfr V W2 := ⟨fun q a b c e f g i => (h2.1 q a e f g).trans (h.1 q a b c e f g i), fun j hj => (h2.2 j hj).trans (h.2 j hj)⟩
def weI (V : Nat → Nat → Int) (n S p s : Nat) (W : Nat → Nat → Int) : Prop := wfr V W ∧ rfX W n S ∧ fl n S (lR V) (cR V) (rR V) (xR W) ∧ (∀ q t, q < n → t < S → (bef q t p s → W 141 (64 * q + t) = 1) ∧ (¬ bef q t p s → W 141 (64 * q + t) = 0)) ∧ lexU n S (lR V) (cR V) (rR V) (xR W) p s
section
variable {d : Nat} {h : pm_H} {V W : Nat → Nat → Int} {R : Nat → Nat → Option Nat} {T : List (Nat × Nat)} {n : Nat} {L : List Int}
theorem rrY_tr {p0 s0 S : Nat} {th : Option Nat} (h : tfr V W) (hY : rrY V n S p0 s0 W th) : rrY W n S p0 s0 W th := by
  have e : rrE W n S p0 s0 th = rrE V n S p0 s0 th := by
    obtain ⟨-, e2, e3, e4⟩ := tfr_eq h
    unfold rrE
    rw [e2, e3, e4, h.1 137 (by decide) (by decide) (by decide) (by decide), h.1 141 (by decide) (by decide) (by decide) (by decide)]
  unfold rrY
  rw [e]
  exact hY
/-- one cell of the cloth -/
theorem we_cell (hd : 5 ≤ d) (hf : fx R T) (hS : rfS V n L) (p s : Nat) (hp : p < n) (hs : s < nst L) {Q : Option pm_V → pm_H → Prop}
    (go : ∀ W, weI V n (nst L) p (s + 1) W → pm_w d 150 94 [some (.inr (.inr (some 131))), some (.inl (p : Int)), some (.inl (s : Int))] [] (W, R, T) Q) : ∀ (k : Nat) (W : Nat → Nat → Int), weI V n (nst L) p s W → cR V p s - xR W p s ≤ k → pm_w d 150 53 [some (.inr (.inr (some 131))), some (.inl (p : Int)), some (.inl (s : Int))] [] (W, R, T) Q := by
  have hn := hS.1.1
  have hl := hS.2.1.2.1
  have hnS : nst L ≤ 47 := by unfold nst; omega
  -- the cell is settled
  have fin : ∀ W, weI V n (nst L) p s W → (∀ y, fl n (nst L) (lR V) (cR V) (rR V) y → (∀ q' t', q' < n → t' < nst L → bef q' t' p s → y q' t' = xR W q' t') → y p s ≤ xR W p s) → pm_w d 150 82 [some (.inr (.inr (some 131))), some (.inl (p : Int)), some (.inl (s : Int))] [] (W, R, T) Q := by
    intro W ⟨w1, w2, w3, w4, w5⟩ hy
    have ei : (64 * (p : Int) + (s : Int)).toNat = 64 * p + s := by omega
    rw [ux_150_82]
    simp only [ux_150_0, ux_150_1, ux_150_4, ux_150_7, ux_150_8, ux_150_9, ux_150_10, ux_150_12, ux_150_15, ux_150_18, ux_150_19, ux_150_22, ux_150_23, ux_150_24, ux_150_25, ux_150_28, ux_150_31, ux_150_32, ux_150_34, ux_150_35, ux_150_38, ux_150_39, ux_150_40, ux_150_43, ux_150_44, ux_150_46, ux_150_47, ux_150_50, ux_150_54, ux_150_55, ux_150_56, ux_150_59, ux_150_60, ux_150_61, ux_150_64, ux_150_65, ux_150_66, ux_150_67, ux_150_73, ux_150_74, ux_150_75, ux_150_76, ux_150_83, ux_150_86, ux_150_88, ux_150_89, ux_150_90, ux_150_91, ux_150_92, ux_150_93, ux_150_97, ux_150_100, ux_150_103, ux_150_106, ux_150_107, pm_i_c, pm_l_c, pm_q_c, pm_r_c, pm_li_0, pm_li_s, pm_ll_0, pm_ll_s, pm_lq_0, pm_lq_s, pm_s1, pm_s2, pm_kl, pm_wI, pm_wR, pm_pu_n, pm_pu_s, pm_wt, List.take_succ_cons, List.take_zero, List.take_nil, List.drop_succ_cons, List.drop_zero, List.reverse_cons, List.reverse_nil, List.nil_append, List.cons_append, List.length_cons, List.length_nil, true_and, and_true, true_implies, tn_l, tn_0, Int.reduceToNat, Int.reduceLE, Int.reduceLT, Int.reduceEq, Int.reduceAdd, Int.reduceSub, Int.reduceMul, Int.reduceNeg, Nat.reduceAdd, Nat.reduceLeDiff, Nat.reduceEqDiff, Nat.reduceSub, Option.some.injEq, Sum.inl.injEq, Sum.inr.injEq, or_true, true_or, reduceCtorEq, ne_eq, not_false_eq_true, not_true_eq_false, false_implies, implies_true, false_and, and_false, false_or, or_false, if_true, if_false, fr_131_0 hf, fr_131_1 hf, fr_131_5 hf, fr_131_7 hf, fr_131_8 hf, fr_131_9 hf, fr_131_12 hf, fr_131_13 hf, fr_131_14 hf, fr_131_15 hf, fr_131_19 hf, fr_131_20 hf, fr_131_21 hf, fr_131_22 hf, fr_131_23 hf, fr_131_24 hf, fg_131 hf, fv_131 hf, fb_132 hf, fb_133 hf, fb_134 hf, fb_135 hf, fb_136 hf, fb_137 hf, fb_138 hf, fb_139 hf, fb_140 hf, fb_141 hf, fb_142 hf, fb_143 hf, fb_144 hf, fb_145 hf, fb_146 hf, fb_147 hf, ei]
    refine ⟨by unfold pm_I32; omega, by unfold pm_I32; omega, by omega, go _ ?_⟩
    have x1 : xR (pm_up W 141 (64 * p + s) 1) = xR W := xR_fr (pm_up_fr (by decide))
    refine ⟨⟨fun q a b c e f g i => ?_, fun j hj => ?_⟩, ?_, by rw [x1]; exact w3, fun q t hq ht => ?_, by rw [x1]; exact lexU_s w5 hy⟩
    · rw [pm_up_fr i]; exact w1.1 q a b c e f g i
    · rw [pm_up_fr (by decide)]; exact w1.2 j hj
    · unfold rfX
      rw [x1, pm_up_fr (show 136 ≠ 141 by decide), pm_up_fr (show 137 ≠ 141 by decide)]
      have : lR (pm_up W 141 (64 * p + s) 1) = lR W ∧ cR (pm_up W 141 (64 * p + s) 1) = cR W ∧ rR (pm_up W 141 (64 * p + s) 1) = rR W := wfr_eq ⟨fun q a b c e f g i => pm_up_fr i, fun j hj => by rw [pm_up_fr (by decide)]⟩
      rw [this.1, this.2.1, this.2.2]
      exact w2
    · rw [pm_up_row]
      dsimp only
      have := w4 q t hq ht
      by_cases e : q = p ∧ t = s
      · rw [if_pos (by omega)]
        refine ⟨fun _ => rfl, fun z => absurd ?_ z⟩
        unfold bef; omega
      · rw [if_neg (by omega)]
        unfold bef at *
        exact ⟨fun z => this.1 (by omega), fun z => this.2 (by omega)⟩
  intro k
  induction k with
  | zero =>
    intro W hI hk
    obtain ⟨w1, w2, w3, w4, w5⟩ := id hI
    have hSW := wfr_S w1 hS
    obtain ⟨z1, z2, z3⟩ := wfr_eq w1
    rw [ux_150_53]
    simp only [ux_150_0, ux_150_1, ux_150_4, ux_150_7, ux_150_8, ux_150_9, ux_150_10, ux_150_12, ux_150_15, ux_150_18, ux_150_19, ux_150_22, ux_150_23, ux_150_24, ux_150_25, ux_150_28, ux_150_31, ux_150_32, ux_150_34, ux_150_35, ux_150_38, ux_150_39, ux_150_40, ux_150_43, ux_150_44, ux_150_46, ux_150_47, ux_150_50, ux_150_54, ux_150_55, ux_150_56, ux_150_59, ux_150_60, ux_150_61, ux_150_64, ux_150_65, ux_150_66, ux_150_67, ux_150_73, ux_150_74, ux_150_75, ux_150_76, ux_150_83, ux_150_86, ux_150_88, ux_150_89, ux_150_90, ux_150_91, ux_150_92, ux_150_93, ux_150_97, ux_150_100, ux_150_103, ux_150_106, ux_150_107, pm_i_c, pm_l_c, pm_q_c, pm_r_c, pm_li_0, pm_li_s, pm_ll_0, pm_ll_s, pm_lq_0, pm_lq_s, pm_s1, pm_s2, pm_kl, pm_wI, pm_wR, pm_pu_n, pm_pu_s, pm_wt, List.take_succ_cons, List.take_zero, List.take_nil, List.drop_succ_cons, List.drop_zero, List.reverse_cons, List.reverse_nil, List.nil_append, List.cons_append, List.length_cons, List.length_nil, true_and, and_true, true_implies, tn_l, tn_0, Int.reduceToNat, Int.reduceLE, Int.reduceLT, Int.reduceEq, Int.reduceAdd, Int.reduceSub, Int.reduceMul, Int.reduceNeg, Nat.reduceAdd, Nat.reduceLeDiff, Nat.reduceEqDiff, Nat.reduceSub, Option.some.injEq, Sum.inl.injEq, Sum.inr.injEq, or_true, true_or, reduceCtorEq, ne_eq, not_false_eq_true, not_true_eq_false, false_implies, implies_true, false_and, and_false, false_or, or_false, if_true, if_false, fr_131_0 hf, fr_131_1 hf, fr_131_5 hf, fr_131_7 hf, fr_131_8 hf, fr_131_9 hf, fr_131_12 hf, fr_131_13 hf, fr_131_14 hf, fr_131_15 hf, fr_131_19 hf, fr_131_20 hf, fr_131_21 hf, fr_131_22 hf, fr_131_23 hf, fr_131_24 hf, fg_131 hf, fv_131 hf, fb_132 hf, fb_133 hf, fb_134 hf, fb_135 hf, fb_136 hf, fb_137 hf, fb_138 hf, fb_139 hf, fb_140 hf, fb_141 hf, fb_142 hf, fb_143 hf, fb_144 hf, fb_145 hf, fb_146 hf, fb_147 hf, pm_ok_ev (se_roomOf (d := d) (V := W) (by omega) hf hSW w2 sfr_rf p s hp hs), lc_le, z2]
    refine ⟨fun c => fin W hI (fun y hy _ => ?_), fun c => absurd (by omega) c⟩
    have := (hy.1.1 p hp s hs).2
    omega
  | succ k ih =>
    intro W hI hk
    obtain ⟨w1, w2, w3, w4, w5⟩ := id hI
    have hSW := wfr_S w1 hS
    obtain ⟨z1, z2, z3⟩ := wfr_eq w1
    rw [ux_150_53]
    simp only [ux_150_0, ux_150_1, ux_150_4, ux_150_7, ux_150_8, ux_150_9, ux_150_10, ux_150_12, ux_150_15, ux_150_18, ux_150_19, ux_150_22, ux_150_23, ux_150_24, ux_150_25, ux_150_28, ux_150_31, ux_150_32, ux_150_34, ux_150_35, ux_150_38, ux_150_39, ux_150_40, ux_150_43, ux_150_44, ux_150_46, ux_150_47, ux_150_50, ux_150_54, ux_150_55, ux_150_56, ux_150_59, ux_150_60, ux_150_61, ux_150_64, ux_150_65, ux_150_66, ux_150_67, ux_150_73, ux_150_74, ux_150_75, ux_150_76, ux_150_83, ux_150_86, ux_150_88, ux_150_89, ux_150_90, ux_150_91, ux_150_92, ux_150_93, ux_150_97, ux_150_100, ux_150_103, ux_150_106, ux_150_107, pm_i_c, pm_l_c, pm_q_c, pm_r_c, pm_li_0, pm_li_s, pm_ll_0, pm_ll_s, pm_lq_0, pm_lq_s, pm_s1, pm_s2, pm_kl, pm_wI, pm_wR, pm_pu_n, pm_pu_s, pm_wt, List.take_succ_cons, List.take_zero, List.take_nil, List.drop_succ_cons, List.drop_zero, List.reverse_cons, List.reverse_nil, List.nil_append, List.cons_append, List.length_cons, List.length_nil, true_and, and_true, true_implies, tn_l, tn_0, Int.reduceToNat, Int.reduceLE, Int.reduceLT, Int.reduceEq, Int.reduceAdd, Int.reduceSub, Int.reduceMul, Int.reduceNeg, Nat.reduceAdd, Nat.reduceLeDiff, Nat.reduceEqDiff, Nat.reduceSub, Option.some.injEq, Sum.inl.injEq, Sum.inr.injEq, or_true, true_or, reduceCtorEq, ne_eq, not_false_eq_true, not_true_eq_false, false_implies, implies_true, false_and, and_false, false_or, or_false, if_true, if_false, fr_131_0 hf, fr_131_1 hf, fr_131_5 hf, fr_131_7 hf, fr_131_8 hf, fr_131_9 hf, fr_131_12 hf, fr_131_13 hf, fr_131_14 hf, fr_131_15 hf, fr_131_19 hf, fr_131_20 hf, fr_131_21 hf, fr_131_22 hf, fr_131_23 hf, fr_131_24 hf, fg_131 hf, fv_131 hf, fb_132 hf, fb_133 hf, fb_134 hf, fb_135 hf, fb_136 hf, fb_137 hf, fb_138 hf, fb_139 hf, fb_140 hf, fb_141 hf, fb_142 hf, fb_143 hf, fb_144 hf, fb_145 hf, fb_146 hf, fb_147 hf, pm_ok_ev (se_roomOf (d := d) (V := W) (by omega) hf hSW w2 sfr_rf p s hp hs), lc_le, z2]
    refine ⟨fun c => fin W hI (fun y hy _ => ?_), fun c => ?_⟩
    · have := (hy.1.1 p hp s hs).2
      omega
    · refine pm_ok_mono (m_reroute (d := d) (V := W) hd hf hSW w2 hp hs) ?_
      rintro r h2 ⟨W1, rfl, t1, ⟨rfl, th, hY⟩ | ⟨rfl, P, Q, n1, n2, n3, n4, n5⟩⟩
      · rw [pm_pu_s, ux_150_70]
        simp only [ux_150_0, ux_150_1, ux_150_4, ux_150_7, ux_150_8, ux_150_9, ux_150_10, ux_150_12, ux_150_15, ux_150_18, ux_150_19, ux_150_22, ux_150_23, ux_150_24, ux_150_25, ux_150_28, ux_150_31, ux_150_32, ux_150_34, ux_150_35, ux_150_38, ux_150_39, ux_150_40, ux_150_43, ux_150_44, ux_150_46, ux_150_47, ux_150_50, ux_150_54, ux_150_55, ux_150_56, ux_150_59, ux_150_60, ux_150_61, ux_150_64, ux_150_65, ux_150_66, ux_150_67, ux_150_73, ux_150_74, ux_150_75, ux_150_76, ux_150_83, ux_150_86, ux_150_88, ux_150_89, ux_150_90, ux_150_91, ux_150_92, ux_150_93, ux_150_97, ux_150_100, ux_150_103, ux_150_106, ux_150_107, pm_i_c, pm_l_c, pm_q_c, pm_r_c, pm_li_0, pm_li_s, pm_ll_0, pm_ll_s, pm_lq_0, pm_lq_s, pm_s1, pm_s2, pm_kl, pm_wI, pm_wR, pm_pu_n, pm_pu_s, pm_wt, List.take_succ_cons, List.take_zero, List.take_nil, List.drop_succ_cons, List.drop_zero, List.reverse_cons, List.reverse_nil, List.nil_append, List.cons_append, List.length_cons, List.length_nil, true_and, and_true, true_implies, tn_l, tn_0, Int.reduceToNat, Int.reduceLE, Int.reduceLT, Int.reduceEq, Int.reduceAdd, Int.reduceSub, Int.reduceMul, Int.reduceNeg, Nat.reduceAdd, Nat.reduceLeDiff, Nat.reduceEqDiff, Nat.reduceSub, Option.some.injEq, Sum.inl.injEq, Sum.inr.injEq, or_true, true_or, reduceCtorEq, ne_eq, not_false_eq_true, not_true_eq_false, false_implies, implies_true, false_and, and_false, false_or, or_false, if_true, if_false, fr_131_0 hf, fr_131_1 hf, fr_131_5 hf, fr_131_7 hf, fr_131_8 hf, fr_131_9 hf, fr_131_12 hf, fr_131_13 hf, fr_131_14 hf, fr_131_15 hf, fr_131_19 hf, fr_131_20 hf, fr_131_21 hf, fr_131_22 hf, fr_131_23 hf, fr_131_24 hf, fg_131 hf, fv_131 hf, fb_132 hf, fb_133 hf, fb_134 hf, fb_135 hf, fb_136 hf, fb_137 hf, fb_138 hf, fb_139 hf, fb_140 hf, fb_141 hf, fb_142 hf, fb_143 hf, fb_144 hf, fb_145 hf, fb_146 hf, fb_147 hf]
        obtain ⟨y1, y2, y3, y4⟩ := tfr_eq t1
        have e41 : W1 141 = W 141 := t1.1 141 (by decide) (by decide) (by decide) (by decide)
        have hz0 : W 141 (64 * p + s) = 0 := (w4 p s hp hs).2 (by unfold bef; omega)
        refine pm_ok_mono (m_shift (d := d) (V := W1) (by omega) hf (tfr_S t1 hSW) (tfr_X t1 w2) hp hs (rrY_tr t1 hY) (by rw [e41]; exact hz0) (by rw [y2, y4, z2]; omega)) ?_
        rintro r h2 ⟨W2, rfl, rfl, s1, s2, s3, s4, s5⟩
        rw [pm_pu_n, ux_150_79]
        have f1 : wfr V W2 := by
          refine ⟨fun q a b c e f g i => ?_, fun j hj => ?_⟩
          · rw [s1 q b c]; exact (wfr_tf w1 t1).1 q a b c e f g i
          · rw [s1 131 (by decide) (by decide)]; exact (wfr_tf w1 t1).2 j hj
        obtain ⟨v1, v2, v3⟩ := wfr_eq f1
        have hkeep : ∀ q t, q < n → t < nst L → bef q t p s → xR W2 q t = xR W q t := by
          intro q t hq ht hb
          rw [s4 q hq t ht (by rw [e41, (w4 q t hq ht).1 hb]; decide), y4]
        refine ih W2 ⟨f1, s2, ⟨?_, fun q hq => ?_⟩, ?_, lexU_keep w5 hkeep⟩ ?_
        · have := s2.2.2
          rw [v1, v2, v3] at this
          exact this
        · rw [s3 q hq, y4]; exact w3.2 q hq
        · rw [s1 141 (by decide) (by decide), e41]; exact w4
        · rw [s5, y4]; omega
      · rw [pm_pu_s, ux_150_70]
        simp only [ux_150_0, ux_150_1, ux_150_4, ux_150_7, ux_150_8, ux_150_9, ux_150_10, ux_150_12, ux_150_15, ux_150_18, ux_150_19, ux_150_22, ux_150_23, ux_150_24, ux_150_25, ux_150_28, ux_150_31, ux_150_32, ux_150_34, ux_150_35, ux_150_38, ux_150_39, ux_150_40, ux_150_43, ux_150_44, ux_150_46, ux_150_47, ux_150_50, ux_150_54, ux_150_55, ux_150_56, ux_150_59, ux_150_60, ux_150_61, ux_150_64, ux_150_65, ux_150_66, ux_150_67, ux_150_73, ux_150_74, ux_150_75, ux_150_76, ux_150_83, ux_150_86, ux_150_88, ux_150_89, ux_150_90, ux_150_91, ux_150_92, ux_150_93, ux_150_97, ux_150_100, ux_150_103, ux_150_106, ux_150_107, pm_i_c, pm_l_c, pm_q_c, pm_r_c, pm_li_0, pm_li_s, pm_ll_0, pm_ll_s, pm_lq_0, pm_lq_s, pm_s1, pm_s2, pm_kl, pm_wI, pm_wR, pm_pu_n, pm_pu_s, pm_wt, List.take_succ_cons, List.take_zero, List.take_nil, List.drop_succ_cons, List.drop_zero, List.reverse_cons, List.reverse_nil, List.nil_append, List.cons_append, List.length_cons, List.length_nil, true_and, and_true, true_implies, tn_l, tn_0, Int.reduceToNat, Int.reduceLE, Int.reduceLT, Int.reduceEq, Int.reduceAdd, Int.reduceSub, Int.reduceMul, Int.reduceNeg, Nat.reduceAdd, Nat.reduceLeDiff, Nat.reduceEqDiff, Nat.reduceSub, Option.some.injEq, Sum.inl.injEq, Sum.inr.injEq, or_true, true_or, reduceCtorEq, ne_eq, not_false_eq_true, not_true_eq_false, false_implies, implies_true, false_and, and_false, false_or, or_false, if_true, if_false, fr_131_0 hf, fr_131_1 hf, fr_131_5 hf, fr_131_7 hf, fr_131_8 hf, fr_131_9 hf, fr_131_12 hf, fr_131_13 hf, fr_131_14 hf, fr_131_15 hf, fr_131_19 hf, fr_131_20 hf, fr_131_21 hf, fr_131_22 hf, fr_131_23 hf, fr_131_24 hf, fg_131 hf, fv_131 hf, fb_132 hf, fb_133 hf, fb_134 hf, fb_135 hf, fb_136 hf, fb_137 hf, fb_138 hf, fb_139 hf, fb_140 hf, fb_141 hf, fb_142 hf, fb_143 hf, fb_144 hf, fb_145 hf, fb_146 hf, fb_147 hf]
        have bd := rfX_bd hSW w2
        have hI1 : weI V n (nst L) p s W1 := by
          obtain ⟨y1, y2, y3, y4⟩ := tfr_eq t1
          refine ⟨wfr_tf w1 t1, tfr_X t1 w2, by rw [y4]; exact w3, ?_, by rw [y4]; exact w5⟩
          rw [t1.1 141 (by decide) (by decide) (by decide) (by decide)]; exact w4
        refine fin W1 hI1 ?_
        rw [(tfr_eq t1).2.2.2]
        refine cl_stop w3 hp hs n1 (fun t ht hQ q hq hP hb hne => ?_) (fun q hq hP t ht hQ hb => ?_) n4 ?_
        · have := n2 t ht hQ q hq hP ((w4 q t hq ht).2 hb) hne
          have := (bd.1 q t hq ht).1
          omega
        · have a1 := n3 q hq hP t ht hQ ((w4 q t hq ht).2 hb)
          have a2 := (w3.1.1 q hq t ht).2
          rw [z2] at a1
          omega
        · rcases n5 with n5 | n5
          · refine Or.inl fun t ht hQ => ?_
            have a1 := n5 t ht hQ
            have a2 := w3.1.2.2 t ht
            have a3 := w2.2.1 t ht
            rw [z3] at a1
            omega
          · refine Or.inr fun t ht hQ => ?_
            have a1 := n5 t ht hQ
            have a3 := w2.2.1 t ht
            have a4 := (bd.2.1 t ht).1
            omega
/-- behind weave -/
def weR (V V2 : Nat → Nat → Int) (n : Nat) : Prop := rf0 V2 n (mmL (V 132) 0 n) ∧ V2 132 = V 132 ∧ clo (V 132) n (xR V2) ∧ rfX V2 n (nS (V 132) n 0)
def weQ (V : Nat → Nat → Int) (R : Nat → Nat → Option Nat) (T : List (Nat × Nat)) (n : Nat) (r : Option pm_V) (h2 : pm_H) : Prop := ∃ V2, h2 = (V2, R, T) ∧ rfr V V2 ∧ ((r = some (.inl 0) ∧ ¬ hal (V 132) n (V 132 0) 0) ∨ (r = some (.inl 1) ∧ hal (V 132) n (V 132 0) 0 ∧ weR V V2 n))
theorem m_weave (hd : 9 ≤ d) (hf : fx R T) (hw : wf (V 132) n) : pm_ok d 150 [.inr (.inr (some 131))] (V, R, T) (weQ V R T n) := by
  obtain ⟨d, rfl⟩ : ∃ k, d = k + 1 := ⟨d - 1, by omega⟩
  refine pm_ok_iff.mpr ⟨(Nat.le_of_ble_eq_true rfl), ?_⟩
  show pm_w d 150 0 [some (.inr (.inr (some 131))), none, none] [] (V, R, T) _
  have hn := hw.1
  simp only [ux_150_0, ux_150_1, ux_150_7, ux_150_8, ux_150_9, ux_150_10, ux_150_12, ux_150_15, ux_150_18, ux_150_19, ux_150_22, ux_150_23, ux_150_24, ux_150_25, ux_150_28, ux_150_31, ux_150_32, ux_150_34, ux_150_35, ux_150_38, ux_150_39, ux_150_40, ux_150_43, ux_150_44, ux_150_46, ux_150_47, ux_150_50, ux_150_54, ux_150_55, ux_150_56, ux_150_59, ux_150_60, ux_150_61, ux_150_64, ux_150_65, ux_150_66, ux_150_67, ux_150_73, ux_150_74, ux_150_75, ux_150_76, ux_150_83, ux_150_86, ux_150_88, ux_150_89, ux_150_90, ux_150_91, ux_150_92, ux_150_93, ux_150_97, ux_150_100, ux_150_103, ux_150_106, ux_150_107, pm_i_c, pm_l_c, pm_q_c, pm_r_c, pm_li_0, pm_li_s, pm_ll_0, pm_ll_s, pm_lq_0, pm_lq_s, pm_s1, pm_s2, pm_kl, pm_wI, pm_wR, pm_pu_n, pm_pu_s, pm_wt, List.take_succ_cons, List.take_zero, List.take_nil, List.drop_succ_cons, List.drop_zero, List.reverse_cons, List.reverse_nil, List.nil_append, List.cons_append, List.length_cons, List.length_nil, true_and, and_true, true_implies, tn_l, tn_0, Int.reduceToNat, Int.reduceLE, Int.reduceLT, Int.reduceEq, Int.reduceAdd, Int.reduceSub, Int.reduceMul, Int.reduceNeg, Nat.reduceAdd, Nat.reduceLeDiff, Nat.reduceEqDiff, Nat.reduceSub, Option.some.injEq, Sum.inl.injEq, Sum.inr.injEq, or_true, true_or, reduceCtorEq, ne_eq, not_false_eq_true, not_true_eq_false, false_implies, implies_true, false_and, and_false, false_or, or_false, if_true, if_false, fr_131_0 hf, fr_131_1 hf, fr_131_5 hf, fr_131_7 hf, fr_131_8 hf, fr_131_9 hf, fr_131_12 hf, fr_131_13 hf, fr_131_14 hf, fr_131_15 hf, fr_131_19 hf, fr_131_20 hf, fr_131_21 hf, fr_131_22 hf, fr_131_23 hf, fr_131_24 hf, fg_131 hf, fv_131 hf, fb_132 hf, fb_133 hf, fb_134 hf, fb_135 hf, fb_136 hf, fb_137 hf, fb_138 hf, fb_139 hf, fb_140 hf, fb_141 hf, fb_142 hf, fb_143 hf, fb_144 hf, fb_145 hf, fb_146 hf, fb_147 hf]
  refine pm_ok_mono (m_doFitNow (d := d) (by omega) hf hw) ?_
  rintro r h2 ⟨V1, rfl, hI, ⟨rfl, a⟩ | ⟨rfl, a⟩⟩
  · rw [pm_pu_s, ux_150_4]
    simp only [ux_150_0, ux_150_1, ux_150_7, ux_150_8, ux_150_9, ux_150_10, ux_150_12, ux_150_15, ux_150_18, ux_150_19, ux_150_22, ux_150_23, ux_150_24, ux_150_25, ux_150_28, ux_150_31, ux_150_32, ux_150_34, ux_150_35, ux_150_38, ux_150_39, ux_150_40, ux_150_43, ux_150_44, ux_150_46, ux_150_47, ux_150_50, ux_150_54, ux_150_55, ux_150_56, ux_150_59, ux_150_60, ux_150_61, ux_150_64, ux_150_65, ux_150_66, ux_150_67, ux_150_73, ux_150_74, ux_150_75, ux_150_76, ux_150_83, ux_150_86, ux_150_88, ux_150_89, ux_150_90, ux_150_91, ux_150_92, ux_150_93, ux_150_97, ux_150_100, ux_150_103, ux_150_106, ux_150_107, pm_i_c, pm_l_c, pm_q_c, pm_r_c, pm_li_0, pm_li_s, pm_ll_0, pm_ll_s, pm_lq_0, pm_lq_s, pm_s1, pm_s2, pm_kl, pm_wI, pm_wR, pm_pu_n, pm_pu_s, pm_wt, List.take_succ_cons, List.take_zero, List.take_nil, List.drop_succ_cons, List.drop_zero, List.reverse_cons, List.reverse_nil, List.nil_append, List.cons_append, List.length_cons, List.length_nil, true_and, and_true, true_implies, tn_l, tn_0, Int.reduceToNat, Int.reduceLE, Int.reduceLT, Int.reduceEq, Int.reduceAdd, Int.reduceSub, Int.reduceMul, Int.reduceNeg, Nat.reduceAdd, Nat.reduceLeDiff, Nat.reduceEqDiff, Nat.reduceSub, Option.some.injEq, Sum.inl.injEq, Sum.inr.injEq, or_true, true_or, reduceCtorEq, ne_eq, not_false_eq_true, not_true_eq_false, false_implies, implies_true, false_and, and_false, false_or, or_false, if_true, if_false, fr_131_0 hf, fr_131_1 hf, fr_131_5 hf, fr_131_7 hf, fr_131_8 hf, fr_131_9 hf, fr_131_12 hf, fr_131_13 hf, fr_131_14 hf, fr_131_15 hf, fr_131_19 hf, fr_131_20 hf, fr_131_21 hf, fr_131_22 hf, fr_131_23 hf, fr_131_24 hf, fg_131 hf, fv_131 hf, fb_132 hf, fb_133 hf, fb_134 hf, fb_135 hf, fb_136 hf, fb_137 hf, fb_138 hf, fb_139 hf, fb_140 hf, fb_141 hf, fb_142 hf, fb_143 hf, fb_144 hf, fb_145 hf, fb_146 hf, fb_147 hf]
    obtain ⟨i1, i2, i3, i4, i5, i6, i7⟩ := id hI
    generalize hLL : mmL (V 132) 0 n = L at i7
    have hSS : nS (V 132) n 0 = nst L := by unfold nS; rw [hLL]
    have hS := i7.1
    have hX := i7.2.1
    have hl := hS.2.1.2.1
    have hnS : nst L ≤ 47 := by unfold nst; omega
    have hA2 : V1 132 2 = n := by rw [i2]; exact hw.2.1
    obtain ⟨m1, m2, m3⟩ := rf_net (A := V 132) (dl := 0) (n := n) (V := V1) i2 (by rw [hLL]; exact hS) i3 i4 i5 i6
    rw [hSS] at m2 m3
    have hfl : fl n (nst L) (lR V1) (cR V1) (rR V1) (xR V1) := by
      refine ⟨hX.2.2, ?_⟩
      have e := (hal_iff (dfI_net hI)).mp a
      rw [hSS] at e
      refine sm_eqs hX.2.2.2.1 ?_
      have e1 : sm (fun j => lR V1 j) n = sm (nL (V 132) 1) n := sm_congr m1
      show sm (fun j => lR V1 j) n ≤ tot n (nst L) (xR V1)
      rw [e1, e]
      exact Int.le_refl _
    -- the end
    have fin : ∀ W, weI V1 n (nst L) n 0 W → weQ V R T n (some (.inl 1)) (W, R, T) := by
      intro W ⟨w1, w2, w3, w4, w5⟩
      have e2 : W 132 = V1 132 := w1.1 132 (by decide) (by decide) (by decide) (by decide) (by decide) (by decide) (by decide)
      refine ⟨W, rfl, rfr_tr i1 (fun q j w => ?_), Or.inr ⟨rfl, a, ⟨?_, e2.trans i2, ⟨?_, ?_⟩, by rw [hSS]; exact w2⟩⟩⟩
      · by_cases c : q = 131
        · subst c; exact w1.2 j (by omega)
        · rw [w1.1 q c (by omega) (by omega) (by omega) (by omega) (by omega) (by omega)]
      · have := wfr_S w1 hS
        rw [hLL]
        exact ⟨this.1, this.2.1, this.2.2.1, this.2.2.2.1, this.2.2.2.2.1⟩
      · rw [hSS]; exact fl_congr m1 m2 m3 (fun _ _ _ _ => rfl) w3
      · rw [hSS]; exact lexU_congr m1 m2 m3 w5
    -- the two loops
    have k2 : ∀ W, weI V1 n (nst L) 0 0 W → pm_w d 150 33 [some (.inr (.inr (some 131))), some (.inl 0), none] [] (W, R, T) (weQ V R T n) := by
      intro W w1
      refine pm_up0 (fun p => ∀ W y, weI V1 n (nst L) p 0 W → pm_w d 150 33 [some (.inr (.inr (some 131))), some (.inl (p : Int)), y] [] (W, R, T) (weQ V R T n)) n ?_ ?_ W none w1
      · intro W y w1
        have e2 : W 132 2 = n := by rw [w1.1.1 132 (by decide) (by decide) (by decide) (by decide) (by decide) (by decide) (by decide)]; exact hA2
        rw [ux_150_33]
        simp only [ux_150_0, ux_150_1, ux_150_7, ux_150_8, ux_150_9, ux_150_10, ux_150_12, ux_150_15, ux_150_18, ux_150_19, ux_150_22, ux_150_23, ux_150_24, ux_150_25, ux_150_28, ux_150_31, ux_150_32, ux_150_34, ux_150_35, ux_150_38, ux_150_39, ux_150_40, ux_150_43, ux_150_44, ux_150_46, ux_150_47, ux_150_50, ux_150_54, ux_150_55, ux_150_56, ux_150_59, ux_150_60, ux_150_61, ux_150_64, ux_150_65, ux_150_66, ux_150_67, ux_150_73, ux_150_74, ux_150_75, ux_150_76, ux_150_83, ux_150_86, ux_150_88, ux_150_89, ux_150_90, ux_150_91, ux_150_92, ux_150_93, ux_150_97, ux_150_100, ux_150_103, ux_150_106, ux_150_107, pm_i_c, pm_l_c, pm_q_c, pm_r_c, pm_li_0, pm_li_s, pm_ll_0, pm_ll_s, pm_lq_0, pm_lq_s, pm_s1, pm_s2, pm_kl, pm_wI, pm_wR, pm_pu_n, pm_pu_s, pm_wt, List.take_succ_cons, List.take_zero, List.take_nil, List.drop_succ_cons, List.drop_zero, List.reverse_cons, List.reverse_nil, List.nil_append, List.cons_append, List.length_cons, List.length_nil, true_and, and_true, true_implies, tn_l, tn_0, Int.reduceToNat, Int.reduceLE, Int.reduceLT, Int.reduceEq, Int.reduceAdd, Int.reduceSub, Int.reduceMul, Int.reduceNeg, Nat.reduceAdd, Nat.reduceLeDiff, Nat.reduceEqDiff, Nat.reduceSub, Option.some.injEq, Sum.inl.injEq, Sum.inr.injEq, or_true, true_or, reduceCtorEq, ne_eq, not_false_eq_true, not_true_eq_false, false_implies, implies_true, false_and, and_false, false_or, or_false, if_true, if_false, fr_131_0 hf, fr_131_1 hf, fr_131_5 hf, fr_131_7 hf, fr_131_8 hf, fr_131_9 hf, fr_131_12 hf, fr_131_13 hf, fr_131_14 hf, fr_131_15 hf, fr_131_19 hf, fr_131_20 hf, fr_131_21 hf, fr_131_22 hf, fr_131_23 hf, fr_131_24 hf, fg_131 hf, fv_131 hf, fb_132 hf, fb_133 hf, fb_134 hf, fb_135 hf, fb_136 hf, fb_137 hf, fb_138 hf, fb_139 hf, fb_140 hf, fb_141 hf, fb_142 hf, fb_143 hf, fb_144 hf, fb_145 hf, fb_146 hf, fb_147 hf, e2]
        exact ⟨fun _ => fin W w1, fun z => absurd (Int.le_refl _) z⟩
      · intro p hp ih W y w1
        have e2 : W 132 2 = n := by rw [w1.1.1 132 (by decide) (by decide) (by decide) (by decide) (by decide) (by decide) (by decide)]; exact hA2
        rw [ux_150_33]
        simp only [ux_150_0, ux_150_1, ux_150_7, ux_150_8, ux_150_9, ux_150_10, ux_150_12, ux_150_15, ux_150_18, ux_150_19, ux_150_22, ux_150_23, ux_150_24, ux_150_25, ux_150_28, ux_150_31, ux_150_32, ux_150_34, ux_150_35, ux_150_38, ux_150_39, ux_150_40, ux_150_43, ux_150_44, ux_150_46, ux_150_47, ux_150_50, ux_150_54, ux_150_55, ux_150_56, ux_150_59, ux_150_60, ux_150_61, ux_150_64, ux_150_65, ux_150_66, ux_150_67, ux_150_73, ux_150_74, ux_150_75, ux_150_76, ux_150_83, ux_150_86, ux_150_88, ux_150_89, ux_150_90, ux_150_91, ux_150_92, ux_150_93, ux_150_97, ux_150_100, ux_150_103, ux_150_106, ux_150_107, pm_i_c, pm_l_c, pm_q_c, pm_r_c, pm_li_0, pm_li_s, pm_ll_0, pm_ll_s, pm_lq_0, pm_lq_s, pm_s1, pm_s2, pm_kl, pm_wI, pm_wR, pm_pu_n, pm_pu_s, pm_wt, List.take_succ_cons, List.take_zero, List.take_nil, List.drop_succ_cons, List.drop_zero, List.reverse_cons, List.reverse_nil, List.nil_append, List.cons_append, List.length_cons, List.length_nil, true_and, and_true, true_implies, tn_l, tn_0, Int.reduceToNat, Int.reduceLE, Int.reduceLT, Int.reduceEq, Int.reduceAdd, Int.reduceSub, Int.reduceMul, Int.reduceNeg, Nat.reduceAdd, Nat.reduceLeDiff, Nat.reduceEqDiff, Nat.reduceSub, Option.some.injEq, Sum.inl.injEq, Sum.inr.injEq, or_true, true_or, reduceCtorEq, ne_eq, not_false_eq_true, not_true_eq_false, false_implies, implies_true, false_and, and_false, false_or, or_false, if_true, if_false, fr_131_0 hf, fr_131_1 hf, fr_131_5 hf, fr_131_7 hf, fr_131_8 hf, fr_131_9 hf, fr_131_12 hf, fr_131_13 hf, fr_131_14 hf, fr_131_15 hf, fr_131_19 hf, fr_131_20 hf, fr_131_21 hf, fr_131_22 hf, fr_131_23 hf, fr_131_24 hf, fg_131 hf, fv_131 hf, fb_132 hf, fb_133 hf, fb_134 hf, fb_135 hf, fb_136 hf, fb_137 hf, fb_138 hf, fb_139 hf, fb_140 hf, fb_141 hf, fb_142 hf, fb_143 hf, fb_144 hf, fb_145 hf, fb_146 hf, fb_147 hf, e2]
        refine ⟨fun z => by omega, fun _ => ?_⟩
        refine pm_up0 (fun s => ∀ W, weI V1 n (nst L) p s W → pm_w d 150 45 [some (.inr (.inr (some 131))), some (.inl (p : Int)), some (.inl (s : Int))] [] (W, R, T) (weQ V R T n)) (nst L) ?_ ?_ W w1
        · intro W w1
          rw [ux_150_45]
          simp only [ux_150_0, ux_150_1, ux_150_7, ux_150_8, ux_150_9, ux_150_10, ux_150_12, ux_150_15, ux_150_18, ux_150_19, ux_150_22, ux_150_23, ux_150_24, ux_150_25, ux_150_28, ux_150_31, ux_150_32, ux_150_34, ux_150_35, ux_150_38, ux_150_39, ux_150_40, ux_150_43, ux_150_44, ux_150_46, ux_150_47, ux_150_50, ux_150_54, ux_150_55, ux_150_56, ux_150_59, ux_150_60, ux_150_61, ux_150_64, ux_150_65, ux_150_66, ux_150_67, ux_150_73, ux_150_74, ux_150_75, ux_150_76, ux_150_83, ux_150_86, ux_150_88, ux_150_89, ux_150_90, ux_150_91, ux_150_92, ux_150_93, ux_150_97, ux_150_100, ux_150_103, ux_150_106, ux_150_107, pm_i_c, pm_l_c, pm_q_c, pm_r_c, pm_li_0, pm_li_s, pm_ll_0, pm_ll_s, pm_lq_0, pm_lq_s, pm_s1, pm_s2, pm_kl, pm_wI, pm_wR, pm_pu_n, pm_pu_s, pm_wt, List.take_succ_cons, List.take_zero, List.take_nil, List.drop_succ_cons, List.drop_zero, List.reverse_cons, List.reverse_nil, List.nil_append, List.cons_append, List.length_cons, List.length_nil, true_and, and_true, true_implies, tn_l, tn_0, Int.reduceToNat, Int.reduceLE, Int.reduceLT, Int.reduceEq, Int.reduceAdd, Int.reduceSub, Int.reduceMul, Int.reduceNeg, Nat.reduceAdd, Nat.reduceLeDiff, Nat.reduceEqDiff, Nat.reduceSub, Option.some.injEq, Sum.inl.injEq, Sum.inr.injEq, or_true, true_or, reduceCtorEq, ne_eq, not_false_eq_true, not_true_eq_false, false_implies, implies_true, false_and, and_false, false_or, or_false, if_true, if_false, fr_131_0 hf, fr_131_1 hf, fr_131_5 hf, fr_131_7 hf, fr_131_8 hf, fr_131_9 hf, fr_131_12 hf, fr_131_13 hf, fr_131_14 hf, fr_131_15 hf, fr_131_19 hf, fr_131_20 hf, fr_131_21 hf, fr_131_22 hf, fr_131_23 hf, fr_131_24 hf, fg_131 hf, fv_131 hf, fb_132 hf, fb_133 hf, fb_134 hf, fb_135 hf, fb_136 hf, fb_137 hf, fb_138 hf, fb_139 hf, fb_140 hf, fb_141 hf, fb_142 hf, fb_143 hf, fb_144 hf, fb_145 hf, fb_146 hf, fb_147 hf, pm_ok_ev (se_stretches (d := d) (V := W) (by omega) hf (wfr_S w1.1 hS) sfr_rf)]
          refine ⟨fun _ => ⟨by unfold pm_I32; omega, ih W _ ⟨w1.1, w1.2.1, w1.2.2.1, fun q t hq ht => ?_, lexU_p w1.2.2.2.2⟩⟩, fun z => absurd (Int.le_refl _) z⟩
          have := w1.2.2.2.1 q t hq ht
          unfold bef at *
          exact ⟨fun z => this.1 (by omega), fun z => this.2 (by omega)⟩
        · intro s hs ih2 W w1
          rw [ux_150_45]
          simp only [ux_150_0, ux_150_1, ux_150_7, ux_150_8, ux_150_9, ux_150_10, ux_150_12, ux_150_15, ux_150_18, ux_150_19, ux_150_22, ux_150_23, ux_150_24, ux_150_25, ux_150_28, ux_150_31, ux_150_32, ux_150_34, ux_150_35, ux_150_38, ux_150_39, ux_150_40, ux_150_43, ux_150_44, ux_150_46, ux_150_47, ux_150_50, ux_150_54, ux_150_55, ux_150_56, ux_150_59, ux_150_60, ux_150_61, ux_150_64, ux_150_65, ux_150_66, ux_150_67, ux_150_73, ux_150_74, ux_150_75, ux_150_76, ux_150_83, ux_150_86, ux_150_88, ux_150_89, ux_150_90, ux_150_91, ux_150_92, ux_150_93, ux_150_97, ux_150_100, ux_150_103, ux_150_106, ux_150_107, pm_i_c, pm_l_c, pm_q_c, pm_r_c, pm_li_0, pm_li_s, pm_ll_0, pm_ll_s, pm_lq_0, pm_lq_s, pm_s1, pm_s2, pm_kl, pm_wI, pm_wR, pm_pu_n, pm_pu_s, pm_wt, List.take_succ_cons, List.take_zero, List.take_nil, List.drop_succ_cons, List.drop_zero, List.reverse_cons, List.reverse_nil, List.nil_append, List.cons_append, List.length_cons, List.length_nil, true_and, and_true, true_implies, tn_l, tn_0, Int.reduceToNat, Int.reduceLE, Int.reduceLT, Int.reduceEq, Int.reduceAdd, Int.reduceSub, Int.reduceMul, Int.reduceNeg, Nat.reduceAdd, Nat.reduceLeDiff, Nat.reduceEqDiff, Nat.reduceSub, Option.some.injEq, Sum.inl.injEq, Sum.inr.injEq, or_true, true_or, reduceCtorEq, ne_eq, not_false_eq_true, not_true_eq_false, false_implies, implies_true, false_and, and_false, false_or, or_false, if_true, if_false, fr_131_0 hf, fr_131_1 hf, fr_131_5 hf, fr_131_7 hf, fr_131_8 hf, fr_131_9 hf, fr_131_12 hf, fr_131_13 hf, fr_131_14 hf, fr_131_15 hf, fr_131_19 hf, fr_131_20 hf, fr_131_21 hf, fr_131_22 hf, fr_131_23 hf, fr_131_24 hf, fg_131 hf, fv_131 hf, fb_132 hf, fb_133 hf, fb_134 hf, fb_135 hf, fb_136 hf, fb_137 hf, fb_138 hf, fb_139 hf, fb_140 hf, fb_141 hf, fb_142 hf, fb_143 hf, fb_144 hf, fb_145 hf, fb_146 hf, fb_147 hf, pm_ok_ev (se_stretches (d := d) (V := W) (by omega) hf (wfr_S w1.1 hS) sfr_rf)]
          refine ⟨fun z => by omega, fun _ => we_cell (by omega) hf hS p s hp hs (fun W w1 => ?_) (cR V1 p s - xR W p s).toNat W w1 (by omega)⟩
          rw [ux_150_94]
          simp only [ux_150_0, ux_150_1, ux_150_7, ux_150_8, ux_150_9, ux_150_10, ux_150_12, ux_150_15, ux_150_18, ux_150_19, ux_150_22, ux_150_23, ux_150_24, ux_150_25, ux_150_28, ux_150_31, ux_150_32, ux_150_34, ux_150_35, ux_150_38, ux_150_39, ux_150_40, ux_150_43, ux_150_44, ux_150_46, ux_150_47, ux_150_50, ux_150_54, ux_150_55, ux_150_56, ux_150_59, ux_150_60, ux_150_61, ux_150_64, ux_150_65, ux_150_66, ux_150_67, ux_150_73, ux_150_74, ux_150_75, ux_150_76, ux_150_83, ux_150_86, ux_150_88, ux_150_89, ux_150_90, ux_150_91, ux_150_92, ux_150_93, ux_150_97, ux_150_100, ux_150_103, ux_150_106, ux_150_107, pm_i_c, pm_l_c, pm_q_c, pm_r_c, pm_li_0, pm_li_s, pm_ll_0, pm_ll_s, pm_lq_0, pm_lq_s, pm_s1, pm_s2, pm_kl, pm_wI, pm_wR, pm_pu_n, pm_pu_s, pm_wt, List.take_succ_cons, List.take_zero, List.take_nil, List.drop_succ_cons, List.drop_zero, List.reverse_cons, List.reverse_nil, List.nil_append, List.cons_append, List.length_cons, List.length_nil, true_and, and_true, true_implies, tn_l, tn_0, Int.reduceToNat, Int.reduceLE, Int.reduceLT, Int.reduceEq, Int.reduceAdd, Int.reduceSub, Int.reduceMul, Int.reduceNeg, Nat.reduceAdd, Nat.reduceLeDiff, Nat.reduceEqDiff, Nat.reduceSub, Option.some.injEq, Sum.inl.injEq, Sum.inr.injEq, or_true, true_or, reduceCtorEq, ne_eq, not_false_eq_true, not_true_eq_false, false_implies, implies_true, false_and, and_false, false_or, or_false, if_true, if_false, fr_131_0 hf, fr_131_1 hf, fr_131_5 hf, fr_131_7 hf, fr_131_8 hf, fr_131_9 hf, fr_131_12 hf, fr_131_13 hf, fr_131_14 hf, fr_131_15 hf, fr_131_19 hf, fr_131_20 hf, fr_131_21 hf, fr_131_22 hf, fr_131_23 hf, fr_131_24 hf, fg_131 hf, fv_131 hf, fb_132 hf, fb_133 hf, fb_134 hf, fb_135 hf, fb_136 hf, fb_137 hf, fb_138 hf, fb_139 hf, fb_140 hf, fb_141 hf, fb_142 hf, fb_143 hf, fb_144 hf, fb_145 hf, fb_146 hf, fb_147 hf]
          exact ⟨by unfold pm_I32; omega, ih2 W w1⟩
    refine pm_up0 (fun k => ∀ W, (∀ q, q ≠ 141 → W q = V1 q) → (∀ j, j < k → W 141 j = 0) → pm_w d 150 11 [some (.inr (.inr (some 131))), some (.inl (k : Int)), none] [] (W, R, T) (weQ V R T n)) 768 ?_ ?_ V1 (fun _ _ => rfl) (fun j hj => by omega)
    · intro W w1 w2
      rw [ux_150_11]
      simp only [ux_150_0, ux_150_1, ux_150_7, ux_150_8, ux_150_9, ux_150_10, ux_150_12, ux_150_15, ux_150_18, ux_150_19, ux_150_22, ux_150_23, ux_150_24, ux_150_25, ux_150_28, ux_150_31, ux_150_32, ux_150_34, ux_150_35, ux_150_38, ux_150_39, ux_150_40, ux_150_43, ux_150_44, ux_150_46, ux_150_47, ux_150_50, ux_150_54, ux_150_55, ux_150_56, ux_150_59, ux_150_60, ux_150_61, ux_150_64, ux_150_65, ux_150_66, ux_150_67, ux_150_73, ux_150_74, ux_150_75, ux_150_76, ux_150_83, ux_150_86, ux_150_88, ux_150_89, ux_150_90, ux_150_91, ux_150_92, ux_150_93, ux_150_97, ux_150_100, ux_150_103, ux_150_106, ux_150_107, pm_i_c, pm_l_c, pm_q_c, pm_r_c, pm_li_0, pm_li_s, pm_ll_0, pm_ll_s, pm_lq_0, pm_lq_s, pm_s1, pm_s2, pm_kl, pm_wI, pm_wR, pm_pu_n, pm_pu_s, pm_wt, List.take_succ_cons, List.take_zero, List.take_nil, List.drop_succ_cons, List.drop_zero, List.reverse_cons, List.reverse_nil, List.nil_append, List.cons_append, List.length_cons, List.length_nil, true_and, and_true, true_implies, tn_l, tn_0, Int.reduceToNat, Int.reduceLE, Int.reduceLT, Int.reduceEq, Int.reduceAdd, Int.reduceSub, Int.reduceMul, Int.reduceNeg, Nat.reduceAdd, Nat.reduceLeDiff, Nat.reduceEqDiff, Nat.reduceSub, Option.some.injEq, Sum.inl.injEq, Sum.inr.injEq, or_true, true_or, reduceCtorEq, ne_eq, not_false_eq_true, not_true_eq_false, false_implies, implies_true, false_and, and_false, false_or, or_false, if_true, if_false, fr_131_0 hf, fr_131_1 hf, fr_131_5 hf, fr_131_7 hf, fr_131_8 hf, fr_131_9 hf, fr_131_12 hf, fr_131_13 hf, fr_131_14 hf, fr_131_15 hf, fr_131_19 hf, fr_131_20 hf, fr_131_21 hf, fr_131_22 hf, fr_131_23 hf, fr_131_24 hf, fg_131 hf, fv_131 hf, fb_132 hf, fb_133 hf, fb_134 hf, fb_135 hf, fb_136 hf, fb_137 hf, fb_138 hf, fb_139 hf, fb_140 hf, fb_141 hf, fb_142 hf, fb_143 hf, fb_144 hf, fb_145 hf, fb_146 hf, fb_147 hf]
      have x1 : xR W = xR V1 := xR_fr (w1 135 (by decide))
      have f1 : wfr V1 W := ⟨fun q a b c e f g i => w1 q i, fun j hj => by rw [w1 131 (by decide)]⟩
      refine ⟨fun _ => k2 W ⟨f1, ?_, by rw [x1]; exact hfl, fun q t hq ht => ⟨fun z => ?_, fun _ => w2 _ (by omega)⟩, lexU_z⟩, fun z => absurd (by decide) z⟩
      · obtain ⟨v1, v2, v3⟩ := wfr_eq f1
        unfold rfX
        rw [x1, v1, v2, v3, w1 136 (by decide), w1 137 (by decide)]
        exact hX
      · unfold bef at z; omega
    · intro k hk ih W w1 w2
      rw [ux_150_11]
      simp only [ux_150_0, ux_150_1, ux_150_7, ux_150_8, ux_150_9, ux_150_10, ux_150_12, ux_150_15, ux_150_18, ux_150_19, ux_150_22, ux_150_23, ux_150_24, ux_150_25, ux_150_28, ux_150_31, ux_150_32, ux_150_34, ux_150_35, ux_150_38, ux_150_39, ux_150_40, ux_150_43, ux_150_44, ux_150_46, ux_150_47, ux_150_50, ux_150_54, ux_150_55, ux_150_56, ux_150_59, ux_150_60, ux_150_61, ux_150_64, ux_150_65, ux_150_66, ux_150_67, ux_150_73, ux_150_74, ux_150_75, ux_150_76, ux_150_83, ux_150_86, ux_150_88, ux_150_89, ux_150_90, ux_150_91, ux_150_92, ux_150_93, ux_150_97, ux_150_100, ux_150_103, ux_150_106, ux_150_107, pm_i_c, pm_l_c, pm_q_c, pm_r_c, pm_li_0, pm_li_s, pm_ll_0, pm_ll_s, pm_lq_0, pm_lq_s, pm_s1, pm_s2, pm_kl, pm_wI, pm_wR, pm_pu_n, pm_pu_s, pm_wt, List.take_succ_cons, List.take_zero, List.take_nil, List.drop_succ_cons, List.drop_zero, List.reverse_cons, List.reverse_nil, List.nil_append, List.cons_append, List.length_cons, List.length_nil, true_and, and_true, true_implies, tn_l, tn_0, Int.reduceToNat, Int.reduceLE, Int.reduceLT, Int.reduceEq, Int.reduceAdd, Int.reduceSub, Int.reduceMul, Int.reduceNeg, Nat.reduceAdd, Nat.reduceLeDiff, Nat.reduceEqDiff, Nat.reduceSub, Option.some.injEq, Sum.inl.injEq, Sum.inr.injEq, or_true, true_or, reduceCtorEq, ne_eq, not_false_eq_true, not_true_eq_false, false_implies, implies_true, false_and, and_false, false_or, or_false, if_true, if_false, fr_131_0 hf, fr_131_1 hf, fr_131_5 hf, fr_131_7 hf, fr_131_8 hf, fr_131_9 hf, fr_131_12 hf, fr_131_13 hf, fr_131_14 hf, fr_131_15 hf, fr_131_19 hf, fr_131_20 hf, fr_131_21 hf, fr_131_22 hf, fr_131_23 hf, fr_131_24 hf, fg_131 hf, fv_131 hf, fb_132 hf, fb_133 hf, fb_134 hf, fb_135 hf, fb_136 hf, fb_137 hf, fb_138 hf, fb_139 hf, fb_140 hf, fb_141 hf, fb_142 hf, fb_143 hf, fb_144 hf, fb_145 hf, fb_146 hf, fb_147 hf]
      refine ⟨fun z => by omega, fun _ => ⟨by omega, by unfold pm_I32; omega, ih _ (fun q hq => by rw [pm_up_fr hq]; exact w1 q hq) ?_⟩⟩
      rw [pm_up_row]
      intro j hj
      dsimp only
      split
      · rfl
      · exact w2 j (by omega)
  · rw [pm_pu_s, ux_150_4]
    simp only [ux_150_0, ux_150_1, ux_150_7, ux_150_8, ux_150_9, ux_150_10, ux_150_12, ux_150_15, ux_150_18, ux_150_19, ux_150_22, ux_150_23, ux_150_24, ux_150_25, ux_150_28, ux_150_31, ux_150_32, ux_150_34, ux_150_35, ux_150_38, ux_150_39, ux_150_40, ux_150_43, ux_150_44, ux_150_46, ux_150_47, ux_150_50, ux_150_54, ux_150_55, ux_150_56, ux_150_59, ux_150_60, ux_150_61, ux_150_64, ux_150_65, ux_150_66, ux_150_67, ux_150_73, ux_150_74, ux_150_75, ux_150_76, ux_150_83, ux_150_86, ux_150_88, ux_150_89, ux_150_90, ux_150_91, ux_150_92, ux_150_93, ux_150_97, ux_150_100, ux_150_103, ux_150_106, ux_150_107, pm_i_c, pm_l_c, pm_q_c, pm_r_c, pm_li_0, pm_li_s, pm_ll_0, pm_ll_s, pm_lq_0, pm_lq_s, pm_s1, pm_s2, pm_kl, pm_wI, pm_wR, pm_pu_n, pm_pu_s, pm_wt, List.take_succ_cons, List.take_zero, List.take_nil, List.drop_succ_cons, List.drop_zero, List.reverse_cons, List.reverse_nil, List.nil_append, List.cons_append, List.length_cons, List.length_nil, true_and, and_true, true_implies, tn_l, tn_0, Int.reduceToNat, Int.reduceLE, Int.reduceLT, Int.reduceEq, Int.reduceAdd, Int.reduceSub, Int.reduceMul, Int.reduceNeg, Nat.reduceAdd, Nat.reduceLeDiff, Nat.reduceEqDiff, Nat.reduceSub, Option.some.injEq, Sum.inl.injEq, Sum.inr.injEq, or_true, true_or, reduceCtorEq, ne_eq, not_false_eq_true, not_true_eq_false, false_implies, implies_true, false_and, and_false, false_or, or_false, if_true, if_false, fr_131_0 hf, fr_131_1 hf, fr_131_5 hf, fr_131_7 hf, fr_131_8 hf, fr_131_9 hf, fr_131_12 hf, fr_131_13 hf, fr_131_14 hf, fr_131_15 hf, fr_131_19 hf, fr_131_20 hf, fr_131_21 hf, fr_131_22 hf, fr_131_23 hf, fr_131_24 hf, fg_131 hf, fv_131 hf, fb_132 hf, fb_133 hf, fb_134 hf, fb_135 hf, fb_136 hf, fb_137 hf, fb_138 hf, fb_139 hf, fb_140 hf, fb_141 hf, fb_142 hf, fb_143 hf, fb_144 hf, fb_145 hf, fb_146 hf, fb_147 hf]
    exact ⟨V1, rfl, hI.1, Or.inl ⟨rfl, a⟩⟩
end
