/-! THE CLASS: a laying at b -/
def lyq (R : Nat → Nat → Option Nat) (T : List (Nat × Nat)) (b : Nat) : Prop := T[b]? = some (4, 11) ∧ (R b 3 = some (b + 1) ∧ R b 4 = some (b + 2) ∧ R b 5 = some (b + 3) ∧ R b 6 = some (b + 16) ∧ R b 7 = some (b + 29) ∧ R b 8 = some (b + 30) ∧ R b 9 = some (b + 31)) ∧ (T[b + 1]? = some (20, 12) ∧ T[b + 2]? = some (20, 47) ∧ T[b + 3]? = some (23, 12) ∧ T[b + 16]? = some (23, 12) ∧ T[b + 29]? = some (20, 12) ∧ T[b + 30]? = some (20, 47) ∧ T[b + 31]? = some (20, 47)) ∧ ∀ p, p < 12 → R (b + 3) p = some (b + 4 + p) ∧ R (b + 16) p = some (b + 17 + p) ∧ T[b + 4 + p]? = some (20, 47) ∧ T[b + 17 + p]? = some (20, 47)
theorem fx_50 {R : Nat → Nat → Option Nat} {T : List (Nat × Nat)} (h : fx R T) : lyq R T 50 := by
  have h1 : ∀ p, p < 12 → ((50 + 3, p), 50 + 4 + p) ∈ fx_RL ∧ ((50 + 16, p), 50 + 17 + p) ∈ fx_RL ∧ fx_T[50 + 4 + p]? = some (20, 47) ∧ fx_T[50 + 17 + p]? = some (20, 47) := by decide +kernel
  refine ⟨ft_50 h, ⟨fr_50_3 h, fr_50_4 h, fr_50_5 h, fr_50_6 h, fr_50_7 h, fr_50_8 h, fr_50_9 h⟩, ⟨ft_51 h, ft_52 h, ft_53 h, ft_66 h, ft_79 h, ft_80 h, ft_81 h⟩, fun p hp => ?_⟩
  obtain ⟨a, b, c, e⟩ := h1 p hp
  exact ⟨h.1 _ a, h.1 _ b, h.2 _ _ c, h.2 _ _ e⟩
theorem fx_87 {R : Nat → Nat → Option Nat} {T : List (Nat × Nat)} (h : fx R T) : lyq R T 87 := by
  have h1 : ∀ p, p < 12 → ((87 + 3, p), 87 + 4 + p) ∈ fx_RL ∧ ((87 + 16, p), 87 + 17 + p) ∈ fx_RL ∧ fx_T[87 + 4 + p]? = some (20, 47) ∧ fx_T[87 + 17 + p]? = some (20, 47) := by decide +kernel
  refine ⟨ft_87 h, ⟨fr_87_3 h, fr_87_4 h, fr_87_5 h, fr_87_6 h, fr_87_7 h, fr_87_8 h, fr_87_9 h⟩, ⟨ft_88 h, ft_89 h, ft_90 h, ft_103 h, ft_116 h, ft_117 h, ft_118 h⟩, fun p hp => ?_⟩
  obtain ⟨a, b, c, e⟩ := h1 p hp
  exact ⟨h.1 _ a, h.1 _ b, h.2 _ _ c, h.2 _ _ e⟩
section
variable {V : Nat → Nat → Int} {R : Nat → Nat → Option Nat} {T : List (Nat × Nat)} {b p : Nat} {x : Int}
theorem ly_3 (h : lyq R T b) : R b 3 = some (b + 1) := h.2.1.1
theorem ly_4 (h : lyq R T b) : R b 4 = some (b + 2) := h.2.1.2.1
theorem ly_5 (h : lyq R T b) : R b 5 = some (b + 3) := h.2.1.2.2.1
theorem ly_6 (h : lyq R T b) : R b 6 = some (b + 16) := h.2.1.2.2.2.1
theorem ly_7 (h : lyq R T b) : R b 7 = some (b + 29) := h.2.1.2.2.2.2.1
theorem ly_8 (h : lyq R T b) : R b 8 = some (b + 30) := h.2.1.2.2.2.2.2.1
theorem ly_9 (h : lyq R T b) : R b 9 = some (b + 31) := h.2.1.2.2.2.2.2.2
theorem ly_t (h : lyq R T b) : pm_tgs (V, R, T) b [4] ↔ True := iff_true_intro ⟨4, 11, by decide, h.1⟩
theorem ly_v (h : lyq R T b) : pm_tg (V, R, T) b 4 ↔ True := iff_true_intro ⟨11, h.1⟩
theorem ly_b1 (h : lyq R T b) : pm_inb (V, R, T) (b + 1) 20 x ↔ 0 ≤ x ∧ x < 12 := pm_inb_iff h.2.2.1.1
theorem ly_b2 (h : lyq R T b) : pm_inb (V, R, T) (b + 2) 20 x ↔ 0 ≤ x ∧ x < 47 := pm_inb_iff h.2.2.1.2.1
theorem ly_b3 (h : lyq R T b) : pm_inb (V, R, T) (b + 3) 23 x ↔ 0 ≤ x ∧ x < 12 := pm_inb_iff h.2.2.1.2.2.1
theorem ly_b16 (h : lyq R T b) : pm_inb (V, R, T) (b + 16) 23 x ↔ 0 ≤ x ∧ x < 12 := pm_inb_iff h.2.2.1.2.2.2.1
theorem ly_b29 (h : lyq R T b) : pm_inb (V, R, T) (b + 29) 20 x ↔ 0 ≤ x ∧ x < 12 := pm_inb_iff h.2.2.1.2.2.2.2.1
theorem ly_b30 (h : lyq R T b) : pm_inb (V, R, T) (b + 30) 20 x ↔ 0 ≤ x ∧ x < 47 := pm_inb_iff h.2.2.1.2.2.2.2.2.1
theorem ly_b31 (h : lyq R T b) : pm_inb (V, R, T) (b + 31) 20 x ↔ 0 ≤ x ∧ x < 47 := pm_inb_iff h.2.2.1.2.2.2.2.2.2
theorem ly_x (h : lyq R T b) (hp : p < 12) : R (b + 3) p = some (b + 4 + p) := (h.2.2.2 p hp).1
theorem ly_m (h : lyq R T b) (hp : p < 12) : R (b + 16) p = some (b + 17 + p) := (h.2.2.2 p hp).2.1
theorem ly_bx (h : lyq R T b) (hp : p < 12) : pm_inb (V, R, T) (b + 4 + p) 20 x ↔ 0 ≤ x ∧ x < 47 := pm_inb_iff (h.2.2.2 p hp).2.2.1
theorem ly_bm (h : lyq R T b) (hp : p < 12) : pm_inb (V, R, T) (b + 17 + p) 20 x ↔ 0 ≤ x ∧ x < 47 := pm_inb_iff (h.2.2.2 p hp).2.2.2
end
def xL (V : Nat → Nat → Int) (b p s : Nat) : Int := if p < 12 then V (b + 4 + p) s else 0
def mL (V : Nat → Nat → Int) (b p s : Nat) : Int := if p < 12 then V (b + 17 + p) s else 0
theorem xL_eq {V : Nat → Nat → Int} {b p s : Nat} (h : p < 12) : xL V b p s = V (b + 4 + p) s := if_pos h
theorem mL_eq {V : Nat → Nat → Int} {b p s : Nat} (h : p < 12) : mL V b p s = V (b + 17 + p) s := if_pos h
theorem xL_up {W : Nat → Nat → Int} {b p s : Nat} {v : Int} (hp : p < 12) : xL (pm_up W (b + 4 + p) s (xL W b p s + v)) b = upx (xL W b) p s v := by
  funext q t
  unfold upx
  by_cases hq : q < 12
  · rw [xL_eq hq, pm_up_ap]
    by_cases e : q = p
    · subst e
      rw [if_pos rfl]
      by_cases e2 : t = s
      · rw [if_pos e2, if_pos ⟨rfl, e2⟩, e2]
      · rw [if_neg e2, if_neg (fun w => e2 w.2), xL_eq hq]
    · rw [if_neg (by omega), if_neg (fun w => e w.1), xL_eq hq]
  · rw [if_neg (by omega)]
    unfold xL
    rw [if_neg hq, if_neg hq]
theorem mL_up {W : Nat → Nat → Int} {b p s : Nat} {v : Int} (hp : p < 12) : mL (pm_up W (b + 17 + p) s (mL W b p s + v)) b = upx (mL W b) p s v := by
  funext q t
  unfold upx
  by_cases hq : q < 12
  · rw [mL_eq hq, pm_up_ap]
    by_cases e : q = p
    · subst e
      rw [if_pos rfl]
      by_cases e2 : t = s
      · rw [if_pos e2, if_pos ⟨rfl, e2⟩, e2]
      · rw [if_neg e2, if_neg (fun w => e2 w.2), mL_eq hq]
    · rw [if_neg (by omega), if_neg (fun w => e w.1), mL_eq hq]
  · rw [if_neg (by omega)]
    unfold mL
    rw [if_neg hq, if_neg hq]
theorem xL_fr {V W : Nat → Nat → Int} {b : Nat} (h : ∀ p, p < 12 → W (b + 4 + p) = V (b + 4 + p)) : xL W b = xL V b := by
  funext p s
  unfold xL
  by_cases hp : p < 12
  · rw [if_pos hp, if_pos hp, h p hp]
  · rw [if_neg hp, if_neg hp]
theorem mL_fr {V W : Nat → Nat → Int} {b : Nat} (h : ∀ p, p < 12 → W (b + 17 + p) = V (b + 17 + p)) : mL W b = mL V b := by
  funext p s
  unfold mL
  by_cases hp : p < 12
  · rw [if_pos hp, if_pos hp, h p hp]
  · rw [if_neg hp, if_neg hp]
def ntB (n S : Nat) (ln : Nat → Int) (c : Nat → Nat → Int) (r : Nat → Int) : Prop := n ≤ 12 ∧ S ≤ 47 ∧ (∀ p, p < n → 0 ≤ ln p ∧ ln p ≤ 10000000) ∧ (∀ p, p < n → ∀ s, s < S → 0 ≤ c p s ∧ c p s ≤ 10000000) ∧ ∀ s, s < S → 0 ≤ r s ∧ r s ≤ 10000000
/-- a laying, with what is left, what is missing -/
def lyI (V : Nat → Nat → Int) (b n S : Nat) (ln : Nat → Int) (c : Nat → Nat → Int) (r : Nat → Int) : Prop := (V b 0 = n ∧ V b 1 = S) ∧ (∀ p, p < n → V (b + 1) p = ln p - sm (xL V b p) S) ∧ (∀ s, s < S → V (b + 2) s = r s - sm (fun p => xL V b p s) n) ∧ (∀ p, p < n → ∀ s, s < S → mL V b p s = c p s - xL V b p s) ∧ V b 2 = sm ln n - tot n S (xL V b) ∧ lay n S ln c r (xL V b)
theorem ly_bd {V : Nat → Nat → Int} {b n S : Nat} {ln : Nat → Int} {c : Nat → Nat → Int} {r : Nat → Int} (hB : ntB n S ln c r) (h : lyI V b n S ln c r) : (∀ p, p < n → 0 ≤ V (b + 1) p ∧ V (b + 1) p ≤ 10000000) ∧ (∀ s, s < S → 0 ≤ V (b + 2) s ∧ V (b + 2) s ≤ 10000000) ∧ (∀ p, p < n → ∀ s, s < S → (0 ≤ xL V b p s ∧ xL V b p s ≤ 10000000) ∧ 0 ≤ mL V b p s ∧ mL V b p s ≤ 10000000) ∧ 0 ≤ V b 2 ∧ V b 2 ≤ 120000000 := by
  obtain ⟨-, h1, h2, h3, h4, l1, l2, l3⟩ := h
  obtain ⟨b1, b2, b3, b4, b5⟩ := hB
  refine ⟨fun p hp => ?_, fun s hs => ?_, fun p hp s hs => ?_, ?_⟩
  · have a1 := h1 p hp
    have a2 := l2 p hp
    have a3 := b3 p hp
    have a4 : 0 ≤ sm (xL V b p) S := sm_nn fun s hs => (l1 p hp s hs).1
    omega
  · have a1 := h2 s hs
    have a2 := l3 s hs
    have a3 := b5 s hs
    have a4 : 0 ≤ sm (fun p => xL V b p s) n := sm_nn fun p hp => (l1 p hp s hs).1
    omega
  · have a1 := h3 p hp s hs
    have a2 := l1 p hp s hs
    have a3 := b4 p hp s hs
    omega
  · have a1 := lay_tot (n := n) (S := S) (ln := ln) (c := c) (r := r) (x := xL V b) ⟨l1, l2, l3⟩
    have a2 := sm_bd (n := n) (f := ln) (B := 10000000) (fun p hp => b3 p hp)
    omega
section
variable {d : Nat} {h : pm_H} {V V2 W : Nat → Nat → Int} {R : Nat → Nat → Option Nat} {T : List (Nat × Nat)} {n a p b S : Nat} {A : Nat → Int} {lo dl : Int} {ln : Nat → Int} {c : Nat → Nat → Int} {r : Nat → Int}
theorem c_move (hd : 1 ≤ d) (hb : lyq R T b) (p s : Nat) (hp : p < 12) (hs : s < 47) (v : Int) (h1 : pm_I32 (xL V b p s + v)) (h2 : pm_I32 (mL V b p s - v)) : pm_ev d 65 [.inr (.inr (some b)), .inl (p : Int), .inl (s : Int), .inl v] (V, R, T) none (pm_up (pm_up V (b + 4 + p) s (xL V b p s + v)) (b + 17 + p) s (mL V b p s + -v), R, T) := by
  refine pm_ev_of hd (Nat.le_of_ble_eq_true rfl) ?_
  show pm_w (d - 1) 65 0 [some (.inr (.inr (some b))), some (.inl (p : Int)), some (.inl (s : Int)), some (.inl v)] [] (V, R, T) _
  have e1 : V (b + 4 + p) s = xL V b p s := (xL_eq hp).symm
  have e2 : ∀ x, pm_up V (b + 4 + p) s x (b + 17 + p) s = mL V b p s := fun x => by rw [pm_up_fr (by omega), mL_eq hp]
  simp only [ux_65_0, ux_65_1, ux_65_4, ux_65_5, ux_65_6, ux_65_7, ux_65_8, ux_65_9, ux_65_10, ux_65_11, ux_65_12, ux_65_13, ux_65_16, ux_65_17, ux_65_18, ux_65_19, ux_65_20, ux_65_21, ux_65_22, ux_65_23, ux_65_24, pm_i_c, pm_l_c, pm_q_c, pm_r_c, pm_li_0, pm_li_s, pm_ll_0, pm_ll_s, pm_lq_0, pm_lq_s, pm_s1, pm_s2, pm_kl, pm_wI, pm_wR, pm_pu_n, pm_pu_s, pm_wt, List.take_succ_cons, List.take_zero, List.take_nil, List.drop_succ_cons, List.drop_zero, List.reverse_cons, List.reverse_nil, List.nil_append, List.cons_append, List.length_cons, List.length_nil, true_and, and_true, true_implies, tn_l, tn_0, Int.reduceToNat, Int.reduceLE, Int.reduceLT, Int.reduceEq, Int.reduceAdd, Int.reduceSub, Int.reduceMul, Int.reduceNeg, Nat.reduceAdd, Nat.reduceLeDiff, Nat.reduceEqDiff, Nat.reduceSub, Option.some.injEq, Sum.inl.injEq, Sum.inr.injEq, or_true, true_or, reduceCtorEq, ne_eq, not_false_eq_true, not_true_eq_false, false_implies, implies_true, false_and, and_false, false_or, or_false, if_true, if_false, ly_3 hb, ly_4 hb, ly_5 hb, ly_6 hb, ly_7 hb, ly_8 hb, ly_9 hb, ly_t hb, ly_v hb, ly_b1 hb, ly_b2 hb, ly_b3 hb, ly_b16 hb, ly_b29 hb, ly_b30 hb, ly_b31 hb, ly_x hb hp, ly_m hb hp, ly_bx hb hp, ly_bm hb hp, e1, e2, eq_true h1, eq_true h2]
  exact ⟨Or.inl (by omega), by omega, by omega, Or.inl (by omega), by omega, by omega, rfl⟩
/-- prepare -/
def pre (V : Nat → Nat → Int) (b n S : Nat) (ln : Nat → Int) (c : Nat → Nat → Int) (r : Nat → Int) : Prop := lyI V b n S ln c r ∧ ∀ p, p < n → ∀ s, s < S → xL V b p s = 0
def lyF (V V2 : Nat → Nat → Int) (b : Nat) : Prop := ∀ q, q < b ∨ b + 31 < q → V2 q = V q
def prQ (V : Nat → Nat → Int) (R : Nat → Nat → Option Nat) (T : List (Nat × Nat)) (b n S : Nat) (ln : Nat → Int) (c : Nat → Nat → Int) (r : Nat → Int) (r0 : Option pm_V) (h2 : pm_H) : Prop := ∃ V2, h2 = (V2, R, T) ∧ r0 = none ∧ lyF V V2 b ∧ pre V2 b n S ln c r
theorem c_prepare (hd : 3 ≤ d) {g : Nat} (hg : frq R T g) (hb : lyq R T b) (hgb : g + 4 < b ∨ b + 31 < g) (hw : wf A n) (h0 : 0 ≤ dl) (h1 : dl ≤ 200) (hl : 1 ≤ lo ∧ lo ≤ 12) (hO : frO V g A n lo dl) (tm rm : Int) (hB : ntB n (nS A n dl) (nL A tm) (nC A n lo dl rm) (nR A n lo dl rm)) : pm_ok d 60 [.inr (.inr (some b)), .inr (.inr (some g)), .inl tm, .inl rm] (V, R, T) (prQ V R T b n (nS A n dl) (nL A tm) (nC A n lo dl rm) (nR A n lo dl rm)) := by
  obtain ⟨d, rfl⟩ : ∃ k, d = k + 1 := ⟨d - 1, by omega⟩
  refine pm_ok_iff.mpr ⟨(Nat.le_of_ble_eq_true rfl), ?_⟩
  show pm_w d 60 0 [some (.inr (.inr (some b))), some (.inr (.inr (some g))), some (.inl tm), some (.inl rm), none, none] [] (V, R, T) _
  obtain ⟨B1, B2, B3, B4, B5⟩ := hB
  have frK : ∀ W : Nat → Nat → Int, lyF V W b → frO W g A n lo dl := fun W hW => frO_keep (fun q h1 h2 => hW q (by omega)) hO
  have eR1 : ∀ s, nR A n lo dl 1 s * rm = nR A n lo dl rm s := fun s => by unfold nR; rw [Int.mul_one]
  have eC1 : ∀ p s, nC A n lo dl 1 p s * rm = nC A n lo dl rm p s := fun p s => by unfold nC; rw [Int.mul_one]
  have g1 : ∀ k x, pm_up V b k x g = V g := fun k x => pm_up_fr (by omega)
  simp only [ux_60_0, ux_60_1, ux_60_2, ux_60_5, ux_60_8, ux_60_9, ux_60_10, ux_60_13, ux_60_16, ux_60_17, ux_60_18, ux_60_21, ux_60_22, ux_60_26, ux_60_27, ux_60_30, ux_60_33, ux_60_34, ux_60_37, ux_60_39, ux_60_40, ux_60_42, ux_60_45, ux_60_46, ux_60_47, ux_60_48, ux_60_51, ux_60_55, ux_60_59, ux_60_60, ux_60_63, ux_60_66, ux_60_67, ux_60_70, ux_60_72, ux_60_73, ux_60_76, ux_60_78, ux_60_79, ux_60_80, ux_60_81, ux_60_82, ux_60_83, ux_60_84, ux_60_87, ux_60_88, ux_60_91, ux_60_93, ux_60_94, ux_60_95, ux_60_98, ux_60_99, ux_60_103, ux_60_104, ux_60_107, ux_60_110, ux_60_111, ux_60_114, ux_60_116, ux_60_117, ux_60_119, ux_60_120, ux_60_121, ux_60_122, ux_60_125, ux_60_127, ux_60_128, ux_60_130, ux_60_131, ux_60_133, ux_60_135, ux_60_138, ux_60_139, ux_60_140, ux_60_141, ux_60_144, ux_60_150, ux_60_153, pm_i_c, pm_l_c, pm_q_c, pm_r_c, pm_li_0, pm_li_s, pm_ll_0, pm_ll_s, pm_lq_0, pm_lq_s, pm_s1, pm_s2, pm_kl, pm_wI, pm_wR, pm_pu_n, pm_pu_s, pm_wt, List.take_succ_cons, List.take_zero, List.take_nil, List.drop_succ_cons, List.drop_zero, List.reverse_cons, List.reverse_nil, List.nil_append, List.cons_append, List.length_cons, List.length_nil, true_and, and_true, true_implies, tn_l, tn_0, Int.reduceToNat, Int.reduceLE, Int.reduceLT, Int.reduceEq, Int.reduceAdd, Int.reduceSub, Int.reduceMul, Int.reduceNeg, Nat.reduceAdd, Nat.reduceLeDiff, Nat.reduceEqDiff, Nat.reduceSub, Option.some.injEq, Sum.inl.injEq, Sum.inr.injEq, or_true, true_or, reduceCtorEq, ne_eq, not_false_eq_true, not_true_eq_false, false_implies, implies_true, false_and, and_false, false_or, or_false, if_true, if_false, ly_3 hb, ly_4 hb, ly_5 hb, ly_6 hb, ly_7 hb, ly_8 hb, ly_9 hb, ly_t hb, ly_v hb, ly_b1 hb, ly_b2 hb, ly_b3 hb, ly_b16 hb, ly_b29 hb, ly_b30 hb, ly_b31 hb, fq_4 hg, fq_5 hg, fq_6 hg, fq_7 hg, fq_t hg, fq_v hg, fq_b1 hg, fq_b2 hg, fq_b3 hg, fq_b4 hg, hO.2.1, hO.2.2.2.1, g1]
  generalize hV1 : pm_up (pm_up (pm_up V b 0 (n : Int)) b 1 (nS A n dl : Int)) b 2 0 = V1
  have v1 : ∀ q, q ≠ b → V1 q = V q := fun q hq => by rw [← hV1, pm_up_fr hq, pm_up_fr hq, pm_up_fr hq]
  have v10 : V1 b 0 = n := by rw [← hV1, pm_up_ne (by omega), pm_up_ne (by omega), pm_up_eq]
  have v11 : V1 b 1 = nS A n dl := by rw [← hV1, pm_up_ne (by omega), pm_up_eq]
  have v12 : V1 b 2 = 0 := by rw [← hV1, pm_up_eq]
  -- the pieces
  have k2 : ∀ W, lyF V W b → W b 0 = (n : Int) → W b 1 = (nS A n dl : Int) → W b 2 = 0 → (∀ s, s < nS A n dl → W (b + 2) s = nR A n lo dl rm s) → ∀ y5, pm_w d 60 57 [some (.inr (.inr (some b))), some (.inr (.inr (some g))), some (.inl tm), some (.inl rm), some (.inl 0), y5] [] (W, R, T) (prQ V R T b n (nS A n dl) (nL A tm) (nC A n lo dl rm) (nR A n lo dl rm)) := by
    intro W w1 w2 w3 w4 w5 y5
    refine pm_up0 (fun i => ∀ (W : Nat → Nat → Int) (y5 : Option pm_V), lyF V W b → W b 0 = (n : Int) → W b 1 = (nS A n dl : Int) → W b 2 = sm (nL A tm) i → (∀ s, s < nS A n dl → W (b + 2) s = nR A n lo dl rm s) → (∀ p, p < i → W (b + 1) p = nL A tm p ∧ ∀ s, s < nS A n dl → W (b + 4 + p) s = 0 ∧ W (b + 17 + p) s = nC A n lo dl rm p s) → pm_w d 60 57 [some (.inr (.inr (some b))), some (.inr (.inr (some g))), some (.inl tm), some (.inl rm), some (.inl (i : Int)), y5] [] (W, R, T) (prQ V R T b n (nS A n dl) (nL A tm) (nC A n lo dl rm) (nR A n lo dl rm))) n ?_ ?_ W y5 w1 w2 w3 w4 w5 (fun p hp => by omega)
    · intro W y5 w1 w2 w3 w4 w5 w6
      rw [ux_60_57]
      simp only [ux_60_0, ux_60_1, ux_60_2, ux_60_5, ux_60_8, ux_60_9, ux_60_10, ux_60_13, ux_60_16, ux_60_17, ux_60_18, ux_60_21, ux_60_22, ux_60_26, ux_60_27, ux_60_30, ux_60_33, ux_60_34, ux_60_37, ux_60_39, ux_60_40, ux_60_42, ux_60_45, ux_60_46, ux_60_47, ux_60_48, ux_60_51, ux_60_55, ux_60_59, ux_60_60, ux_60_63, ux_60_66, ux_60_67, ux_60_70, ux_60_72, ux_60_73, ux_60_76, ux_60_78, ux_60_79, ux_60_80, ux_60_81, ux_60_82, ux_60_83, ux_60_84, ux_60_87, ux_60_88, ux_60_91, ux_60_93, ux_60_94, ux_60_95, ux_60_98, ux_60_99, ux_60_103, ux_60_104, ux_60_107, ux_60_110, ux_60_111, ux_60_114, ux_60_116, ux_60_117, ux_60_119, ux_60_120, ux_60_121, ux_60_122, ux_60_125, ux_60_127, ux_60_128, ux_60_130, ux_60_131, ux_60_133, ux_60_135, ux_60_138, ux_60_139, ux_60_140, ux_60_141, ux_60_144, ux_60_150, ux_60_153, pm_i_c, pm_l_c, pm_q_c, pm_r_c, pm_li_0, pm_li_s, pm_ll_0, pm_ll_s, pm_lq_0, pm_lq_s, pm_s1, pm_s2, pm_kl, pm_wI, pm_wR, pm_pu_n, pm_pu_s, pm_wt, List.take_succ_cons, List.take_zero, List.take_nil, List.drop_succ_cons, List.drop_zero, List.reverse_cons, List.reverse_nil, List.nil_append, List.cons_append, List.length_cons, List.length_nil, true_and, and_true, true_implies, tn_l, tn_0, Int.reduceToNat, Int.reduceLE, Int.reduceLT, Int.reduceEq, Int.reduceAdd, Int.reduceSub, Int.reduceMul, Int.reduceNeg, Nat.reduceAdd, Nat.reduceLeDiff, Nat.reduceEqDiff, Nat.reduceSub, Option.some.injEq, Sum.inl.injEq, Sum.inr.injEq, or_true, true_or, reduceCtorEq, ne_eq, not_false_eq_true, not_true_eq_false, false_implies, implies_true, false_and, and_false, false_or, or_false, if_true, if_false, ly_3 hb, ly_4 hb, ly_5 hb, ly_6 hb, ly_7 hb, ly_8 hb, ly_9 hb, ly_t hb, ly_v hb, ly_b1 hb, ly_b2 hb, ly_b3 hb, ly_b16 hb, ly_b29 hb, ly_b30 hb, ly_b31 hb, fq_4 hg, fq_5 hg, fq_6 hg, fq_7 hg, fq_t hg, fq_v hg, fq_b1 hg, fq_b2 hg, fq_b3 hg, fq_b4 hg, w2]
      refine ⟨fun _ => ⟨W, rfl, rfl, w1, ⟨⟨w2, w3⟩, fun p hp => ?_, fun s hs => ?_, fun p hp s hs => ?_, ?_, fun p hp s hs => ?_, fun p hp => ?_, fun s hs => ?_⟩, fun p hp s hs => ?_⟩, fun z => absurd (Int.le_refl _) z⟩
      · rw [sm_congr (g := fun _ => 0) (fun s hs => by rw [xL_eq (by omega)]; exact ((w6 p hp).2 s hs).1), sm_zero, (w6 p hp).1]; omega
      · rw [sm_congr (g := fun _ => 0) (fun p hp => by rw [xL_eq (by omega)]; exact ((w6 p hp).2 s hs).1), sm_zero, w5 s hs]; omega
      · rw [xL_eq (by omega), mL_eq (by omega), ((w6 p hp).2 s hs).1, ((w6 p hp).2 s hs).2]; omega
      · have : tot n (nS A n dl) (xL W b) = 0 := by
          unfold tot
          rw [sm_congr (g := fun _ => 0) (fun p hp => ?_), sm_zero]
          rw [sm_congr (g := fun _ => 0) (fun s hs => by rw [xL_eq (by omega)]; exact ((w6 p hp).2 s hs).1), sm_zero]
        rw [this, w4]; omega
      · rw [xL_eq (by omega), ((w6 p hp).2 s hs).1]; have := B4 p hp s hs; omega
      · rw [sm_congr (g := fun _ => 0) (fun s hs => by rw [xL_eq (by omega)]; exact ((w6 p hp).2 s hs).1), sm_zero]; have := B3 p hp; omega
      · rw [sm_congr (g := fun _ => 0) (fun p hp => by rw [xL_eq (by omega)]; exact ((w6 p hp).2 s hs).1), sm_zero]; have := B5 s hs; omega
      · rw [xL_eq (by omega)]; exact ((w6 p hp).2 s hs).1
    · intro i hi ih W y5 w1 w2 w3 w4 w5 w6
      have f1 := frK W w1
      have gl : W (g + 2) i = A (15 + i) := (f1.2.2.2.2.2 i hi).1
      have en : A (15 + i) * tm = nL A tm i := rfl
      have bl := B3 i hi
      have bs := sm_bd (n := i) (f := nL A tm) (B := 10000000) (fun p hp => B3 p (by omega))
      have e2 : ∀ k x, pm_up W (b + 1) k x b 2 = sm (nL A tm) i := fun k x => by rw [pm_up_fr (by omega)]; exact w4
      rw [ux_60_57]
      simp only [ux_60_0, ux_60_1, ux_60_2, ux_60_5, ux_60_8, ux_60_9, ux_60_10, ux_60_13, ux_60_16, ux_60_17, ux_60_18, ux_60_21, ux_60_22, ux_60_26, ux_60_27, ux_60_30, ux_60_33, ux_60_34, ux_60_37, ux_60_39, ux_60_40, ux_60_42, ux_60_45, ux_60_46, ux_60_47, ux_60_48, ux_60_51, ux_60_55, ux_60_59, ux_60_60, ux_60_63, ux_60_66, ux_60_67, ux_60_70, ux_60_72, ux_60_73, ux_60_76, ux_60_78, ux_60_79, ux_60_80, ux_60_81, ux_60_82, ux_60_83, ux_60_84, ux_60_87, ux_60_88, ux_60_91, ux_60_93, ux_60_94, ux_60_95, ux_60_98, ux_60_99, ux_60_103, ux_60_104, ux_60_107, ux_60_110, ux_60_111, ux_60_114, ux_60_116, ux_60_117, ux_60_119, ux_60_120, ux_60_121, ux_60_122, ux_60_125, ux_60_127, ux_60_128, ux_60_130, ux_60_131, ux_60_133, ux_60_135, ux_60_138, ux_60_139, ux_60_140, ux_60_141, ux_60_144, ux_60_150, ux_60_153, pm_i_c, pm_l_c, pm_q_c, pm_r_c, pm_li_0, pm_li_s, pm_ll_0, pm_ll_s, pm_lq_0, pm_lq_s, pm_s1, pm_s2, pm_kl, pm_wI, pm_wR, pm_pu_n, pm_pu_s, pm_wt, List.take_succ_cons, List.take_zero, List.take_nil, List.drop_succ_cons, List.drop_zero, List.reverse_cons, List.reverse_nil, List.nil_append, List.cons_append, List.length_cons, List.length_nil, true_and, and_true, true_implies, tn_l, tn_0, Int.reduceToNat, Int.reduceLE, Int.reduceLT, Int.reduceEq, Int.reduceAdd, Int.reduceSub, Int.reduceMul, Int.reduceNeg, Nat.reduceAdd, Nat.reduceLeDiff, Nat.reduceEqDiff, Nat.reduceSub, Option.some.injEq, Sum.inl.injEq, Sum.inr.injEq, or_true, true_or, reduceCtorEq, ne_eq, not_false_eq_true, not_true_eq_false, false_implies, implies_true, false_and, and_false, false_or, or_false, if_true, if_false, ly_3 hb, ly_4 hb, ly_5 hb, ly_6 hb, ly_7 hb, ly_8 hb, ly_9 hb, ly_t hb, ly_v hb, ly_b1 hb, ly_b2 hb, ly_b3 hb, ly_b16 hb, ly_b29 hb, ly_b30 hb, ly_b31 hb, fq_4 hg, fq_5 hg, fq_6 hg, fq_7 hg, fq_t hg, fq_v hg, fq_b1 hg, fq_b2 hg, fq_b3 hg, fq_b4 hg, w2, gl, en, e2, pm_up_eq]
      refine ⟨fun z => by omega, fun _ => ⟨by omega, by unfold pm_I32; omega, by omega, by omega, by unfold pm_I32; omega, ?_⟩⟩
      generalize hW2 : pm_up (pm_up W (b + 1) i (nL A tm i)) b 2 (sm (nL A tm) i + nL A tm i) = W2
      have x1 : ∀ q, q ≠ b → q ≠ b + 1 → W2 q = W q := fun q h1 h2 => by rw [← hW2, pm_up_fr h1, pm_up_fr h2]
      have x2 : ∀ j, j ≠ 2 → W2 b j = W b j := fun j hj => by rw [← hW2, pm_up_ne (fun w => hj w.2), pm_up_fr (by omega)]
      have x3 : W2 b 2 = sm (nL A tm) (i + 1) := by rw [← hW2, pm_up_eq]; rfl
      have x4 : W2 (b + 1) = fun j => if j = i then nL A tm i else W (b + 1) j := by rw [← hW2, pm_up_fr (by omega), pm_up_row]
      refine pm_up0 (fun s => ∀ (W3 : Nat → Nat → Int), (∀ q, q ≠ b + 4 + i → q ≠ b + 17 + i → W3 q = W2 q) → (∀ t, t < s → W3 (b + 4 + i) t = 0 ∧ W3 (b + 17 + i) t = nC A n lo dl rm i t) → pm_w d 60 101 [some (.inr (.inr (some b))), some (.inr (.inr (some g))), some (.inl tm), some (.inl rm), some (.inl (i : Int)), some (.inl (s : Int))] [] (W3, R, T) (prQ V R T b n (nS A n dl) (nL A tm) (nC A n lo dl rm) (nR A n lo dl rm))) (nS A n dl) ?_ ?_ W2 (fun _ _ _ => rfl) (fun t ht => by omega)
      · intro W3 z1 z2
        have e3 : W3 b 1 = (nS A n dl : Int) := by rw [z1 b (by omega) (by omega), x2 1 (by decide)]; exact w3
        rw [ux_60_101]
        simp only [ux_60_0, ux_60_1, ux_60_2, ux_60_5, ux_60_8, ux_60_9, ux_60_10, ux_60_13, ux_60_16, ux_60_17, ux_60_18, ux_60_21, ux_60_22, ux_60_26, ux_60_27, ux_60_30, ux_60_33, ux_60_34, ux_60_37, ux_60_39, ux_60_40, ux_60_42, ux_60_45, ux_60_46, ux_60_47, ux_60_48, ux_60_51, ux_60_55, ux_60_59, ux_60_60, ux_60_63, ux_60_66, ux_60_67, ux_60_70, ux_60_72, ux_60_73, ux_60_76, ux_60_78, ux_60_79, ux_60_80, ux_60_81, ux_60_82, ux_60_83, ux_60_84, ux_60_87, ux_60_88, ux_60_91, ux_60_93, ux_60_94, ux_60_95, ux_60_98, ux_60_99, ux_60_103, ux_60_104, ux_60_107, ux_60_110, ux_60_111, ux_60_114, ux_60_116, ux_60_117, ux_60_119, ux_60_120, ux_60_121, ux_60_122, ux_60_125, ux_60_127, ux_60_128, ux_60_130, ux_60_131, ux_60_133, ux_60_135, ux_60_138, ux_60_139, ux_60_140, ux_60_141, ux_60_144, ux_60_150, ux_60_153, pm_i_c, pm_l_c, pm_q_c, pm_r_c, pm_li_0, pm_li_s, pm_ll_0, pm_ll_s, pm_lq_0, pm_lq_s, pm_s1, pm_s2, pm_kl, pm_wI, pm_wR, pm_pu_n, pm_pu_s, pm_wt, List.take_succ_cons, List.take_zero, List.take_nil, List.drop_succ_cons, List.drop_zero, List.reverse_cons, List.reverse_nil, List.nil_append, List.cons_append, List.length_cons, List.length_nil, true_and, and_true, true_implies, tn_l, tn_0, Int.reduceToNat, Int.reduceLE, Int.reduceLT, Int.reduceEq, Int.reduceAdd, Int.reduceSub, Int.reduceMul, Int.reduceNeg, Nat.reduceAdd, Nat.reduceLeDiff, Nat.reduceEqDiff, Nat.reduceSub, Option.some.injEq, Sum.inl.injEq, Sum.inr.injEq, or_true, true_or, reduceCtorEq, ne_eq, not_false_eq_true, not_true_eq_false, false_implies, implies_true, false_and, and_false, false_or, or_false, if_true, if_false, ly_3 hb, ly_4 hb, ly_5 hb, ly_6 hb, ly_7 hb, ly_8 hb, ly_9 hb, ly_t hb, ly_v hb, ly_b1 hb, ly_b2 hb, ly_b3 hb, ly_b16 hb, ly_b29 hb, ly_b30 hb, ly_b31 hb, fq_4 hg, fq_5 hg, fq_6 hg, fq_7 hg, fq_t hg, fq_v hg, fq_b1 hg, fq_b2 hg, fq_b3 hg, fq_b4 hg, e3]
        refine ⟨fun _ => ?_, fun z => absurd (Int.le_refl _) z⟩
        rw [ux_60_147]
        simp only [ux_60_0, ux_60_1, ux_60_2, ux_60_5, ux_60_8, ux_60_9, ux_60_10, ux_60_13, ux_60_16, ux_60_17, ux_60_18, ux_60_21, ux_60_22, ux_60_26, ux_60_27, ux_60_30, ux_60_33, ux_60_34, ux_60_37, ux_60_39, ux_60_40, ux_60_42, ux_60_45, ux_60_46, ux_60_47, ux_60_48, ux_60_51, ux_60_55, ux_60_59, ux_60_60, ux_60_63, ux_60_66, ux_60_67, ux_60_70, ux_60_72, ux_60_73, ux_60_76, ux_60_78, ux_60_79, ux_60_80, ux_60_81, ux_60_82, ux_60_83, ux_60_84, ux_60_87, ux_60_88, ux_60_91, ux_60_93, ux_60_94, ux_60_95, ux_60_98, ux_60_99, ux_60_103, ux_60_104, ux_60_107, ux_60_110, ux_60_111, ux_60_114, ux_60_116, ux_60_117, ux_60_119, ux_60_120, ux_60_121, ux_60_122, ux_60_125, ux_60_127, ux_60_128, ux_60_130, ux_60_131, ux_60_133, ux_60_135, ux_60_138, ux_60_139, ux_60_140, ux_60_141, ux_60_144, ux_60_150, ux_60_153, pm_i_c, pm_l_c, pm_q_c, pm_r_c, pm_li_0, pm_li_s, pm_ll_0, pm_ll_s, pm_lq_0, pm_lq_s, pm_s1, pm_s2, pm_kl, pm_wI, pm_wR, pm_pu_n, pm_pu_s, pm_wt, List.take_succ_cons, List.take_zero, List.take_nil, List.drop_succ_cons, List.drop_zero, List.reverse_cons, List.reverse_nil, List.nil_append, List.cons_append, List.length_cons, List.length_nil, true_and, and_true, true_implies, tn_l, tn_0, Int.reduceToNat, Int.reduceLE, Int.reduceLT, Int.reduceEq, Int.reduceAdd, Int.reduceSub, Int.reduceMul, Int.reduceNeg, Nat.reduceAdd, Nat.reduceLeDiff, Nat.reduceEqDiff, Nat.reduceSub, Option.some.injEq, Sum.inl.injEq, Sum.inr.injEq, or_true, true_or, reduceCtorEq, ne_eq, not_false_eq_true, not_true_eq_false, false_implies, implies_true, false_and, and_false, false_or, or_false, if_true, if_false, ly_3 hb, ly_4 hb, ly_5 hb, ly_6 hb, ly_7 hb, ly_8 hb, ly_9 hb, ly_t hb, ly_v hb, ly_b1 hb, ly_b2 hb, ly_b3 hb, ly_b16 hb, ly_b29 hb, ly_b30 hb, ly_b31 hb, fq_4 hg, fq_5 hg, fq_6 hg, fq_7 hg, fq_t hg, fq_v hg, fq_b1 hg, fq_b2 hg, fq_b3 hg, fq_b4 hg]
        refine ⟨by unfold pm_I32; omega, ih W3 _ (fun q hq => ?_) ?_ e3 ?_ (fun s hs => ?_) (fun p hp => ?_)⟩
        · rw [z1 q (by omega) (by omega), x1 q (by omega) (by omega)]; exact w1 q hq
        · rw [z1 b (by omega) (by omega), x2 0 (by decide)]; exact w2
        · rw [z1 b (by omega) (by omega)]; exact x3
        · rw [z1 (b + 2) (by omega) (by omega), x1 (b + 2) (by omega) (by omega)]; exact w5 s hs
        · rw [z1 (b + 1) (by omega) (by omega), x4]
          dsimp only
          by_cases e : p = i
          · subst e
            rw [if_pos rfl]
            exact ⟨rfl, z2⟩
          · rw [if_neg e, z1 (b + 4 + p) (by omega) (by omega), z1 (b + 17 + p) (by omega) (by omega), x1 (b + 4 + p) (by omega) (by omega), x1 (b + 17 + p) (by omega) (by omega)]
            exact w6 p (by omega)
      · intro s hs ih3 W3 z1 z2
        have e3 : W3 b 1 = (nS A n dl : Int) := by rw [z1 b (by omega) (by omega), x2 1 (by decide)]; exact w3
        have f3 : ∀ k x, frO (pm_up W3 (b + 4 + i) k x) g A n lo dl := fun k x => frK _ (fun q hq => by rw [pm_up_fr (by omega), z1 q (by omega) (by omega), x1 q (by omega) (by omega)]; exact w1 q hq)
        have bc := B4 i hi s hs
        rw [ux_60_101]
        simp only [ux_60_0, ux_60_1, ux_60_2, ux_60_5, ux_60_8, ux_60_9, ux_60_10, ux_60_13, ux_60_16, ux_60_17, ux_60_18, ux_60_21, ux_60_22, ux_60_26, ux_60_27, ux_60_30, ux_60_33, ux_60_34, ux_60_37, ux_60_39, ux_60_40, ux_60_42, ux_60_45, ux_60_46, ux_60_47, ux_60_48, ux_60_51, ux_60_55, ux_60_59, ux_60_60, ux_60_63, ux_60_66, ux_60_67, ux_60_70, ux_60_72, ux_60_73, ux_60_76, ux_60_78, ux_60_79, ux_60_80, ux_60_81, ux_60_82, ux_60_83, ux_60_84, ux_60_87, ux_60_88, ux_60_91, ux_60_93, ux_60_94, ux_60_95, ux_60_98, ux_60_99, ux_60_103, ux_60_104, ux_60_107, ux_60_110, ux_60_111, ux_60_114, ux_60_116, ux_60_117, ux_60_119, ux_60_120, ux_60_121, ux_60_122, ux_60_125, ux_60_127, ux_60_128, ux_60_130, ux_60_131, ux_60_133, ux_60_135, ux_60_138, ux_60_139, ux_60_140, ux_60_141, ux_60_144, ux_60_150, ux_60_153, pm_i_c, pm_l_c, pm_q_c, pm_r_c, pm_li_0, pm_li_s, pm_ll_0, pm_ll_s, pm_lq_0, pm_lq_s, pm_s1, pm_s2, pm_kl, pm_wI, pm_wR, pm_pu_n, pm_pu_s, pm_wt, List.take_succ_cons, List.take_zero, List.take_nil, List.drop_succ_cons, List.drop_zero, List.reverse_cons, List.reverse_nil, List.nil_append, List.cons_append, List.length_cons, List.length_nil, true_and, and_true, true_implies, tn_l, tn_0, Int.reduceToNat, Int.reduceLE, Int.reduceLT, Int.reduceEq, Int.reduceAdd, Int.reduceSub, Int.reduceMul, Int.reduceNeg, Nat.reduceAdd, Nat.reduceLeDiff, Nat.reduceEqDiff, Nat.reduceSub, Option.some.injEq, Sum.inl.injEq, Sum.inr.injEq, or_true, true_or, reduceCtorEq, ne_eq, not_false_eq_true, not_true_eq_false, false_implies, implies_true, false_and, and_false, false_or, or_false, if_true, if_false, ly_3 hb, ly_4 hb, ly_5 hb, ly_6 hb, ly_7 hb, ly_8 hb, ly_9 hb, ly_t hb, ly_v hb, ly_b1 hb, ly_b2 hb, ly_b3 hb, ly_b16 hb, ly_b29 hb, ly_b30 hb, ly_b31 hb, fq_4 hg, fq_5 hg, fq_6 hg, fq_7 hg, fq_t hg, fq_v hg, fq_b1 hg, fq_b2 hg, fq_b3 hg, fq_b4 hg, e3, ly_x hb (show i < 12 by omega), ly_m hb (show i < 12 by omega), ly_bx hb (show i < 12 by omega), ly_bm hb (show i < 12 by omega), pm_ok_ev (c_pieceTakes (d := d) (by omega) hg hw h0 h1 hl (f3 _ _) i s hi hs), eC1]
        refine ⟨fun z => by omega, fun _ => ⟨Or.inl (by omega), by omega, Or.inl (by omega), by unfold pm_I32; omega, by omega, by unfold pm_I32; omega, ih3 _ (fun q h1 h2 => by rw [pm_up_fr h2, pm_up_fr h1]; exact z1 q h1 h2) (fun t ht => ?_)⟩⟩
        rw [pm_up_row, pm_up_fr (show b + 4 + i ≠ b + 17 + i by omega), pm_up_row, pm_up_fr (show b + 17 + i ≠ b + 4 + i by omega)]
        dsimp only
        by_cases e : t = s
        · subst e
          rw [if_pos rfl, if_pos rfl]
          exact ⟨rfl, rfl⟩
        · rw [if_neg e, if_neg e]
          exact z2 t (by omega)
  -- the stretches
  refine pm_up0 (fun s => ∀ (W : Nat → Nat → Int), (∀ q, q ≠ b + 2 → W q = V1 q) → (∀ t, t < s → W (b + 2) t = nR A n lo dl rm t) → pm_w d 60 24 [some (.inr (.inr (some b))), some (.inr (.inr (some g))), some (.inl tm), some (.inl rm), some (.inl (s : Int)), none] [] (W, R, T) (prQ V R T b n (nS A n dl) (nL A tm) (nC A n lo dl rm) (nR A n lo dl rm))) (nS A n dl) ?_ ?_ V1 (fun _ _ => rfl) (fun t ht => by omega)
  · intro W w1 w2
    have e3 : W b 1 = (nS A n dl : Int) := by rw [w1 b (by omega)]; exact v11
    rw [ux_60_24]
    simp only [ux_60_0, ux_60_1, ux_60_2, ux_60_5, ux_60_8, ux_60_9, ux_60_10, ux_60_13, ux_60_16, ux_60_17, ux_60_18, ux_60_21, ux_60_22, ux_60_26, ux_60_27, ux_60_30, ux_60_33, ux_60_34, ux_60_37, ux_60_39, ux_60_40, ux_60_42, ux_60_45, ux_60_46, ux_60_47, ux_60_48, ux_60_51, ux_60_55, ux_60_59, ux_60_60, ux_60_63, ux_60_66, ux_60_67, ux_60_70, ux_60_72, ux_60_73, ux_60_76, ux_60_78, ux_60_79, ux_60_80, ux_60_81, ux_60_82, ux_60_83, ux_60_84, ux_60_87, ux_60_88, ux_60_91, ux_60_93, ux_60_94, ux_60_95, ux_60_98, ux_60_99, ux_60_103, ux_60_104, ux_60_107, ux_60_110, ux_60_111, ux_60_114, ux_60_116, ux_60_117, ux_60_119, ux_60_120, ux_60_121, ux_60_122, ux_60_125, ux_60_127, ux_60_128, ux_60_130, ux_60_131, ux_60_133, ux_60_135, ux_60_138, ux_60_139, ux_60_140, ux_60_141, ux_60_144, ux_60_150, ux_60_153, pm_i_c, pm_l_c, pm_q_c, pm_r_c, pm_li_0, pm_li_s, pm_ll_0, pm_ll_s, pm_lq_0, pm_lq_s, pm_s1, pm_s2, pm_kl, pm_wI, pm_wR, pm_pu_n, pm_pu_s, pm_wt, List.take_succ_cons, List.take_zero, List.take_nil, List.drop_succ_cons, List.drop_zero, List.reverse_cons, List.reverse_nil, List.nil_append, List.cons_append, List.length_cons, List.length_nil, true_and, and_true, true_implies, tn_l, tn_0, Int.reduceToNat, Int.reduceLE, Int.reduceLT, Int.reduceEq, Int.reduceAdd, Int.reduceSub, Int.reduceMul, Int.reduceNeg, Nat.reduceAdd, Nat.reduceLeDiff, Nat.reduceEqDiff, Nat.reduceSub, Option.some.injEq, Sum.inl.injEq, Sum.inr.injEq, or_true, true_or, reduceCtorEq, ne_eq, not_false_eq_true, not_true_eq_false, false_implies, implies_true, false_and, and_false, false_or, or_false, if_true, if_false, ly_3 hb, ly_4 hb, ly_5 hb, ly_6 hb, ly_7 hb, ly_8 hb, ly_9 hb, ly_t hb, ly_v hb, ly_b1 hb, ly_b2 hb, ly_b3 hb, ly_b16 hb, ly_b29 hb, ly_b30 hb, ly_b31 hb, fq_4 hg, fq_5 hg, fq_6 hg, fq_7 hg, fq_t hg, fq_v hg, fq_b1 hg, fq_b2 hg, fq_b3 hg, fq_b4 hg, e3]
    refine ⟨fun _ => ?_, fun z => absurd (Int.le_refl _) z⟩
    rw [ux_60_54]
    simp only [ux_60_0, ux_60_1, ux_60_2, ux_60_5, ux_60_8, ux_60_9, ux_60_10, ux_60_13, ux_60_16, ux_60_17, ux_60_18, ux_60_21, ux_60_22, ux_60_26, ux_60_27, ux_60_30, ux_60_33, ux_60_34, ux_60_37, ux_60_39, ux_60_40, ux_60_42, ux_60_45, ux_60_46, ux_60_47, ux_60_48, ux_60_51, ux_60_55, ux_60_59, ux_60_60, ux_60_63, ux_60_66, ux_60_67, ux_60_70, ux_60_72, ux_60_73, ux_60_76, ux_60_78, ux_60_79, ux_60_80, ux_60_81, ux_60_82, ux_60_83, ux_60_84, ux_60_87, ux_60_88, ux_60_91, ux_60_93, ux_60_94, ux_60_95, ux_60_98, ux_60_99, ux_60_103, ux_60_104, ux_60_107, ux_60_110, ux_60_111, ux_60_114, ux_60_116, ux_60_117, ux_60_119, ux_60_120, ux_60_121, ux_60_122, ux_60_125, ux_60_127, ux_60_128, ux_60_130, ux_60_131, ux_60_133, ux_60_135, ux_60_138, ux_60_139, ux_60_140, ux_60_141, ux_60_144, ux_60_150, ux_60_153, pm_i_c, pm_l_c, pm_q_c, pm_r_c, pm_li_0, pm_li_s, pm_ll_0, pm_ll_s, pm_lq_0, pm_lq_s, pm_s1, pm_s2, pm_kl, pm_wI, pm_wR, pm_pu_n, pm_pu_s, pm_wt, List.take_succ_cons, List.take_zero, List.take_nil, List.drop_succ_cons, List.drop_zero, List.reverse_cons, List.reverse_nil, List.nil_append, List.cons_append, List.length_cons, List.length_nil, true_and, and_true, true_implies, tn_l, tn_0, Int.reduceToNat, Int.reduceLE, Int.reduceLT, Int.reduceEq, Int.reduceAdd, Int.reduceSub, Int.reduceMul, Int.reduceNeg, Nat.reduceAdd, Nat.reduceLeDiff, Nat.reduceEqDiff, Nat.reduceSub, Option.some.injEq, Sum.inl.injEq, Sum.inr.injEq, or_true, true_or, reduceCtorEq, ne_eq, not_false_eq_true, not_true_eq_false, false_implies, implies_true, false_and, and_false, false_or, or_false, if_true, if_false, ly_3 hb, ly_4 hb, ly_5 hb, ly_6 hb, ly_7 hb, ly_8 hb, ly_9 hb, ly_t hb, ly_v hb, ly_b1 hb, ly_b2 hb, ly_b3 hb, ly_b16 hb, ly_b29 hb, ly_b30 hb, ly_b31 hb, fq_4 hg, fq_5 hg, fq_6 hg, fq_7 hg, fq_t hg, fq_v hg, fq_b1 hg, fq_b2 hg, fq_b3 hg, fq_b4 hg]
    exact k2 W (fun q hq => by rw [w1 q (by omega)]; exact v1 q (by omega)) (by rw [w1 b (by omega)]; exact v10) e3 (by rw [w1 b (by omega)]; exact v12) w2 _
  · intro s hs ih W w1 w2
    have e3 : W b 1 = (nS A n dl : Int) := by rw [w1 b (by omega)]; exact v11
    have f3 := frK W (fun q hq => by rw [w1 q (by omega)]; exact v1 q (by omega))
    have br := B5 s hs
    rw [ux_60_24]
    simp only [ux_60_0, ux_60_1, ux_60_2, ux_60_5, ux_60_8, ux_60_9, ux_60_10, ux_60_13, ux_60_16, ux_60_17, ux_60_18, ux_60_21, ux_60_22, ux_60_26, ux_60_27, ux_60_30, ux_60_33, ux_60_34, ux_60_37, ux_60_39, ux_60_40, ux_60_42, ux_60_45, ux_60_46, ux_60_47, ux_60_48, ux_60_51, ux_60_55, ux_60_59, ux_60_60, ux_60_63, ux_60_66, ux_60_67, ux_60_70, ux_60_72, ux_60_73, ux_60_76, ux_60_78, ux_60_79, ux_60_80, ux_60_81, ux_60_82, ux_60_83, ux_60_84, ux_60_87, ux_60_88, ux_60_91, ux_60_93, ux_60_94, ux_60_95, ux_60_98, ux_60_99, ux_60_103, ux_60_104, ux_60_107, ux_60_110, ux_60_111, ux_60_114, ux_60_116, ux_60_117, ux_60_119, ux_60_120, ux_60_121, ux_60_122, ux_60_125, ux_60_127, ux_60_128, ux_60_130, ux_60_131, ux_60_133, ux_60_135, ux_60_138, ux_60_139, ux_60_140, ux_60_141, ux_60_144, ux_60_150, ux_60_153, pm_i_c, pm_l_c, pm_q_c, pm_r_c, pm_li_0, pm_li_s, pm_ll_0, pm_ll_s, pm_lq_0, pm_lq_s, pm_s1, pm_s2, pm_kl, pm_wI, pm_wR, pm_pu_n, pm_pu_s, pm_wt, List.take_succ_cons, List.take_zero, List.take_nil, List.drop_succ_cons, List.drop_zero, List.reverse_cons, List.reverse_nil, List.nil_append, List.cons_append, List.length_cons, List.length_nil, true_and, and_true, true_implies, tn_l, tn_0, Int.reduceToNat, Int.reduceLE, Int.reduceLT, Int.reduceEq, Int.reduceAdd, Int.reduceSub, Int.reduceMul, Int.reduceNeg, Nat.reduceAdd, Nat.reduceLeDiff, Nat.reduceEqDiff, Nat.reduceSub, Option.some.injEq, Sum.inl.injEq, Sum.inr.injEq, or_true, true_or, reduceCtorEq, ne_eq, not_false_eq_true, not_true_eq_false, false_implies, implies_true, false_and, and_false, false_or, or_false, if_true, if_false, ly_3 hb, ly_4 hb, ly_5 hb, ly_6 hb, ly_7 hb, ly_8 hb, ly_9 hb, ly_t hb, ly_v hb, ly_b1 hb, ly_b2 hb, ly_b3 hb, ly_b16 hb, ly_b29 hb, ly_b30 hb, ly_b31 hb, fq_4 hg, fq_5 hg, fq_6 hg, fq_7 hg, fq_t hg, fq_v hg, fq_b1 hg, fq_b2 hg, fq_b3 hg, fq_b4 hg, e3, pm_ok_ev (c_stretchTakes (d := d) (by omega) hg hw h0 h1 (by omega) f3 s hs), eR1]
    refine ⟨fun z => by omega, fun _ => ⟨by unfold pm_I32; omega, by omega, by unfold pm_I32; omega, ih _ (fun q hq => by rw [pm_up_fr hq]; exact w1 q hq) (fun t ht => ?_)⟩⟩
    rw [pm_up_row]
    dsimp only
    by_cases e : t = s
    · rw [if_pos e, e]
    · rw [if_neg e]; exact w2 t (by omega)
end
