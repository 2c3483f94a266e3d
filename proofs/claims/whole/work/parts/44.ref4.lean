/-! THE REFERENCE: where a piece may lie, what it takes -/
def mlB (A : Nat → Int) (dl : Int) (f : Nat → Int) (p s : Nat) : Bool := decide (A (27 + p) ≤ f s) && decide (f (s + 1) ≤ lsA A dl p) && !(decide (A (3 + p) = 4) && decide (A (63 + p) ≤ f s) && decide (f (s + 1) ≤ A (75 + p)))
def tkA (A : Nat → Int) (lo dl : Int) (f : Nat → Int) (p s : Nat) : Int := if mlB A dl f p s then min (A (51 + p)) lo * (f (s + 1) - f s) else 0
section
variable {d : Nat} {h : pm_H} {V : Nat → Nat → Int} {R : Nat → Nat → Option Nat} {T : List (Nat × Nat)}
set_option maxHeartbeats 1000000 in
theorem m_mayLie (hd : 2 ≤ d) (hf : fx R T) (n p s : Nat) (hw : wf (V 132) n) (hp : p < n) (hs : s + 1 < 64) (h0 : 0 ≤ V 131 3) (h1 : V 131 3 ≤ 200) : pm_ev d 143 [.inr (.inr (some 131)), .inl (p : Int), .inl (s : Int)] (V, R, T) (some (.inl (if mlB (V 132) (V 131 3) (V 134) p s then 1 else 0))) (V, R, T) := by
  refine pm_ev_of (by omega) (Nat.le_of_ble_eq_true rfl) ?_
  show pm_w (d - 1) 143 0 [some (.inr (.inr (some 131))), some (.inl (p : Int)), some (.inl (s : Int)), none] [] (V, R, T) _
  have e1 : ((s : Int) + 1).toNat = s + 1 := by omega
  have hn := hw.1
  have b1 : pm_I32 (3 + (p : Int)) := by unfold pm_I32; omega
  have b2 : pm_I32 (27 + (p : Int)) := by unfold pm_I32; omega
  have b3 : pm_I32 (63 + (p : Int)) := by unfold pm_I32; omega
  have b4 : pm_I32 (75 + (p : Int)) := by unfold pm_I32; omega
  have b5 : pm_I32 ((s : Int) + 1) := by unfold pm_I32; omega
  have c1 : (0 : Int) ≤ 3 + (p : Int) ∧ 3 + (p : Int) < 87 := by omega
  have c2 : (0 : Int) ≤ 27 + (p : Int) ∧ 27 + (p : Int) < 87 := by omega
  have c3 : (0 : Int) ≤ 63 + (p : Int) ∧ 63 + (p : Int) < 87 := by omega
  have c4 : (0 : Int) ≤ 75 + (p : Int) ∧ 75 + (p : Int) < 87 := by omega
  have c5 : (0 : Int) ≤ (s : Int) ∧ (s : Int) < 64 := by omega
  have c6 : (0 : Int) ≤ (s : Int) + 1 ∧ (s : Int) + 1 < 64 := by omega
  simp only [ux_143_0, ux_143_1, ux_143_4, ux_143_5, ux_143_6, ux_143_7, ux_143_8, ux_143_9, ux_143_12, ux_143_13, ux_143_16, ux_143_17, ux_143_18, ux_143_19, ux_143_22, ux_143_24, ux_143_25, ux_143_26, ux_143_27, ux_143_30, ux_143_31, ux_143_34, ux_143_35, ux_143_36, ux_143_37, ux_143_38, ux_143_39, ux_143_42, ux_143_44, ux_143_45, ux_143_46, ux_143_47, ux_143_50, ux_143_51, ux_143_54, ux_143_55, ux_143_56, ux_143_57, ux_143_60, ux_143_61, ux_143_62, ux_143_63, ux_143_66, ux_143_68, ux_143_69, ux_143_70, ux_143_71, ux_143_74, ux_143_75, ux_143_78, ux_143_79, ux_143_80, ux_143_81, ux_143_82, ux_143_83, ux_143_84, ux_143_87, ux_143_90, ux_143_91, ux_143_94, ux_143_95, ux_143_98, ux_143_99, pm_i_c, pm_l_c, pm_q_c, pm_r_c, pm_li_0, pm_li_s, pm_ll_0, pm_ll_s, pm_lq_0, pm_lq_s, pm_s1, pm_s2, pm_kl, pm_wI, pm_wR, pm_pu_n, pm_pu_s, pm_wt, List.take_succ_cons, List.take_zero, List.take_nil, List.drop_succ_cons, List.drop_zero, List.reverse_cons, List.reverse_nil, List.nil_append, List.cons_append, List.length_cons, List.length_nil, true_and, and_true, true_implies, tn_l, tn_0, Int.reduceToNat, Int.reduceLE, Int.reduceLT, Int.reduceEq, Int.reduceAdd, Int.reduceSub, Int.reduceMul, Int.reduceNeg, Nat.reduceAdd, Nat.reduceLeDiff, Nat.reduceEqDiff, Nat.reduceSub, Option.some.injEq, Sum.inl.injEq, Sum.inr.injEq, or_true, true_or, reduceCtorEq, ne_eq, not_false_eq_true, not_true_eq_false, false_implies, implies_true, false_and, and_false, false_or, or_false, if_true, if_false, fr_131_0 hf, fr_131_1 hf, fr_131_5 hf, fr_131_7 hf, fr_131_8 hf, fr_131_9 hf, fr_131_12 hf, fr_131_13 hf, fr_131_14 hf, fr_131_15 hf, fr_131_19 hf, fr_131_20 hf, fr_131_21 hf, fr_131_22 hf, fr_131_23 hf, fr_131_24 hf, fg_131 hf, fv_131 hf, fb_132 hf, fb_133 hf, fb_134 hf, fb_135 hf, fb_136 hf, fb_137 hf, fb_138 hf, fb_139 hf, fb_140 hf, fb_141 hf, fb_142 hf, fb_143 hf, fb_144 hf, fb_145 hf, fb_146 hf, fb_147 hf, e1, pm_ok_ev (m_lastOf (d := d - 1) (by omega) hf p n hw hp h0 h1), eq_true b1, eq_true b2, eq_true b3, eq_true b4, eq_true b5, c1, c2, c3, c4, c5, c6, true_and]
  unfold mlB
  simp only [Bool.and_eq_true, Bool.not_eq_true', Bool.and_eq_false_iff, decide_eq_true_eq, decide_eq_false_iff_not]
  (repeat' (first | apply And.intro | intro _)) <;> split <;> omega
/-- what holds behind settle: the moments are L, rising, from 0 to 260 -/
def mo (f : Nat → Int) (L : List Int) : Prop := rp f L ∧ L.length ≤ 48 ∧ (∀ j, j < L.length → 0 ≤ f j ∧ f j ≤ 260) ∧ ∀ j, j + 1 < L.length → f j < f (j + 1)
theorem m_takes (hd : 3 ≤ d) (hf : fx R T) (n p s : Nat) (L : List Int) (hw : wf (V 132) n) (hm : mo (V 134) L) (hp : p < n) (hs : s + 1 < L.length) (h0 : 0 ≤ V 131 3) (h1 : V 131 3 ≤ 200) (h2 : 1 ≤ V 131 4) (h3 : V 131 4 ≤ 12) : pm_ev d 142 [.inr (.inr (some 131)), .inl (p : Int), .inl (s : Int)] (V, R, T) (some (.inl (tkA (V 132) (V 131 4) (V 131 3) (V 134) p s))) (V, R, T) := by
  refine pm_ev_of (by omega) (Nat.le_of_ble_eq_true rfl) ?_
  show pm_w (d - 1) 142 0 [some (.inr (.inr (some 131))), some (.inl (p : Int)), some (.inl (s : Int)), none] [] (V, R, T) _
  have hn := hw.1
  have hl := hm.2.1
  have m1 := hm.2.2.1 s (by omega)
  have m2 := hm.2.2.1 (s + 1) hs
  have m3 := hm.2.2.2 s hs
  have w1 := (hw.2.2.2.2 p hp).2.2.2.2.2.2.1
  have b1 : pm_I32 (51 + (p : Int)) := by unfold pm_I32; omega
  have c1 : (0 : Int) ≤ 51 + (p : Int) ∧ 51 + (p : Int) < 87 := by omega
  have hb : ∀ w : Int, 0 ≤ w → w ≤ 12 → pm_I32 (w * (V 134 (s + 1) - V 134 s)) := by
    intro w a1 a2
    have q1 : 0 ≤ w * (V 134 (s + 1) - V 134 s) := Int.mul_nonneg a1 (by omega)
    have q2 : w * (V 134 (s + 1) - V 134 s) ≤ 12 * 260 := Int.mul_le_mul a2 (by omega) (by omega) (by omega)
    unfold pm_I32
    omega
  simp only [ux_142_0, ux_142_1, ux_142_4, ux_142_6, ux_142_7, ux_142_8, ux_142_9, ux_142_10, ux_142_13, ux_142_16, ux_142_17, ux_142_20, ux_142_22, ux_142_23, ux_142_24, ux_142_25, ux_142_28, ux_142_29, ux_142_32, ux_142_33, ux_142_34, ux_142_35, ux_142_36, ux_142_39, ux_142_42, ux_142_43, ux_142_44, ux_142_45, ux_142_48, ux_142_49, ux_142_52, ux_142_53, pm_i_c, pm_l_c, pm_q_c, pm_r_c, pm_li_0, pm_li_s, pm_ll_0, pm_ll_s, pm_lq_0, pm_lq_s, pm_s1, pm_s2, pm_kl, pm_wI, pm_wR, pm_pu_n, pm_pu_s, pm_wt, List.take_succ_cons, List.take_zero, List.take_nil, List.drop_succ_cons, List.drop_zero, List.reverse_cons, List.reverse_nil, List.nil_append, List.cons_append, List.length_cons, List.length_nil, true_and, and_true, true_implies, tn_l, tn_0, Int.reduceToNat, Int.reduceLE, Int.reduceLT, Int.reduceEq, Int.reduceAdd, Int.reduceSub, Int.reduceMul, Int.reduceNeg, Nat.reduceAdd, Nat.reduceLeDiff, Nat.reduceEqDiff, Nat.reduceSub, Option.some.injEq, Sum.inl.injEq, Sum.inr.injEq, or_true, true_or, reduceCtorEq, ne_eq, not_false_eq_true, not_true_eq_false, false_implies, implies_true, false_and, and_false, false_or, or_false, if_true, if_false, fr_131_0 hf, fr_131_1 hf, fr_131_5 hf, fr_131_7 hf, fr_131_8 hf, fr_131_9 hf, fr_131_12 hf, fr_131_13 hf, fr_131_14 hf, fr_131_15 hf, fr_131_19 hf, fr_131_20 hf, fr_131_21 hf, fr_131_22 hf, fr_131_23 hf, fr_131_24 hf, fg_131 hf, fv_131 hf, fb_132 hf, fb_133 hf, fb_134 hf, fb_135 hf, fb_136 hf, fb_137 hf, fb_138 hf, fb_139 hf, fb_140 hf, fb_141 hf, fb_142 hf, fb_143 hf, fb_144 hf, fb_145 hf, fb_146 hf, fb_147 hf, pm_ok_ev (m_mayLie (V := V) (d := d - 1) (by omega) hf n p s hw hp (by omega) h0 h1), pm_ok_ev (m_lengthAt (V := V) (d := d - 1) (by omega) hf s (by omega) (by unfold pm_I32; omega)), eq_true b1, c1]
  unfold tkA
  cases mlB (V 132) (V 131 3) (V 134) p s with
  | true =>
    refine ⟨fun hc => ⟨fun z => (by cases z), fun _ => ⟨hb _ (by omega) (by omega), ?_⟩⟩, fun hc => ⟨fun z => (by cases z), fun _ => ⟨hb _ (by omega) (by omega), ?_⟩⟩⟩
    · rw [show min (V 132 (51 + p)) (V 131 4) = V 131 4 by omega]; rfl
    · rw [show min (V 132 (51 + p)) (V 131 4) = V 132 (51 + p) by omega]; rfl
  | false =>
    exact ⟨fun hc => ⟨fun _ => rfl, fun z => absurd rfl z⟩, fun hc => ⟨fun _ => rfl, fun z => absurd rfl z⟩⟩
end
