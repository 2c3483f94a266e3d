/-! THE REFERENCE: the rooms of its flow -/
def rmA (lo : Int) (f : Nat → Int) (s : Nat) : Int := lo * (f (s + 1) - f s)
theorem tkA_bd {A f : Nat → Int} {n p s : Nat} {lo dl : Int} {L : List Int} (hw : wf A n) (hm : mo f L) (hp : p < n) (hs : s + 1 < L.length) (h2 : 1 ≤ lo) (h3 : lo ≤ 12) : 0 ≤ tkA A lo dl f p s ∧ tkA A lo dl f p s ≤ 1560 := by
  have m1 := hm.2.2.1 s (by omega)
  have m2 := hm.2.2.1 (s + 1) hs
  have m3 := hm.2.2.2 s hs
  have w1 := (hw.2.2.2.2 p hp).2.2.2.2.2.2.1
  unfold tkA
  split
  · have q1 : 0 ≤ min (A (51 + p)) lo * (f (s + 1) - f s) := Int.mul_nonneg (by omega) (by omega)
    have q2 : min (A (51 + p)) lo * (f (s + 1) - f s) ≤ 6 * 260 := Int.mul_le_mul (by omega) (by omega) (by omega) (by omega)
    omega
  · omega
theorem rmA_bd {f : Nat → Int} {s : Nat} {lo : Int} {L : List Int} (hm : mo f L) (hs : s + 1 < L.length) (h2 : 1 ≤ lo) (h3 : lo ≤ 12) : 0 < rmA lo f s ∧ rmA lo f s ≤ 3120 := by
  have m1 := hm.2.2.1 s (by omega)
  have m2 := hm.2.2.1 (s + 1) hs
  have m3 := hm.2.2.2 s hs
  unfold rmA
  have q1 : 0 < lo * (f (s + 1) - f s) := Int.mul_pos (by omega) (by omega)
  have q2 : lo * (f (s + 1) - f s) ≤ 12 * 260 := Int.mul_le_mul (by omega) (by omega) (by omega) (by omega)
  omega
theorem mulbd {x y a b : Int} (h1 : 0 ≤ x) (h2 : x ≤ a) (h3 : 0 ≤ y) (h4 : y ≤ b) : 0 ≤ x * y ∧ x * y ≤ a * b := ⟨Int.mul_nonneg h1 h3, Int.mul_le_mul h2 h4 h3 (by omega)⟩
section
variable {d : Nat} {h : pm_H} {V : Nat → Nat → Int} {R : Nat → Nat → Option Nat} {T : List (Nat × Nat)}
theorem m_roomOf (hd : 4 ≤ d) (hf : fx R T) (n p s : Nat) (L : List Int) (hw : wf (V 132) n) (hm : mo (V 134) L) (hp : p < n) (hs : s + 1 < L.length) (h0 : 0 ≤ V 131 3) (h1 : V 131 3 ≤ 200) (h2 : 1 ≤ V 131 4) (h3 : V 131 4 ≤ 12) (h4 : 0 ≤ V 131 11) (h5 : V 131 11 ≤ 1000000) (h6 : 0 ≤ V 135 (64 * p + s)) (h7 : V 135 (64 * p + s) ≤ 10000000000) : pm_ev d 141 [.inr (.inr (some 131)), .inl (p : Int), .inl (s : Int)] (V, R, T) (some (.inr (.inl (tkA (V 132) (V 131 4) (V 131 3) (V 134) p s * V 131 11 - V 135 (64 * p + s))))) (V, R, T) := by
  refine pm_ev_of (by omega) (Nat.le_of_ble_eq_true rfl) ?_
  show pm_w (d - 1) 141 0 [some (.inr (.inr (some 131))), some (.inl (p : Int)), some (.inl (s : Int))] [] (V, R, T) _
  have hn := hw.1
  have hl := hm.2.1
  have tb := tkA_bd (dl := V 131 3) hw hm hp hs h2 h3
  have mb := mulbd tb.1 tb.2 h4 h5
  have e1 : (64 * (p : Int) + (s : Int)).toNat = 64 * p + s := by omega
  simp only [ux_141_0, ux_141_1, ux_141_2, ux_141_3, ux_141_6, ux_141_7, ux_141_8, ux_141_11, ux_141_12, ux_141_13, ux_141_16, ux_141_18, ux_141_19, ux_141_20, ux_141_21, ux_141_22, ux_141_23, ux_141_24, pm_i_c, pm_l_c, pm_q_c, pm_r_c, pm_li_0, pm_li_s, pm_ll_0, pm_ll_s, pm_lq_0, pm_lq_s, pm_s1, pm_s2, pm_kl, pm_wI, pm_wR, pm_pu_n, pm_pu_s, pm_wt, List.take_succ_cons, List.take_zero, List.take_nil, List.drop_succ_cons, List.drop_zero, List.reverse_cons, List.reverse_nil, List.nil_append, List.cons_append, List.length_cons, List.length_nil, true_and, and_true, true_implies, tn_l, tn_0, Int.reduceToNat, Int.reduceLE, Int.reduceLT, Int.reduceEq, Int.reduceAdd, Int.reduceSub, Int.reduceMul, Int.reduceNeg, Nat.reduceAdd, Nat.reduceLeDiff, Nat.reduceEqDiff, Nat.reduceSub, Option.some.injEq, Sum.inl.injEq, Sum.inr.injEq, or_true, true_or, reduceCtorEq, ne_eq, not_false_eq_true, not_true_eq_false, false_implies, implies_true, false_and, and_false, false_or, or_false, if_true, if_false, fr_131_0 hf, fr_131_1 hf, fr_131_5 hf, fr_131_7 hf, fr_131_8 hf, fr_131_9 hf, fr_131_12 hf, fr_131_13 hf, fr_131_14 hf, fr_131_15 hf, fr_131_19 hf, fr_131_20 hf, fr_131_21 hf, fr_131_22 hf, fr_131_23 hf, fr_131_24 hf, fg_131 hf, fv_131 hf, fb_132 hf, fb_133 hf, fb_134 hf, fb_135 hf, fb_136 hf, fb_137 hf, fb_138 hf, fb_139 hf, fb_140 hf, fb_141 hf, fb_142 hf, fb_143 hf, fb_144 hf, fb_145 hf, fb_146 hf, fb_147 hf, pm_ok_ev (m_takes (V := V) (d := d - 1) (by omega) hf n p s L hw hm hp hs h0 h1 h2 h3), e1]
  refine ⟨by unfold pm_I64; omega, by unfold pm_I32; omega, by unfold pm_I32; omega, by omega, by unfold pm_I64; omega⟩
theorem m_roomAt (hd : 2 ≤ d) (hf : fx R T) (s : Nat) (L : List Int) (hm : mo (V 134) L) (hs : s + 1 < L.length) (h2 : 1 ≤ V 131 4) (h3 : V 131 4 ≤ 12) (h4 : 0 ≤ V 131 11) (h5 : V 131 11 ≤ 1000000) (h6 : 0 ≤ V 137 s) (h7 : V 137 s ≤ 10000000000) : pm_ev d 145 [.inr (.inr (some 131)), .inl (s : Int)] (V, R, T) (some (.inr (.inl (rmA (V 131 4) (V 134) s * V 131 11 - V 137 s)))) (V, R, T) := by
  refine pm_ev_of (by omega) (Nat.le_of_ble_eq_true rfl) ?_
  show pm_w (d - 1) 145 0 [some (.inr (.inr (some 131))), some (.inl (s : Int))] [] (V, R, T) _
  have hl := hm.2.1
  have m1 := hm.2.2.1 s (by omega)
  have m2 := hm.2.2.1 (s + 1) hs
  have tb := rmA_bd hm hs h2 h3
  have mb := mulbd (by omega) tb.2 h4 h5
  unfold rmA at tb mb ⊢
  simp only [ux_145_0, ux_145_1, ux_145_4, ux_145_5, ux_145_6, ux_145_7, ux_145_10, ux_145_11, ux_145_12, ux_145_13, ux_145_16, ux_145_17, ux_145_18, ux_145_21, ux_145_22, ux_145_23, ux_145_24, pm_i_c, pm_l_c, pm_q_c, pm_r_c, pm_li_0, pm_li_s, pm_ll_0, pm_ll_s, pm_lq_0, pm_lq_s, pm_s1, pm_s2, pm_kl, pm_wI, pm_wR, pm_pu_n, pm_pu_s, pm_wt, List.take_succ_cons, List.take_zero, List.take_nil, List.drop_succ_cons, List.drop_zero, List.reverse_cons, List.reverse_nil, List.nil_append, List.cons_append, List.length_cons, List.length_nil, true_and, and_true, true_implies, tn_l, tn_0, Int.reduceToNat, Int.reduceLE, Int.reduceLT, Int.reduceEq, Int.reduceAdd, Int.reduceSub, Int.reduceMul, Int.reduceNeg, Nat.reduceAdd, Nat.reduceLeDiff, Nat.reduceEqDiff, Nat.reduceSub, Option.some.injEq, Sum.inl.injEq, Sum.inr.injEq, or_true, true_or, reduceCtorEq, ne_eq, not_false_eq_true, not_true_eq_false, false_implies, implies_true, false_and, and_false, false_or, or_false, if_true, if_false, fr_131_0 hf, fr_131_1 hf, fr_131_5 hf, fr_131_7 hf, fr_131_8 hf, fr_131_9 hf, fr_131_12 hf, fr_131_13 hf, fr_131_14 hf, fr_131_15 hf, fr_131_19 hf, fr_131_20 hf, fr_131_21 hf, fr_131_22 hf, fr_131_23 hf, fr_131_24 hf, fg_131 hf, fv_131 hf, fb_132 hf, fb_133 hf, fb_134 hf, fb_135 hf, fb_136 hf, fb_137 hf, fb_138 hf, fb_139 hf, fb_140 hf, fb_141 hf, fb_142 hf, fb_143 hf, fb_144 hf, fb_145 hf, fb_146 hf, fb_147 hf, pm_ok_ev (m_lengthAt (V := V) (d := d - 1) (by omega) hf s (by omega) (by unfold pm_I32; omega))]
  refine ⟨by unfold pm_I64; omega, by unfold pm_I64; omega, by omega, by unfold pm_I64; omega⟩
end
