/-! THE REFERENCE: lay -/
theorem sfr_eq {V W : Nat → Nat → Int} (h : sfr V W) : lR W = lR V ∧ cR W = cR V ∧ rR W = rR V ∧ xR W = xR V := by
  have e1 := h 131 (by decide) (by decide) (by decide)
  have e2 := h 132 (by decide) (by decide) (by decide)
  have e4 := h 134 (by decide) (by decide) (by decide)
  have e5 := h 135 (by decide) (by decide) (by decide)
  refine ⟨?_, ?_, ?_, ?_⟩
  · funext p; unfold lR; rw [e1, e2]
  · funext p s; unfold cR; rw [e1, e2, e4]
  · funext s; unfold rR; rw [e1, e4]
  · funext p s; unfold xR; rw [e5]
theorem sfr_S {V W : Nat → Nat → Int} {n : Nat} {L : List Int} (h : sfr V W) (hS : rfS V n L) : rfS W n L := by
  unfold rfS
  rw [h 131 (by decide) (by decide) (by decide), h 132 (by decide) (by decide) (by decide), h 134 (by decide) (by decide) (by decide)]
  exact hS
theorem sfr_X {V W : Nat → Nat → Int} {n S : Nat} (h : sfr V W) (hX : rfX V n S) : rfX W n S := by
  obtain ⟨a, b, c, e⟩ := sfr_eq h
  unfold rfX
  rw [a, b, c, e, h 136 (by decide) (by decide) (by decide), h 137 (by decide) (by decide) (by decide)]
  exact hX
theorem sfr_rf {V : Nat → Nat → Int} : sfr V V := fun _ _ _ _ => rfl
theorem xR_up {W : Nat → Nat → Int} {p s : Nat} {v : Int} (hs : s < 64) : xR (pm_up W 135 (64 * p + s) (xR W p s + v)) = upx (xR W) p s v := by
  funext q t
  unfold upx
  by_cases ht : t < 64
  · rw [xR_eq ht, pm_up_ap, if_pos rfl, ← xR_eq (V := W) ht]
    by_cases e : q = p ∧ t = s
    · rw [if_pos e, if_pos (by omega), e.1, e.2]
    · rw [if_neg e, if_neg (by omega)]
  · have : ¬ (q = p ∧ t = s) := by omega
    rw [if_neg this]
    unfold xR
    rw [if_neg ht, if_neg ht]
theorem xR_fr {V W : Nat → Nat → Int} (h : W 135 = V 135) : xR W = xR V := by
  funext p s; unfold xR; rw [h]
def resG (f g : Nat → Int) (c x : Nat → Nat → Int) (v : Int) (k p : Nat) : Prop := 0 ≤ f p → v ≤ x p (f p).toNat ∧ resF f g c x v k (f p).toNat
def srcG (f g : Nat → Int) (k p : Nat) : Nat := if f p < 0 then p else srcF f g k (f p).toNat
def augG (f g : Nat → Int) (v : Int) (k p : Nat) (x : Nat → Nat → Int) : Nat → Nat → Int := if f p < 0 then x else augF f g v k (f p).toNat (upx x p (f p).toNat (-v))
section
variable {d : Nat} {h : pm_H} {V W : Nat → Nat → Int} {R : Nat → Nat → Option Nat} {T : List (Nat × Nat)} {n : Nat} {L : List Int}
theorem ly_min (hd : 4 ≤ d) (hf : fx R T) (hS : rfS V n L) (hX : rfX V n (nst L)) {st : Nat → Prop} {rp rs : Nat → Nat} (ht : tre n (nst L) (cR V) (xR V) st (V 138) (V 139) rp rs) {Q : Option pm_V → pm_H → Prop} {e : Int} {y6 y7 : Option pm_V} : ∀ (k p : Nat) (v s : Int), p < n → V 138 p ≠ -2 → rp p ≤ k → 0 < v → v ≤ 10000000000 → (∀ v' s', 0 < v' → v' ≤ v → resG (V 138) (V 139) (cR V) (xR V) v' k p → pm_w d 146 137 [some (.inr (.inr (some 131))), some (.inl e), some (.inr (.inl v')), none, some (.inl s'), some (.inl (srcG (V 138) (V 139) k p : Int)), y6, y7] [] (V, R, T) Q) → pm_w d 146 44 [some (.inr (.inr (some 131))), some (.inl e), some (.inr (.inl v)), none, some (.inl s), some (.inl (p : Int)), y6, y7] [] (V, R, T) Q := by
  have hn := hS.1.1
  have hl := hS.2.1.2.1
  have hnS : nst L ≤ 47 := by unfold nst; omega
  intro k
  induction k with
  | zero =>
    intro p v s hp hfp hr hv hv2 go
    rcases ht.1 p hp hfp with ⟨h1, h2⟩ | ⟨t, h1, h2, h3, h4, h5⟩
    · rw [ux_146_44]
      simp only [ux_146_0, ux_146_1, ux_146_2, ux_146_5, ux_146_6, ux_146_7, ux_146_9, ux_146_10, ux_146_13, ux_146_15, ux_146_16, ux_146_18, ux_146_19, ux_146_21, ux_146_23, ux_146_26, ux_146_27, ux_146_28, ux_146_31, ux_146_32, ux_146_34, ux_146_36, ux_146_39, ux_146_42, ux_146_43, ux_146_45, ux_146_48, ux_146_50, ux_146_51, ux_146_54, ux_146_55, ux_146_58, ux_146_60, ux_146_61, ux_146_63, ux_146_64, ux_146_67, ux_146_69, ux_146_71, ux_146_72, ux_146_74, ux_146_75, ux_146_76, ux_146_77, ux_146_78, ux_146_81, ux_146_82, ux_146_85, ux_146_87, ux_146_89, ux_146_90, ux_146_92, ux_146_93, ux_146_94, ux_146_97, ux_146_98, ux_146_99, ux_146_100, ux_146_103, ux_146_105, ux_146_106, ux_146_108, ux_146_109, ux_146_111, ux_146_113, ux_146_116, ux_146_117, ux_146_118, ux_146_121, ux_146_122, ux_146_124, ux_146_126, ux_146_129, ux_146_132, ux_146_133, ux_146_134, ux_146_138, ux_146_141, ux_146_143, ux_146_145, ux_146_146, ux_146_147, ux_146_148, ux_146_149, ux_146_152, ux_146_153, ux_146_154, ux_146_157, ux_146_159, ux_146_160, ux_146_161, ux_146_163, ux_146_165, ux_146_166, ux_146_167, ux_146_170, ux_146_172, ux_146_175, ux_146_176, ux_146_177, ux_146_178, ux_146_181, ux_146_183, ux_146_184, ux_146_185, ux_146_186, ux_146_187, ux_146_188, ux_146_189, ux_146_192, ux_146_193, ux_146_194, ux_146_195, ux_146_196, ux_146_197, ux_146_198, ux_146_199, ux_146_201, ux_146_202, ux_146_205, ux_146_207, ux_146_208, ux_146_210, ux_146_211, ux_146_214, ux_146_216, ux_146_218, ux_146_219, ux_146_221, ux_146_222, ux_146_223, ux_146_224, ux_146_225, ux_146_226, ux_146_228, ux_146_231, ux_146_233, ux_146_234, ux_146_237, ux_146_238, ux_146_241, ux_146_243, ux_146_244, ux_146_246, ux_146_247, ux_146_250, ux_146_252, ux_146_254, ux_146_255, ux_146_257, ux_146_258, ux_146_259, ux_146_260, ux_146_261, ux_146_262, ux_146_263, ux_146_264, ux_146_267, ux_146_269, ux_146_270, ux_146_272, ux_146_273, ux_146_276, ux_146_278, ux_146_280, ux_146_281, ux_146_283, ux_146_284, ux_146_285, ux_146_286, ux_146_287, ux_146_288, ux_146_289, ux_146_292, pm_i_c, pm_l_c, pm_q_c, pm_r_c, pm_li_0, pm_li_s, pm_ll_0, pm_ll_s, pm_lq_0, pm_lq_s, pm_s1, pm_s2, pm_kl, pm_wI, pm_wR, pm_pu_n, pm_pu_s, pm_wt, List.take_succ_cons, List.take_zero, List.take_nil, List.drop_succ_cons, List.drop_zero, List.reverse_cons, List.reverse_nil, List.nil_append, List.cons_append, List.length_cons, List.length_nil, true_and, and_true, true_implies, tn_l, tn_0, Int.reduceToNat, Int.reduceLE, Int.reduceLT, Int.reduceEq, Int.reduceAdd, Int.reduceSub, Int.reduceMul, Int.reduceNeg, Nat.reduceAdd, Nat.reduceLeDiff, Nat.reduceEqDiff, Nat.reduceSub, Option.some.injEq, Sum.inl.injEq, Sum.inr.injEq, or_true, true_or, reduceCtorEq, ne_eq, not_false_eq_true, not_true_eq_false, false_implies, implies_true, false_and, and_false, false_or, or_false, if_true, if_false, fr_131_0 hf, fr_131_1 hf, fr_131_5 hf, fr_131_7 hf, fr_131_8 hf, fr_131_9 hf, fr_131_12 hf, fr_131_13 hf, fr_131_14 hf, fr_131_15 hf, fr_131_19 hf, fr_131_20 hf, fr_131_21 hf, fr_131_22 hf, fr_131_23 hf, fr_131_24 hf, fg_131 hf, fv_131 hf, fb_132 hf, fb_133 hf, fb_134 hf, fb_135 hf, fb_136 hf, fb_137 hf, fb_138 hf, fb_139 hf, fb_140 hf, fb_141 hf, fb_142 hf, fb_143 hf, fb_144 hf, fb_145 hf, fb_146 hf, fb_147 hf, h1]
      have := go v s hv (Int.le_refl _) (fun w => by omega)
      unfold srcG at this
      rw [if_pos (by omega)] at this
      refine ⟨by omega, ?_⟩
      first | exact this | exact ⟨fun _ => this, fun z => absurd (by omega) z⟩
    · omega
  | succ k ih =>
    intro p v s hp hfp hr hv hv2 go
    rcases ht.1 p hp hfp with ⟨h1, h2⟩ | ⟨t, h1, h2, h3, h4, h5⟩
    · rw [ux_146_44]
      simp only [ux_146_0, ux_146_1, ux_146_2, ux_146_5, ux_146_6, ux_146_7, ux_146_9, ux_146_10, ux_146_13, ux_146_15, ux_146_16, ux_146_18, ux_146_19, ux_146_21, ux_146_23, ux_146_26, ux_146_27, ux_146_28, ux_146_31, ux_146_32, ux_146_34, ux_146_36, ux_146_39, ux_146_42, ux_146_43, ux_146_45, ux_146_48, ux_146_50, ux_146_51, ux_146_54, ux_146_55, ux_146_58, ux_146_60, ux_146_61, ux_146_63, ux_146_64, ux_146_67, ux_146_69, ux_146_71, ux_146_72, ux_146_74, ux_146_75, ux_146_76, ux_146_77, ux_146_78, ux_146_81, ux_146_82, ux_146_85, ux_146_87, ux_146_89, ux_146_90, ux_146_92, ux_146_93, ux_146_94, ux_146_97, ux_146_98, ux_146_99, ux_146_100, ux_146_103, ux_146_105, ux_146_106, ux_146_108, ux_146_109, ux_146_111, ux_146_113, ux_146_116, ux_146_117, ux_146_118, ux_146_121, ux_146_122, ux_146_124, ux_146_126, ux_146_129, ux_146_132, ux_146_133, ux_146_134, ux_146_138, ux_146_141, ux_146_143, ux_146_145, ux_146_146, ux_146_147, ux_146_148, ux_146_149, ux_146_152, ux_146_153, ux_146_154, ux_146_157, ux_146_159, ux_146_160, ux_146_161, ux_146_163, ux_146_165, ux_146_166, ux_146_167, ux_146_170, ux_146_172, ux_146_175, ux_146_176, ux_146_177, ux_146_178, ux_146_181, ux_146_183, ux_146_184, ux_146_185, ux_146_186, ux_146_187, ux_146_188, ux_146_189, ux_146_192, ux_146_193, ux_146_194, ux_146_195, ux_146_196, ux_146_197, ux_146_198, ux_146_199, ux_146_201, ux_146_202, ux_146_205, ux_146_207, ux_146_208, ux_146_210, ux_146_211, ux_146_214, ux_146_216, ux_146_218, ux_146_219, ux_146_221, ux_146_222, ux_146_223, ux_146_224, ux_146_225, ux_146_226, ux_146_228, ux_146_231, ux_146_233, ux_146_234, ux_146_237, ux_146_238, ux_146_241, ux_146_243, ux_146_244, ux_146_246, ux_146_247, ux_146_250, ux_146_252, ux_146_254, ux_146_255, ux_146_257, ux_146_258, ux_146_259, ux_146_260, ux_146_261, ux_146_262, ux_146_263, ux_146_264, ux_146_267, ux_146_269, ux_146_270, ux_146_272, ux_146_273, ux_146_276, ux_146_278, ux_146_280, ux_146_281, ux_146_283, ux_146_284, ux_146_285, ux_146_286, ux_146_287, ux_146_288, ux_146_289, ux_146_292, pm_i_c, pm_l_c, pm_q_c, pm_r_c, pm_li_0, pm_li_s, pm_ll_0, pm_ll_s, pm_lq_0, pm_lq_s, pm_s1, pm_s2, pm_kl, pm_wI, pm_wR, pm_pu_n, pm_pu_s, pm_wt, List.take_succ_cons, List.take_zero, List.take_nil, List.drop_succ_cons, List.drop_zero, List.reverse_cons, List.reverse_nil, List.nil_append, List.cons_append, List.length_cons, List.length_nil, true_and, and_true, true_implies, tn_l, tn_0, Int.reduceToNat, Int.reduceLE, Int.reduceLT, Int.reduceEq, Int.reduceAdd, Int.reduceSub, Int.reduceMul, Int.reduceNeg, Nat.reduceAdd, Nat.reduceLeDiff, Nat.reduceEqDiff, Nat.reduceSub, Option.some.injEq, Sum.inl.injEq, Sum.inr.injEq, or_true, true_or, reduceCtorEq, ne_eq, not_false_eq_true, not_true_eq_false, false_implies, implies_true, false_and, and_false, false_or, or_false, if_true, if_false, fr_131_0 hf, fr_131_1 hf, fr_131_5 hf, fr_131_7 hf, fr_131_8 hf, fr_131_9 hf, fr_131_12 hf, fr_131_13 hf, fr_131_14 hf, fr_131_15 hf, fr_131_19 hf, fr_131_20 hf, fr_131_21 hf, fr_131_22 hf, fr_131_23 hf, fr_131_24 hf, fg_131 hf, fv_131 hf, fb_132 hf, fb_133 hf, fb_134 hf, fb_135 hf, fb_136 hf, fb_137 hf, fb_138 hf, fb_139 hf, fb_140 hf, fb_141 hf, fb_142 hf, fb_143 hf, fb_144 hf, fb_145 hf, fb_146 hf, fb_147 hf, h1]
      have := go v s hv (Int.le_refl _) (fun w => by omega)
      unfold srcG at this
      rw [if_pos (by omega)] at this
      refine ⟨by omega, ?_⟩
      first | exact this | exact ⟨fun _ => this, fun z => absurd (by omega) z⟩
    · obtain ⟨p2, g1, g2, g3, g4, g5⟩ := ht.2 t h1 h3
      have ei : (64 * (p : Int) + (t : Int)).toNat = 64 * p + t := by omega
      have ex : V 135 (64 * p + t) = xR V p t := (xR_eq (by omega)).symm
      have xb := (rfX_bd hS hX).1 p t hp h1
      have cb := (rfS_bd hS).1 p2 t g1 h1
      have xb2 := (rfX_bd hS hX).1 p2 t g1 h1
      rw [ux_146_44]
      simp only [ux_146_0, ux_146_1, ux_146_2, ux_146_5, ux_146_6, ux_146_7, ux_146_9, ux_146_10, ux_146_13, ux_146_15, ux_146_16, ux_146_18, ux_146_19, ux_146_21, ux_146_23, ux_146_26, ux_146_27, ux_146_28, ux_146_31, ux_146_32, ux_146_34, ux_146_36, ux_146_39, ux_146_42, ux_146_43, ux_146_45, ux_146_48, ux_146_50, ux_146_51, ux_146_54, ux_146_55, ux_146_58, ux_146_60, ux_146_61, ux_146_63, ux_146_64, ux_146_67, ux_146_69, ux_146_71, ux_146_72, ux_146_74, ux_146_75, ux_146_76, ux_146_77, ux_146_78, ux_146_81, ux_146_82, ux_146_85, ux_146_87, ux_146_89, ux_146_90, ux_146_92, ux_146_93, ux_146_94, ux_146_97, ux_146_98, ux_146_99, ux_146_100, ux_146_103, ux_146_105, ux_146_106, ux_146_108, ux_146_109, ux_146_111, ux_146_113, ux_146_116, ux_146_117, ux_146_118, ux_146_121, ux_146_122, ux_146_124, ux_146_126, ux_146_129, ux_146_132, ux_146_133, ux_146_134, ux_146_138, ux_146_141, ux_146_143, ux_146_145, ux_146_146, ux_146_147, ux_146_148, ux_146_149, ux_146_152, ux_146_153, ux_146_154, ux_146_157, ux_146_159, ux_146_160, ux_146_161, ux_146_163, ux_146_165, ux_146_166, ux_146_167, ux_146_170, ux_146_172, ux_146_175, ux_146_176, ux_146_177, ux_146_178, ux_146_181, ux_146_183, ux_146_184, ux_146_185, ux_146_186, ux_146_187, ux_146_188, ux_146_189, ux_146_192, ux_146_193, ux_146_194, ux_146_195, ux_146_196, ux_146_197, ux_146_198, ux_146_199, ux_146_201, ux_146_202, ux_146_205, ux_146_207, ux_146_208, ux_146_210, ux_146_211, ux_146_214, ux_146_216, ux_146_218, ux_146_219, ux_146_221, ux_146_222, ux_146_223, ux_146_224, ux_146_225, ux_146_226, ux_146_228, ux_146_231, ux_146_233, ux_146_234, ux_146_237, ux_146_238, ux_146_241, ux_146_243, ux_146_244, ux_146_246, ux_146_247, ux_146_250, ux_146_252, ux_146_254, ux_146_255, ux_146_257, ux_146_258, ux_146_259, ux_146_260, ux_146_261, ux_146_262, ux_146_263, ux_146_264, ux_146_267, ux_146_269, ux_146_270, ux_146_272, ux_146_273, ux_146_276, ux_146_278, ux_146_280, ux_146_281, ux_146_283, ux_146_284, ux_146_285, ux_146_286, ux_146_287, ux_146_288, ux_146_289, ux_146_292, pm_i_c, pm_l_c, pm_q_c, pm_r_c, pm_li_0, pm_li_s, pm_ll_0, pm_ll_s, pm_lq_0, pm_lq_s, pm_s1, pm_s2, pm_kl, pm_wI, pm_wR, pm_pu_n, pm_pu_s, pm_wt, List.take_succ_cons, List.take_zero, List.take_nil, List.drop_succ_cons, List.drop_zero, List.reverse_cons, List.reverse_nil, List.nil_append, List.cons_append, List.length_cons, List.length_nil, true_and, and_true, true_implies, tn_l, tn_0, Int.reduceToNat, Int.reduceLE, Int.reduceLT, Int.reduceEq, Int.reduceAdd, Int.reduceSub, Int.reduceMul, Int.reduceNeg, Nat.reduceAdd, Nat.reduceLeDiff, Nat.reduceEqDiff, Nat.reduceSub, Option.some.injEq, Sum.inl.injEq, Sum.inr.injEq, or_true, true_or, reduceCtorEq, ne_eq, not_false_eq_true, not_true_eq_false, false_implies, implies_true, false_and, and_false, false_or, or_false, if_true, if_false, fr_131_0 hf, fr_131_1 hf, fr_131_5 hf, fr_131_7 hf, fr_131_8 hf, fr_131_9 hf, fr_131_12 hf, fr_131_13 hf, fr_131_14 hf, fr_131_15 hf, fr_131_19 hf, fr_131_20 hf, fr_131_21 hf, fr_131_22 hf, fr_131_23 hf, fr_131_24 hf, fg_131 hf, fv_131 hf, fb_132 hf, fb_133 hf, fb_134 hf, fb_135 hf, fb_136 hf, fb_137 hf, fb_138 hf, fb_139 hf, fb_140 hf, fb_141 hf, fb_142 hf, fb_143 hf, fb_144 hf, fb_145 hf, fb_146 hf, fb_147 hf, h2, g2, ei, ex, lc_ge, pm_ok_ev (se_roomOf (d := d) hd hf hS hX sfr_rf p2 t g1 h1)]
      have e1 : ∀ v', srcG (V 138) (V 139) (k + 1) p = srcG (V 138) (V 139) k p2 ∧ (0 < v' → v' ≤ xR V p t → v' ≤ cR V p2 t - xR V p2 t → resG (V 138) (V 139) (cR V) (xR V) v' k p2 → resG (V 138) (V 139) (cR V) (xR V) v' (k + 1) p) := by
        intro v'
        refine ⟨?_, fun _ a b c => ?_⟩
        · show (if V 138 p < 0 then p else srcF (V 138) (V 139) (k + 1) (V 138 p).toNat) = _
          rw [if_neg (by omega), show (V 138 p).toNat = t by omega]
          show (if V 138 (V 139 t).toNat < 0 then (V 139 t).toNat else srcF (V 138) (V 139) k (V 138 (V 139 t).toNat).toNat) = _
          rw [show (V 139 t).toNat = p2 by omega]
          rfl
        · intro _
          rw [show (V 138 p).toNat = t by omega]
          refine ⟨a, ?_⟩
          show v' ≤ cR V (V 139 t).toNat t - xR V (V 139 t).toNat t ∧ _
          rw [show (V 139 t).toNat = p2 by omega]
          exact ⟨b, c⟩
      have fin : ∀ w : Int, 0 < w → w ≤ v → w ≤ xR V p t → w ≤ cR V p2 t - xR V p2 t → pm_w d 146 44 [some (.inr (.inr (some 131))), some (.inl e), some (.inr (.inl w)), none, some (.inl (t : Int)), some (.inl (p2 : Int)), y6, y7] [] (V, R, T) Q := by
        intro w a1 a2 a3 a4
        refine ih p2 w t g1 g3 (by omega) a1 (by omega) (fun v' s' b1 b2 b3 => ?_)
        rw [← (e1 v').1]
        exact go v' s' b1 (by omega) ((e1 v').2 b1 (by omega) (by omega) b3)
      have i1 : pm_I32 (64 * (p : Int)) := by unfold pm_I32; omega
      have i2 : pm_I32 (64 * (p : Int) + (t : Int)) := by unfold pm_I32; omega
      have i3 : (0 : Int) ≤ 64 * (p : Int) + (t : Int) ∧ 64 * (p : Int) + (t : Int) < 768 := by omega
      have i4 : (0 : Int) ≤ (p : Int) ∧ (p : Int) < 12 := by omega
      have i5 : (0 : Int) ≤ (t : Int) ∧ (t : Int) < 64 := by omega
      simp only [eq_true i1, eq_true i2, i3, i4, i5, true_and, and_true]
      refine ⟨fun z => by omega, fun _ => ⟨fun c1 => ⟨fun c2 => fin v hv (Int.le_refl _) (by omega) (by omega), fun c2 => fin _ (by omega) (by omega) (by omega) (Int.le_refl _)⟩, fun c1 => ⟨fun c2 => fin _ (by omega) (by omega) (Int.le_refl _) (by omega), fun c2 => fin _ (by omega) (by omega) (by omega) (Int.le_refl _)⟩⟩⟩
/-- only what is laid differs -/
def lfr (V W : Nat → Nat → Int) : Prop := ∀ q, q ≠ 135 → q ≠ 136 → q ≠ 137 → W q = V q
theorem ly_mov (hf : fx R T) (hS : rfS V n L) {c x0 : Nat → Nat → Int} {st : Nat → Prop} {rp rs : Nat → Nat} (ht : tre n (nst L) c x0 st (V 138) (V 139) rp rs) {Q : Option pm_V → pm_H → Prop} {e : Int} {y6 y7 : Option pm_V} {v : Int} (hv : 0 < v) (hv2 : v ≤ 10000000000) {G F : Nat → Int} {x1 : Nat → Nat → Int}
    (go : ∀ W s' p', lfr V W → W 136 = G → W 137 = F → xR W = x1 → pm_w d 146 292 [some (.inr (.inr (some 131))), some (.inl e), some (.inr (.inl v)), none, some (.inl s'), some (.inl p'), y6, y7] [] (W, R, T) Q) : ∀ (k p : Nat) (s : Int) (W : Nat → Nat → Int), p < n → V 138 p ≠ -2 → rp p ≤ k → k ≤ 60 → lfr V W → W 136 = G → W 137 = F → (∀ q t, q < n → t < nst L → -10000000000 * (122 - 2 * (k : Int)) ≤ xR W q t ∧ xR W q t ≤ 10000000000 * (122 - 2 * (k : Int))) → augG (V 138) (V 139) v k p (xR W) = x1 → pm_w d 146 227 [some (.inr (.inr (some 131))), some (.inl e), some (.inr (.inl v)), none, some (.inl s), some (.inl (p : Int)), y6, y7] [] (W, R, T) Q := by
  have hn := hS.1.1
  have hl := hS.2.1.2.1
  have hnS : nst L ≤ 47 := by unfold nst; omega
  intro k
  induction k with
  | zero =>
    intro p s W hp hfp hr hk w1 w2 w3 w4 w5
    have e8 : W 138 = V 138 := w1 138 (by decide) (by decide) (by decide)
    rcases ht.1 p hp hfp with ⟨h1, h2⟩ | ⟨t, h1, h2, h3, h4, h5⟩
    · unfold augG at w5
      rw [if_pos (by omega)] at w5
      rw [ux_146_227]
      simp only [ux_146_0, ux_146_1, ux_146_2, ux_146_5, ux_146_6, ux_146_7, ux_146_9, ux_146_10, ux_146_13, ux_146_15, ux_146_16, ux_146_18, ux_146_19, ux_146_21, ux_146_23, ux_146_26, ux_146_27, ux_146_28, ux_146_31, ux_146_32, ux_146_34, ux_146_36, ux_146_39, ux_146_42, ux_146_43, ux_146_45, ux_146_48, ux_146_50, ux_146_51, ux_146_54, ux_146_55, ux_146_58, ux_146_60, ux_146_61, ux_146_63, ux_146_64, ux_146_67, ux_146_69, ux_146_71, ux_146_72, ux_146_74, ux_146_75, ux_146_76, ux_146_77, ux_146_78, ux_146_81, ux_146_82, ux_146_85, ux_146_87, ux_146_89, ux_146_90, ux_146_92, ux_146_93, ux_146_94, ux_146_97, ux_146_98, ux_146_99, ux_146_100, ux_146_103, ux_146_105, ux_146_106, ux_146_108, ux_146_109, ux_146_111, ux_146_113, ux_146_116, ux_146_117, ux_146_118, ux_146_121, ux_146_122, ux_146_124, ux_146_126, ux_146_129, ux_146_132, ux_146_133, ux_146_134, ux_146_138, ux_146_141, ux_146_143, ux_146_145, ux_146_146, ux_146_147, ux_146_148, ux_146_149, ux_146_152, ux_146_153, ux_146_154, ux_146_157, ux_146_159, ux_146_160, ux_146_161, ux_146_163, ux_146_165, ux_146_166, ux_146_167, ux_146_170, ux_146_172, ux_146_175, ux_146_176, ux_146_177, ux_146_178, ux_146_181, ux_146_183, ux_146_184, ux_146_185, ux_146_186, ux_146_187, ux_146_188, ux_146_189, ux_146_192, ux_146_193, ux_146_194, ux_146_195, ux_146_196, ux_146_197, ux_146_198, ux_146_199, ux_146_201, ux_146_202, ux_146_205, ux_146_207, ux_146_208, ux_146_210, ux_146_211, ux_146_214, ux_146_216, ux_146_218, ux_146_219, ux_146_221, ux_146_222, ux_146_223, ux_146_224, ux_146_225, ux_146_226, ux_146_228, ux_146_231, ux_146_233, ux_146_234, ux_146_237, ux_146_238, ux_146_241, ux_146_243, ux_146_244, ux_146_246, ux_146_247, ux_146_250, ux_146_252, ux_146_254, ux_146_255, ux_146_257, ux_146_258, ux_146_259, ux_146_260, ux_146_261, ux_146_262, ux_146_263, ux_146_264, ux_146_267, ux_146_269, ux_146_270, ux_146_272, ux_146_273, ux_146_276, ux_146_278, ux_146_280, ux_146_281, ux_146_283, ux_146_284, ux_146_285, ux_146_286, ux_146_287, ux_146_288, ux_146_289, pm_i_c, pm_l_c, pm_q_c, pm_r_c, pm_li_0, pm_li_s, pm_ll_0, pm_ll_s, pm_lq_0, pm_lq_s, pm_s1, pm_s2, pm_kl, pm_wI, pm_wR, pm_pu_n, pm_pu_s, pm_wt, List.take_succ_cons, List.take_zero, List.take_nil, List.drop_succ_cons, List.drop_zero, List.reverse_cons, List.reverse_nil, List.nil_append, List.cons_append, List.length_cons, List.length_nil, true_and, and_true, true_implies, tn_l, tn_0, Int.reduceToNat, Int.reduceLE, Int.reduceLT, Int.reduceEq, Int.reduceAdd, Int.reduceSub, Int.reduceMul, Int.reduceNeg, Nat.reduceAdd, Nat.reduceLeDiff, Nat.reduceEqDiff, Nat.reduceSub, Option.some.injEq, Sum.inl.injEq, Sum.inr.injEq, or_true, true_or, reduceCtorEq, ne_eq, not_false_eq_true, not_true_eq_false, false_implies, implies_true, false_and, and_false, false_or, or_false, if_true, if_false, fr_131_0 hf, fr_131_1 hf, fr_131_5 hf, fr_131_7 hf, fr_131_8 hf, fr_131_9 hf, fr_131_12 hf, fr_131_13 hf, fr_131_14 hf, fr_131_15 hf, fr_131_19 hf, fr_131_20 hf, fr_131_21 hf, fr_131_22 hf, fr_131_23 hf, fr_131_24 hf, fg_131 hf, fv_131 hf, fb_132 hf, fb_133 hf, fb_134 hf, fb_135 hf, fb_136 hf, fb_137 hf, fb_138 hf, fb_139 hf, fb_140 hf, fb_141 hf, fb_142 hf, fb_143 hf, fb_144 hf, fb_145 hf, fb_146 hf, fb_147 hf, e8, h1]
      refine ⟨by omega, ?_⟩
      first | exact go W s p w1 w2 w3 w5 | exact ⟨fun _ => go W s p w1 w2 w3 w5, fun z => absurd (by omega) z⟩
    · omega
  | succ k ih =>
    intro p s W hp hfp hr hk w1 w2 w3 w4 w5
    have e8 : W 138 = V 138 := w1 138 (by decide) (by decide) (by decide)
    have e9 : W 139 = V 139 := w1 139 (by decide) (by decide) (by decide)
    rcases ht.1 p hp hfp with ⟨h1, h2⟩ | ⟨t, h1, h2, h3, h4, h5⟩
    · unfold augG at w5
      rw [if_pos (by omega)] at w5
      rw [ux_146_227]
      simp only [ux_146_0, ux_146_1, ux_146_2, ux_146_5, ux_146_6, ux_146_7, ux_146_9, ux_146_10, ux_146_13, ux_146_15, ux_146_16, ux_146_18, ux_146_19, ux_146_21, ux_146_23, ux_146_26, ux_146_27, ux_146_28, ux_146_31, ux_146_32, ux_146_34, ux_146_36, ux_146_39, ux_146_42, ux_146_43, ux_146_45, ux_146_48, ux_146_50, ux_146_51, ux_146_54, ux_146_55, ux_146_58, ux_146_60, ux_146_61, ux_146_63, ux_146_64, ux_146_67, ux_146_69, ux_146_71, ux_146_72, ux_146_74, ux_146_75, ux_146_76, ux_146_77, ux_146_78, ux_146_81, ux_146_82, ux_146_85, ux_146_87, ux_146_89, ux_146_90, ux_146_92, ux_146_93, ux_146_94, ux_146_97, ux_146_98, ux_146_99, ux_146_100, ux_146_103, ux_146_105, ux_146_106, ux_146_108, ux_146_109, ux_146_111, ux_146_113, ux_146_116, ux_146_117, ux_146_118, ux_146_121, ux_146_122, ux_146_124, ux_146_126, ux_146_129, ux_146_132, ux_146_133, ux_146_134, ux_146_138, ux_146_141, ux_146_143, ux_146_145, ux_146_146, ux_146_147, ux_146_148, ux_146_149, ux_146_152, ux_146_153, ux_146_154, ux_146_157, ux_146_159, ux_146_160, ux_146_161, ux_146_163, ux_146_165, ux_146_166, ux_146_167, ux_146_170, ux_146_172, ux_146_175, ux_146_176, ux_146_177, ux_146_178, ux_146_181, ux_146_183, ux_146_184, ux_146_185, ux_146_186, ux_146_187, ux_146_188, ux_146_189, ux_146_192, ux_146_193, ux_146_194, ux_146_195, ux_146_196, ux_146_197, ux_146_198, ux_146_199, ux_146_201, ux_146_202, ux_146_205, ux_146_207, ux_146_208, ux_146_210, ux_146_211, ux_146_214, ux_146_216, ux_146_218, ux_146_219, ux_146_221, ux_146_222, ux_146_223, ux_146_224, ux_146_225, ux_146_226, ux_146_228, ux_146_231, ux_146_233, ux_146_234, ux_146_237, ux_146_238, ux_146_241, ux_146_243, ux_146_244, ux_146_246, ux_146_247, ux_146_250, ux_146_252, ux_146_254, ux_146_255, ux_146_257, ux_146_258, ux_146_259, ux_146_260, ux_146_261, ux_146_262, ux_146_263, ux_146_264, ux_146_267, ux_146_269, ux_146_270, ux_146_272, ux_146_273, ux_146_276, ux_146_278, ux_146_280, ux_146_281, ux_146_283, ux_146_284, ux_146_285, ux_146_286, ux_146_287, ux_146_288, ux_146_289, pm_i_c, pm_l_c, pm_q_c, pm_r_c, pm_li_0, pm_li_s, pm_ll_0, pm_ll_s, pm_lq_0, pm_lq_s, pm_s1, pm_s2, pm_kl, pm_wI, pm_wR, pm_pu_n, pm_pu_s, pm_wt, List.take_succ_cons, List.take_zero, List.take_nil, List.drop_succ_cons, List.drop_zero, List.reverse_cons, List.reverse_nil, List.nil_append, List.cons_append, List.length_cons, List.length_nil, true_and, and_true, true_implies, tn_l, tn_0, Int.reduceToNat, Int.reduceLE, Int.reduceLT, Int.reduceEq, Int.reduceAdd, Int.reduceSub, Int.reduceMul, Int.reduceNeg, Nat.reduceAdd, Nat.reduceLeDiff, Nat.reduceEqDiff, Nat.reduceSub, Option.some.injEq, Sum.inl.injEq, Sum.inr.injEq, or_true, true_or, reduceCtorEq, ne_eq, not_false_eq_true, not_true_eq_false, false_implies, implies_true, false_and, and_false, false_or, or_false, if_true, if_false, fr_131_0 hf, fr_131_1 hf, fr_131_5 hf, fr_131_7 hf, fr_131_8 hf, fr_131_9 hf, fr_131_12 hf, fr_131_13 hf, fr_131_14 hf, fr_131_15 hf, fr_131_19 hf, fr_131_20 hf, fr_131_21 hf, fr_131_22 hf, fr_131_23 hf, fr_131_24 hf, fg_131 hf, fv_131 hf, fb_132 hf, fb_133 hf, fb_134 hf, fb_135 hf, fb_136 hf, fb_137 hf, fb_138 hf, fb_139 hf, fb_140 hf, fb_141 hf, fb_142 hf, fb_143 hf, fb_144 hf, fb_145 hf, fb_146 hf, fb_147 hf, e8, h1]
      refine ⟨by omega, ?_⟩
      first | exact go W s p w1 w2 w3 w5 | exact ⟨fun _ => go W s p w1 w2 w3 w5, fun z => absurd (by omega) z⟩
    · obtain ⟨p2, g1, g2, g3, g4, g5⟩ := ht.2 t h1 h3
      have ei : (64 * (p : Int) + (t : Int)).toNat = 64 * p + t := by omega
      have ej : (64 * (p2 : Int) + (t : Int)).toNat = 64 * p2 + t := by omega
      have ex : W 135 (64 * p + t) = xR W p t := (xR_eq (by omega)).symm
      have b1 := w4 p t hp h1
      have f8 : ∀ x, pm_up W 135 (64 * p + t) x 139 = V 139 := fun x => by rw [pm_up_fr (by decide)]; exact e9
      rw [ux_146_227]
      simp only [ux_146_0, ux_146_1, ux_146_2, ux_146_5, ux_146_6, ux_146_7, ux_146_9, ux_146_10, ux_146_13, ux_146_15, ux_146_16, ux_146_18, ux_146_19, ux_146_21, ux_146_23, ux_146_26, ux_146_27, ux_146_28, ux_146_31, ux_146_32, ux_146_34, ux_146_36, ux_146_39, ux_146_42, ux_146_43, ux_146_45, ux_146_48, ux_146_50, ux_146_51, ux_146_54, ux_146_55, ux_146_58, ux_146_60, ux_146_61, ux_146_63, ux_146_64, ux_146_67, ux_146_69, ux_146_71, ux_146_72, ux_146_74, ux_146_75, ux_146_76, ux_146_77, ux_146_78, ux_146_81, ux_146_82, ux_146_85, ux_146_87, ux_146_89, ux_146_90, ux_146_92, ux_146_93, ux_146_94, ux_146_97, ux_146_98, ux_146_99, ux_146_100, ux_146_103, ux_146_105, ux_146_106, ux_146_108, ux_146_109, ux_146_111, ux_146_113, ux_146_116, ux_146_117, ux_146_118, ux_146_121, ux_146_122, ux_146_124, ux_146_126, ux_146_129, ux_146_132, ux_146_133, ux_146_134, ux_146_138, ux_146_141, ux_146_143, ux_146_145, ux_146_146, ux_146_147, ux_146_148, ux_146_149, ux_146_152, ux_146_153, ux_146_154, ux_146_157, ux_146_159, ux_146_160, ux_146_161, ux_146_163, ux_146_165, ux_146_166, ux_146_167, ux_146_170, ux_146_172, ux_146_175, ux_146_176, ux_146_177, ux_146_178, ux_146_181, ux_146_183, ux_146_184, ux_146_185, ux_146_186, ux_146_187, ux_146_188, ux_146_189, ux_146_192, ux_146_193, ux_146_194, ux_146_195, ux_146_196, ux_146_197, ux_146_198, ux_146_199, ux_146_201, ux_146_202, ux_146_205, ux_146_207, ux_146_208, ux_146_210, ux_146_211, ux_146_214, ux_146_216, ux_146_218, ux_146_219, ux_146_221, ux_146_222, ux_146_223, ux_146_224, ux_146_225, ux_146_226, ux_146_228, ux_146_231, ux_146_233, ux_146_234, ux_146_237, ux_146_238, ux_146_241, ux_146_243, ux_146_244, ux_146_246, ux_146_247, ux_146_250, ux_146_252, ux_146_254, ux_146_255, ux_146_257, ux_146_258, ux_146_259, ux_146_260, ux_146_261, ux_146_262, ux_146_263, ux_146_264, ux_146_267, ux_146_269, ux_146_270, ux_146_272, ux_146_273, ux_146_276, ux_146_278, ux_146_280, ux_146_281, ux_146_283, ux_146_284, ux_146_285, ux_146_286, ux_146_287, ux_146_288, ux_146_289, pm_i_c, pm_l_c, pm_q_c, pm_r_c, pm_li_0, pm_li_s, pm_ll_0, pm_ll_s, pm_lq_0, pm_lq_s, pm_s1, pm_s2, pm_kl, pm_wI, pm_wR, pm_pu_n, pm_pu_s, pm_wt, List.take_succ_cons, List.take_zero, List.take_nil, List.drop_succ_cons, List.drop_zero, List.reverse_cons, List.reverse_nil, List.nil_append, List.cons_append, List.length_cons, List.length_nil, true_and, and_true, true_implies, tn_l, tn_0, Int.reduceToNat, Int.reduceLE, Int.reduceLT, Int.reduceEq, Int.reduceAdd, Int.reduceSub, Int.reduceMul, Int.reduceNeg, Nat.reduceAdd, Nat.reduceLeDiff, Nat.reduceEqDiff, Nat.reduceSub, Option.some.injEq, Sum.inl.injEq, Sum.inr.injEq, or_true, true_or, reduceCtorEq, ne_eq, not_false_eq_true, not_true_eq_false, false_implies, implies_true, false_and, and_false, false_or, or_false, if_true, if_false, fr_131_0 hf, fr_131_1 hf, fr_131_5 hf, fr_131_7 hf, fr_131_8 hf, fr_131_9 hf, fr_131_12 hf, fr_131_13 hf, fr_131_14 hf, fr_131_15 hf, fr_131_19 hf, fr_131_20 hf, fr_131_21 hf, fr_131_22 hf, fr_131_23 hf, fr_131_24 hf, fg_131 hf, fv_131 hf, fb_132 hf, fb_133 hf, fb_134 hf, fb_135 hf, fb_136 hf, fb_137 hf, fb_138 hf, fb_139 hf, fb_140 hf, fb_141 hf, fb_142 hf, fb_143 hf, fb_144 hf, fb_145 hf, fb_146 hf, fb_147 hf, e8, h2, f8, g2, ei, ej, ex]
      have exx : xR W p t - v = xR W p t + -v := by omega
      rw [exx]
      generalize hW1 : pm_up W 135 (64 * p + t) (xR W p t + -v) = W1
      have x1e : xR W1 = upx (xR W) p t (-v) := by rw [← hW1]; exact xR_up (by omega)
      have ey : W1 135 (64 * p2 + t) = xR W1 p2 t := (xR_eq (by omega)).symm
      have hb1 : ∀ q u, q < n → u < nst L → -10000000000 * (122 - 2 * (k : Int)) + 10000000000 ≤ xR W1 q u ∧ xR W1 q u ≤ 10000000000 * (122 - 2 * (k : Int)) - 10000000000 := by
        intro q u hq hu
        have := w4 q u hq hu
        rw [x1e]
        unfold upx
        split <;> omega
      have b2 := hb1 p2 t g1 h1
      rw [ey]
      refine ⟨by omega, fun z => by omega, fun _ => ⟨by omega, by unfold pm_I32; omega, by unfold pm_I32; omega, by omega, by unfold pm_I64; omega, by omega, by omega, by unfold pm_I32; omega, by unfold pm_I32; omega, by omega, by unfold pm_I64; omega, by omega, ?_⟩⟩
      have x2e : xR (pm_up W1 135 (64 * p2 + t) (xR W1 p2 t + v)) = upx (xR W1) p2 t v := xR_up (by omega)
      refine ih p2 t _ g1 g3 (by omega) (by omega) ?_ ?_ ?_ ?_ ?_
      · intro q a b c
        rw [pm_up_fr a, ← hW1, pm_up_fr a]
        exact w1 q a b c
      · rw [pm_up_fr (by decide), ← hW1, pm_up_fr (by decide)]; exact w2
      · rw [pm_up_fr (by decide), ← hW1, pm_up_fr (by decide)]; exact w3
      · intro q u hq hu
        have := hb1 q u hq hu
        rw [x2e]
        unfold upx
        split <;> omega
      · rw [x2e, x1e, ← w5]
        unfold augG
        rw [if_neg (show ¬ V 138 p < 0 by omega), show (V 138 p).toNat = t by omega]
        show _ = (if V 138 (V 139 t).toNat < 0 then _ else _)
        rw [show (V 139 t).toNat = p2 by omega]
theorem m_lay (hd : 5 ≤ d) (hf : fx R T) (hS : rfS V n L) (hX : rfX V n (nst L)) {m : Nat} (hq : bq n (nst L) (lR V) (cR V) (xR V) n (nst L) (V 138) (V 139) (V 140) m) {e : Nat} (he : e < nst L) (hg : V 139 e ≠ -2) (hr : 0 < rR V e - V 137 e) : pm_ok d 146 [.inr (.inr (some 131)), .inl (e : Int)] (V, R, T) (fun r h2 => r = none ∧ ∃ V2, h2 = (V2, R, T) ∧ lfr V V2 ∧ rfX V2 n (nst L) ∧ tot n (nst L) (xR V) < tot n (nst L) (xR V2)) := by
  obtain ⟨d, rfl⟩ : ∃ k, d = k + 1 := ⟨d - 1, by omega⟩
  refine pm_ok_iff.mpr ⟨(Nat.le_of_ble_eq_true rfl), ?_⟩
  show pm_w d 146 0 [some (.inr (.inr (some 131))), some (.inl (e : Int)), none, none, none, none, none, none] [] (V, R, T) _
  have hn := hS.1.1
  have hl := hS.2.1.2.1
  have hnS : nst L ≤ 47 := by unfold nst; omega
  have hmb := bq_m hq
  obtain ⟨q1, ⟨rp, rs, ht, q3, q4⟩, q5, q6, q7⟩ := hq
  obtain ⟨p, g1, g2, g3, g4, g5⟩ := ht.2 e he hg
  have re := (q4 e he hg).1
  have b1 := (rfS_bd hS).1 p e g1 he
  have b2 := (rfS_bd hS).2.1 e he
  have b3 := (rfX_bd hS hX).1 p e g1 he
  have b4 := (rfX_bd hS hX).2.1 e he
  simp only [ux_146_0, ux_146_1, ux_146_2, ux_146_5, ux_146_6, ux_146_7, ux_146_9, ux_146_10, ux_146_13, ux_146_15, ux_146_16, ux_146_18, ux_146_19, ux_146_21, ux_146_23, ux_146_26, ux_146_27, ux_146_28, ux_146_31, ux_146_32, ux_146_34, ux_146_36, ux_146_39, ux_146_42, ux_146_43, ux_146_45, ux_146_48, ux_146_50, ux_146_51, ux_146_54, ux_146_55, ux_146_58, ux_146_60, ux_146_61, ux_146_63, ux_146_64, ux_146_67, ux_146_69, ux_146_71, ux_146_72, ux_146_74, ux_146_75, ux_146_76, ux_146_77, ux_146_78, ux_146_81, ux_146_82, ux_146_85, ux_146_87, ux_146_89, ux_146_90, ux_146_92, ux_146_93, ux_146_94, ux_146_97, ux_146_98, ux_146_99, ux_146_100, ux_146_103, ux_146_105, ux_146_106, ux_146_108, ux_146_109, ux_146_111, ux_146_113, ux_146_116, ux_146_117, ux_146_118, ux_146_121, ux_146_122, ux_146_124, ux_146_126, ux_146_129, ux_146_132, ux_146_133, ux_146_134, ux_146_138, ux_146_141, ux_146_143, ux_146_145, ux_146_146, ux_146_147, ux_146_148, ux_146_149, ux_146_152, ux_146_153, ux_146_154, ux_146_157, ux_146_159, ux_146_160, ux_146_161, ux_146_163, ux_146_165, ux_146_166, ux_146_167, ux_146_170, ux_146_172, ux_146_175, ux_146_176, ux_146_177, ux_146_178, ux_146_181, ux_146_183, ux_146_184, ux_146_185, ux_146_186, ux_146_187, ux_146_188, ux_146_189, ux_146_192, ux_146_193, ux_146_194, ux_146_195, ux_146_196, ux_146_197, ux_146_198, ux_146_199, ux_146_201, ux_146_202, ux_146_205, ux_146_207, ux_146_208, ux_146_210, ux_146_211, ux_146_214, ux_146_216, ux_146_218, ux_146_219, ux_146_221, ux_146_222, ux_146_223, ux_146_224, ux_146_225, ux_146_226, ux_146_228, ux_146_231, ux_146_233, ux_146_234, ux_146_237, ux_146_238, ux_146_241, ux_146_243, ux_146_244, ux_146_246, ux_146_247, ux_146_250, ux_146_252, ux_146_254, ux_146_255, ux_146_257, ux_146_258, ux_146_259, ux_146_260, ux_146_261, ux_146_262, ux_146_263, ux_146_264, ux_146_267, ux_146_269, ux_146_270, ux_146_272, ux_146_273, ux_146_276, ux_146_278, ux_146_280, ux_146_281, ux_146_283, ux_146_284, ux_146_285, ux_146_286, ux_146_287, ux_146_288, ux_146_289, pm_i_c, pm_l_c, pm_q_c, pm_r_c, pm_li_0, pm_li_s, pm_ll_0, pm_ll_s, pm_lq_0, pm_lq_s, pm_s1, pm_s2, pm_kl, pm_wI, pm_wR, pm_pu_n, pm_pu_s, pm_wt, List.take_succ_cons, List.take_zero, List.take_nil, List.drop_succ_cons, List.drop_zero, List.reverse_cons, List.reverse_nil, List.nil_append, List.cons_append, List.length_cons, List.length_nil, true_and, and_true, true_implies, tn_l, tn_0, Int.reduceToNat, Int.reduceLE, Int.reduceLT, Int.reduceEq, Int.reduceAdd, Int.reduceSub, Int.reduceMul, Int.reduceNeg, Nat.reduceAdd, Nat.reduceLeDiff, Nat.reduceEqDiff, Nat.reduceSub, Option.some.injEq, Sum.inl.injEq, Sum.inr.injEq, or_true, true_or, reduceCtorEq, ne_eq, not_false_eq_true, not_true_eq_false, false_implies, implies_true, false_and, and_false, false_or, or_false, if_true, if_false, fr_131_0 hf, fr_131_1 hf, fr_131_5 hf, fr_131_7 hf, fr_131_8 hf, fr_131_9 hf, fr_131_12 hf, fr_131_13 hf, fr_131_14 hf, fr_131_15 hf, fr_131_19 hf, fr_131_20 hf, fr_131_21 hf, fr_131_22 hf, fr_131_23 hf, fr_131_24 hf, fg_131 hf, fv_131 hf, fb_132 hf, fb_133 hf, fb_134 hf, fb_135 hf, fb_136 hf, fb_137 hf, fb_138 hf, fb_139 hf, fb_140 hf, fb_141 hf, fb_142 hf, fb_143 hf, fb_144 hf, fb_145 hf, fb_146 hf, fb_147 hf, g2, lc_ge, pm_ok_ev (se_roomAt (d := d) (by omega) hf hS hX sfr_rf e he), pm_ok_ev (se_roomOf (d := d) (by omega) hf hS hX sfr_rf p e g1 he)]
  have fin : ∀ w : Int, 0 < w → w ≤ rR V e - V 137 e → w ≤ cR V p e - xR V p e → pm_w d 146 44 [some (.inr (.inr (some 131))), some (.inl (e : Int)), some (.inr (.inl w)), none, some (.inl (e : Int)), some (.inl (p : Int)), none, none] [] (V, R, T) (fun r h2 => r = none ∧ ∃ V2, h2 = (V2, R, T) ∧ lfr V V2 ∧ rfX V2 n (nst L) ∧ tot n (nst L) (xR V) < tot n (nst L) (xR V2)) := by
    intro w a1 a2 a3
    refine ly_min (by omega) hf hS hX ht 59 p w e g1 g3 (by omega) a1 (by omega) (fun v s' c1 c2 c3 => ?_)
    have hres : ∀ v', v' ≤ v → 0 < v' → resF (V 138) (V 139) (cR V) (xR V) v' 60 e := by
      have mono : ∀ (j : Nat) (v' : Int) (t : Nat), v' ≤ v → resF (V 138) (V 139) (cR V) (xR V) v j t → resF (V 138) (V 139) (cR V) (xR V) v' j t := by
        intro j
        induction j with
        | zero => intro _ _ _ _; trivial
        | succ j ih =>
          intro v' t hv hr
          unfold resF at hr ⊢
          exact ⟨Int.le_trans hv hr.1, fun z => ⟨Int.le_trans hv (hr.2 z).1, ih v' _ hv (hr.2 z).2⟩⟩
      intro v' hv _
      refine mono 60 v' e hv ?_
      show v ≤ cR V (V 139 e).toNat e - xR V (V 139 e).toNat e ∧ _
      rw [show (V 139 e).toNat = p by omega]
      exact ⟨by omega, c3⟩
    have hsrc : srcF (V 138) (V 139) 60 e = srcG (V 138) (V 139) 59 p := by
      show (if V 138 (V 139 e).toNat < 0 then (V 139 e).toNat else _) = _
      rw [show (V 139 e).toNat = p by omega]
      rfl
    have sok := src_ok ht 60 e he hg (by omega)
    rw [hsrc] at sok
    generalize hu : srcG (V 138) (V 139) 59 p = u at sok hsrc ⊢
    have hug := hX.1 u sok.1
    have b5 := (rfX_bd hS hX).2.2 u sok.1
    have b6 := (rfS_bd hS).2.2 u sok.1
    have hl0 : V 132 (15 + u) * V 131 10 = lR V u := rfl
    rw [ux_146_137]
    have r9 : ∀ k1 k2 z1 z2, pm_up (pm_up V 136 k1 z1) 137 k2 z2 139 = V 139 := fun k1 k2 z1 z2 => by rw [pm_up_fr (by decide), pm_up_fr (by decide)]
    have r5 : ∀ k1 k2 z1 z2, pm_up (pm_up V 136 k1 z1) 137 k2 z2 135 = V 135 := fun k1 k2 z1 z2 => by rw [pm_up_fr (by decide), pm_up_fr (by decide)]
    have r7 : ∀ k1 z1, pm_up V 136 k1 z1 137 = V 137 := fun k1 z1 => by rw [pm_up_fr (by decide)]
    have ei : (64 * (p : Int) + (e : Int)).toNat = 64 * p + e := by omega
    have ex : V 135 (64 * p + e) = xR V p e := (xR_eq (by omega)).symm
    simp only [ux_146_0, ux_146_1, ux_146_2, ux_146_5, ux_146_6, ux_146_7, ux_146_9, ux_146_10, ux_146_13, ux_146_15, ux_146_16, ux_146_18, ux_146_19, ux_146_21, ux_146_23, ux_146_26, ux_146_27, ux_146_28, ux_146_31, ux_146_32, ux_146_34, ux_146_36, ux_146_39, ux_146_42, ux_146_43, ux_146_45, ux_146_48, ux_146_50, ux_146_51, ux_146_54, ux_146_55, ux_146_58, ux_146_60, ux_146_61, ux_146_63, ux_146_64, ux_146_67, ux_146_69, ux_146_71, ux_146_72, ux_146_74, ux_146_75, ux_146_76, ux_146_77, ux_146_78, ux_146_81, ux_146_82, ux_146_85, ux_146_87, ux_146_89, ux_146_90, ux_146_92, ux_146_93, ux_146_94, ux_146_97, ux_146_98, ux_146_99, ux_146_100, ux_146_103, ux_146_105, ux_146_106, ux_146_108, ux_146_109, ux_146_111, ux_146_113, ux_146_116, ux_146_117, ux_146_118, ux_146_121, ux_146_122, ux_146_124, ux_146_126, ux_146_129, ux_146_132, ux_146_133, ux_146_134, ux_146_138, ux_146_141, ux_146_143, ux_146_145, ux_146_146, ux_146_147, ux_146_148, ux_146_149, ux_146_152, ux_146_153, ux_146_154, ux_146_157, ux_146_159, ux_146_160, ux_146_161, ux_146_163, ux_146_165, ux_146_166, ux_146_167, ux_146_170, ux_146_172, ux_146_175, ux_146_176, ux_146_177, ux_146_178, ux_146_181, ux_146_183, ux_146_184, ux_146_185, ux_146_186, ux_146_187, ux_146_188, ux_146_189, ux_146_192, ux_146_193, ux_146_194, ux_146_195, ux_146_196, ux_146_197, ux_146_198, ux_146_199, ux_146_201, ux_146_202, ux_146_205, ux_146_207, ux_146_208, ux_146_210, ux_146_211, ux_146_214, ux_146_216, ux_146_218, ux_146_219, ux_146_221, ux_146_222, ux_146_223, ux_146_224, ux_146_225, ux_146_226, ux_146_228, ux_146_231, ux_146_233, ux_146_234, ux_146_237, ux_146_238, ux_146_241, ux_146_243, ux_146_244, ux_146_246, ux_146_247, ux_146_250, ux_146_252, ux_146_254, ux_146_255, ux_146_257, ux_146_258, ux_146_259, ux_146_260, ux_146_261, ux_146_262, ux_146_263, ux_146_264, ux_146_267, ux_146_269, ux_146_270, ux_146_272, ux_146_273, ux_146_276, ux_146_278, ux_146_280, ux_146_281, ux_146_283, ux_146_284, ux_146_285, ux_146_286, ux_146_287, ux_146_288, ux_146_289, pm_i_c, pm_l_c, pm_q_c, pm_r_c, pm_li_0, pm_li_s, pm_ll_0, pm_ll_s, pm_lq_0, pm_lq_s, pm_s1, pm_s2, pm_kl, pm_wI, pm_wR, pm_pu_n, pm_pu_s, pm_wt, List.take_succ_cons, List.take_zero, List.take_nil, List.drop_succ_cons, List.drop_zero, List.reverse_cons, List.reverse_nil, List.nil_append, List.cons_append, List.length_cons, List.length_nil, true_and, and_true, true_implies, tn_l, tn_0, Int.reduceToNat, Int.reduceLE, Int.reduceLT, Int.reduceEq, Int.reduceAdd, Int.reduceSub, Int.reduceMul, Int.reduceNeg, Nat.reduceAdd, Nat.reduceLeDiff, Nat.reduceEqDiff, Nat.reduceSub, Option.some.injEq, Sum.inl.injEq, Sum.inr.injEq, or_true, true_or, reduceCtorEq, ne_eq, not_false_eq_true, not_true_eq_false, false_implies, implies_true, false_and, and_false, false_or, or_false, if_true, if_false, fr_131_0 hf, fr_131_1 hf, fr_131_5 hf, fr_131_7 hf, fr_131_8 hf, fr_131_9 hf, fr_131_12 hf, fr_131_13 hf, fr_131_14 hf, fr_131_15 hf, fr_131_19 hf, fr_131_20 hf, fr_131_21 hf, fr_131_22 hf, fr_131_23 hf, fr_131_24 hf, fg_131 hf, fv_131 hf, fb_132 hf, fb_133 hf, fb_134 hf, fb_135 hf, fb_136 hf, fb_137 hf, fb_138 hf, fb_139 hf, fb_140 hf, fb_141 hf, fb_142 hf, fb_143 hf, fb_144 hf, fb_145 hf, fb_146 hf, fb_147 hf, lc_ge, hl0, r9, r5, r7, g2, ei, ex]
    have fin2 : ∀ v', 0 < v' → v' ≤ v → v' ≤ lR V u - V 136 u → ∀ y6, pm_w d 146 227 [some (.inr (.inr (some 131))), some (.inl (e : Int)), some (.inr (.inl v')), none, some (.inl (e : Int)), some (.inl (p : Int)), y6, none] [] (pm_up (pm_up (pm_up V 136 u (V 136 u + v')) 137 e (V 137 e + v')) 135 (64 * p + e) (xR V p e + v'), R, T) (fun r h2 => r = none ∧ ∃ V2, h2 = (V2, R, T) ∧ lfr V V2 ∧ rfX V2 n (nst L) ∧ tot n (nst L) (xR V) < tot n (nst L) (xR V2)) := by
      intro v' d1 d2 d3 y6
      have hx0 : xR (pm_up (pm_up V 136 u (V 136 u + v')) 137 e (V 137 e + v')) = xR V := xR_fr (r5 _ _ _ _)
      have hx1 : xR (pm_up (pm_up (pm_up V 136 u (V 136 u + v')) 137 e (V 137 e + v')) 135 (64 * p + e) (xR V p e + v')) = upx (xR V) p e v' := by
        have := xR_up (W := pm_up (pm_up V 136 u (V 136 u + v')) 137 e (V 137 e + v')) (p := p) (s := e) (v := v') (by omega)
        rw [hx0] at this
        exact this
      obtain ⟨la, lb⟩ := lay_aug (k := 60) (e := e) (v := v') (by omega) ht hX.2.2 he hg (by omega) (hres v' d2 d1) (by rw [hsrc, ← hug]; omega) (by rw [← hX.2.1 e he]; omega)
      obtain ⟨i1, i2, i3⟩ := aug_ok (v := v') (by omega) ht 60 e (xR V) he hg (by omega) (hres v' d2 d1) (fun _ _ _ => rfl) hX.2.2.1
      refine ly_mov (G := fun j => if j = u then V 136 u + v' else V 136 j) (F := fun j => if j = e then V 137 e + v' else V 137 j) (x1 := augF (V 138) (V 139) v' 60 e (xR V)) hf hS ht d1 (by omega) (fun W s' p' w1 w2 w3 w4 => ?_) 59 p e _ g1 g3 (by omega) (by omega) (fun q a b c => by rw [pm_up_fr a, pm_up_fr c, pm_up_fr b]) ?_ ?_ ?_ ?_
      · rw [ux_146_292]
        refine ⟨rfl, rfl, W, rfl, w1, ?_, ?_⟩
        · have e1 := w1 131 (by decide) (by decide) (by decide)
          have e2 := w1 132 (by decide) (by decide) (by decide)
          have e4 := w1 134 (by decide) (by decide) (by decide)
          have z1 : lR W = lR V := by funext p; unfold lR; rw [e1, e2]
          have z2 : cR W = cR V := by funext p s; unfold cR; rw [e1, e2, e4]
          have z3 : rR W = rR V := by funext s; unfold rR; rw [e1, e4]
          unfold rfX
          rw [z1, z2, z3, w4, w2, w3]
          refine ⟨fun q hq => ?_, fun t ht2 => ?_, la⟩
          · rw [i2, hsrc]
            dsimp only
            by_cases c : q = u
            · rw [if_pos c, if_pos c, c, hug]
            · rw [if_neg c, if_neg c, hX.1 q hq]; omega
          · rw [i3]
            dsimp only
            by_cases c : t = e
            · rw [if_pos c, if_pos c, c, hX.2.1 e he]
            · rw [if_neg c, if_neg c, hX.2.1 t ht2]; omega
        · rw [w4, lb]; omega
      · rw [pm_up_fr (by decide), pm_up_fr (by decide), pm_up_row]
      · rw [pm_up_fr (by decide), pm_up_row, r7]
      · intro q t hq ht2
        have := (rfX_bd hS hX).1 q t hq ht2
        rw [hx1]
        unfold upx
        split <;> omega
      · rw [hx1]
        unfold augG
        show _ = (if V 138 (V 139 e).toNat < 0 then _ else _)
        rw [show (V 139 e).toNat = p by omega]
    have sl := sok.2.2
    have i1 : pm_I32 (15 + (u : Int)) := by unfold pm_I32; omega
    have i2 : (0 : Int) ≤ 15 + (u : Int) ∧ 15 + (u : Int) < 87 := by omega
    have i3 : (0 : Int) ≤ (u : Int) ∧ (u : Int) < 12 := by omega
    have i4 : (0 : Int) ≤ (e : Int) ∧ (e : Int) < 64 := by omega
    have i5 : pm_I32 (64 * (p : Int)) := by unfold pm_I32; omega
    have i6 : pm_I32 (64 * (p : Int) + (e : Int)) := by unfold pm_I32; omega
    have i7 : (0 : Int) ≤ 64 * (p : Int) + (e : Int) ∧ 64 * (p : Int) + (e : Int) < 768 := by omega
    have i8 : pm_I64 (lR V u) := by unfold pm_I64; omega
    have i9 : pm_I64 (lR V u - V 136 u) := by unfold pm_I64; omega
    simp only [eq_true i1, i2, i3, i4, eq_true i5, eq_true i6, i7, eq_true i8, eq_true i9, true_and, and_true]
    have hpos : 0 < lR V u - V 136 u := by omega
    refine ⟨fun hc => ⟨by unfold pm_I64; omega, by unfold pm_I64; omega, by unfold pm_I64; omega, fin2 v c1 (Int.le_refl _) (by omega) _⟩, fun hc => ⟨by unfold pm_I64; omega, by unfold pm_I64; omega, by unfold pm_I64; omega, fin2 _ hpos (by omega) (Int.le_refl _) _⟩⟩
  refine ⟨by omega, fun hc => fin _ hr (Int.le_refl _) (by omega), fun hc => fin _ (by omega) (by omega) (Int.le_refl _)⟩
end
