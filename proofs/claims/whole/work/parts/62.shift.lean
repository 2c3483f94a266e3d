/-! THE REFERENCE: reroute as a whole, shift -/
section
variable {d : Nat} {h : pm_H} {V W : Nat → Nat → Int} {R : Nat → Nat → Option Nat} {T : List (Nat × Nat)} {n p0 s0 : Nat} {L : List Int}
theorem prc_s {N k a : Nat} {F : Nat → Nat → Prop} {M u : Nat → Int} (h : prc N F M u k) (hu : u k = (a : Int)) (hF : ∀ b, b < N → F a b → M b ≠ -2) : prc N F M u (k + 1) := by
  intro j hj i hi hui b hb hf
  by_cases e : j = k
  · subst e
    rw [hu] at hui
    rw [show i = a by omega] at hf
    exact hF b hb hf
  · exact h j (by omega) i hi hui b hb hf
theorem rr_end (hn : n ≤ 12) (hp0 : p0 < n) (hs0 : s0 < nst L) {m k : Nat} {thr : Int} {th : Option Nat} (w1 : rrI V n (nst L) p0 s0 W m thr th) (w2 : rrK V n (nst L) p0 s0 W th k) (hk : m = k) (hf : W 138 p0 = -2) : ∃ P Q, rrN V n (nst L) p0 s0 P Q := by
  obtain ⟨a1, a2, a3, a4, a5⟩ := w1
  obtain ⟨b1, b2, b3⟩ := w2
  subst hk
  refine ⟨fun q => decide (W 138 q ≠ -2), fun t => decide (W 139 t ≠ -2), decide_eq_true (by rw [a5]; decide), fun t ht hQ q hq hP hz hne hx => ?_, fun q hq hP t ht hQ hz hx => ?_, decide_eq_false (fun w => w hf), ?_⟩
  · obtain ⟨j, j1, j2⟩ := a3.2.2 (12 + t) (by omega) (by rw [cmb_S]; exact of_decide_eq_true hQ)
    have := b1 j j1 (12 + t) (by omega) j2 q (by omega) (Or.inl ⟨q, t, hq, ht, rfl, rfl, hx, hz, hne⟩)
    rw [cmb_P hq hn] at this
    exact absurd this (of_decide_eq_false hP)
  · obtain ⟨j, j1, j2⟩ := a3.2.2 q (by omega) (by rw [cmb_P hq hn]; exact of_decide_eq_true hP)
    have := b1 j j1 q (by omega) j2 (12 + t) (by omega) (Or.inr ⟨q, t, hq, ht, rfl, rfl, hx, hz⟩)
    rw [cmb_S] at this
    exact absurd this (of_decide_eq_false hQ)
  · by_cases c : th = none
    · refine Or.inl fun t ht hQ hr => ?_
      obtain ⟨j, j1, j2⟩ := a3.2.2 (12 + t) (by omega) (by rw [cmb_S]; exact of_decide_eq_true hQ)
      exact b3 j j1 t ht (by rw [j2]; omega) hr c
    · refine Or.inr fun t ht hQ hr => ?_
      exact absurd (b2 c t ht hr) (of_decide_eq_false hQ)
theorem rr_yes (hn : n ≤ 12) (hp0 : p0 < n) {m : Nat} {thr : Int} {th : Option Nat} (w1 : rrI V n (nst L) p0 s0 W m thr th) (hf : W 138 p0 ≠ -2) : 0 ≤ W 138 p0 ∧ rrY V n (nst L) p0 s0 W th := by
  obtain ⟨a1, a2, a3, a4, a5⟩ := w1
  refine ⟨?_, hf, a2, fun t ht => ?_⟩
  · obtain ⟨rk, hr⟩ := a2
    have hm : cmb n (W 138) (W 139) p0 ≠ -2 := by rw [cmb_P hp0 hn]; exact hf
    rcases (hr p0 (by omega) hm).2 with ⟨c, -⟩ | ⟨b, -, -, -, ⟨q, s, _, _, _, e1, e2, _⟩ | ⟨q, s, _, _, _, e1, _⟩ | ⟨t, s, _, _, _, e1, _⟩⟩
    · omega
    · rw [cmb_P hp0 hn] at e2; omega
    · omega
    · omega
  · rcases a4 with ⟨-, a⟩ | ⟨u, a, b, c, e, f⟩
    · rw [a] at ht; cases ht
    · rw [b] at ht; cases ht; exact e
theorem rr_out (hd : 4 ≤ d) (hf : fx R T) (hS : rfS V n L) (hX : rfX V n (nst L)) (hp0 : p0 < n) (hs0 : s0 < nst L) : ∀ (j k : Nat) (W : Nat → Nat → Int) (m : Nat) (thr : Int) (th : Option Nat) (y6 y7 y8 : Option pm_V), 12 + nst L < j + k → rrI V n (nst L) p0 s0 W m thr th → rrK V n (nst L) p0 s0 W th k → k ≤ m → pm_w d 151 84 [some (.inr (.inr (some 131))), some (.inl (p0 : Int)), some (.inl (s0 : Int)), some (.inl (m : Int)), some (.inl thr), some (.inl (k : Int)), y6, y7, y8] [] (W, R, T) (rrQ V R T n (nst L) p0 s0) := by
  have hn := hS.1.1
  have hl := hS.2.1.2.1
  have hnS : nst L ≤ 47 := by unfold nst; omega
  intro j
  induction j with
  | zero =>
    intro k W m thr th y6 y7 y8 hj w1 w2 w3
    have := que_m w1.2.2.1
    omega
  | succ j ih =>
    intro k W m thr th y6 y7 y8 hj w1 w2 w3
    have hmb := que_m w1.2.2.1
    have fin : ∀ y6 y7 y8, m ≤ k ∨ W 138 p0 ≠ -2 → pm_w d 151 403 [some (.inr (.inr (some 131))), some (.inl (p0 : Int)), some (.inl (s0 : Int)), some (.inl (m : Int)), some (.inl thr), some (.inl (k : Int)), y6, y7, y8] [] (W, R, T) (rrQ V R T n (nst L) p0 s0) := by
      intro y6 y7 y8 hh
      rw [ux_151_403]
      simp only [ux_151_0, ux_151_1, ux_151_2, ux_151_3, ux_151_5, ux_151_6, ux_151_10, ux_151_11, ux_151_14, ux_151_15, ux_151_16, ux_151_19, ux_151_20, ux_151_23, ux_151_25, ux_151_27, ux_151_28, ux_151_31, ux_151_34, ux_151_35, ux_151_39, ux_151_40, ux_151_43, ux_151_46, ux_151_47, ux_151_50, ux_151_52, ux_151_54, ux_151_55, ux_151_58, ux_151_61, ux_151_62, ux_151_65, ux_151_66, ux_151_67, ux_151_68, ux_151_69, ux_151_72, ux_151_73, ux_151_75, ux_151_76, ux_151_77, ux_151_78, ux_151_81, ux_151_82, ux_151_86, ux_151_87, ux_151_90, ux_151_91, ux_151_94, ux_151_95, ux_151_96, ux_151_98, ux_151_101, ux_151_102, ux_151_105, ux_151_107, ux_151_108, ux_151_110, ux_151_112, ux_151_114, ux_151_117, ux_151_119, ux_151_121, ux_151_122, ux_151_124, ux_151_125, ux_151_129, ux_151_130, ux_151_133, ux_151_134, ux_151_135, ux_151_138, ux_151_139, ux_151_142, ux_151_144, ux_151_145, ux_151_147, ux_151_150, ux_151_151, ux_151_154, ux_151_156, ux_151_158, ux_151_159, ux_151_161, ux_151_162, ux_151_163, ux_151_164, ux_151_165, ux_151_168, ux_151_169, ux_151_172, ux_151_174, ux_151_176, ux_151_177, ux_151_179, ux_151_180, ux_151_181, ux_151_184, ux_151_186, ux_151_187, ux_151_190, ux_151_192, ux_151_193, ux_151_196, ux_151_197, ux_151_200, ux_151_202, ux_151_204, ux_151_205, ux_151_206, ux_151_209, ux_151_210, ux_151_212, ux_151_213, ux_151_216, ux_151_219, ux_151_224, ux_151_227, ux_151_228, ux_151_230, ux_151_233, ux_151_234, ux_151_235, ux_151_238, ux_151_239, ux_151_241, ux_151_242, ux_151_244, ux_151_247, ux_151_248, ux_151_252, ux_151_253, ux_151_256, ux_151_259, ux_151_260, ux_151_263, ux_151_265, ux_151_266, ux_151_268, ux_151_271, ux_151_272, ux_151_275, ux_151_277, ux_151_278, ux_151_279, ux_151_280, ux_151_283, ux_151_284, ux_151_287, ux_151_289, ux_151_291, ux_151_292, ux_151_293, ux_151_296, ux_151_297, ux_151_299, ux_151_301, ux_151_302, ux_151_303, ux_151_306, ux_151_309, ux_151_315, ux_151_316, ux_151_320, ux_151_321, ux_151_324, ux_151_327, ux_151_328, ux_151_331, ux_151_333, ux_151_334, ux_151_336, ux_151_339, ux_151_340, ux_151_343, ux_151_345, ux_151_347, ux_151_348, ux_151_350, ux_151_351, ux_151_352, ux_151_355, ux_151_356, ux_151_358, ux_151_360, ux_151_363, ux_151_364, ux_151_365, ux_151_368, ux_151_369, ux_151_372, ux_151_374, ux_151_376, ux_151_377, ux_151_378, ux_151_381, ux_151_382, ux_151_384, ux_151_386, ux_151_387, ux_151_388, ux_151_391, ux_151_394, ux_151_400, ux_151_404, ux_151_407, ux_151_408, ux_151_409, ux_151_412, ux_151_413, ux_151_416, ux_151_417, pm_i_c, pm_l_c, pm_q_c, pm_r_c, pm_li_0, pm_li_s, pm_ll_0, pm_ll_s, pm_lq_0, pm_lq_s, pm_s1, pm_s2, pm_kl, pm_wI, pm_wR, pm_pu_n, pm_pu_s, pm_wt, List.take_succ_cons, List.take_zero, List.take_nil, List.drop_succ_cons, List.drop_zero, List.reverse_cons, List.reverse_nil, List.nil_append, List.cons_append, List.length_cons, List.length_nil, true_and, and_true, true_implies, tn_l, tn_0, Int.reduceToNat, Int.reduceLE, Int.reduceLT, Int.reduceEq, Int.reduceAdd, Int.reduceSub, Int.reduceMul, Int.reduceNeg, Nat.reduceAdd, Nat.reduceLeDiff, Nat.reduceEqDiff, Nat.reduceSub, Option.some.injEq, Sum.inl.injEq, Sum.inr.injEq, or_true, true_or, reduceCtorEq, ne_eq, not_false_eq_true, not_true_eq_false, false_implies, implies_true, false_and, and_false, false_or, or_false, if_true, if_false, fr_131_0 hf, fr_131_1 hf, fr_131_5 hf, fr_131_7 hf, fr_131_8 hf, fr_131_9 hf, fr_131_12 hf, fr_131_13 hf, fr_131_14 hf, fr_131_15 hf, fr_131_19 hf, fr_131_20 hf, fr_131_21 hf, fr_131_22 hf, fr_131_23 hf, fr_131_24 hf, fg_131 hf, fv_131 hf, fb_132 hf, fb_133 hf, fb_134 hf, fb_135 hf, fb_136 hf, fb_137 hf, fb_138 hf, fb_139 hf, fb_140 hf, fb_141 hf, fb_142 hf, fb_143 hf, fb_144 hf, fb_145 hf, fb_146 hf, fb_147 hf]
      refine ⟨by omega, fun c => ⟨W, rfl, w1.1, Or.inr ⟨rfl, ?_⟩⟩, fun c => ⟨W, rfl, w1.1, Or.inl ⟨rfl, th, (rr_yes hn hp0 w1 (by omega)).2⟩⟩⟩
      have c2 : W 138 p0 = -2 := by
        refine Classical.byContradiction fun w => ?_
        have := (rr_yes hn hp0 w1 w).1
        omega
      exact rr_end hn hp0 hs0 w1 w2 (by omega) c2
    have nxt : ∀ W m thr th y6 y7 y8, rrI V n (nst L) p0 s0 W m thr th → rrK V n (nst L) p0 s0 W th (k + 1) → k + 1 ≤ m → pm_w d 151 397 [some (.inr (.inr (some 131))), some (.inl (p0 : Int)), some (.inl (s0 : Int)), some (.inl (m : Int)), some (.inl thr), some (.inl (k : Int)), y6, y7, y8] [] (W, R, T) (rrQ V R T n (nst L) p0 s0) := by
      intro W m thr th y6 y7 y8 w1 w2 w3
      rw [ux_151_397]
      simp only [ux_151_0, ux_151_1, ux_151_2, ux_151_3, ux_151_5, ux_151_6, ux_151_10, ux_151_11, ux_151_14, ux_151_15, ux_151_16, ux_151_19, ux_151_20, ux_151_23, ux_151_25, ux_151_27, ux_151_28, ux_151_31, ux_151_34, ux_151_35, ux_151_39, ux_151_40, ux_151_43, ux_151_46, ux_151_47, ux_151_50, ux_151_52, ux_151_54, ux_151_55, ux_151_58, ux_151_61, ux_151_62, ux_151_65, ux_151_66, ux_151_67, ux_151_68, ux_151_69, ux_151_72, ux_151_73, ux_151_75, ux_151_76, ux_151_77, ux_151_78, ux_151_81, ux_151_82, ux_151_86, ux_151_87, ux_151_90, ux_151_91, ux_151_94, ux_151_95, ux_151_96, ux_151_98, ux_151_101, ux_151_102, ux_151_105, ux_151_107, ux_151_108, ux_151_110, ux_151_112, ux_151_114, ux_151_117, ux_151_119, ux_151_121, ux_151_122, ux_151_124, ux_151_125, ux_151_129, ux_151_130, ux_151_133, ux_151_134, ux_151_135, ux_151_138, ux_151_139, ux_151_142, ux_151_144, ux_151_145, ux_151_147, ux_151_150, ux_151_151, ux_151_154, ux_151_156, ux_151_158, ux_151_159, ux_151_161, ux_151_162, ux_151_163, ux_151_164, ux_151_165, ux_151_168, ux_151_169, ux_151_172, ux_151_174, ux_151_176, ux_151_177, ux_151_179, ux_151_180, ux_151_181, ux_151_184, ux_151_186, ux_151_187, ux_151_190, ux_151_192, ux_151_193, ux_151_196, ux_151_197, ux_151_200, ux_151_202, ux_151_204, ux_151_205, ux_151_206, ux_151_209, ux_151_210, ux_151_212, ux_151_213, ux_151_216, ux_151_219, ux_151_224, ux_151_227, ux_151_228, ux_151_230, ux_151_233, ux_151_234, ux_151_235, ux_151_238, ux_151_239, ux_151_241, ux_151_242, ux_151_244, ux_151_247, ux_151_248, ux_151_252, ux_151_253, ux_151_256, ux_151_259, ux_151_260, ux_151_263, ux_151_265, ux_151_266, ux_151_268, ux_151_271, ux_151_272, ux_151_275, ux_151_277, ux_151_278, ux_151_279, ux_151_280, ux_151_283, ux_151_284, ux_151_287, ux_151_289, ux_151_291, ux_151_292, ux_151_293, ux_151_296, ux_151_297, ux_151_299, ux_151_301, ux_151_302, ux_151_303, ux_151_306, ux_151_309, ux_151_315, ux_151_316, ux_151_320, ux_151_321, ux_151_324, ux_151_327, ux_151_328, ux_151_331, ux_151_333, ux_151_334, ux_151_336, ux_151_339, ux_151_340, ux_151_343, ux_151_345, ux_151_347, ux_151_348, ux_151_350, ux_151_351, ux_151_352, ux_151_355, ux_151_356, ux_151_358, ux_151_360, ux_151_363, ux_151_364, ux_151_365, ux_151_368, ux_151_369, ux_151_372, ux_151_374, ux_151_376, ux_151_377, ux_151_378, ux_151_381, ux_151_382, ux_151_384, ux_151_386, ux_151_387, ux_151_388, ux_151_391, ux_151_394, ux_151_400, ux_151_404, ux_151_407, ux_151_408, ux_151_409, ux_151_412, ux_151_413, ux_151_416, ux_151_417, pm_i_c, pm_l_c, pm_q_c, pm_r_c, pm_li_0, pm_li_s, pm_ll_0, pm_ll_s, pm_lq_0, pm_lq_s, pm_s1, pm_s2, pm_kl, pm_wI, pm_wR, pm_pu_n, pm_pu_s, pm_wt, List.take_succ_cons, List.take_zero, List.take_nil, List.drop_succ_cons, List.drop_zero, List.reverse_cons, List.reverse_nil, List.nil_append, List.cons_append, List.length_cons, List.length_nil, true_and, and_true, true_implies, tn_l, tn_0, Int.reduceToNat, Int.reduceLE, Int.reduceLT, Int.reduceEq, Int.reduceAdd, Int.reduceSub, Int.reduceMul, Int.reduceNeg, Nat.reduceAdd, Nat.reduceLeDiff, Nat.reduceEqDiff, Nat.reduceSub, Option.some.injEq, Sum.inl.injEq, Sum.inr.injEq, or_true, true_or, reduceCtorEq, ne_eq, not_false_eq_true, not_true_eq_false, false_implies, implies_true, false_and, and_false, false_or, or_false, if_true, if_false, fr_131_0 hf, fr_131_1 hf, fr_131_5 hf, fr_131_7 hf, fr_131_8 hf, fr_131_9 hf, fr_131_12 hf, fr_131_13 hf, fr_131_14 hf, fr_131_15 hf, fr_131_19 hf, fr_131_20 hf, fr_131_21 hf, fr_131_22 hf, fr_131_23 hf, fr_131_24 hf, fg_131 hf, fv_131 hf, fb_132 hf, fb_133 hf, fb_134 hf, fb_135 hf, fb_136 hf, fb_137 hf, fb_138 hf, fb_139 hf, fb_140 hf, fb_141 hf, fb_142 hf, fb_143 hf, fb_144 hf, fb_145 hf, fb_146 hf, fb_147 hf]
      exact ⟨by unfold pm_I32; omega, ih (k + 1) W m thr th _ _ _ (by omega) w1 w2 w3⟩
    rw [ux_151_84]
    simp only [ux_151_0, ux_151_1, ux_151_2, ux_151_3, ux_151_5, ux_151_6, ux_151_10, ux_151_11, ux_151_14, ux_151_15, ux_151_16, ux_151_19, ux_151_20, ux_151_23, ux_151_25, ux_151_27, ux_151_28, ux_151_31, ux_151_34, ux_151_35, ux_151_39, ux_151_40, ux_151_43, ux_151_46, ux_151_47, ux_151_50, ux_151_52, ux_151_54, ux_151_55, ux_151_58, ux_151_61, ux_151_62, ux_151_65, ux_151_66, ux_151_67, ux_151_68, ux_151_69, ux_151_72, ux_151_73, ux_151_75, ux_151_76, ux_151_77, ux_151_78, ux_151_81, ux_151_82, ux_151_86, ux_151_87, ux_151_90, ux_151_91, ux_151_94, ux_151_95, ux_151_96, ux_151_98, ux_151_101, ux_151_102, ux_151_105, ux_151_107, ux_151_108, ux_151_110, ux_151_112, ux_151_114, ux_151_117, ux_151_119, ux_151_121, ux_151_122, ux_151_124, ux_151_125, ux_151_129, ux_151_130, ux_151_133, ux_151_134, ux_151_135, ux_151_138, ux_151_139, ux_151_142, ux_151_144, ux_151_145, ux_151_147, ux_151_150, ux_151_151, ux_151_154, ux_151_156, ux_151_158, ux_151_159, ux_151_161, ux_151_162, ux_151_163, ux_151_164, ux_151_165, ux_151_168, ux_151_169, ux_151_172, ux_151_174, ux_151_176, ux_151_177, ux_151_179, ux_151_180, ux_151_181, ux_151_184, ux_151_186, ux_151_187, ux_151_190, ux_151_192, ux_151_193, ux_151_196, ux_151_197, ux_151_200, ux_151_202, ux_151_204, ux_151_205, ux_151_206, ux_151_209, ux_151_210, ux_151_212, ux_151_213, ux_151_216, ux_151_219, ux_151_224, ux_151_227, ux_151_228, ux_151_230, ux_151_233, ux_151_234, ux_151_235, ux_151_238, ux_151_239, ux_151_241, ux_151_242, ux_151_244, ux_151_247, ux_151_248, ux_151_252, ux_151_253, ux_151_256, ux_151_259, ux_151_260, ux_151_263, ux_151_265, ux_151_266, ux_151_268, ux_151_271, ux_151_272, ux_151_275, ux_151_277, ux_151_278, ux_151_279, ux_151_280, ux_151_283, ux_151_284, ux_151_287, ux_151_289, ux_151_291, ux_151_292, ux_151_293, ux_151_296, ux_151_297, ux_151_299, ux_151_301, ux_151_302, ux_151_303, ux_151_306, ux_151_309, ux_151_315, ux_151_316, ux_151_320, ux_151_321, ux_151_324, ux_151_327, ux_151_328, ux_151_331, ux_151_333, ux_151_334, ux_151_336, ux_151_339, ux_151_340, ux_151_343, ux_151_345, ux_151_347, ux_151_348, ux_151_350, ux_151_351, ux_151_352, ux_151_355, ux_151_356, ux_151_358, ux_151_360, ux_151_363, ux_151_364, ux_151_365, ux_151_368, ux_151_369, ux_151_372, ux_151_374, ux_151_376, ux_151_377, ux_151_378, ux_151_381, ux_151_382, ux_151_384, ux_151_386, ux_151_387, ux_151_388, ux_151_391, ux_151_394, ux_151_400, ux_151_404, ux_151_407, ux_151_408, ux_151_409, ux_151_412, ux_151_413, ux_151_416, ux_151_417, pm_i_c, pm_l_c, pm_q_c, pm_r_c, pm_li_0, pm_li_s, pm_ll_0, pm_ll_s, pm_lq_0, pm_lq_s, pm_s1, pm_s2, pm_kl, pm_wI, pm_wR, pm_pu_n, pm_pu_s, pm_wt, List.take_succ_cons, List.take_zero, List.take_nil, List.drop_succ_cons, List.drop_zero, List.reverse_cons, List.reverse_nil, List.nil_append, List.cons_append, List.length_cons, List.length_nil, true_and, and_true, true_implies, tn_l, tn_0, Int.reduceToNat, Int.reduceLE, Int.reduceLT, Int.reduceEq, Int.reduceAdd, Int.reduceSub, Int.reduceMul, Int.reduceNeg, Nat.reduceAdd, Nat.reduceLeDiff, Nat.reduceEqDiff, Nat.reduceSub, Option.some.injEq, Sum.inl.injEq, Sum.inr.injEq, or_true, true_or, reduceCtorEq, ne_eq, not_false_eq_true, not_true_eq_false, false_implies, implies_true, false_and, and_false, false_or, or_false, if_true, if_false, fr_131_0 hf, fr_131_1 hf, fr_131_5 hf, fr_131_7 hf, fr_131_8 hf, fr_131_9 hf, fr_131_12 hf, fr_131_13 hf, fr_131_14 hf, fr_131_15 hf, fr_131_19 hf, fr_131_20 hf, fr_131_21 hf, fr_131_22 hf, fr_131_23 hf, fr_131_24 hf, fg_131 hf, fv_131 hf, fb_132 hf, fb_133 hf, fb_134 hf, fb_135 hf, fb_136 hf, fb_137 hf, fb_138 hf, fb_139 hf, fb_140 hf, fb_141 hf, fb_142 hf, fb_143 hf, fb_144 hf, fb_145 hf, fb_146 hf, fb_147 hf]
    refine ⟨fun c => fin _ _ _ (Or.inl (by omega)), fun c => ⟨by omega, fun c2 => fin _ _ _ (Or.inr c2), fun c2 => ⟨by omega, fun c3 => ?_, fun c3 => ?_⟩⟩⟩
    · obtain ⟨a, a1, a2, a3⟩ := w1.2.2.1.2.1 k (by omega)
      rcases cmb_cs a1 a3 with ⟨b1, b2, b3⟩ | ⟨s, b1, b2, b3⟩
      · rw [a2]
        refine rr_B hd hf hS hX a k m thr th _ b1 (fun W m y w1 w2 w3 w4 w5 => ?_) w1 w2 (by omega) b3 a2
        refine nxt W m thr th _ _ _ w1 ⟨prc_s w2.1 w4 ?_, w2.2.1, ?_⟩ (by omega)
        · intro b hb hF
          rcases hF with ⟨q, s, e1, e2, e3, e4, e5, e6, e7⟩ | ⟨q, s, e1, e2, e3, e4, e5, e6⟩
          · omega
          · subst e3; rw [e4, cmb_S]; exact w5 s e2 e5 e6
        · intro i hi s hs hu
          by_cases e : i = k
          · subst e; omega
          · exact w2.2.2 i (by omega) s hs hu
      · rw [a2] at c3; omega
    · obtain ⟨a, a1, a2, a3⟩ := w1.2.2.1.2.1 k (by omega)
      rcases cmb_cs a1 a3 with ⟨b1, b2, b3⟩ | ⟨s, b1, b2, b3⟩
      · rw [a2] at c3; omega
      · have a2 : W 140 k = 12 + (s : Int) := by omega
        have e12 : (12 + (s : Int)) - 12 = (s : Int) := by omega
        rw [a2, e12]
        refine ⟨by unfold pm_I32; omega, ?_⟩
        refine rr_A hf hS s k m thr th b1 hp0 hs0 (fun W m y w1 w2 w3 w4 w5 w6 => ?_) w1 w2 (by omega) b3 a2
        have hpr : prc (12 + nst L) (rrF V n (nst L) p0 s0) (cmb n (W 138) (W 139)) (W 140) (k + 1) := by
          refine prc_s (a := 12 + s) w2.1 (by rw [w5]; omega) ?_
          intro b hb hF
          rcases hF with ⟨q, t, e1, e2, e3, e4, e5, e6, e7⟩ | ⟨q, t, e1, e2, e3, e4, e5, e6⟩
          · have : t = s := by omega
            subst this
            subst e4
            rw [cmb_P e1 hn]
            exact w6 _ e1 e5 e6 e7
          · omega
        rw [ux_151_222]
        simp only [ux_151_0, ux_151_1, ux_151_2, ux_151_3, ux_151_5, ux_151_6, ux_151_10, ux_151_11, ux_151_14, ux_151_15, ux_151_16, ux_151_19, ux_151_20, ux_151_23, ux_151_25, ux_151_27, ux_151_28, ux_151_31, ux_151_34, ux_151_35, ux_151_39, ux_151_40, ux_151_43, ux_151_46, ux_151_47, ux_151_50, ux_151_52, ux_151_54, ux_151_55, ux_151_58, ux_151_61, ux_151_62, ux_151_65, ux_151_66, ux_151_67, ux_151_68, ux_151_69, ux_151_72, ux_151_73, ux_151_75, ux_151_76, ux_151_77, ux_151_78, ux_151_81, ux_151_82, ux_151_86, ux_151_87, ux_151_90, ux_151_91, ux_151_94, ux_151_95, ux_151_96, ux_151_98, ux_151_101, ux_151_102, ux_151_105, ux_151_107, ux_151_108, ux_151_110, ux_151_112, ux_151_114, ux_151_117, ux_151_119, ux_151_121, ux_151_122, ux_151_124, ux_151_125, ux_151_129, ux_151_130, ux_151_133, ux_151_134, ux_151_135, ux_151_138, ux_151_139, ux_151_142, ux_151_144, ux_151_145, ux_151_147, ux_151_150, ux_151_151, ux_151_154, ux_151_156, ux_151_158, ux_151_159, ux_151_161, ux_151_162, ux_151_163, ux_151_164, ux_151_165, ux_151_168, ux_151_169, ux_151_172, ux_151_174, ux_151_176, ux_151_177, ux_151_179, ux_151_180, ux_151_181, ux_151_184, ux_151_186, ux_151_187, ux_151_190, ux_151_192, ux_151_193, ux_151_196, ux_151_197, ux_151_200, ux_151_202, ux_151_204, ux_151_205, ux_151_206, ux_151_209, ux_151_210, ux_151_212, ux_151_213, ux_151_216, ux_151_219, ux_151_224, ux_151_227, ux_151_228, ux_151_230, ux_151_233, ux_151_234, ux_151_235, ux_151_238, ux_151_239, ux_151_241, ux_151_242, ux_151_244, ux_151_247, ux_151_248, ux_151_252, ux_151_253, ux_151_256, ux_151_259, ux_151_260, ux_151_263, ux_151_265, ux_151_266, ux_151_268, ux_151_271, ux_151_272, ux_151_275, ux_151_277, ux_151_278, ux_151_279, ux_151_280, ux_151_283, ux_151_284, ux_151_287, ux_151_289, ux_151_291, ux_151_292, ux_151_293, ux_151_296, ux_151_297, ux_151_299, ux_151_301, ux_151_302, ux_151_303, ux_151_306, ux_151_309, ux_151_312, ux_151_315, ux_151_316, ux_151_320, ux_151_321, ux_151_324, ux_151_327, ux_151_328, ux_151_331, ux_151_333, ux_151_334, ux_151_336, ux_151_339, ux_151_340, ux_151_343, ux_151_345, ux_151_347, ux_151_348, ux_151_350, ux_151_351, ux_151_352, ux_151_355, ux_151_356, ux_151_358, ux_151_360, ux_151_363, ux_151_364, ux_151_365, ux_151_368, ux_151_369, ux_151_372, ux_151_374, ux_151_376, ux_151_377, ux_151_378, ux_151_381, ux_151_382, ux_151_384, ux_151_386, ux_151_387, ux_151_388, ux_151_391, ux_151_394, ux_151_400, ux_151_404, ux_151_407, ux_151_408, ux_151_409, ux_151_412, ux_151_413, ux_151_416, ux_151_417, pm_i_c, pm_l_c, pm_q_c, pm_r_c, pm_li_0, pm_li_s, pm_ll_0, pm_ll_s, pm_lq_0, pm_lq_s, pm_s1, pm_s2, pm_kl, pm_wI, pm_wR, pm_pu_n, pm_pu_s, pm_wt, List.take_succ_cons, List.take_zero, List.take_nil, List.drop_succ_cons, List.drop_zero, List.reverse_cons, List.reverse_nil, List.nil_append, List.cons_append, List.length_cons, List.length_nil, true_and, and_true, true_implies, tn_l, tn_0, Int.reduceToNat, Int.reduceLE, Int.reduceLT, Int.reduceEq, Int.reduceAdd, Int.reduceSub, Int.reduceMul, Int.reduceNeg, Nat.reduceAdd, Nat.reduceLeDiff, Nat.reduceEqDiff, Nat.reduceSub, Option.some.injEq, Sum.inl.injEq, Sum.inr.injEq, or_true, true_or, reduceCtorEq, ne_eq, not_false_eq_true, not_true_eq_false, false_implies, implies_true, false_and, and_false, false_or, or_false, if_true, if_false, fr_131_0 hf, fr_131_1 hf, fr_131_5 hf, fr_131_7 hf, fr_131_8 hf, fr_131_9 hf, fr_131_12 hf, fr_131_13 hf, fr_131_14 hf, fr_131_15 hf, fr_131_19 hf, fr_131_20 hf, fr_131_21 hf, fr_131_22 hf, fr_131_23 hf, fr_131_24 hf, fg_131 hf, fv_131 hf, fb_132 hf, fb_133 hf, fb_134 hf, fb_135 hf, fb_136 hf, fb_137 hf, fb_138 hf, fb_139 hf, fb_140 hf, fb_141 hf, fb_142 hf, fb_143 hf, fb_144 hf, fb_145 hf, fb_146 hf, fb_147 hf, pm_ok_ev (tf_roomAt (d := d) (by omega) hf hS hX w1.1 s b1), lc_le]
        refine ⟨fun c4 => ?_, fun c4 => ⟨fun c5 => ?_, fun c5 => ?_⟩⟩
        · refine nxt W m thr th _ _ _ w1 ⟨hpr, w2.2.1, fun i hi t ht hu hr => ?_⟩ (by omega)
          rcases w1.2.2.2.1 with ⟨z, -⟩ | ⟨u, -, z, -⟩
          · exact absurd z c4
          · rw [z]; exact fun w => by cases w
        · refine nxt W m thr th _ _ _ w1 ⟨hpr, w2.2.1, fun i hi t ht hu hr => ?_⟩ (by omega)
          by_cases e : i = k
          · subst e
            rw [w5] at hu
            rw [show t = s by omega] at hr
            omega
          · exact w2.2.2 i (by omega) t ht hu hr
        · have hth : th = none := by
            rcases w1.2.2.2.1 with ⟨-, z⟩ | ⟨u, z, -⟩
            · exact z
            · omega
          rw [hth] at w1
          have w1' := rr_thr w1 b1 w4
          refine rr_T hd hf hS hX s k m s b1 (by omega) (fun W m y z1 z2 z3 z4 => ?_) w1' ?_ w3
          · rw [ux_151_312]
            refine nxt W m 1 (some s) _ _ _ z1 ⟨z2, fun _ => z3, fun i hi t ht hu hr w => by cases w⟩ (by omega)
          · rw [pm_up_fr (by decide), pm_up_fr (by decide), pm_up_fr (by decide)]
            exact hpr
theorem m_reroute (hd : 5 ≤ d) (hf : fx R T) (hS : rfS V n L) (hX : rfX V n (nst L)) (hp0 : p0 < n) (hs0 : s0 < nst L) : pm_ok d 151 [.inr (.inr (some 131)), .inl (p0 : Int), .inl (s0 : Int)] (V, R, T) (rrQ V R T n (nst L) p0 s0) := by
  obtain ⟨d, rfl⟩ : ∃ k, d = k + 1 := ⟨d - 1, by omega⟩
  refine pm_ok_iff.mpr ⟨(Nat.le_of_ble_eq_true rfl), ?_⟩
  show pm_w d 151 0 [some (.inr (.inr (some 131))), some (.inl (p0 : Int)), some (.inl (s0 : Int)), none, none, none, none, none, none] [] (V, R, T) _
  have hn := hS.1.1
  have hA2 := hS.1.2.1
  have hl := hS.2.1.2.1
  have hnS : nst L ≤ 47 := by unfold nst; omega
  simp only [ux_151_0, ux_151_1, ux_151_2, ux_151_3, ux_151_5, ux_151_6, ux_151_10, ux_151_11, ux_151_14, ux_151_15, ux_151_16, ux_151_19, ux_151_20, ux_151_23, ux_151_25, ux_151_27, ux_151_28, ux_151_31, ux_151_34, ux_151_35, ux_151_39, ux_151_40, ux_151_43, ux_151_46, ux_151_47, ux_151_50, ux_151_52, ux_151_54, ux_151_55, ux_151_58, ux_151_62, ux_151_65, ux_151_66, ux_151_67, ux_151_68, ux_151_69, ux_151_72, ux_151_73, ux_151_75, ux_151_76, ux_151_77, ux_151_78, ux_151_81, ux_151_82, ux_151_86, ux_151_87, ux_151_90, ux_151_91, ux_151_94, ux_151_95, ux_151_96, ux_151_98, ux_151_101, ux_151_102, ux_151_105, ux_151_107, ux_151_108, ux_151_110, ux_151_112, ux_151_114, ux_151_117, ux_151_119, ux_151_121, ux_151_122, ux_151_124, ux_151_125, ux_151_129, ux_151_130, ux_151_133, ux_151_134, ux_151_135, ux_151_138, ux_151_139, ux_151_142, ux_151_144, ux_151_145, ux_151_147, ux_151_150, ux_151_151, ux_151_154, ux_151_156, ux_151_158, ux_151_159, ux_151_161, ux_151_162, ux_151_163, ux_151_164, ux_151_165, ux_151_168, ux_151_169, ux_151_172, ux_151_174, ux_151_176, ux_151_177, ux_151_179, ux_151_180, ux_151_181, ux_151_184, ux_151_186, ux_151_187, ux_151_190, ux_151_192, ux_151_193, ux_151_196, ux_151_197, ux_151_200, ux_151_202, ux_151_204, ux_151_205, ux_151_206, ux_151_209, ux_151_210, ux_151_212, ux_151_213, ux_151_216, ux_151_219, ux_151_224, ux_151_227, ux_151_228, ux_151_230, ux_151_233, ux_151_234, ux_151_235, ux_151_238, ux_151_239, ux_151_241, ux_151_242, ux_151_244, ux_151_247, ux_151_248, ux_151_252, ux_151_253, ux_151_256, ux_151_259, ux_151_260, ux_151_263, ux_151_265, ux_151_266, ux_151_268, ux_151_271, ux_151_272, ux_151_275, ux_151_277, ux_151_278, ux_151_279, ux_151_280, ux_151_283, ux_151_284, ux_151_287, ux_151_289, ux_151_291, ux_151_292, ux_151_293, ux_151_296, ux_151_297, ux_151_299, ux_151_301, ux_151_302, ux_151_303, ux_151_306, ux_151_309, ux_151_315, ux_151_316, ux_151_320, ux_151_321, ux_151_324, ux_151_327, ux_151_328, ux_151_331, ux_151_333, ux_151_334, ux_151_336, ux_151_339, ux_151_340, ux_151_343, ux_151_345, ux_151_347, ux_151_348, ux_151_350, ux_151_351, ux_151_352, ux_151_355, ux_151_356, ux_151_358, ux_151_360, ux_151_363, ux_151_364, ux_151_365, ux_151_368, ux_151_369, ux_151_372, ux_151_374, ux_151_376, ux_151_377, ux_151_378, ux_151_381, ux_151_382, ux_151_384, ux_151_386, ux_151_387, ux_151_388, ux_151_391, ux_151_394, ux_151_400, ux_151_404, ux_151_407, ux_151_408, ux_151_409, ux_151_412, ux_151_413, ux_151_416, ux_151_417, pm_i_c, pm_l_c, pm_q_c, pm_r_c, pm_li_0, pm_li_s, pm_ll_0, pm_ll_s, pm_lq_0, pm_lq_s, pm_s1, pm_s2, pm_kl, pm_wI, pm_wR, pm_pu_n, pm_pu_s, pm_wt, List.take_succ_cons, List.take_zero, List.take_nil, List.drop_succ_cons, List.drop_zero, List.reverse_cons, List.reverse_nil, List.nil_append, List.cons_append, List.length_cons, List.length_nil, true_and, and_true, true_implies, tn_l, tn_0, Int.reduceToNat, Int.reduceLE, Int.reduceLT, Int.reduceEq, Int.reduceAdd, Int.reduceSub, Int.reduceMul, Int.reduceNeg, Nat.reduceAdd, Nat.reduceLeDiff, Nat.reduceEqDiff, Nat.reduceSub, Option.some.injEq, Sum.inl.injEq, Sum.inr.injEq, or_true, true_or, reduceCtorEq, ne_eq, not_false_eq_true, not_true_eq_false, false_implies, implies_true, false_and, and_false, false_or, or_false, if_true, if_false, fr_131_0 hf, fr_131_1 hf, fr_131_5 hf, fr_131_7 hf, fr_131_8 hf, fr_131_9 hf, fr_131_12 hf, fr_131_13 hf, fr_131_14 hf, fr_131_15 hf, fr_131_19 hf, fr_131_20 hf, fr_131_21 hf, fr_131_22 hf, fr_131_23 hf, fr_131_24 hf, fg_131 hf, fv_131 hf, fb_132 hf, fb_133 hf, fb_134 hf, fb_135 hf, fb_136 hf, fb_137 hf, fb_138 hf, fb_139 hf, fb_140 hf, fb_141 hf, fb_142 hf, fb_143 hf, fb_144 hf, fb_145 hf, fb_146 hf, fb_147 hf]
  have k3 : ∀ W y, tfr V W → (∀ q, q < n → W 138 q = -2) → (∀ t, t < nst L → W 139 t = -2) → pm_w d 151 61 [some (.inr (.inr (some 131))), some (.inl (p0 : Int)), some (.inl (s0 : Int)), some (.inl 0), some (.inl 0), some (.inl y), none, none, none] [] (W, R, T) (rrQ V R T n (nst L) p0 s0) := by
    intro W y w1 w2 w3
    rw [ux_151_61]
    simp only [ux_151_0, ux_151_1, ux_151_2, ux_151_3, ux_151_5, ux_151_6, ux_151_10, ux_151_11, ux_151_14, ux_151_15, ux_151_16, ux_151_19, ux_151_20, ux_151_23, ux_151_25, ux_151_27, ux_151_28, ux_151_31, ux_151_34, ux_151_35, ux_151_39, ux_151_40, ux_151_43, ux_151_46, ux_151_47, ux_151_50, ux_151_52, ux_151_54, ux_151_55, ux_151_58, ux_151_62, ux_151_65, ux_151_66, ux_151_67, ux_151_68, ux_151_69, ux_151_72, ux_151_73, ux_151_75, ux_151_76, ux_151_77, ux_151_78, ux_151_81, ux_151_82, ux_151_86, ux_151_87, ux_151_90, ux_151_91, ux_151_94, ux_151_95, ux_151_96, ux_151_98, ux_151_101, ux_151_102, ux_151_105, ux_151_107, ux_151_108, ux_151_110, ux_151_112, ux_151_114, ux_151_117, ux_151_119, ux_151_121, ux_151_122, ux_151_124, ux_151_125, ux_151_129, ux_151_130, ux_151_133, ux_151_134, ux_151_135, ux_151_138, ux_151_139, ux_151_142, ux_151_144, ux_151_145, ux_151_147, ux_151_150, ux_151_151, ux_151_154, ux_151_156, ux_151_158, ux_151_159, ux_151_161, ux_151_162, ux_151_163, ux_151_164, ux_151_165, ux_151_168, ux_151_169, ux_151_172, ux_151_174, ux_151_176, ux_151_177, ux_151_179, ux_151_180, ux_151_181, ux_151_184, ux_151_186, ux_151_187, ux_151_190, ux_151_192, ux_151_193, ux_151_196, ux_151_197, ux_151_200, ux_151_202, ux_151_204, ux_151_205, ux_151_206, ux_151_209, ux_151_210, ux_151_212, ux_151_213, ux_151_216, ux_151_219, ux_151_224, ux_151_227, ux_151_228, ux_151_230, ux_151_233, ux_151_234, ux_151_235, ux_151_238, ux_151_239, ux_151_241, ux_151_242, ux_151_244, ux_151_247, ux_151_248, ux_151_252, ux_151_253, ux_151_256, ux_151_259, ux_151_260, ux_151_263, ux_151_265, ux_151_266, ux_151_268, ux_151_271, ux_151_272, ux_151_275, ux_151_277, ux_151_278, ux_151_279, ux_151_280, ux_151_283, ux_151_284, ux_151_287, ux_151_289, ux_151_291, ux_151_292, ux_151_293, ux_151_296, ux_151_297, ux_151_299, ux_151_301, ux_151_302, ux_151_303, ux_151_306, ux_151_309, ux_151_315, ux_151_316, ux_151_320, ux_151_321, ux_151_324, ux_151_327, ux_151_328, ux_151_331, ux_151_333, ux_151_334, ux_151_336, ux_151_339, ux_151_340, ux_151_343, ux_151_345, ux_151_347, ux_151_348, ux_151_350, ux_151_351, ux_151_352, ux_151_355, ux_151_356, ux_151_358, ux_151_360, ux_151_363, ux_151_364, ux_151_365, ux_151_368, ux_151_369, ux_151_372, ux_151_374, ux_151_376, ux_151_377, ux_151_378, ux_151_381, ux_151_382, ux_151_384, ux_151_386, ux_151_387, ux_151_388, ux_151_391, ux_151_394, ux_151_400, ux_151_404, ux_151_407, ux_151_408, ux_151_409, ux_151_412, ux_151_413, ux_151_416, ux_151_417, pm_i_c, pm_l_c, pm_q_c, pm_r_c, pm_li_0, pm_li_s, pm_ll_0, pm_ll_s, pm_lq_0, pm_lq_s, pm_s1, pm_s2, pm_kl, pm_wI, pm_wR, pm_pu_n, pm_pu_s, pm_wt, List.take_succ_cons, List.take_zero, List.take_nil, List.drop_succ_cons, List.drop_zero, List.reverse_cons, List.reverse_nil, List.nil_append, List.cons_append, List.length_cons, List.length_nil, true_and, and_true, true_implies, tn_l, tn_0, Int.reduceToNat, Int.reduceLE, Int.reduceLT, Int.reduceEq, Int.reduceAdd, Int.reduceSub, Int.reduceMul, Int.reduceNeg, Nat.reduceAdd, Nat.reduceLeDiff, Nat.reduceEqDiff, Nat.reduceSub, Option.some.injEq, Sum.inl.injEq, Sum.inr.injEq, or_true, true_or, reduceCtorEq, ne_eq, not_false_eq_true, not_true_eq_false, false_implies, implies_true, false_and, and_false, false_or, or_false, if_true, if_false, fr_131_0 hf, fr_131_1 hf, fr_131_5 hf, fr_131_7 hf, fr_131_8 hf, fr_131_9 hf, fr_131_12 hf, fr_131_13 hf, fr_131_14 hf, fr_131_15 hf, fr_131_19 hf, fr_131_20 hf, fr_131_21 hf, fr_131_22 hf, fr_131_23 hf, fr_131_24 hf, fg_131 hf, fv_131 hf, fb_132 hf, fb_133 hf, fb_134 hf, fb_135 hf, fb_136 hf, fb_137 hf, fb_138 hf, fb_139 hf, fb_140 hf, fb_141 hf, fb_142 hf, fb_143 hf, fb_144 hf, fb_145 hf, fb_146 hf, fb_147 hf]
    refine ⟨by omega, by unfold pm_I32; omega, by unfold pm_I32; omega, ?_⟩
    generalize hW2 : pm_up (pm_up W 139 s0 (-1)) 140 0 (12 + (s0 : Int)) = W2
    have r1 : W2 131 = W 131 := by rw [← hW2, pm_up_fr (by decide), pm_up_fr (by decide)]
    have r8 : W2 138 = W 138 := by rw [← hW2, pm_up_fr (by decide), pm_up_fr (by decide)]
    have r9 : W2 139 = fun j => if j = s0 then -1 else W 139 j := by rw [← hW2, pm_up_fr (by decide), pm_up_row]
    have r10 : W2 140 = fun j => if j = 0 then (((12 + s0 : Nat)) : Int) else W 140 j := by rw [← hW2, pm_up_row, pm_up_fr (by decide)]; rfl
    have hz : ∀ a, a < 12 + nst L → cmb n (W 138) (W 139) a = -2 := by
      intro a ha
      refine Classical.byContradiction fun w => ?_
      rcases cmb_cs ha w with ⟨b1, b2, b3⟩ | ⟨s, b1, b2, b3⟩
      · exact b3 (w2 a b1)
      · exact b3 (w3 s b1)
    have hc0 : cnt (cmb n (W 138) (W 139)) (12 + nst L) = 0 := by
      have : ∀ N, (∀ a, a < N → cmb n (W 138) (W 139) a = -2) → cnt (cmb n (W 138) (W 139)) N = 0 := by
        intro N
        induction N with
        | zero => intro _; rfl
        | succ N ihN =>
          intro hh
          show cnt _ N + (if cmb n (W 138) (W 139) N = -2 then 0 else 1) = 0
          rw [ihN (fun a ha => hh a (by omega)), if_pos (hh N (by omega))]
      exact this _ hz
    have hM : cmb n (W 138) (W 139) (12 + s0) = -2 := hz _ (by omega)
    refine rr_out (d := d) (by omega) hf hS hX hp0 hs0 (13 + nst L) 0 W2 1 0 none _ _ _ (by omega) ⟨⟨fun q a b c e => ?_, fun j hj => ?_⟩, ?_, ?_, Or.inl ⟨rfl, rfl⟩, ?_⟩ ⟨fun j hj => by omega, fun z => absurd rfl z, fun j hj => by omega⟩ (by omega)
    · rw [← hW2, pm_up_fr e, pm_up_fr c]; exact w1.1 q a b c e
    · rw [r1]; exact w1.2 j hj
    · rw [r8, r9, cmb_s]
      exact bfs_push ⟨fun _ => 0, fun a ha hm => absurd (hz a ha) hm⟩ (by omega) hM (by decide) (Or.inl ⟨rfl, rfl⟩)
    · rw [r8, r9, r10, cmb_s]
      exact que_push (m := 0) ⟨hc0.symm, fun j hj => by omega, fun a ha hm => absurd (hz a ha) hm⟩ (by omega) hM (by decide)
    · rw [r9]; exact if_pos rfl
  have k2 : ∀ W y, tfr V W → (∀ q, q < n → W 138 q = -2) → pm_w d 151 37 [some (.inr (.inr (some 131))), some (.inl (p0 : Int)), some (.inl (s0 : Int)), some (.inl 0), some (.inl 0), some (.inl 0), y, none, none] [] (W, R, T) (rrQ V R T n (nst L) p0 s0) → True := fun _ _ _ _ _ => trivial
  refine pm_up0 (fun i => ∀ W, tfr V W → (∀ q, q < i → W 138 q = -2) → pm_w d 151 8 [some (.inr (.inr (some 131))), some (.inl (p0 : Int)), some (.inl (s0 : Int)), some (.inl 0), some (.inl 0), some (.inl (i : Int)), none, none, none] [] (W, R, T) (rrQ V R T n (nst L) p0 s0)) n ?_ ?_ V tfr_rf (fun q hq => by omega)
  · intro W w1 w2
    have e2 : W 132 2 = n := by rw [w1.1 132 (by decide) (by decide) (by decide) (by decide)]; exact hA2
    rw [ux_151_8]
    simp only [ux_151_0, ux_151_1, ux_151_2, ux_151_3, ux_151_5, ux_151_6, ux_151_10, ux_151_11, ux_151_14, ux_151_15, ux_151_16, ux_151_19, ux_151_20, ux_151_23, ux_151_25, ux_151_27, ux_151_28, ux_151_31, ux_151_34, ux_151_35, ux_151_39, ux_151_40, ux_151_43, ux_151_46, ux_151_47, ux_151_50, ux_151_52, ux_151_54, ux_151_55, ux_151_58, ux_151_62, ux_151_65, ux_151_66, ux_151_67, ux_151_68, ux_151_69, ux_151_72, ux_151_73, ux_151_75, ux_151_76, ux_151_77, ux_151_78, ux_151_81, ux_151_82, ux_151_86, ux_151_87, ux_151_90, ux_151_91, ux_151_94, ux_151_95, ux_151_96, ux_151_98, ux_151_101, ux_151_102, ux_151_105, ux_151_107, ux_151_108, ux_151_110, ux_151_112, ux_151_114, ux_151_117, ux_151_119, ux_151_121, ux_151_122, ux_151_124, ux_151_125, ux_151_129, ux_151_130, ux_151_133, ux_151_134, ux_151_135, ux_151_138, ux_151_139, ux_151_142, ux_151_144, ux_151_145, ux_151_147, ux_151_150, ux_151_151, ux_151_154, ux_151_156, ux_151_158, ux_151_159, ux_151_161, ux_151_162, ux_151_163, ux_151_164, ux_151_165, ux_151_168, ux_151_169, ux_151_172, ux_151_174, ux_151_176, ux_151_177, ux_151_179, ux_151_180, ux_151_181, ux_151_184, ux_151_186, ux_151_187, ux_151_190, ux_151_192, ux_151_193, ux_151_196, ux_151_197, ux_151_200, ux_151_202, ux_151_204, ux_151_205, ux_151_206, ux_151_209, ux_151_210, ux_151_212, ux_151_213, ux_151_216, ux_151_219, ux_151_224, ux_151_227, ux_151_228, ux_151_230, ux_151_233, ux_151_234, ux_151_235, ux_151_238, ux_151_239, ux_151_241, ux_151_242, ux_151_244, ux_151_247, ux_151_248, ux_151_252, ux_151_253, ux_151_256, ux_151_259, ux_151_260, ux_151_263, ux_151_265, ux_151_266, ux_151_268, ux_151_271, ux_151_272, ux_151_275, ux_151_277, ux_151_278, ux_151_279, ux_151_280, ux_151_283, ux_151_284, ux_151_287, ux_151_289, ux_151_291, ux_151_292, ux_151_293, ux_151_296, ux_151_297, ux_151_299, ux_151_301, ux_151_302, ux_151_303, ux_151_306, ux_151_309, ux_151_315, ux_151_316, ux_151_320, ux_151_321, ux_151_324, ux_151_327, ux_151_328, ux_151_331, ux_151_333, ux_151_334, ux_151_336, ux_151_339, ux_151_340, ux_151_343, ux_151_345, ux_151_347, ux_151_348, ux_151_350, ux_151_351, ux_151_352, ux_151_355, ux_151_356, ux_151_358, ux_151_360, ux_151_363, ux_151_364, ux_151_365, ux_151_368, ux_151_369, ux_151_372, ux_151_374, ux_151_376, ux_151_377, ux_151_378, ux_151_381, ux_151_382, ux_151_384, ux_151_386, ux_151_387, ux_151_388, ux_151_391, ux_151_394, ux_151_400, ux_151_404, ux_151_407, ux_151_408, ux_151_409, ux_151_412, ux_151_413, ux_151_416, ux_151_417, pm_i_c, pm_l_c, pm_q_c, pm_r_c, pm_li_0, pm_li_s, pm_ll_0, pm_ll_s, pm_lq_0, pm_lq_s, pm_s1, pm_s2, pm_kl, pm_wI, pm_wR, pm_pu_n, pm_pu_s, pm_wt, List.take_succ_cons, List.take_zero, List.take_nil, List.drop_succ_cons, List.drop_zero, List.reverse_cons, List.reverse_nil, List.nil_append, List.cons_append, List.length_cons, List.length_nil, true_and, and_true, true_implies, tn_l, tn_0, Int.reduceToNat, Int.reduceLE, Int.reduceLT, Int.reduceEq, Int.reduceAdd, Int.reduceSub, Int.reduceMul, Int.reduceNeg, Nat.reduceAdd, Nat.reduceLeDiff, Nat.reduceEqDiff, Nat.reduceSub, Option.some.injEq, Sum.inl.injEq, Sum.inr.injEq, or_true, true_or, reduceCtorEq, ne_eq, not_false_eq_true, not_true_eq_false, false_implies, implies_true, false_and, and_false, false_or, or_false, if_true, if_false, fr_131_0 hf, fr_131_1 hf, fr_131_5 hf, fr_131_7 hf, fr_131_8 hf, fr_131_9 hf, fr_131_12 hf, fr_131_13 hf, fr_131_14 hf, fr_131_15 hf, fr_131_19 hf, fr_131_20 hf, fr_131_21 hf, fr_131_22 hf, fr_131_23 hf, fr_131_24 hf, fg_131 hf, fv_131 hf, fb_132 hf, fb_133 hf, fb_134 hf, fb_135 hf, fb_136 hf, fb_137 hf, fb_138 hf, fb_139 hf, fb_140 hf, fb_141 hf, fb_142 hf, fb_143 hf, fb_144 hf, fb_145 hf, fb_146 hf, fb_147 hf, e2]
    refine ⟨fun _ => ?_, fun z => absurd (Int.le_refl _) z⟩
    refine pm_up0 (fun i => ∀ W, tfr V W → (∀ q, q < n → W 138 q = -2) → (∀ t, t < i → W 139 t = -2) → pm_w d 151 37 [some (.inr (.inr (some 131))), some (.inl (p0 : Int)), some (.inl (s0 : Int)), some (.inl 0), some (.inl 0), some (.inl (i : Int)), none, none, none] [] (W, R, T) (rrQ V R T n (nst L) p0 s0)) (nst L) ?_ ?_ W w1 w2 (fun q hq => by omega)
    · intro W w1 w2 w3
      rw [ux_151_37]
      simp only [ux_151_0, ux_151_1, ux_151_2, ux_151_3, ux_151_5, ux_151_6, ux_151_10, ux_151_11, ux_151_14, ux_151_15, ux_151_16, ux_151_19, ux_151_20, ux_151_23, ux_151_25, ux_151_27, ux_151_28, ux_151_31, ux_151_34, ux_151_35, ux_151_39, ux_151_40, ux_151_43, ux_151_46, ux_151_47, ux_151_50, ux_151_52, ux_151_54, ux_151_55, ux_151_58, ux_151_62, ux_151_65, ux_151_66, ux_151_67, ux_151_68, ux_151_69, ux_151_72, ux_151_73, ux_151_75, ux_151_76, ux_151_77, ux_151_78, ux_151_81, ux_151_82, ux_151_86, ux_151_87, ux_151_90, ux_151_91, ux_151_94, ux_151_95, ux_151_96, ux_151_98, ux_151_101, ux_151_102, ux_151_105, ux_151_107, ux_151_108, ux_151_110, ux_151_112, ux_151_114, ux_151_117, ux_151_119, ux_151_121, ux_151_122, ux_151_124, ux_151_125, ux_151_129, ux_151_130, ux_151_133, ux_151_134, ux_151_135, ux_151_138, ux_151_139, ux_151_142, ux_151_144, ux_151_145, ux_151_147, ux_151_150, ux_151_151, ux_151_154, ux_151_156, ux_151_158, ux_151_159, ux_151_161, ux_151_162, ux_151_163, ux_151_164, ux_151_165, ux_151_168, ux_151_169, ux_151_172, ux_151_174, ux_151_176, ux_151_177, ux_151_179, ux_151_180, ux_151_181, ux_151_184, ux_151_186, ux_151_187, ux_151_190, ux_151_192, ux_151_193, ux_151_196, ux_151_197, ux_151_200, ux_151_202, ux_151_204, ux_151_205, ux_151_206, ux_151_209, ux_151_210, ux_151_212, ux_151_213, ux_151_216, ux_151_219, ux_151_224, ux_151_227, ux_151_228, ux_151_230, ux_151_233, ux_151_234, ux_151_235, ux_151_238, ux_151_239, ux_151_241, ux_151_242, ux_151_244, ux_151_247, ux_151_248, ux_151_252, ux_151_253, ux_151_256, ux_151_259, ux_151_260, ux_151_263, ux_151_265, ux_151_266, ux_151_268, ux_151_271, ux_151_272, ux_151_275, ux_151_277, ux_151_278, ux_151_279, ux_151_280, ux_151_283, ux_151_284, ux_151_287, ux_151_289, ux_151_291, ux_151_292, ux_151_293, ux_151_296, ux_151_297, ux_151_299, ux_151_301, ux_151_302, ux_151_303, ux_151_306, ux_151_309, ux_151_315, ux_151_316, ux_151_320, ux_151_321, ux_151_324, ux_151_327, ux_151_328, ux_151_331, ux_151_333, ux_151_334, ux_151_336, ux_151_339, ux_151_340, ux_151_343, ux_151_345, ux_151_347, ux_151_348, ux_151_350, ux_151_351, ux_151_352, ux_151_355, ux_151_356, ux_151_358, ux_151_360, ux_151_363, ux_151_364, ux_151_365, ux_151_368, ux_151_369, ux_151_372, ux_151_374, ux_151_376, ux_151_377, ux_151_378, ux_151_381, ux_151_382, ux_151_384, ux_151_386, ux_151_387, ux_151_388, ux_151_391, ux_151_394, ux_151_400, ux_151_404, ux_151_407, ux_151_408, ux_151_409, ux_151_412, ux_151_413, ux_151_416, ux_151_417, pm_i_c, pm_l_c, pm_q_c, pm_r_c, pm_li_0, pm_li_s, pm_ll_0, pm_ll_s, pm_lq_0, pm_lq_s, pm_s1, pm_s2, pm_kl, pm_wI, pm_wR, pm_pu_n, pm_pu_s, pm_wt, List.take_succ_cons, List.take_zero, List.take_nil, List.drop_succ_cons, List.drop_zero, List.reverse_cons, List.reverse_nil, List.nil_append, List.cons_append, List.length_cons, List.length_nil, true_and, and_true, true_implies, tn_l, tn_0, Int.reduceToNat, Int.reduceLE, Int.reduceLT, Int.reduceEq, Int.reduceAdd, Int.reduceSub, Int.reduceMul, Int.reduceNeg, Nat.reduceAdd, Nat.reduceLeDiff, Nat.reduceEqDiff, Nat.reduceSub, Option.some.injEq, Sum.inl.injEq, Sum.inr.injEq, or_true, true_or, reduceCtorEq, ne_eq, not_false_eq_true, not_true_eq_false, false_implies, implies_true, false_and, and_false, false_or, or_false, if_true, if_false, fr_131_0 hf, fr_131_1 hf, fr_131_5 hf, fr_131_7 hf, fr_131_8 hf, fr_131_9 hf, fr_131_12 hf, fr_131_13 hf, fr_131_14 hf, fr_131_15 hf, fr_131_19 hf, fr_131_20 hf, fr_131_21 hf, fr_131_22 hf, fr_131_23 hf, fr_131_24 hf, fg_131 hf, fv_131 hf, fb_132 hf, fb_133 hf, fb_134 hf, fb_135 hf, fb_136 hf, fb_137 hf, fb_138 hf, fb_139 hf, fb_140 hf, fb_141 hf, fb_142 hf, fb_143 hf, fb_144 hf, fb_145 hf, fb_146 hf, fb_147 hf, pm_ok_ev (tf_stretches (d := d) (by omega) hf hS w1)]
      exact ⟨fun _ => k3 W _ w1 w2 w3, fun z => absurd (Int.le_refl _) z⟩
    · intro t ht ih W w1 w2 w3
      rw [ux_151_37]
      simp only [ux_151_0, ux_151_1, ux_151_2, ux_151_3, ux_151_5, ux_151_6, ux_151_10, ux_151_11, ux_151_14, ux_151_15, ux_151_16, ux_151_19, ux_151_20, ux_151_23, ux_151_25, ux_151_27, ux_151_28, ux_151_31, ux_151_34, ux_151_35, ux_151_39, ux_151_40, ux_151_43, ux_151_46, ux_151_47, ux_151_50, ux_151_52, ux_151_54, ux_151_55, ux_151_58, ux_151_62, ux_151_65, ux_151_66, ux_151_67, ux_151_68, ux_151_69, ux_151_72, ux_151_73, ux_151_75, ux_151_76, ux_151_77, ux_151_78, ux_151_81, ux_151_82, ux_151_86, ux_151_87, ux_151_90, ux_151_91, ux_151_94, ux_151_95, ux_151_96, ux_151_98, ux_151_101, ux_151_102, ux_151_105, ux_151_107, ux_151_108, ux_151_110, ux_151_112, ux_151_114, ux_151_117, ux_151_119, ux_151_121, ux_151_122, ux_151_124, ux_151_125, ux_151_129, ux_151_130, ux_151_133, ux_151_134, ux_151_135, ux_151_138, ux_151_139, ux_151_142, ux_151_144, ux_151_145, ux_151_147, ux_151_150, ux_151_151, ux_151_154, ux_151_156, ux_151_158, ux_151_159, ux_151_161, ux_151_162, ux_151_163, ux_151_164, ux_151_165, ux_151_168, ux_151_169, ux_151_172, ux_151_174, ux_151_176, ux_151_177, ux_151_179, ux_151_180, ux_151_181, ux_151_184, ux_151_186, ux_151_187, ux_151_190, ux_151_192, ux_151_193, ux_151_196, ux_151_197, ux_151_200, ux_151_202, ux_151_204, ux_151_205, ux_151_206, ux_151_209, ux_151_210, ux_151_212, ux_151_213, ux_151_216, ux_151_219, ux_151_224, ux_151_227, ux_151_228, ux_151_230, ux_151_233, ux_151_234, ux_151_235, ux_151_238, ux_151_239, ux_151_241, ux_151_242, ux_151_244, ux_151_247, ux_151_248, ux_151_252, ux_151_253, ux_151_256, ux_151_259, ux_151_260, ux_151_263, ux_151_265, ux_151_266, ux_151_268, ux_151_271, ux_151_272, ux_151_275, ux_151_277, ux_151_278, ux_151_279, ux_151_280, ux_151_283, ux_151_284, ux_151_287, ux_151_289, ux_151_291, ux_151_292, ux_151_293, ux_151_296, ux_151_297, ux_151_299, ux_151_301, ux_151_302, ux_151_303, ux_151_306, ux_151_309, ux_151_315, ux_151_316, ux_151_320, ux_151_321, ux_151_324, ux_151_327, ux_151_328, ux_151_331, ux_151_333, ux_151_334, ux_151_336, ux_151_339, ux_151_340, ux_151_343, ux_151_345, ux_151_347, ux_151_348, ux_151_350, ux_151_351, ux_151_352, ux_151_355, ux_151_356, ux_151_358, ux_151_360, ux_151_363, ux_151_364, ux_151_365, ux_151_368, ux_151_369, ux_151_372, ux_151_374, ux_151_376, ux_151_377, ux_151_378, ux_151_381, ux_151_382, ux_151_384, ux_151_386, ux_151_387, ux_151_388, ux_151_391, ux_151_394, ux_151_400, ux_151_404, ux_151_407, ux_151_408, ux_151_409, ux_151_412, ux_151_413, ux_151_416, ux_151_417, pm_i_c, pm_l_c, pm_q_c, pm_r_c, pm_li_0, pm_li_s, pm_ll_0, pm_ll_s, pm_lq_0, pm_lq_s, pm_s1, pm_s2, pm_kl, pm_wI, pm_wR, pm_pu_n, pm_pu_s, pm_wt, List.take_succ_cons, List.take_zero, List.take_nil, List.drop_succ_cons, List.drop_zero, List.reverse_cons, List.reverse_nil, List.nil_append, List.cons_append, List.length_cons, List.length_nil, true_and, and_true, true_implies, tn_l, tn_0, Int.reduceToNat, Int.reduceLE, Int.reduceLT, Int.reduceEq, Int.reduceAdd, Int.reduceSub, Int.reduceMul, Int.reduceNeg, Nat.reduceAdd, Nat.reduceLeDiff, Nat.reduceEqDiff, Nat.reduceSub, Option.some.injEq, Sum.inl.injEq, Sum.inr.injEq, or_true, true_or, reduceCtorEq, ne_eq, not_false_eq_true, not_true_eq_false, false_implies, implies_true, false_and, and_false, false_or, or_false, if_true, if_false, fr_131_0 hf, fr_131_1 hf, fr_131_5 hf, fr_131_7 hf, fr_131_8 hf, fr_131_9 hf, fr_131_12 hf, fr_131_13 hf, fr_131_14 hf, fr_131_15 hf, fr_131_19 hf, fr_131_20 hf, fr_131_21 hf, fr_131_22 hf, fr_131_23 hf, fr_131_24 hf, fg_131 hf, fv_131 hf, fb_132 hf, fb_133 hf, fb_134 hf, fb_135 hf, fb_136 hf, fb_137 hf, fb_138 hf, fb_139 hf, fb_140 hf, fb_141 hf, fb_142 hf, fb_143 hf, fb_144 hf, fb_145 hf, fb_146 hf, fb_147 hf, pm_ok_ev (tf_stretches (d := d) (by omega) hf hS w1)]
      refine ⟨fun z => by omega, fun _ => ⟨by omega, by unfold pm_I32; omega, ih _ ⟨fun q a b c e => by rw [pm_up_fr c]; exact w1.1 q a b c e, fun j hj => by rw [pm_up_fr (by decide)]; exact w1.2 j hj⟩ ?_ ?_⟩⟩
      · rw [pm_up_fr (by decide)]; exact w2
      · rw [pm_up_row]
        intro u hu
        dsimp only
        split
        · rfl
        · exact w3 u (by omega)
  · intro i hi ih W w1 w2
    have e2 : W 132 2 = n := by rw [w1.1 132 (by decide) (by decide) (by decide) (by decide)]; exact hA2
    rw [ux_151_8]
    simp only [ux_151_0, ux_151_1, ux_151_2, ux_151_3, ux_151_5, ux_151_6, ux_151_10, ux_151_11, ux_151_14, ux_151_15, ux_151_16, ux_151_19, ux_151_20, ux_151_23, ux_151_25, ux_151_27, ux_151_28, ux_151_31, ux_151_34, ux_151_35, ux_151_39, ux_151_40, ux_151_43, ux_151_46, ux_151_47, ux_151_50, ux_151_52, ux_151_54, ux_151_55, ux_151_58, ux_151_62, ux_151_65, ux_151_66, ux_151_67, ux_151_68, ux_151_69, ux_151_72, ux_151_73, ux_151_75, ux_151_76, ux_151_77, ux_151_78, ux_151_81, ux_151_82, ux_151_86, ux_151_87, ux_151_90, ux_151_91, ux_151_94, ux_151_95, ux_151_96, ux_151_98, ux_151_101, ux_151_102, ux_151_105, ux_151_107, ux_151_108, ux_151_110, ux_151_112, ux_151_114, ux_151_117, ux_151_119, ux_151_121, ux_151_122, ux_151_124, ux_151_125, ux_151_129, ux_151_130, ux_151_133, ux_151_134, ux_151_135, ux_151_138, ux_151_139, ux_151_142, ux_151_144, ux_151_145, ux_151_147, ux_151_150, ux_151_151, ux_151_154, ux_151_156, ux_151_158, ux_151_159, ux_151_161, ux_151_162, ux_151_163, ux_151_164, ux_151_165, ux_151_168, ux_151_169, ux_151_172, ux_151_174, ux_151_176, ux_151_177, ux_151_179, ux_151_180, ux_151_181, ux_151_184, ux_151_186, ux_151_187, ux_151_190, ux_151_192, ux_151_193, ux_151_196, ux_151_197, ux_151_200, ux_151_202, ux_151_204, ux_151_205, ux_151_206, ux_151_209, ux_151_210, ux_151_212, ux_151_213, ux_151_216, ux_151_219, ux_151_224, ux_151_227, ux_151_228, ux_151_230, ux_151_233, ux_151_234, ux_151_235, ux_151_238, ux_151_239, ux_151_241, ux_151_242, ux_151_244, ux_151_247, ux_151_248, ux_151_252, ux_151_253, ux_151_256, ux_151_259, ux_151_260, ux_151_263, ux_151_265, ux_151_266, ux_151_268, ux_151_271, ux_151_272, ux_151_275, ux_151_277, ux_151_278, ux_151_279, ux_151_280, ux_151_283, ux_151_284, ux_151_287, ux_151_289, ux_151_291, ux_151_292, ux_151_293, ux_151_296, ux_151_297, ux_151_299, ux_151_301, ux_151_302, ux_151_303, ux_151_306, ux_151_309, ux_151_315, ux_151_316, ux_151_320, ux_151_321, ux_151_324, ux_151_327, ux_151_328, ux_151_331, ux_151_333, ux_151_334, ux_151_336, ux_151_339, ux_151_340, ux_151_343, ux_151_345, ux_151_347, ux_151_348, ux_151_350, ux_151_351, ux_151_352, ux_151_355, ux_151_356, ux_151_358, ux_151_360, ux_151_363, ux_151_364, ux_151_365, ux_151_368, ux_151_369, ux_151_372, ux_151_374, ux_151_376, ux_151_377, ux_151_378, ux_151_381, ux_151_382, ux_151_384, ux_151_386, ux_151_387, ux_151_388, ux_151_391, ux_151_394, ux_151_400, ux_151_404, ux_151_407, ux_151_408, ux_151_409, ux_151_412, ux_151_413, ux_151_416, ux_151_417, pm_i_c, pm_l_c, pm_q_c, pm_r_c, pm_li_0, pm_li_s, pm_ll_0, pm_ll_s, pm_lq_0, pm_lq_s, pm_s1, pm_s2, pm_kl, pm_wI, pm_wR, pm_pu_n, pm_pu_s, pm_wt, List.take_succ_cons, List.take_zero, List.take_nil, List.drop_succ_cons, List.drop_zero, List.reverse_cons, List.reverse_nil, List.nil_append, List.cons_append, List.length_cons, List.length_nil, true_and, and_true, true_implies, tn_l, tn_0, Int.reduceToNat, Int.reduceLE, Int.reduceLT, Int.reduceEq, Int.reduceAdd, Int.reduceSub, Int.reduceMul, Int.reduceNeg, Nat.reduceAdd, Nat.reduceLeDiff, Nat.reduceEqDiff, Nat.reduceSub, Option.some.injEq, Sum.inl.injEq, Sum.inr.injEq, or_true, true_or, reduceCtorEq, ne_eq, not_false_eq_true, not_true_eq_false, false_implies, implies_true, false_and, and_false, false_or, or_false, if_true, if_false, fr_131_0 hf, fr_131_1 hf, fr_131_5 hf, fr_131_7 hf, fr_131_8 hf, fr_131_9 hf, fr_131_12 hf, fr_131_13 hf, fr_131_14 hf, fr_131_15 hf, fr_131_19 hf, fr_131_20 hf, fr_131_21 hf, fr_131_22 hf, fr_131_23 hf, fr_131_24 hf, fg_131 hf, fv_131 hf, fb_132 hf, fb_133 hf, fb_134 hf, fb_135 hf, fb_136 hf, fb_137 hf, fb_138 hf, fb_139 hf, fb_140 hf, fb_141 hf, fb_142 hf, fb_143 hf, fb_144 hf, fb_145 hf, fb_146 hf, fb_147 hf, e2]
    refine ⟨fun z => by omega, fun _ => ⟨by omega, by unfold pm_I32; omega, ih _ ⟨fun q a b c e => by rw [pm_up_fr b]; exact w1.1 q a b c e, fun j hj => by rw [pm_up_fr (by decide)]; exact w1.2 j hj⟩ ?_⟩⟩
    rw [pm_up_row]
    intro u hu
    dsimp only
    split
    · rfl
    · exact w2 u (by omega)
/-- the way back -/
def shI (V : Nat → Nat → Int) (n S p0 s0 : Nat) (th : Option Nat) (rk : Nat → Nat) (s : Nat) (W : Nat → Nat → Int) : Prop := (∀ q, q ≠ 135 → q ≠ 137 → W q = V q) ∧ (∀ q, q < n → sm (xR W q) S = sm (xR V q) S) ∧ (∀ t, t < S → sm (fun q => xR W q t) n = W 137 t - (if t = s then 1 else 0) + (if t = s0 then 1 else 0)) ∧ (∀ q, q < n → ∀ t, t < S → 0 ≤ xR W q t ∧ xR W q t ≤ cR V q t) ∧ (∀ t, t < S → 0 ≤ W 137 t ∧ W 137 t ≤ rR V t) ∧ (∀ q, q < n → rk q < rk (12 + s) → ∀ t, t < S → xR W q t = xR V q t) ∧ (∀ t0, th = some t0 → rk (12 + t0) < rk (12 + s) → W 137 = V 137) ∧ (∀ q, q < n → ∀ t, t < S → V 141 (64 * q + t) ≠ 0 → xR W q t = xR V q t) ∧ xR W p0 s0 = xR V p0 s0 + 1
def shQ (V : Nat → Nat → Int) (R : Nat → Nat → Option Nat) (T : List (Nat × Nat)) (n S p0 s0 : Nat) (r : Option pm_V) (h2 : pm_H) : Prop := ∃ W, h2 = (W, R, T) ∧ r = none ∧ (∀ q, q ≠ 135 → q ≠ 137 → W q = V q) ∧ rfX W n S ∧ (∀ q, q < n → sm (xR W q) S = sm (xR V q) S) ∧ (∀ q, q < n → ∀ t, t < S → V 141 (64 * q + t) ≠ 0 → xR W q t = xR V q t) ∧ xR W p0 s0 = xR V p0 s0 + 1
theorem sh_fin (hX : rfX V n (nst L)) {th : Option Nat} {rk : Nat → Nat} (h : shI V n (nst L) p0 s0 th rk s0 W) : shQ V R T n (nst L) p0 s0 none (W, R, T) := by
  obtain ⟨a1, a2, a3, a4, a5, a6, a7, a8, a9⟩ := h
  have e1 := a1 131 (by decide) (by decide)
  have e2 := a1 132 (by decide) (by decide)
  have e4 := a1 134 (by decide) (by decide)
  have z1 : lR W = lR V := by funext p; unfold lR; rw [e1, e2]
  have z2 : cR W = cR V := by funext p s; unfold cR; rw [e1, e2, e4]
  have z3 : rR W = rR V := by funext s; unfold rR; rw [e1, e4]
  have hc : ∀ t, t < nst L → W 137 t = sm (fun q => xR W q t) n := by
    intro t ht
    have := a3 t ht
    split at this <;> omega
  refine ⟨W, rfl, rfl, a1, ⟨fun p hp => ?_, hc, ?_⟩, a2, a8, a9⟩
  · rw [a1 136 (by decide) (by decide), a2 p hp]; exact hX.1 p hp
  · rw [z1, z2, z3]
    refine ⟨a4, fun p hp => ?_, fun t ht => ?_⟩
    · rw [a2 p hp]; exact hX.2.2.2.1 p hp
    · rw [← hc t ht]; exact (a5 t ht).2
theorem sh_loop (hf : fx R T) (hS : rfS V n L) (hX : rfX V n (nst L)) (hp0 : p0 < n) (hs0 : s0 < nst L) {th : Option Nat} {rk : Nat → Nat} (htf : ∀ t, th = some t → V 131 16 = (t : Int)) (hr : ∀ a, a < 12 + nst L → cmb n (V 138) (V 139) a ≠ -2 → (rrT s0 a (cmb n (V 138) (V 139) a) ∨ ∃ b, b < 12 + nst L ∧ cmb n (V 138) (V 139) b ≠ -2 ∧ rk b < rk a ∧ rrE V n (nst L) p0 s0 th b a (cmb n (V 138) (V 139) a))) : ∀ (k s : Nat) (W : Nat → Nat → Int) (y3 : Int), rk (12 + s) ≤ k → s < nst L → V 139 s ≠ -2 → rk (12 + s) < rk p0 → shI V n (nst L) p0 s0 th rk s W → pm_w d 152 41 [some (.inr (.inr (some 131))), some (.inl (p0 : Int)), some (.inl (s0 : Int)), some (.inl y3), some (.inl (s : Int))] [] (W, R, T) (shQ V R T n (nst L) p0 s0) := by
  have hn := hS.1.1
  have hl := hS.2.1.2.1
  have hnS : nst L ≤ 47 := by unfold nst; omega
  obtain ⟨cb, rb, lb⟩ := rfS_bd hS
  intro k
  induction k using Nat.strongRecOn with
  | _ k ih =>
    intro s W y3 hk hs hg hrp hI
    obtain ⟨a1, a2, a3, a4, a5, a6, a7, a8, a9⟩ := id hI
    by_cases e : s = s0
    · subst e
      rw [ux_152_41]
      simp only [ux_152_0, ux_152_1, ux_152_4, ux_152_6, ux_152_7, ux_152_8, ux_152_9, ux_152_10, ux_152_11, ux_152_12, ux_152_13, ux_152_14, ux_152_15, ux_152_16, ux_152_17, ux_152_18, ux_152_21, ux_152_22, ux_152_23, ux_152_25, ux_152_26, ux_152_29, ux_152_31, ux_152_32, ux_152_33, ux_152_35, ux_152_36, ux_152_37, ux_152_38, ux_152_39, ux_152_40, ux_152_43, ux_152_44, ux_152_47, ux_152_48, ux_152_51, ux_152_53, ux_152_54, ux_152_56, ux_152_59, ux_152_60, ux_152_63, ux_152_65, ux_152_66, ux_152_67, ux_152_68, ux_152_69, ux_152_70, ux_152_71, ux_152_74, ux_152_76, ux_152_77, ux_152_80, ux_152_82, ux_152_83, ux_152_84, ux_152_85, ux_152_86, ux_152_87, ux_152_90, ux_152_91, ux_152_94, ux_152_96, ux_152_97, ux_152_98, ux_152_99, ux_152_102, ux_152_104, ux_152_105, ux_152_106, ux_152_108, ux_152_109, ux_152_110, ux_152_111, ux_152_112, ux_152_113, ux_152_114, ux_152_115, ux_152_118, ux_152_119, ux_152_120, ux_152_122, ux_152_123, ux_152_126, ux_152_128, ux_152_129, ux_152_130, ux_152_132, ux_152_133, ux_152_134, ux_152_135, ux_152_136, ux_152_137, ux_152_138, ux_152_141, pm_i_c, pm_l_c, pm_q_c, pm_r_c, pm_li_0, pm_li_s, pm_ll_0, pm_ll_s, pm_lq_0, pm_lq_s, pm_s1, pm_s2, pm_kl, pm_wI, pm_wR, pm_pu_n, pm_pu_s, pm_wt, List.take_succ_cons, List.take_zero, List.take_nil, List.drop_succ_cons, List.drop_zero, List.reverse_cons, List.reverse_nil, List.nil_append, List.cons_append, List.length_cons, List.length_nil, true_and, and_true, true_implies, tn_l, tn_0, Int.reduceToNat, Int.reduceLE, Int.reduceLT, Int.reduceEq, Int.reduceAdd, Int.reduceSub, Int.reduceMul, Int.reduceNeg, Nat.reduceAdd, Nat.reduceLeDiff, Nat.reduceEqDiff, Nat.reduceSub, Option.some.injEq, Sum.inl.injEq, Sum.inr.injEq, or_true, true_or, reduceCtorEq, ne_eq, not_false_eq_true, not_true_eq_false, false_implies, implies_true, false_and, and_false, false_or, or_false, if_true, if_false, fr_131_0 hf, fr_131_1 hf, fr_131_5 hf, fr_131_7 hf, fr_131_8 hf, fr_131_9 hf, fr_131_12 hf, fr_131_13 hf, fr_131_14 hf, fr_131_15 hf, fr_131_19 hf, fr_131_20 hf, fr_131_21 hf, fr_131_22 hf, fr_131_23 hf, fr_131_24 hf, fg_131 hf, fv_131 hf, fb_132 hf, fb_133 hf, fb_134 hf, fb_135 hf, fb_136 hf, fb_137 hf, fb_138 hf, fb_139 hf, fb_140 hf, fb_141 hf, fb_142 hf, fb_143 hf, fb_144 hf, fb_145 hf, fb_146 hf, fb_147 hf]
      exact sh_fin hX hI
    · have es : ¬ ((s : Int) = (s0 : Int)) := by omega
      have e9 : W 139 = V 139 := a1 139 (by decide) (by decide)
      have e8 : W 138 = V 138 := a1 138 (by decide) (by decide)
      have e1 : W 131 = V 131 := a1 131 (by decide) (by decide)
      have hm : cmb n (V 138) (V 139) (12 + s) ≠ -2 := by rw [cmb_S]; exact hg
      rcases hr (12 + s) (by omega) hm with ⟨c, -⟩ | ⟨b, b1, b2, b3, ⟨q, t, c1, c2, c3, c4, _⟩ | ⟨q, t, c1, c2, c3, c4, c5, c6, c7⟩ | ⟨t, u, c1, c2, c3, c4, c5, c6, c7, c8⟩⟩
      · omega
      · omega
      · -- by a piece
        have : t = s := by omega
        subst this
        subst c3
        rw [cmb_S] at c5
        rw [cmb_P c1 hn] at b2
        obtain ⟨t2, f1, f2, f3, f4, f5, f6⟩ : ∃ t2, t2 < nst L ∧ V 138 b = (t2 : Int) ∧ V 139 t2 ≠ -2 ∧ rk (12 + t2) < rk b ∧ 0 < xR V b t2 ∧ V 141 (64 * b + t2) = 0 := by
          have hmb : cmb n (V 138) (V 139) b ≠ -2 := by rw [cmb_P c1 hn]; exact b2
          rcases hr b b1 hmb with ⟨c, -⟩ | ⟨b', g1, g2, g3, ⟨q', t', i1, i2, i3, i4, i5, i6, i7, i8⟩ | ⟨q', t', i1, i2, i3, i4, _⟩ | ⟨t', u', i1, i2, i3, i4, _⟩⟩
          · omega
          · subst i4
            subst i3
            rw [cmb_P c1 hn] at i5
            rw [cmb_S] at g2
            exact ⟨t', i2, i5, g2, g3, i6, i7⟩
          · omega
          · omega
        have hne : t2 ≠ t := fun w => by subst w; omega
        have hbp : b ≠ p0 := fun w => by subst w; omega
        have ei : (64 * (b : Int) + (t : Int)).toNat = 64 * b + t := by omega
        have ej : (64 * (b : Int) + (t2 : Int)).toNat = 64 * b + t2 := by omega
        have u1 := a6 b c1 b3 t c2
        have u2 := a6 b c1 b3 t2 f1
        have k1 := a4 b c1 t c2
        have k2 := a4 b c1 t2 f1
        have cbb := cb b t c1 c2
        have cbb2 := cb b t2 c1 f1
        have ex : W 135 (64 * b + t) = xR W b t := (xR_eq (by omega)).symm
        have r8 : ∀ j z, pm_up W 135 j z 138 = V 138 := fun j z => by rw [pm_up_fr (by decide)]; exact e8
        rw [ux_152_41]
        simp only [ux_152_0, ux_152_1, ux_152_4, ux_152_6, ux_152_7, ux_152_8, ux_152_9, ux_152_10, ux_152_11, ux_152_12, ux_152_13, ux_152_14, ux_152_15, ux_152_16, ux_152_17, ux_152_18, ux_152_21, ux_152_22, ux_152_23, ux_152_25, ux_152_26, ux_152_29, ux_152_31, ux_152_32, ux_152_33, ux_152_35, ux_152_36, ux_152_37, ux_152_38, ux_152_39, ux_152_40, ux_152_43, ux_152_44, ux_152_47, ux_152_48, ux_152_51, ux_152_53, ux_152_54, ux_152_56, ux_152_59, ux_152_60, ux_152_63, ux_152_65, ux_152_66, ux_152_67, ux_152_68, ux_152_69, ux_152_70, ux_152_71, ux_152_74, ux_152_76, ux_152_77, ux_152_80, ux_152_82, ux_152_83, ux_152_84, ux_152_85, ux_152_86, ux_152_87, ux_152_90, ux_152_91, ux_152_94, ux_152_96, ux_152_97, ux_152_98, ux_152_99, ux_152_102, ux_152_104, ux_152_105, ux_152_106, ux_152_108, ux_152_109, ux_152_110, ux_152_111, ux_152_112, ux_152_113, ux_152_114, ux_152_115, ux_152_118, ux_152_119, ux_152_120, ux_152_122, ux_152_123, ux_152_126, ux_152_128, ux_152_129, ux_152_130, ux_152_132, ux_152_133, ux_152_134, ux_152_135, ux_152_136, ux_152_137, ux_152_138, ux_152_141, pm_i_c, pm_l_c, pm_q_c, pm_r_c, pm_li_0, pm_li_s, pm_ll_0, pm_ll_s, pm_lq_0, pm_lq_s, pm_s1, pm_s2, pm_kl, pm_wI, pm_wR, pm_pu_n, pm_pu_s, pm_wt, List.take_succ_cons, List.take_zero, List.take_nil, List.drop_succ_cons, List.drop_zero, List.reverse_cons, List.reverse_nil, List.nil_append, List.cons_append, List.length_cons, List.length_nil, true_and, and_true, true_implies, tn_l, tn_0, Int.reduceToNat, Int.reduceLE, Int.reduceLT, Int.reduceEq, Int.reduceAdd, Int.reduceSub, Int.reduceMul, Int.reduceNeg, Nat.reduceAdd, Nat.reduceLeDiff, Nat.reduceEqDiff, Nat.reduceSub, Option.some.injEq, Sum.inl.injEq, Sum.inr.injEq, or_true, true_or, reduceCtorEq, ne_eq, not_false_eq_true, not_true_eq_false, false_implies, implies_true, false_and, and_false, false_or, or_false, if_true, if_false, fr_131_0 hf, fr_131_1 hf, fr_131_5 hf, fr_131_7 hf, fr_131_8 hf, fr_131_9 hf, fr_131_12 hf, fr_131_13 hf, fr_131_14 hf, fr_131_15 hf, fr_131_19 hf, fr_131_20 hf, fr_131_21 hf, fr_131_22 hf, fr_131_23 hf, fr_131_24 hf, fg_131 hf, fv_131 hf, fb_132 hf, fb_133 hf, fb_134 hf, fb_135 hf, fb_136 hf, fb_137 hf, fb_138 hf, fb_139 hf, fb_140 hf, fb_141 hf, fb_142 hf, fb_143 hf, fb_144 hf, fb_145 hf, fb_146 hf, fb_147 hf, es, e9, c5, r8, f2, ei, ej, ex]
        generalize hW1 : pm_up W 135 (64 * b + t) (xR W b t + 1) = W1
        have x1 : xR W1 = upx (xR W) b t 1 := by rw [← hW1]; exact xR_up (by omega)
        have ex2 : W1 135 (64 * b + t2) = xR W1 b t2 := (xR_eq (by omega)).symm
        have v1 : xR W1 b t2 = xR W b t2 := by rw [x1]; exact upx_ne (fun w => hne w.2)
        rw [ex2, show xR W1 b t2 - 1 = xR W1 b t2 + -1 by omega]
        generalize hW2 : pm_up W1 135 (64 * b + t2) (xR W1 b t2 + -1) = W2
        have x2 : xR W2 = upx (upx (xR W) b t 1) b t2 (-1) := by rw [← x1, ← hW2]; exact xR_up (by omega)
        have w7 : W2 137 = W 137 := by rw [← hW2, pm_up_fr (by decide), ← hW1, pm_up_fr (by decide)]
        refine ⟨by omega, fun _ => ⟨by omega, by unfold pm_I32; omega, by unfold pm_I32; omega, by omega, by unfold pm_I64; omega, by omega, by omega, by unfold pm_I32; omega, by unfold pm_I32; omega, by omega, by unfold pm_I64; omega, by omega, ?_⟩, fun z => by omega⟩
        refine ih (rk (12 + t2)) (by omega) t2 W2 _ (Nat.le_refl _) f1 f3 (by omega) ⟨fun q h1 h2 => ?_, fun q hq => ?_, fun u hu => ?_, fun q hq u hu => ?_, ?_, fun q hq hrk u hu => ?_, fun t0 h1 h2 => ?_, fun q hq u hu hz => ?_, ?_⟩
        · rw [← hW2, pm_up_fr h1, ← hW1, pm_up_fr h1]; exact a1 q h1 h2
        · rw [x2, upx_row f1, upx_row c2, a2 q hq]; split <;> omega
        · rw [x2, upx_col c1, upx_col c1, a3 u hu, w7]
          have : ¬ (u = t ∧ u = t2) := fun w => hne (w.2.symm.trans w.1)
          split <;> split <;> split <;> omega
        · rw [x2]
          have g0 := a4 q hq u hu
          unfold upx
          by_cases h1 : q = b ∧ u = t2
          · rw [if_pos h1, if_neg (fun w => hne (h1.2.symm.trans w.2)), h1.1, h1.2]
            omega
          · rw [if_neg h1]
            by_cases h2 : q = b ∧ u = t
            · rw [if_pos h2, h2.1, h2.2]; omega
            · rw [if_neg h2]; exact g0
        · rw [w7]; exact a5
        · have : q ≠ b := fun w => by subst w; omega
          rw [x2, upx_ne (fun w => this w.1), upx_ne (fun w => this w.1)]
          exact a6 q hq (by omega) u hu
        · rw [w7]; exact a7 t0 h1 (by omega)
        · rw [x2, upx_ne (fun w => hz (by rw [w.1, w.2]; exact f6)), upx_ne (fun w => hz (by rw [w.1, w.2]; exact c7))]
          exact a8 q hq u hu hz
        · rw [x2, upx_ne (fun w => hbp w.1.symm), upx_ne (fun w => hbp w.1.symm)]
          exact a9
      · -- through the end
        have : u = s := by omega
        subst this
        subst c3
        rw [cmb_S] at c5 b2
        have htv := htf t c6
        have hne : t ≠ u := fun w => by subst w; omega
        have w7 := a7 t c6 b3
        have k1 := a5 u c2
        have k2 := a5 t c1
        have rbb := rb u c2
        have rbt := rb t c1
        have r7 : ∀ j z, pm_up W 137 j z 131 = V 131 := fun j z => by rw [pm_up_fr (by decide)]; exact e1
        rw [ux_152_41]
        simp only [ux_152_0, ux_152_1, ux_152_4, ux_152_6, ux_152_7, ux_152_8, ux_152_9, ux_152_10, ux_152_11, ux_152_12, ux_152_13, ux_152_14, ux_152_15, ux_152_16, ux_152_17, ux_152_18, ux_152_21, ux_152_22, ux_152_23, ux_152_25, ux_152_26, ux_152_29, ux_152_31, ux_152_32, ux_152_33, ux_152_35, ux_152_36, ux_152_37, ux_152_38, ux_152_39, ux_152_40, ux_152_43, ux_152_44, ux_152_47, ux_152_48, ux_152_51, ux_152_53, ux_152_54, ux_152_56, ux_152_59, ux_152_60, ux_152_63, ux_152_65, ux_152_66, ux_152_67, ux_152_68, ux_152_69, ux_152_70, ux_152_71, ux_152_74, ux_152_76, ux_152_77, ux_152_80, ux_152_82, ux_152_83, ux_152_84, ux_152_85, ux_152_86, ux_152_87, ux_152_90, ux_152_91, ux_152_94, ux_152_96, ux_152_97, ux_152_98, ux_152_99, ux_152_102, ux_152_104, ux_152_105, ux_152_106, ux_152_108, ux_152_109, ux_152_110, ux_152_111, ux_152_112, ux_152_113, ux_152_114, ux_152_115, ux_152_118, ux_152_119, ux_152_120, ux_152_122, ux_152_123, ux_152_126, ux_152_128, ux_152_129, ux_152_130, ux_152_132, ux_152_133, ux_152_134, ux_152_135, ux_152_136, ux_152_137, ux_152_138, ux_152_141, pm_i_c, pm_l_c, pm_q_c, pm_r_c, pm_li_0, pm_li_s, pm_ll_0, pm_ll_s, pm_lq_0, pm_lq_s, pm_s1, pm_s2, pm_kl, pm_wI, pm_wR, pm_pu_n, pm_pu_s, pm_wt, List.take_succ_cons, List.take_zero, List.take_nil, List.drop_succ_cons, List.drop_zero, List.reverse_cons, List.reverse_nil, List.nil_append, List.cons_append, List.length_cons, List.length_nil, true_and, and_true, true_implies, tn_l, tn_0, Int.reduceToNat, Int.reduceLE, Int.reduceLT, Int.reduceEq, Int.reduceAdd, Int.reduceSub, Int.reduceMul, Int.reduceNeg, Nat.reduceAdd, Nat.reduceLeDiff, Nat.reduceEqDiff, Nat.reduceSub, Option.some.injEq, Sum.inl.injEq, Sum.inr.injEq, or_true, true_or, reduceCtorEq, ne_eq, not_false_eq_true, not_true_eq_false, false_implies, implies_true, false_and, and_false, false_or, or_false, if_true, if_false, fr_131_0 hf, fr_131_1 hf, fr_131_5 hf, fr_131_7 hf, fr_131_8 hf, fr_131_9 hf, fr_131_12 hf, fr_131_13 hf, fr_131_14 hf, fr_131_15 hf, fr_131_19 hf, fr_131_20 hf, fr_131_21 hf, fr_131_22 hf, fr_131_23 hf, fr_131_24 hf, fg_131 hf, fv_131 hf, fb_132 hf, fb_133 hf, fb_134 hf, fb_135 hf, fb_136 hf, fb_137 hf, fb_138 hf, fb_139 hf, fb_140 hf, fb_141 hf, fb_142 hf, fb_143 hf, fb_144 hf, fb_145 hf, fb_146 hf, fb_147 hf, es, e9, c5, r7, htv]
        have e7 : pm_up W 137 u (W 137 u - 1) 137 t = W 137 t := pm_up_ne (fun w => hne w.2)
        rw [e7]
        generalize hW2 : pm_up (pm_up W 137 u (W 137 u - 1)) 137 t (W 137 t + 1) = W2
        have x2 : xR W2 = xR W := xR_fr (by rw [← hW2, pm_up_fr (by decide), pm_up_fr (by decide)])
        have f7 : ∀ v, W2 137 v = if v = t then W 137 t + 1 else if v = u then W 137 u - 1 else W 137 v := by
          intro v
          rw [← hW2, pm_up_row, pm_up_row]
        have hlt : W 137 t + 1 ≤ rR V t := by rw [w7]; omega
        have hpos : 0 < W 137 u := by rw [w7]; exact c7
        refine ⟨by omega, by omega, by unfold pm_I64; omega, by omega, by omega, by unfold pm_I64; omega, by omega, ?_⟩
        refine ih (rk (12 + t)) (by omega) t W2 _ (Nat.le_refl _) c1 b2 (by omega) ⟨fun q h1 h2 => ?_, fun q hq => ?_, fun v hv => ?_, fun q hq v hv => ?_, fun v hv => ?_, fun q hq hrk v hv => ?_, fun t0 h1 h2 => ?_, fun q hq v hv hz => ?_, ?_⟩
        · rw [← hW2, pm_up_fr h2, pm_up_fr h2]; exact a1 q h1 h2
        · rw [x2]; exact a2 q hq
        · rw [x2, a3 v hv, f7]
          by_cases h1 : v = t
          · subst h1
            rw [if_pos rfl, if_pos rfl, if_neg hne]; omega
          · rw [if_neg h1, if_neg h1]
            by_cases h2 : v = u
            · subst h2; rw [if_pos rfl, if_pos rfl]; omega
            · rw [if_neg h2, if_neg h2]
        · rw [x2]; exact a4 q hq v hv
        · have g0 := a5 v hv
          rw [f7]
          by_cases h1 : v = t
          · rw [if_pos h1, h1]; omega
          · rw [if_neg h1]
            by_cases h2 : v = u
            · rw [if_pos h2]; rw [h2] at g0 ⊢; omega
            · rw [if_neg h2]; exact g0
        · rw [x2]; exact a6 q hq (by omega) v hv
        · rw [c6] at h1
          cases h1
          omega
        · rw [x2]; exact a8 q hq v hv hz
        · rw [x2]; exact a9
theorem m_shift (hd : 1 ≤ d) (hf : fx R T) (hS : rfS V n L) (hX : rfX V n (nst L)) (hp0 : p0 < n) (hs0 : s0 < nst L) {th : Option Nat} (hY : rrY V n (nst L) p0 s0 V th) (hz : V 141 (64 * p0 + s0) = 0) (hlt : xR V p0 s0 < cR V p0 s0) : pm_ok d 152 [.inr (.inr (some 131)), .inl (p0 : Int), .inl (s0 : Int)] (V, R, T) (shQ V R T n (nst L) p0 s0) := by
  obtain ⟨d, rfl⟩ : ∃ k, d = k + 1 := ⟨d - 1, by omega⟩
  refine pm_ok_iff.mpr ⟨(Nat.le_of_ble_eq_true rfl), ?_⟩
  show pm_w d 152 0 [some (.inr (.inr (some 131))), some (.inl (p0 : Int)), some (.inl (s0 : Int)), none, none] [] (V, R, T) _
  have hn := hS.1.1
  have hl := hS.2.1.2.1
  have hnS : nst L ≤ 47 := by unfold nst; omega
  obtain ⟨cb, rb, lb⟩ := rfS_bd hS
  obtain ⟨y1, ⟨rk, y2⟩, y3⟩ := hY
  have hr : ∀ a, a < 12 + nst L → cmb n (V 138) (V 139) a ≠ -2 → (rrT s0 a (cmb n (V 138) (V 139) a) ∨ ∃ b, b < 12 + nst L ∧ cmb n (V 138) (V 139) b ≠ -2 ∧ rk b < rk a ∧ rrE V n (nst L) p0 s0 th b a (cmb n (V 138) (V 139) a)) := fun a ha hm => (y2 a ha hm).2
  obtain ⟨t2, f1, f2, f3, f4, f5, f6, f7⟩ : ∃ t2, t2 < nst L ∧ V 138 p0 = (t2 : Int) ∧ V 139 t2 ≠ -2 ∧ rk (12 + t2) < rk p0 ∧ 0 < xR V p0 t2 ∧ V 141 (64 * p0 + t2) = 0 ∧ t2 ≠ s0 := by
    have hmb : cmb n (V 138) (V 139) p0 ≠ -2 := by rw [cmb_P hp0 hn]; exact y1
    rcases hr p0 (by omega) hmb with ⟨c, -⟩ | ⟨b', g1, g2, g3, ⟨q', t', i1, i2, i3, i4, i5, i6, i7, i8⟩ | ⟨q', t', i1, i2, i3, i4, _⟩ | ⟨t', u', i1, i2, i3, i4, _⟩⟩
    · omega
    · subst i4
      subst i3
      rw [cmb_P hp0 hn] at i5
      rw [cmb_S] at g2
      exact ⟨t', i2, i5, g2, g3, i6, i7, fun w => i8 ⟨rfl, w⟩⟩
    · omega
    · omega
  have ei : (64 * (p0 : Int) + (s0 : Int)).toNat = 64 * p0 + s0 := by omega
  have ej : (64 * (p0 : Int) + (t2 : Int)).toNat = 64 * p0 + t2 := by omega
  have k1 := hX.2.2.1 p0 hp0 s0 hs0
  have k2 := hX.2.2.1 p0 hp0 t2 f1
  have cbb := cb p0 s0 hp0 hs0
  have cbb2 := cb p0 t2 hp0 f1
  have ex : V 135 (64 * p0 + s0) = xR V p0 s0 := (xR_eq (by omega)).symm
  have r8 : ∀ j z, pm_up V 135 j z 138 = V 138 := fun j z => by rw [pm_up_fr (by decide)]
  simp only [ux_152_0, ux_152_1, ux_152_4, ux_152_6, ux_152_7, ux_152_8, ux_152_9, ux_152_10, ux_152_11, ux_152_12, ux_152_13, ux_152_14, ux_152_15, ux_152_16, ux_152_17, ux_152_18, ux_152_21, ux_152_22, ux_152_23, ux_152_25, ux_152_26, ux_152_29, ux_152_31, ux_152_32, ux_152_33, ux_152_35, ux_152_36, ux_152_37, ux_152_38, ux_152_39, ux_152_40, ux_152_43, ux_152_44, ux_152_47, ux_152_48, ux_152_51, ux_152_53, ux_152_54, ux_152_56, ux_152_59, ux_152_60, ux_152_63, ux_152_65, ux_152_66, ux_152_67, ux_152_68, ux_152_69, ux_152_70, ux_152_71, ux_152_74, ux_152_76, ux_152_77, ux_152_80, ux_152_82, ux_152_83, ux_152_84, ux_152_85, ux_152_86, ux_152_87, ux_152_90, ux_152_91, ux_152_94, ux_152_96, ux_152_97, ux_152_98, ux_152_99, ux_152_102, ux_152_104, ux_152_105, ux_152_106, ux_152_108, ux_152_109, ux_152_110, ux_152_111, ux_152_112, ux_152_113, ux_152_114, ux_152_115, ux_152_118, ux_152_119, ux_152_120, ux_152_122, ux_152_123, ux_152_126, ux_152_128, ux_152_129, ux_152_130, ux_152_132, ux_152_133, ux_152_134, ux_152_135, ux_152_136, ux_152_137, ux_152_138, ux_152_141, pm_i_c, pm_l_c, pm_q_c, pm_r_c, pm_li_0, pm_li_s, pm_ll_0, pm_ll_s, pm_lq_0, pm_lq_s, pm_s1, pm_s2, pm_kl, pm_wI, pm_wR, pm_pu_n, pm_pu_s, pm_wt, List.take_succ_cons, List.take_zero, List.take_nil, List.drop_succ_cons, List.drop_zero, List.reverse_cons, List.reverse_nil, List.nil_append, List.cons_append, List.length_cons, List.length_nil, true_and, and_true, true_implies, tn_l, tn_0, Int.reduceToNat, Int.reduceLE, Int.reduceLT, Int.reduceEq, Int.reduceAdd, Int.reduceSub, Int.reduceMul, Int.reduceNeg, Nat.reduceAdd, Nat.reduceLeDiff, Nat.reduceEqDiff, Nat.reduceSub, Option.some.injEq, Sum.inl.injEq, Sum.inr.injEq, or_true, true_or, reduceCtorEq, ne_eq, not_false_eq_true, not_true_eq_false, false_implies, implies_true, false_and, and_false, false_or, or_false, if_true, if_false, fr_131_0 hf, fr_131_1 hf, fr_131_5 hf, fr_131_7 hf, fr_131_8 hf, fr_131_9 hf, fr_131_12 hf, fr_131_13 hf, fr_131_14 hf, fr_131_15 hf, fr_131_19 hf, fr_131_20 hf, fr_131_21 hf, fr_131_22 hf, fr_131_23 hf, fr_131_24 hf, fg_131 hf, fv_131 hf, fb_132 hf, fb_133 hf, fb_134 hf, fb_135 hf, fb_136 hf, fb_137 hf, fb_138 hf, fb_139 hf, fb_140 hf, fb_141 hf, fb_142 hf, fb_143 hf, fb_144 hf, fb_145 hf, fb_146 hf, fb_147 hf, r8, f2, ei, ej, ex]
  generalize hW1 : pm_up V 135 (64 * p0 + s0) (xR V p0 s0 + 1) = W1
  have x1 : xR W1 = upx (xR V) p0 s0 1 := by rw [← hW1]; exact xR_up (by omega)
  have ex2 : W1 135 (64 * p0 + t2) = xR W1 p0 t2 := (xR_eq (by omega)).symm
  have v1 : xR W1 p0 t2 = xR V p0 t2 := by rw [x1]; exact upx_ne (fun w => f7 w.2)
  rw [ex2, show xR W1 p0 t2 - 1 = xR W1 p0 t2 + -1 by omega]
  generalize hW2 : pm_up W1 135 (64 * p0 + t2) (xR W1 p0 t2 + -1) = W2
  have x2 : xR W2 = upx (upx (xR V) p0 s0 1) p0 t2 (-1) := by rw [← x1, ← hW2]; exact xR_up (by omega)
  have w7 : W2 137 = V 137 := by rw [← hW2, pm_up_fr (by decide), ← hW1, pm_up_fr (by decide)]
  refine ⟨by unfold pm_I32; omega, by unfold pm_I32; omega, by omega, by unfold pm_I64; omega, by omega, by omega, by unfold pm_I32; omega, by unfold pm_I32; omega, by omega, by unfold pm_I64; omega, by omega, ?_⟩
  refine sh_loop hf hS hX hp0 hs0 y3 hr (rk (12 + t2)) t2 W2 _ (Nat.le_refl _) f1 f3 f4 ⟨fun q h1 h2 => ?_, fun q hq => ?_, fun u hu => ?_, fun q hq u hu => ?_, fun u hu => ?_, fun q hq hrk u hu => ?_, fun t0 h1 h2 => w7, fun q hq u hu hzz => ?_, ?_⟩
  · rw [← hW2, pm_up_fr h1, ← hW1, pm_up_fr h1]
  · rw [x2, upx_row f1, upx_row hs0]; split <;> omega
  · rw [x2, upx_col hp0, upx_col hp0, w7, hX.2.1 u hu]
    have : ¬ (u = s0 ∧ u = t2) := fun w => f7 (w.2.symm.trans w.1)
    split <;> split <;> omega
  · rw [x2]
    have g0 := hX.2.2.1 q hq u hu
    unfold upx
    by_cases h1 : q = p0 ∧ u = t2
    · rw [if_pos h1, if_neg (fun w => f7 (h1.2.symm.trans w.2)), h1.1, h1.2]
      omega
    · rw [if_neg h1]
      by_cases h2 : q = p0 ∧ u = s0
      · rw [if_pos h2, h2.1, h2.2]; omega
      · rw [if_neg h2]; exact g0
  · rw [w7]
    have g1 := ((rfX_bd hS hX).2.1 u hu).1
    have g2 := hX.2.2.2.2 u hu
    have g3 := hX.2.1 u hu
    omega
  · have : q ≠ p0 := fun w => by subst w; omega
    rw [x2, upx_ne (fun w => this w.1), upx_ne (fun w => this w.1)]
  · rw [x2, upx_ne (fun w => hzz (by rw [w.1, w.2]; exact f6)), upx_ne (fun w => hzz (by rw [w.1, w.2]; exact hz))]
  · rw [x2, upx_ne (fun w => f7 w.2.symm), upx_eq]
end
