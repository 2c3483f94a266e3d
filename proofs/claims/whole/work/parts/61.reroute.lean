/-! THE REFERENCE: reroute -/
/-- only the search's cells and throughFrom may differ -/
def tfr (V W : Nat → Nat → Int) : Prop := (∀ q, q ≠ 131 → q ≠ 138 → q ≠ 139 → q ≠ 140 → W q = V q) ∧ ∀ j, j ≠ 16 → W 131 j = V 131 j
theorem tfr_rf {V : Nat → Nat → Int} : tfr V V := ⟨fun _ _ _ _ _ => rfl, fun _ _ => rfl⟩
theorem tfr_eq {V W : Nat → Nat → Int} (h : tfr V W) : lR W = lR V ∧ cR W = cR V ∧ rR W = rR V ∧ xR W = xR V := by
  have e2 := h.1 132 (by decide) (by decide) (by decide) (by decide)
  have e4 := h.1 134 (by decide) (by decide) (by decide) (by decide)
  have e5 := h.1 135 (by decide) (by decide) (by decide) (by decide)
  refine ⟨?_, ?_, ?_, ?_⟩
  · funext p; unfold lR; rw [h.2 10 (by decide), e2]
  · funext p s; unfold cR; rw [h.2 3 (by decide), h.2 4 (by decide), h.2 11 (by decide), e2, e4]
  · funext s; unfold rR; rw [h.2 4 (by decide), h.2 11 (by decide), e4]
  · funext p s; unfold xR; rw [e5]
theorem tfr_S {V W : Nat → Nat → Int} {n : Nat} {L : List Int} (h : tfr V W) (hS : rfS V n L) : rfS W n L := by
  unfold rfS
  rw [h.1 132 (by decide) (by decide) (by decide) (by decide), h.1 134 (by decide) (by decide) (by decide) (by decide), h.2 3 (by decide), h.2 4 (by decide), h.2 6 (by decide), h.2 10 (by decide), h.2 11 (by decide)]
  exact hS
theorem tfr_X {V W : Nat → Nat → Int} {n S : Nat} (h : tfr V W) (hX : rfX V n S) : rfX W n S := by
  obtain ⟨a, b, c, e⟩ := tfr_eq h
  unfold rfX
  rw [a, b, c, e, h.1 136 (by decide) (by decide) (by decide) (by decide), h.1 137 (by decide) (by decide) (by decide) (by decide)]
  exact hX
def rrT (s0 a : Nat) (v : Int) : Prop := a = 12 + s0 ∧ v = -1
def rrE (V : Nat → Nat → Int) (n S p0 s0 : Nat) (th : Option Nat) (b a : Nat) (v : Int) : Prop := (∃ q s, q < n ∧ s < S ∧ b = 12 + s ∧ a = q ∧ v = (s : Int) ∧ 0 < xR V q s ∧ V 141 (64 * q + s) = 0 ∧ ¬ (q = p0 ∧ s = s0)) ∨ (∃ q s, q < n ∧ s < S ∧ b = q ∧ a = 12 + s ∧ v = (q : Int) ∧ xR V q s < cR V q s ∧ V 141 (64 * q + s) = 0) ∨ ∃ t s, t < S ∧ s < S ∧ b = 12 + t ∧ a = 12 + s ∧ v = 100 ∧ th = some t ∧ 0 < V 137 s ∧ 0 < rR V t - V 137 t
def rrF (V : Nat → Nat → Int) (n S p0 s0 : Nat) (a b : Nat) : Prop := (∃ q s, q < n ∧ s < S ∧ a = 12 + s ∧ b = q ∧ 0 < xR V q s ∧ V 141 (64 * q + s) = 0 ∧ ¬ (q = p0 ∧ s = s0)) ∨ (∃ q s, q < n ∧ s < S ∧ a = q ∧ b = 12 + s ∧ xR V q s < cR V q s ∧ V 141 (64 * q + s) = 0)
def rrI (V : Nat → Nat → Int) (n S p0 s0 : Nat) (W : Nat → Nat → Int) (m : Nat) (thr : Int) (th : Option Nat) : Prop := tfr V W ∧ bfs (12 + S) (rrT s0) (rrE V n S p0 s0 th) (cmb n (W 138) (W 139)) ∧ que (12 + S) (cmb n (W 138) (W 139)) (W 140) m ∧ ((thr = 0 ∧ th = none) ∨ ∃ t, thr = 1 ∧ th = some t ∧ t < S ∧ W 131 16 = (t : Int) ∧ W 139 t ≠ -2) ∧ W 139 s0 = -1
def rrK (V : Nat → Nat → Int) (n S p0 s0 : Nat) (W : Nat → Nat → Int) (th : Option Nat) (k : Nat) : Prop := prc (12 + S) (rrF V n S p0 s0) (cmb n (W 138) (W 139)) (W 140) k ∧ (th ≠ none → ∀ t, t < S → 0 < V 137 t → W 139 t ≠ -2) ∧ ∀ j, j < k → ∀ s, s < S → W 140 j = 12 + (s : Int) → 0 < rR V s - V 137 s → th ≠ none
def rrY (V : Nat → Nat → Int) (n S p0 s0 : Nat) (W : Nat → Nat → Int) (th : Option Nat) : Prop := W 138 p0 ≠ -2 ∧ bfs (12 + S) (rrT s0) (rrE V n S p0 s0 th) (cmb n (W 138) (W 139)) ∧ ∀ t, th = some t → W 131 16 = (t : Int)
def rrN (V : Nat → Nat → Int) (n S p0 s0 : Nat) (P Q : Nat → Bool) : Prop := Q s0 = true ∧ (∀ t, t < S → Q t = true → ∀ q, q < n → P q = false → V 141 (64 * q + t) = 0 → ¬ (q = p0 ∧ t = s0) → ¬ 0 < xR V q t) ∧ (∀ q, q < n → P q = true → ∀ t, t < S → Q t = false → V 141 (64 * q + t) = 0 → ¬ xR V q t < cR V q t) ∧ P p0 = false ∧ ((∀ t, t < S → Q t = true → ¬ 0 < rR V t - V 137 t) ∨ ∀ t, t < S → Q t = false → ¬ 0 < V 137 t)
def rrQ (V : Nat → Nat → Int) (R : Nat → Nat → Option Nat) (T : List (Nat × Nat)) (n S p0 s0 : Nat) (r : Option pm_V) (h2 : pm_H) : Prop := ∃ W, h2 = (W, R, T) ∧ tfr V W ∧ ((r = some (.inl 1) ∧ ∃ th, rrY V n S p0 s0 W th) ∨ (r = some (.inl 0) ∧ ∃ P Q, rrN V n S p0 s0 P Q))
section
variable {d : Nat} {h : pm_H} {V W : Nat → Nat → Int} {R : Nat → Nat → Option Nat} {T : List (Nat × Nat)} {n p0 s0 : Nat} {L : List Int}
theorem tf_roomOf (hd : 4 ≤ d) (hf : fx R T) (hS : rfS V n L) (hX : rfX V n (nst L)) (hW : tfr V W) (p s : Nat) (hp : p < n) (hs : s < nst L) : pm_ev d 141 [.inr (.inr (some 131)), .inl (p : Int), .inl (s : Int)] (W, R, T) (some (.inr (.inl (cR V p s - xR V p s)))) (W, R, T) := by
  have := se_roomOf (V := W) (W := W) hd hf (tfr_S hW hS) (tfr_X hW hX) sfr_rf p s hp hs
  rw [(tfr_eq hW).2.1, (tfr_eq hW).2.2.2] at this
  exact this
theorem tf_roomAt (hd : 2 ≤ d) (hf : fx R T) (hS : rfS V n L) (hX : rfX V n (nst L)) (hW : tfr V W) (s : Nat) (hs : s < nst L) : pm_ev d 145 [.inr (.inr (some 131)), .inl (s : Int)] (W, R, T) (some (.inr (.inl (rR V s - V 137 s)))) (W, R, T) := by
  have := se_roomAt (V := W) (W := W) hd hf (tfr_S hW hS) (tfr_X hW hX) sfr_rf s hs
  rw [(tfr_eq hW).2.2.1, hW.1 137 (by decide) (by decide) (by decide) (by decide)] at this
  exact this
theorem tf_stretches (hd : 1 ≤ d) (hf : fx R T) (hS : rfS V n L) (hW : tfr V W) : pm_ev d 135 [.inr (.inr (some 131))] (W, R, T) (some (.inl (nst L : Int))) (W, R, T) := se_stretches (V := W) (W := W) hd hf (tfr_S hW hS) sfr_rf
theorem que_m {N m : Nat} {M u : Nat → Int} (h : que N M u m) : m ≤ N := by
  rw [h.1]; exact cnt_le
/-- a piece is reached -/
theorem rr_piece {m p s : Nat} {thr : Int} {th : Option Nat} (hn : n ≤ 12) (h : rrI V n (nst L) p0 s0 W m thr th) (hp : p < n) (hs : s < nst L) (hf : W 138 p = -2) (hg : W 139 s ≠ -2) (h1 : 0 < xR V p s) (h2 : V 141 (64 * p + s) = 0) (h3 : ¬ (p = p0 ∧ s = s0)) : rrI V n (nst L) p0 s0 (pm_up (pm_up W 138 p (s : Int)) 140 m (p : Int)) (m + 1) thr th ∧ ∀ k, k ≤ m → rrK V n (nst L) p0 s0 W th k → rrK V n (nst L) p0 s0 (pm_up (pm_up W 138 p (s : Int)) 140 m (p : Int)) th k := by
  obtain ⟨w1, w2, w3, w4, w5⟩ := h
  generalize hW2 : pm_up (pm_up W 138 p (s : Int)) 140 m (p : Int) = W2
  have r1 : W2 131 = W 131 := by rw [← hW2, pm_up_fr (by decide), pm_up_fr (by decide)]
  have r8 : W2 138 = fun j => if j = p then (s : Int) else W 138 j := by rw [← hW2, pm_up_fr (by decide), pm_up_row]
  have r9 : W2 139 = W 139 := by rw [← hW2, pm_up_fr (by decide), pm_up_fr (by decide)]
  have r10 : W2 140 = fun j => if j = m then (p : Int) else W 140 j := by rw [← hW2, pm_up_row, pm_up_fr (by decide)]
  have hM : cmb n (W 138) (W 139) p = -2 := by rw [cmb_P hp hn]; exact hf
  refine ⟨⟨⟨fun q a b c e => ?_, fun j hj => ?_⟩, ?_, ?_, ?_, ?_⟩, fun k hk ⟨k1, k2, k3⟩ => ⟨?_, ?_, ?_⟩⟩
  · rw [← hW2, pm_up_fr e, pm_up_fr b]; exact w1.1 q a b c e
  · rw [r1]; exact w1.2 j hj
  · rw [r8, r9, cmb_p hp hn]
    exact bfs_push w2 (by omega) hM (by omega) (Or.inr ⟨12 + s, by omega, by rw [cmb_S]; exact hg, Or.inl ⟨p, s, hp, hs, rfl, rfl, rfl, h1, h2, h3⟩⟩)
  · rw [r8, r9, r10, cmb_p hp hn]
    exact que_push w3 (by omega) hM (by omega)
  · rw [r1, r9]; exact w4
  · rw [r9]; exact w5
  · rw [r8, r9, r10, cmb_p hp hn]
    exact prc_push k1 hk (by omega)
  · rw [r9]; exact k2
  · intro j hj s hs hu
    rw [r10] at hu
    dsimp only at hu
    rw [if_neg (by omega)] at hu
    exact k3 j hj s hs hu
/-- a stretch is reached -/
theorem rr_str {m s : Nat} {thr v : Int} {th : Option Nat} (hn : n ≤ 12) (h : rrI V n (nst L) p0 s0 W m thr th) (hs : s < nst L) (hg : W 139 s = -2) (hv : v ≠ -2) (hb : ∃ b, b < 12 + nst L ∧ cmb n (W 138) (W 139) b ≠ -2 ∧ rrE V n (nst L) p0 s0 th b (12 + s) v) : rrI V n (nst L) p0 s0 (pm_up (pm_up W 139 s v) 140 m (12 + (s : Int))) (m + 1) thr th ∧ (∀ k, k ≤ m → prc (12 + nst L) (rrF V n (nst L) p0 s0) (cmb n (W 138) (W 139)) (W 140) k → prc (12 + nst L) (rrF V n (nst L) p0 s0) (cmb n (pm_up (pm_up W 139 s v) 140 m (12 + (s : Int)) 138) (pm_up (pm_up W 139 s v) 140 m (12 + (s : Int)) 139)) (pm_up (pm_up W 139 s v) 140 m (12 + (s : Int)) 140) k) ∧ (∀ k, k ≤ m → rrK V n (nst L) p0 s0 W th k → rrK V n (nst L) p0 s0 (pm_up (pm_up W 139 s v) 140 m (12 + (s : Int))) th k) := by
  obtain ⟨w1, w2, w3, w4, w5⟩ := h
  generalize hW2 : pm_up (pm_up W 139 s v) 140 m (12 + (s : Int)) = W2
  have r1 : W2 131 = W 131 := by rw [← hW2, pm_up_fr (by decide), pm_up_fr (by decide)]
  have r8 : W2 138 = W 138 := by rw [← hW2, pm_up_fr (by decide), pm_up_fr (by decide)]
  have r9 : W2 139 = fun j => if j = s then v else W 139 j := by rw [← hW2, pm_up_fr (by decide), pm_up_row]
  have r10 : W2 140 = fun j => if j = m then (((12 + s : Nat)) : Int) else W 140 j := by rw [← hW2, pm_up_row, pm_up_fr (by decide)]; rfl
  have hM : cmb n (W 138) (W 139) (12 + s) = -2 := by rw [cmb_S]; exact hg
  have hmono : ∀ t, W 139 t ≠ -2 → W2 139 t ≠ -2 := by
    intro t ht
    rw [r9]
    dsimp only
    split
    · exact hv
    · exact ht
  have hpr : ∀ k, k ≤ m → prc (12 + nst L) (rrF V n (nst L) p0 s0) (cmb n (W 138) (W 139)) (W 140) k → prc (12 + nst L) (rrF V n (nst L) p0 s0) (cmb n (W2 138) (W2 139)) (W2 140) k := by
    intro k hk k1
    rw [r8, r9, r10, cmb_s]
    exact prc_push k1 hk hv
  refine ⟨⟨⟨fun q a b c e => ?_, fun j hj => ?_⟩, ?_, ?_, ?_, ?_⟩, hpr, fun k hk ⟨k1, k2, k3⟩ => ⟨hpr k hk k1, fun a t b c => hmono t (k2 a t b c), ?_⟩⟩
  · rw [← hW2, pm_up_fr e, pm_up_fr c]; exact w1.1 q a b c e
  · rw [r1]; exact w1.2 j hj
  · rw [r8, r9, cmb_s]
    exact bfs_push w2 (by omega) hM hv (Or.inr hb)
  · rw [r8, r9, r10, cmb_s]
    exact que_push w3 (by omega) hM hv
  · rw [r1]
    rcases w4 with w4 | ⟨t, a, b, c, e, f⟩
    · exact Or.inl w4
    · exact Or.inr ⟨t, a, b, c, e, hmono t f⟩
  · rw [r9]
    dsimp only
    rw [if_neg (fun w => by rw [w, hg] at w5; cases w5)]
    exact w5
  · intro j hj t ht hu
    rw [r10] at hu
    dsimp only at hu
    rw [if_neg (by omega)] at hu
    exact k3 j hj t ht hu
theorem rr_thr {m t : Nat} {thr : Int} (h : rrI V n (nst L) p0 s0 W m thr none) (ht : t < nst L) (hg : W 139 t ≠ -2) : rrI V n (nst L) p0 s0 (pm_up W 131 16 (t : Int)) m 1 (some t) := by
  obtain ⟨w1, w2, w3, w4, w5⟩ := h
  have r8 : pm_up W 131 16 (t : Int) 138 = W 138 := pm_up_fr (by decide)
  have r9 : pm_up W 131 16 (t : Int) 139 = W 139 := pm_up_fr (by decide)
  have r10 : pm_up W 131 16 (t : Int) 140 = W 140 := pm_up_fr (by decide)
  unfold rrI
  rw [r8, r9, r10]
  refine ⟨⟨fun q a b c e => ?_, fun j hj => ?_⟩, bfs_imp w2 (fun b a v he => ?_), w3, Or.inr ⟨t, rfl, rfl, ht, pm_up_eq, hg⟩, w5⟩
  · rw [pm_up_fr a]; exact w1.1 q a b c e
  · rw [pm_up_ne (fun w => hj w.2)]; exact w1.2 j hj
  · rcases he with he | he | ⟨_, _, _, _, _, _, _, hh, _⟩
    · exact Or.inl he
    · exact Or.inr (Or.inl he)
    · cases hh
/-- the pieces of a stretch -/
theorem rr_A (hf : fx R T) (hS : rfS V n L) (s k m0 : Nat) (thr : Int) (th : Option Nat) (hs : s < nst L) (hp0 : p0 < n) (hs0 : s0 < nst L) {Q : Option pm_V → pm_H → Prop}
    (go : ∀ W m y, rrI V n (nst L) p0 s0 W m thr th → rrK V n (nst L) p0 s0 W th k → k < m → W 139 s ≠ -2 → W 140 k = 12 + (s : Int) → (∀ q, q < n → 0 < xR V q s → V 141 (64 * q + s) = 0 → ¬ (q = p0 ∧ s = s0) → W 138 q ≠ -2) → pm_w d 151 222 [some (.inr (.inr (some 131))), some (.inl (p0 : Int)), some (.inl (s0 : Int)), some (.inl (m : Int)), some (.inl thr), some (.inl (k : Int)), some (.inl (12 + (s : Int))), some (.inl (s : Int)), y] [] (W, R, T) Q) :
    rrI V n (nst L) p0 s0 W m0 thr th → rrK V n (nst L) p0 s0 W th k → k < m0 → W 139 s ≠ -2 → W 140 k = 12 + (s : Int) → pm_w d 151 127 [some (.inr (.inr (some 131))), some (.inl (p0 : Int)), some (.inl (s0 : Int)), some (.inl (m0 : Int)), some (.inl thr), some (.inl (k : Int)), some (.inl (12 + (s : Int))), some (.inl (s : Int)), some (.inl 0)] [] (W, R, T) Q := by
  have hn := hS.1.1
  have hA2 := hS.1.2.1
  have hl := hS.2.1.2.1
  have hnS : nst L ≤ 47 := by unfold nst; omega
  intro w1 w2 w3 w4 w5
  refine pm_up0 (fun p => ∀ W (m : Nat), rrI V n (nst L) p0 s0 W m thr th → rrK V n (nst L) p0 s0 W th k → k < m → W 139 s ≠ -2 → W 140 k = 12 + (s : Int) → (∀ q, q < p → 0 < xR V q s → V 141 (64 * q + s) = 0 → ¬ (q = p0 ∧ s = s0) → W 138 q ≠ -2) → pm_w d 151 127 [some (.inr (.inr (some 131))), some (.inl (p0 : Int)), some (.inl (s0 : Int)), some (.inl (m : Int)), some (.inl thr), some (.inl (k : Int)), some (.inl (12 + (s : Int))), some (.inl (s : Int)), some (.inl (p : Int))] [] (W, R, T) Q) n ?_ ?_ W m0 w1 w2 w3 w4 w5 (fun q hq => by omega)
  · intro W m w1 w2 w3 w4 w5 w6
    have e2 : W 132 2 = n := by rw [w1.1.1 132 (by decide) (by decide) (by decide) (by decide)]; exact hA2
    rw [ux_151_127]
    simp only [ux_151_0, ux_151_1, ux_151_2, ux_151_3, ux_151_5, ux_151_6, ux_151_10, ux_151_11, ux_151_14, ux_151_15, ux_151_16, ux_151_19, ux_151_20, ux_151_23, ux_151_25, ux_151_27, ux_151_28, ux_151_31, ux_151_34, ux_151_35, ux_151_39, ux_151_40, ux_151_43, ux_151_46, ux_151_47, ux_151_50, ux_151_52, ux_151_54, ux_151_55, ux_151_58, ux_151_61, ux_151_62, ux_151_65, ux_151_66, ux_151_67, ux_151_68, ux_151_69, ux_151_72, ux_151_73, ux_151_75, ux_151_76, ux_151_77, ux_151_78, ux_151_81, ux_151_82, ux_151_86, ux_151_87, ux_151_90, ux_151_91, ux_151_94, ux_151_95, ux_151_96, ux_151_98, ux_151_101, ux_151_102, ux_151_105, ux_151_107, ux_151_108, ux_151_110, ux_151_112, ux_151_114, ux_151_117, ux_151_119, ux_151_121, ux_151_122, ux_151_124, ux_151_125, ux_151_129, ux_151_130, ux_151_133, ux_151_134, ux_151_135, ux_151_138, ux_151_139, ux_151_142, ux_151_144, ux_151_145, ux_151_147, ux_151_150, ux_151_151, ux_151_154, ux_151_156, ux_151_158, ux_151_159, ux_151_161, ux_151_162, ux_151_163, ux_151_164, ux_151_165, ux_151_168, ux_151_169, ux_151_172, ux_151_174, ux_151_176, ux_151_177, ux_151_179, ux_151_180, ux_151_181, ux_151_184, ux_151_186, ux_151_187, ux_151_190, ux_151_192, ux_151_193, ux_151_196, ux_151_197, ux_151_200, ux_151_202, ux_151_204, ux_151_205, ux_151_206, ux_151_209, ux_151_210, ux_151_212, ux_151_213, ux_151_216, ux_151_219, ux_151_224, ux_151_227, ux_151_228, ux_151_230, ux_151_233, ux_151_234, ux_151_235, ux_151_238, ux_151_239, ux_151_241, ux_151_242, ux_151_244, ux_151_247, ux_151_248, ux_151_252, ux_151_253, ux_151_256, ux_151_259, ux_151_260, ux_151_263, ux_151_265, ux_151_266, ux_151_268, ux_151_271, ux_151_272, ux_151_275, ux_151_277, ux_151_278, ux_151_279, ux_151_280, ux_151_283, ux_151_284, ux_151_287, ux_151_289, ux_151_291, ux_151_292, ux_151_293, ux_151_296, ux_151_297, ux_151_299, ux_151_301, ux_151_302, ux_151_303, ux_151_306, ux_151_309, ux_151_312, ux_151_315, ux_151_316, ux_151_320, ux_151_321, ux_151_324, ux_151_327, ux_151_328, ux_151_331, ux_151_333, ux_151_334, ux_151_336, ux_151_339, ux_151_340, ux_151_343, ux_151_345, ux_151_347, ux_151_348, ux_151_350, ux_151_351, ux_151_352, ux_151_355, ux_151_356, ux_151_358, ux_151_360, ux_151_363, ux_151_364, ux_151_365, ux_151_368, ux_151_369, ux_151_372, ux_151_374, ux_151_376, ux_151_377, ux_151_378, ux_151_381, ux_151_382, ux_151_384, ux_151_386, ux_151_387, ux_151_388, ux_151_391, ux_151_394, ux_151_400, ux_151_403, ux_151_404, ux_151_407, ux_151_408, ux_151_409, ux_151_412, ux_151_413, ux_151_416, ux_151_417, pm_i_c, pm_l_c, pm_q_c, pm_r_c, pm_li_0, pm_li_s, pm_ll_0, pm_ll_s, pm_lq_0, pm_lq_s, pm_s1, pm_s2, pm_kl, pm_wI, pm_wR, pm_pu_n, pm_pu_s, pm_wt, List.take_succ_cons, List.take_zero, List.take_nil, List.drop_succ_cons, List.drop_zero, List.reverse_cons, List.reverse_nil, List.nil_append, List.cons_append, List.length_cons, List.length_nil, true_and, and_true, true_implies, tn_l, tn_0, Int.reduceToNat, Int.reduceLE, Int.reduceLT, Int.reduceEq, Int.reduceAdd, Int.reduceSub, Int.reduceMul, Int.reduceNeg, Nat.reduceAdd, Nat.reduceLeDiff, Nat.reduceEqDiff, Nat.reduceSub, Option.some.injEq, Sum.inl.injEq, Sum.inr.injEq, or_true, true_or, reduceCtorEq, ne_eq, not_false_eq_true, not_true_eq_false, false_implies, implies_true, false_and, and_false, false_or, or_false, if_true, if_false, fr_131_0 hf, fr_131_1 hf, fr_131_5 hf, fr_131_7 hf, fr_131_8 hf, fr_131_9 hf, fr_131_12 hf, fr_131_13 hf, fr_131_14 hf, fr_131_15 hf, fr_131_19 hf, fr_131_20 hf, fr_131_21 hf, fr_131_22 hf, fr_131_23 hf, fr_131_24 hf, fg_131 hf, fv_131 hf, fb_132 hf, fb_133 hf, fb_134 hf, fb_135 hf, fb_136 hf, fb_137 hf, fb_138 hf, fb_139 hf, fb_140 hf, fb_141 hf, fb_142 hf, fb_143 hf, fb_144 hf, fb_145 hf, fb_146 hf, fb_147 hf, e2]
    exact ⟨fun _ => go W m _ w1 w2 w3 w4 w5 w6, fun z => absurd (Int.le_refl _) z⟩
  · intro p hp ih W m w1 w2 w3 w4 w5 w6
    have hmb := que_m w1.2.2.1
    have e2 : W 132 2 = n := by rw [w1.1.1 132 (by decide) (by decide) (by decide) (by decide)]; exact hA2
    have e5 : W 135 = V 135 := w1.1.1 135 (by decide) (by decide) (by decide) (by decide)
    have e41 : W 141 = V 141 := w1.1.1 141 (by decide) (by decide) (by decide) (by decide)
    have ei : (64 * (p : Int) + (s : Int)).toNat = 64 * p + s := by omega
    have ex : V 135 (64 * p + s) = xR V p s := (xR_eq (by omega)).symm
    have i1 : pm_I32 (64 * (p : Int)) := by unfold pm_I32; omega
    have i2 : pm_I32 (64 * (p : Int) + (s : Int)) := by unfold pm_I32; omega
    have i3 : (0 : Int) ≤ 64 * (p : Int) + (s : Int) ∧ 64 * (p : Int) + (s : Int) < 768 := by omega
    have i4 : (0 : Int) ≤ (p : Int) ∧ (p : Int) < 12 := by omega
    have i6 : pm_I32 ((p : Int) + 1) := by unfold pm_I32; omega
    have i7 : pm_I32 ((m : Int) + 1) := by unfold pm_I32; omega
    have i8 : (0 : Int) ≤ (m : Int) ∧ (m : Int) < 80 := by omega
    have i9 : ¬ ((n : Int) ≤ (p : Int)) := by omega
    rw [ux_151_127]
    simp only [ux_151_0, ux_151_1, ux_151_2, ux_151_3, ux_151_5, ux_151_6, ux_151_10, ux_151_11, ux_151_14, ux_151_15, ux_151_16, ux_151_19, ux_151_20, ux_151_23, ux_151_25, ux_151_27, ux_151_28, ux_151_31, ux_151_34, ux_151_35, ux_151_39, ux_151_40, ux_151_43, ux_151_46, ux_151_47, ux_151_50, ux_151_52, ux_151_54, ux_151_55, ux_151_58, ux_151_61, ux_151_62, ux_151_65, ux_151_66, ux_151_67, ux_151_68, ux_151_69, ux_151_72, ux_151_73, ux_151_75, ux_151_76, ux_151_77, ux_151_78, ux_151_81, ux_151_82, ux_151_86, ux_151_87, ux_151_90, ux_151_91, ux_151_94, ux_151_95, ux_151_96, ux_151_98, ux_151_101, ux_151_102, ux_151_105, ux_151_107, ux_151_108, ux_151_110, ux_151_112, ux_151_114, ux_151_117, ux_151_119, ux_151_121, ux_151_122, ux_151_124, ux_151_125, ux_151_129, ux_151_130, ux_151_133, ux_151_134, ux_151_135, ux_151_138, ux_151_139, ux_151_142, ux_151_144, ux_151_145, ux_151_147, ux_151_150, ux_151_151, ux_151_154, ux_151_156, ux_151_158, ux_151_159, ux_151_161, ux_151_162, ux_151_163, ux_151_164, ux_151_165, ux_151_168, ux_151_169, ux_151_172, ux_151_174, ux_151_176, ux_151_177, ux_151_179, ux_151_180, ux_151_181, ux_151_184, ux_151_186, ux_151_187, ux_151_190, ux_151_192, ux_151_193, ux_151_196, ux_151_197, ux_151_200, ux_151_202, ux_151_204, ux_151_205, ux_151_206, ux_151_209, ux_151_210, ux_151_212, ux_151_213, ux_151_216, ux_151_219, ux_151_224, ux_151_227, ux_151_228, ux_151_230, ux_151_233, ux_151_234, ux_151_235, ux_151_238, ux_151_239, ux_151_241, ux_151_242, ux_151_244, ux_151_247, ux_151_248, ux_151_252, ux_151_253, ux_151_256, ux_151_259, ux_151_260, ux_151_263, ux_151_265, ux_151_266, ux_151_268, ux_151_271, ux_151_272, ux_151_275, ux_151_277, ux_151_278, ux_151_279, ux_151_280, ux_151_283, ux_151_284, ux_151_287, ux_151_289, ux_151_291, ux_151_292, ux_151_293, ux_151_296, ux_151_297, ux_151_299, ux_151_301, ux_151_302, ux_151_303, ux_151_306, ux_151_309, ux_151_312, ux_151_315, ux_151_316, ux_151_320, ux_151_321, ux_151_324, ux_151_327, ux_151_328, ux_151_331, ux_151_333, ux_151_334, ux_151_336, ux_151_339, ux_151_340, ux_151_343, ux_151_345, ux_151_347, ux_151_348, ux_151_350, ux_151_351, ux_151_352, ux_151_355, ux_151_356, ux_151_358, ux_151_360, ux_151_363, ux_151_364, ux_151_365, ux_151_368, ux_151_369, ux_151_372, ux_151_374, ux_151_376, ux_151_377, ux_151_378, ux_151_381, ux_151_382, ux_151_384, ux_151_386, ux_151_387, ux_151_388, ux_151_391, ux_151_394, ux_151_400, ux_151_403, ux_151_404, ux_151_407, ux_151_408, ux_151_409, ux_151_412, ux_151_413, ux_151_416, ux_151_417, pm_i_c, pm_l_c, pm_q_c, pm_r_c, pm_li_0, pm_li_s, pm_ll_0, pm_ll_s, pm_lq_0, pm_lq_s, pm_s1, pm_s2, pm_kl, pm_wI, pm_wR, pm_pu_n, pm_pu_s, pm_wt, List.take_succ_cons, List.take_zero, List.take_nil, List.drop_succ_cons, List.drop_zero, List.reverse_cons, List.reverse_nil, List.nil_append, List.cons_append, List.length_cons, List.length_nil, true_and, and_true, true_implies, tn_l, tn_0, Int.reduceToNat, Int.reduceLE, Int.reduceLT, Int.reduceEq, Int.reduceAdd, Int.reduceSub, Int.reduceMul, Int.reduceNeg, Nat.reduceAdd, Nat.reduceLeDiff, Nat.reduceEqDiff, Nat.reduceSub, Option.some.injEq, Sum.inl.injEq, Sum.inr.injEq, or_true, true_or, reduceCtorEq, ne_eq, not_false_eq_true, not_true_eq_false, false_implies, implies_true, false_and, and_false, false_or, or_false, if_true, if_false, fr_131_0 hf, fr_131_1 hf, fr_131_5 hf, fr_131_7 hf, fr_131_8 hf, fr_131_9 hf, fr_131_12 hf, fr_131_13 hf, fr_131_14 hf, fr_131_15 hf, fr_131_19 hf, fr_131_20 hf, fr_131_21 hf, fr_131_22 hf, fr_131_23 hf, fr_131_24 hf, fg_131 hf, fv_131 hf, fb_132 hf, fb_133 hf, fb_134 hf, fb_135 hf, fb_136 hf, fb_137 hf, fb_138 hf, fb_139 hf, fb_140 hf, fb_141 hf, fb_142 hf, fb_143 hf, fb_144 hf, fb_145 hf, fb_146 hf, fb_147 hf, e2, e5, e41, ei, ex, lc_le, eq_true i1, eq_true i2, i3, i4, eq_true i6, eq_true i7, i8, i9]
    have skip : (0 < xR V p s → V 141 (64 * p + s) = 0 → ¬ (p = p0 ∧ s = s0) → W 138 p ≠ -2) → pm_w d 151 127 [some (.inr (.inr (some 131))), some (.inl (p0 : Int)), some (.inl (s0 : Int)), some (.inl (m : Int)), some (.inl thr), some (.inl (k : Int)), some (.inl (12 + (s : Int))), some (.inl (s : Int)), some (.inl ((p : Int) + 1))] [] (W, R, T) Q := by
      intro hh
      refine ih W m w1 w2 w3 w4 w5 (fun q hq a b c => ?_)
      by_cases e : q = p
      · subst e; exact hh a b c
      · exact w6 q (by omega) a b c
    have put : W 138 p = -2 → 0 < xR V p s → V 141 (64 * p + s) = 0 → ¬ (p = p0 ∧ s = s0) → pm_w d 151 127 [some (.inr (.inr (some 131))), some (.inl (p0 : Int)), some (.inl (s0 : Int)), some (.inl ((m : Int) + 1)), some (.inl thr), some (.inl (k : Int)), some (.inl (12 + (s : Int))), some (.inl (s : Int)), some (.inl ((p : Int) + 1))] [] (pm_up (pm_up W 138 p (s : Int)) 140 m (p : Int), R, T) Q := by
      intro a0 a1 a2 a3
      obtain ⟨b1, b2⟩ := rr_piece hn w1 hp hs a0 w4 a1 a2 a3
      refine ih _ (m + 1) b1 (b2 k (by omega) w2) (by omega) ?_ ?_ ?_
      · rw [pm_up_fr (by decide), pm_up_fr (by decide)]; exact w4
      · rw [pm_up_ne (by omega), pm_up_fr (by decide)]; exact w5
      · intro q hq c1 c2 c3
        rw [pm_up_fr (by decide), pm_up_row]
        dsimp only
        split
        · omega
        · exact w6 q (by omega) c1 c2 c3
    refine ⟨fun c1 => skip (fun _ _ _ => c1), fun c1 => ⟨fun c2 => skip (fun a _ _ => by omega), fun c2 => ⟨fun c3 => skip (fun _ a _ => absurd a c3), fun c3 => ?_⟩⟩⟩
    have g1 := Classical.not_not.mp c1
    have g3 := Classical.not_not.mp c3
    refine ⟨fun c4 => put g1 (by omega) g3 (by omega), fun c4 => ⟨fun c5 => skip (fun _ _ a => absurd (by omega) a), fun c5 => put g1 (by omega) g3 (by omega)⟩⟩
/-- through the end: all stretches with something -/
theorem rr_T (hd : 4 ≤ d) (hf : fx R T) (hS : rfS V n L) (hX : rfX V n (nst L)) (s k m0 t0 : Nat) (ht0 : t0 < nst L) (hr0 : 0 < rR V t0 - V 137 t0) {Q : Option pm_V → pm_H → Prop}
    (go : ∀ W m y, rrI V n (nst L) p0 s0 W m 1 (some t0) → prc (12 + nst L) (rrF V n (nst L) p0 s0) (cmb n (W 138) (W 139)) (W 140) (k + 1) → (∀ t, t < nst L → 0 < V 137 t → W 139 t ≠ -2) → k < m → pm_w d 151 312 [some (.inr (.inr (some 131))), some (.inl (p0 : Int)), some (.inl (s0 : Int)), some (.inl (m : Int)), some (.inl 1), some (.inl (k : Int)), some (.inl (12 + (s : Int))), some (.inl (s : Int)), y] [] (W, R, T) Q) :
    rrI V n (nst L) p0 s0 W m0 1 (some t0) → prc (12 + nst L) (rrF V n (nst L) p0 s0) (cmb n (W 138) (W 139)) (W 140) (k + 1) → k < m0 → pm_w d 151 250 [some (.inr (.inr (some 131))), some (.inl (p0 : Int)), some (.inl (s0 : Int)), some (.inl (m0 : Int)), some (.inl 1), some (.inl (k : Int)), some (.inl (12 + (s : Int))), some (.inl (s : Int)), some (.inl 0)] [] (W, R, T) Q := by
  have hn := hS.1.1
  have hl := hS.2.1.2.1
  have hnS : nst L ≤ 47 := by unfold nst; omega
  intro w1 w2 w3
  refine pm_up0 (fun t => ∀ W (m : Nat), rrI V n (nst L) p0 s0 W m 1 (some t0) → prc (12 + nst L) (rrF V n (nst L) p0 s0) (cmb n (W 138) (W 139)) (W 140) (k + 1) → k < m → (∀ u, u < t → 0 < V 137 u → W 139 u ≠ -2) → pm_w d 151 250 [some (.inr (.inr (some 131))), some (.inl (p0 : Int)), some (.inl (s0 : Int)), some (.inl (m : Int)), some (.inl 1), some (.inl (k : Int)), some (.inl (12 + (s : Int))), some (.inl (s : Int)), some (.inl (t : Int))] [] (W, R, T) Q) (nst L) ?_ ?_ W m0 w1 w2 w3 (fun q hq => by omega)
  · intro W m w1 w2 w3 w4
    rw [ux_151_250]
    simp only [ux_151_0, ux_151_1, ux_151_2, ux_151_3, ux_151_5, ux_151_6, ux_151_10, ux_151_11, ux_151_14, ux_151_15, ux_151_16, ux_151_19, ux_151_20, ux_151_23, ux_151_25, ux_151_27, ux_151_28, ux_151_31, ux_151_34, ux_151_35, ux_151_39, ux_151_40, ux_151_43, ux_151_46, ux_151_47, ux_151_50, ux_151_52, ux_151_54, ux_151_55, ux_151_58, ux_151_61, ux_151_62, ux_151_65, ux_151_66, ux_151_67, ux_151_68, ux_151_69, ux_151_72, ux_151_73, ux_151_75, ux_151_76, ux_151_77, ux_151_78, ux_151_81, ux_151_82, ux_151_86, ux_151_87, ux_151_90, ux_151_91, ux_151_94, ux_151_95, ux_151_96, ux_151_98, ux_151_101, ux_151_102, ux_151_105, ux_151_107, ux_151_108, ux_151_110, ux_151_112, ux_151_114, ux_151_117, ux_151_119, ux_151_121, ux_151_122, ux_151_124, ux_151_125, ux_151_129, ux_151_130, ux_151_133, ux_151_134, ux_151_135, ux_151_138, ux_151_139, ux_151_142, ux_151_144, ux_151_145, ux_151_147, ux_151_150, ux_151_151, ux_151_154, ux_151_156, ux_151_158, ux_151_159, ux_151_161, ux_151_162, ux_151_163, ux_151_164, ux_151_165, ux_151_168, ux_151_169, ux_151_172, ux_151_174, ux_151_176, ux_151_177, ux_151_179, ux_151_180, ux_151_181, ux_151_184, ux_151_186, ux_151_187, ux_151_190, ux_151_192, ux_151_193, ux_151_196, ux_151_197, ux_151_200, ux_151_202, ux_151_204, ux_151_205, ux_151_206, ux_151_209, ux_151_210, ux_151_212, ux_151_213, ux_151_216, ux_151_219, ux_151_224, ux_151_227, ux_151_228, ux_151_230, ux_151_233, ux_151_234, ux_151_235, ux_151_238, ux_151_239, ux_151_241, ux_151_242, ux_151_244, ux_151_247, ux_151_248, ux_151_252, ux_151_253, ux_151_256, ux_151_259, ux_151_260, ux_151_263, ux_151_265, ux_151_266, ux_151_268, ux_151_271, ux_151_272, ux_151_275, ux_151_277, ux_151_278, ux_151_279, ux_151_280, ux_151_283, ux_151_284, ux_151_287, ux_151_289, ux_151_291, ux_151_292, ux_151_293, ux_151_296, ux_151_297, ux_151_299, ux_151_301, ux_151_302, ux_151_303, ux_151_306, ux_151_309, ux_151_315, ux_151_316, ux_151_320, ux_151_321, ux_151_324, ux_151_327, ux_151_328, ux_151_331, ux_151_333, ux_151_334, ux_151_336, ux_151_339, ux_151_340, ux_151_343, ux_151_345, ux_151_347, ux_151_348, ux_151_350, ux_151_351, ux_151_352, ux_151_355, ux_151_356, ux_151_358, ux_151_360, ux_151_363, ux_151_364, ux_151_365, ux_151_368, ux_151_369, ux_151_372, ux_151_374, ux_151_376, ux_151_377, ux_151_378, ux_151_381, ux_151_382, ux_151_384, ux_151_386, ux_151_387, ux_151_388, ux_151_391, ux_151_394, ux_151_400, ux_151_403, ux_151_404, ux_151_407, ux_151_408, ux_151_409, ux_151_412, ux_151_413, ux_151_416, ux_151_417, pm_i_c, pm_l_c, pm_q_c, pm_r_c, pm_li_0, pm_li_s, pm_ll_0, pm_ll_s, pm_lq_0, pm_lq_s, pm_s1, pm_s2, pm_kl, pm_wI, pm_wR, pm_pu_n, pm_pu_s, pm_wt, List.take_succ_cons, List.take_zero, List.take_nil, List.drop_succ_cons, List.drop_zero, List.reverse_cons, List.reverse_nil, List.nil_append, List.cons_append, List.length_cons, List.length_nil, true_and, and_true, true_implies, tn_l, tn_0, Int.reduceToNat, Int.reduceLE, Int.reduceLT, Int.reduceEq, Int.reduceAdd, Int.reduceSub, Int.reduceMul, Int.reduceNeg, Nat.reduceAdd, Nat.reduceLeDiff, Nat.reduceEqDiff, Nat.reduceSub, Option.some.injEq, Sum.inl.injEq, Sum.inr.injEq, or_true, true_or, reduceCtorEq, ne_eq, not_false_eq_true, not_true_eq_false, false_implies, implies_true, false_and, and_false, false_or, or_false, if_true, if_false, fr_131_0 hf, fr_131_1 hf, fr_131_5 hf, fr_131_7 hf, fr_131_8 hf, fr_131_9 hf, fr_131_12 hf, fr_131_13 hf, fr_131_14 hf, fr_131_15 hf, fr_131_19 hf, fr_131_20 hf, fr_131_21 hf, fr_131_22 hf, fr_131_23 hf, fr_131_24 hf, fg_131 hf, fv_131 hf, fb_132 hf, fb_133 hf, fb_134 hf, fb_135 hf, fb_136 hf, fb_137 hf, fb_138 hf, fb_139 hf, fb_140 hf, fb_141 hf, fb_142 hf, fb_143 hf, fb_144 hf, fb_145 hf, fb_146 hf, fb_147 hf, pm_ok_ev (tf_stretches (d := d) (by omega) hf hS w1.1)]
    exact ⟨fun _ => go W m _ w1 w2 w4 w3, fun z => absurd (Int.le_refl _) z⟩
  · intro t ht ih W m w1 w2 w3 w4
    have hmb := que_m w1.2.2.1
    have e7 : W 137 = V 137 := w1.1.1 137 (by decide) (by decide) (by decide) (by decide)
    rw [ux_151_250]
    simp only [ux_151_0, ux_151_1, ux_151_2, ux_151_3, ux_151_5, ux_151_6, ux_151_10, ux_151_11, ux_151_14, ux_151_15, ux_151_16, ux_151_19, ux_151_20, ux_151_23, ux_151_25, ux_151_27, ux_151_28, ux_151_31, ux_151_34, ux_151_35, ux_151_39, ux_151_40, ux_151_43, ux_151_46, ux_151_47, ux_151_50, ux_151_52, ux_151_54, ux_151_55, ux_151_58, ux_151_61, ux_151_62, ux_151_65, ux_151_66, ux_151_67, ux_151_68, ux_151_69, ux_151_72, ux_151_73, ux_151_75, ux_151_76, ux_151_77, ux_151_78, ux_151_81, ux_151_82, ux_151_86, ux_151_87, ux_151_90, ux_151_91, ux_151_94, ux_151_95, ux_151_96, ux_151_98, ux_151_101, ux_151_102, ux_151_105, ux_151_107, ux_151_108, ux_151_110, ux_151_112, ux_151_114, ux_151_117, ux_151_119, ux_151_121, ux_151_122, ux_151_124, ux_151_125, ux_151_129, ux_151_130, ux_151_133, ux_151_134, ux_151_135, ux_151_138, ux_151_139, ux_151_142, ux_151_144, ux_151_145, ux_151_147, ux_151_150, ux_151_151, ux_151_154, ux_151_156, ux_151_158, ux_151_159, ux_151_161, ux_151_162, ux_151_163, ux_151_164, ux_151_165, ux_151_168, ux_151_169, ux_151_172, ux_151_174, ux_151_176, ux_151_177, ux_151_179, ux_151_180, ux_151_181, ux_151_184, ux_151_186, ux_151_187, ux_151_190, ux_151_192, ux_151_193, ux_151_196, ux_151_197, ux_151_200, ux_151_202, ux_151_204, ux_151_205, ux_151_206, ux_151_209, ux_151_210, ux_151_212, ux_151_213, ux_151_216, ux_151_219, ux_151_224, ux_151_227, ux_151_228, ux_151_230, ux_151_233, ux_151_234, ux_151_235, ux_151_238, ux_151_239, ux_151_241, ux_151_242, ux_151_244, ux_151_247, ux_151_248, ux_151_252, ux_151_253, ux_151_256, ux_151_259, ux_151_260, ux_151_263, ux_151_265, ux_151_266, ux_151_268, ux_151_271, ux_151_272, ux_151_275, ux_151_277, ux_151_278, ux_151_279, ux_151_280, ux_151_283, ux_151_284, ux_151_287, ux_151_289, ux_151_291, ux_151_292, ux_151_293, ux_151_296, ux_151_297, ux_151_299, ux_151_301, ux_151_302, ux_151_303, ux_151_306, ux_151_309, ux_151_315, ux_151_316, ux_151_320, ux_151_321, ux_151_324, ux_151_327, ux_151_328, ux_151_331, ux_151_333, ux_151_334, ux_151_336, ux_151_339, ux_151_340, ux_151_343, ux_151_345, ux_151_347, ux_151_348, ux_151_350, ux_151_351, ux_151_352, ux_151_355, ux_151_356, ux_151_358, ux_151_360, ux_151_363, ux_151_364, ux_151_365, ux_151_368, ux_151_369, ux_151_372, ux_151_374, ux_151_376, ux_151_377, ux_151_378, ux_151_381, ux_151_382, ux_151_384, ux_151_386, ux_151_387, ux_151_388, ux_151_391, ux_151_394, ux_151_400, ux_151_403, ux_151_404, ux_151_407, ux_151_408, ux_151_409, ux_151_412, ux_151_413, ux_151_416, ux_151_417, pm_i_c, pm_l_c, pm_q_c, pm_r_c, pm_li_0, pm_li_s, pm_ll_0, pm_ll_s, pm_lq_0, pm_lq_s, pm_s1, pm_s2, pm_kl, pm_wI, pm_wR, pm_pu_n, pm_pu_s, pm_wt, List.take_succ_cons, List.take_zero, List.take_nil, List.drop_succ_cons, List.drop_zero, List.reverse_cons, List.reverse_nil, List.nil_append, List.cons_append, List.length_cons, List.length_nil, true_and, and_true, true_implies, tn_l, tn_0, Int.reduceToNat, Int.reduceLE, Int.reduceLT, Int.reduceEq, Int.reduceAdd, Int.reduceSub, Int.reduceMul, Int.reduceNeg, Nat.reduceAdd, Nat.reduceLeDiff, Nat.reduceEqDiff, Nat.reduceSub, Option.some.injEq, Sum.inl.injEq, Sum.inr.injEq, or_true, true_or, reduceCtorEq, ne_eq, not_false_eq_true, not_true_eq_false, false_implies, implies_true, false_and, and_false, false_or, or_false, if_true, if_false, fr_131_0 hf, fr_131_1 hf, fr_131_5 hf, fr_131_7 hf, fr_131_8 hf, fr_131_9 hf, fr_131_12 hf, fr_131_13 hf, fr_131_14 hf, fr_131_15 hf, fr_131_19 hf, fr_131_20 hf, fr_131_21 hf, fr_131_22 hf, fr_131_23 hf, fr_131_24 hf, fg_131 hf, fv_131 hf, fb_132 hf, fb_133 hf, fb_134 hf, fb_135 hf, fb_136 hf, fb_137 hf, fb_138 hf, fb_139 hf, fb_140 hf, fb_141 hf, fb_142 hf, fb_143 hf, fb_144 hf, fb_145 hf, fb_146 hf, fb_147 hf, pm_ok_ev (tf_stretches (d := d) (by omega) hf hS w1.1), e7, lc_le]
    have skip : (0 < V 137 t → W 139 t ≠ -2) → pm_w d 151 250 [some (.inr (.inr (some 131))), some (.inl (p0 : Int)), some (.inl (s0 : Int)), some (.inl (m : Int)), some (.inl 1), some (.inl (k : Int)), some (.inl (12 + (s : Int))), some (.inl (s : Int)), some (.inl ((t : Int) + 1))] [] (W, R, T) Q := by
      intro hh
      refine ih W m w1 w2 w3 (fun q hq a => ?_)
      by_cases e : q = t
      · subst e; exact hh a
      · exact w4 q (by omega) a
    refine ⟨fun z => by omega, fun _ => ⟨by omega, fun c1 => ⟨by unfold pm_I32; omega, skip (fun _ => c1)⟩, fun c1 => ⟨by omega, fun c2 => ⟨by unfold pm_I32; omega, skip (fun a => by omega)⟩, fun c2 => ⟨by omega, by unfold pm_I32; omega, by omega, by unfold pm_I32; omega, by unfold pm_I32; omega, ?_⟩⟩⟩⟩
    have g1 := Classical.not_not.mp c1
    obtain ⟨b1, b2, b3⟩ := rr_str (v := 100) hn w1 ht g1 (by decide) ⟨12 + t0, by omega, by
      rw [cmb_S]
      rcases w1.2.2.2.1 with ⟨a, b⟩ | ⟨u, a, b, c, e, f⟩
      · cases b
      · cases b; exact f, Or.inr (Or.inr ⟨t0, t, ht0, ht, rfl, rfl, rfl, rfl, by omega, hr0⟩)⟩
    refine ih _ (m + 1) b1 (b2 (k + 1) (by omega) w2) (by omega) (fun u hu a => ?_)
    rw [pm_up_fr (by decide), pm_up_row]
    dsimp only
    split
    · decide
    · exact w4 u (by omega) a
/-- the stretches of a piece -/
theorem rr_B (hd : 4 ≤ d) (hf : fx R T) (hS : rfS V n L) (hX : rfX V n (nst L)) (p k m0 : Nat) (thr : Int) (th : Option Nat) (y8 : Option pm_V) (hp : p < n) {Q : Option pm_V → pm_H → Prop}
    (go : ∀ W m y, rrI V n (nst L) p0 s0 W m thr th → rrK V n (nst L) p0 s0 W th k → k < m → W 140 k = (p : Int) → (∀ t, t < nst L → xR V p t < cR V p t → V 141 (64 * p + t) = 0 → W 139 t ≠ -2) → pm_w d 151 397 [some (.inr (.inr (some 131))), some (.inl (p0 : Int)), some (.inl (s0 : Int)), some (.inl (m : Int)), some (.inl thr), some (.inl (k : Int)), some (.inl (p : Int)), y, y8] [] (W, R, T) Q) :
    rrI V n (nst L) p0 s0 W m0 thr th → rrK V n (nst L) p0 s0 W th k → k < m0 → W 138 p ≠ -2 → W 140 k = (p : Int) → pm_w d 151 318 [some (.inr (.inr (some 131))), some (.inl (p0 : Int)), some (.inl (s0 : Int)), some (.inl (m0 : Int)), some (.inl thr), some (.inl (k : Int)), some (.inl (p : Int)), some (.inl 0), y8] [] (W, R, T) Q := by
  have hn := hS.1.1
  have hl := hS.2.1.2.1
  have hnS : nst L ≤ 47 := by unfold nst; omega
  intro w1 w2 w3 w4 w5
  refine pm_up0 (fun t => ∀ W (m : Nat), rrI V n (nst L) p0 s0 W m thr th → rrK V n (nst L) p0 s0 W th k → k < m → W 138 p ≠ -2 → W 140 k = (p : Int) → (∀ u, u < t → xR V p u < cR V p u → V 141 (64 * p + u) = 0 → W 139 u ≠ -2) → pm_w d 151 318 [some (.inr (.inr (some 131))), some (.inl (p0 : Int)), some (.inl (s0 : Int)), some (.inl (m : Int)), some (.inl thr), some (.inl (k : Int)), some (.inl (p : Int)), some (.inl (t : Int)), y8] [] (W, R, T) Q) (nst L) ?_ ?_ W m0 w1 w2 w3 w4 w5 (fun q hq => by omega)
  · intro W m w1 w2 w3 w4 w5 w6
    rw [ux_151_318]
    simp only [ux_151_0, ux_151_1, ux_151_2, ux_151_3, ux_151_5, ux_151_6, ux_151_10, ux_151_11, ux_151_14, ux_151_15, ux_151_16, ux_151_19, ux_151_20, ux_151_23, ux_151_25, ux_151_27, ux_151_28, ux_151_31, ux_151_34, ux_151_35, ux_151_39, ux_151_40, ux_151_43, ux_151_46, ux_151_47, ux_151_50, ux_151_52, ux_151_54, ux_151_55, ux_151_58, ux_151_61, ux_151_62, ux_151_65, ux_151_66, ux_151_67, ux_151_68, ux_151_69, ux_151_72, ux_151_73, ux_151_75, ux_151_76, ux_151_77, ux_151_78, ux_151_81, ux_151_82, ux_151_86, ux_151_87, ux_151_90, ux_151_91, ux_151_94, ux_151_95, ux_151_96, ux_151_98, ux_151_101, ux_151_102, ux_151_105, ux_151_107, ux_151_108, ux_151_110, ux_151_112, ux_151_114, ux_151_117, ux_151_119, ux_151_121, ux_151_122, ux_151_124, ux_151_125, ux_151_129, ux_151_130, ux_151_133, ux_151_134, ux_151_135, ux_151_138, ux_151_139, ux_151_142, ux_151_144, ux_151_145, ux_151_147, ux_151_150, ux_151_151, ux_151_154, ux_151_156, ux_151_158, ux_151_159, ux_151_161, ux_151_162, ux_151_163, ux_151_164, ux_151_165, ux_151_168, ux_151_169, ux_151_172, ux_151_174, ux_151_176, ux_151_177, ux_151_179, ux_151_180, ux_151_181, ux_151_184, ux_151_186, ux_151_187, ux_151_190, ux_151_192, ux_151_193, ux_151_196, ux_151_197, ux_151_200, ux_151_202, ux_151_204, ux_151_205, ux_151_206, ux_151_209, ux_151_210, ux_151_212, ux_151_213, ux_151_216, ux_151_219, ux_151_224, ux_151_227, ux_151_228, ux_151_230, ux_151_233, ux_151_234, ux_151_235, ux_151_238, ux_151_239, ux_151_241, ux_151_242, ux_151_244, ux_151_247, ux_151_248, ux_151_252, ux_151_253, ux_151_256, ux_151_259, ux_151_260, ux_151_263, ux_151_265, ux_151_266, ux_151_268, ux_151_271, ux_151_272, ux_151_275, ux_151_277, ux_151_278, ux_151_279, ux_151_280, ux_151_283, ux_151_284, ux_151_287, ux_151_289, ux_151_291, ux_151_292, ux_151_293, ux_151_296, ux_151_297, ux_151_299, ux_151_301, ux_151_302, ux_151_303, ux_151_306, ux_151_309, ux_151_315, ux_151_316, ux_151_320, ux_151_321, ux_151_324, ux_151_327, ux_151_328, ux_151_331, ux_151_333, ux_151_334, ux_151_336, ux_151_339, ux_151_340, ux_151_343, ux_151_345, ux_151_347, ux_151_348, ux_151_350, ux_151_351, ux_151_352, ux_151_355, ux_151_356, ux_151_358, ux_151_360, ux_151_363, ux_151_364, ux_151_365, ux_151_368, ux_151_369, ux_151_372, ux_151_374, ux_151_376, ux_151_377, ux_151_378, ux_151_381, ux_151_382, ux_151_384, ux_151_386, ux_151_387, ux_151_388, ux_151_391, ux_151_394, ux_151_400, ux_151_403, ux_151_404, ux_151_407, ux_151_408, ux_151_409, ux_151_412, ux_151_413, ux_151_416, ux_151_417, pm_i_c, pm_l_c, pm_q_c, pm_r_c, pm_li_0, pm_li_s, pm_ll_0, pm_ll_s, pm_lq_0, pm_lq_s, pm_s1, pm_s2, pm_kl, pm_wI, pm_wR, pm_pu_n, pm_pu_s, pm_wt, List.take_succ_cons, List.take_zero, List.take_nil, List.drop_succ_cons, List.drop_zero, List.reverse_cons, List.reverse_nil, List.nil_append, List.cons_append, List.length_cons, List.length_nil, true_and, and_true, true_implies, tn_l, tn_0, Int.reduceToNat, Int.reduceLE, Int.reduceLT, Int.reduceEq, Int.reduceAdd, Int.reduceSub, Int.reduceMul, Int.reduceNeg, Nat.reduceAdd, Nat.reduceLeDiff, Nat.reduceEqDiff, Nat.reduceSub, Option.some.injEq, Sum.inl.injEq, Sum.inr.injEq, or_true, true_or, reduceCtorEq, ne_eq, not_false_eq_true, not_true_eq_false, false_implies, implies_true, false_and, and_false, false_or, or_false, if_true, if_false, fr_131_0 hf, fr_131_1 hf, fr_131_5 hf, fr_131_7 hf, fr_131_8 hf, fr_131_9 hf, fr_131_12 hf, fr_131_13 hf, fr_131_14 hf, fr_131_15 hf, fr_131_19 hf, fr_131_20 hf, fr_131_21 hf, fr_131_22 hf, fr_131_23 hf, fr_131_24 hf, fg_131 hf, fv_131 hf, fb_132 hf, fb_133 hf, fb_134 hf, fb_135 hf, fb_136 hf, fb_137 hf, fb_138 hf, fb_139 hf, fb_140 hf, fb_141 hf, fb_142 hf, fb_143 hf, fb_144 hf, fb_145 hf, fb_146 hf, fb_147 hf, pm_ok_ev (tf_stretches (d := d) (by omega) hf hS w1.1)]
    exact ⟨fun _ => go W m _ w1 w2 w3 w5 w6, fun z => absurd (Int.le_refl _) z⟩
  · intro t ht ih W m w1 w2 w3 w4 w5 w6
    have hmb := que_m w1.2.2.1
    have e41 : W 141 = V 141 := w1.1.1 141 (by decide) (by decide) (by decide) (by decide)
    have ei : (64 * (p : Int) + (t : Int)).toNat = 64 * p + t := by omega
    rw [ux_151_318]
    simp only [ux_151_0, ux_151_1, ux_151_2, ux_151_3, ux_151_5, ux_151_6, ux_151_10, ux_151_11, ux_151_14, ux_151_15, ux_151_16, ux_151_19, ux_151_20, ux_151_23, ux_151_25, ux_151_27, ux_151_28, ux_151_31, ux_151_34, ux_151_35, ux_151_39, ux_151_40, ux_151_43, ux_151_46, ux_151_47, ux_151_50, ux_151_52, ux_151_54, ux_151_55, ux_151_58, ux_151_61, ux_151_62, ux_151_65, ux_151_66, ux_151_67, ux_151_68, ux_151_69, ux_151_72, ux_151_73, ux_151_75, ux_151_76, ux_151_77, ux_151_78, ux_151_81, ux_151_82, ux_151_86, ux_151_87, ux_151_90, ux_151_91, ux_151_94, ux_151_95, ux_151_96, ux_151_98, ux_151_101, ux_151_102, ux_151_105, ux_151_107, ux_151_108, ux_151_110, ux_151_112, ux_151_114, ux_151_117, ux_151_119, ux_151_121, ux_151_122, ux_151_124, ux_151_125, ux_151_129, ux_151_130, ux_151_133, ux_151_134, ux_151_135, ux_151_138, ux_151_139, ux_151_142, ux_151_144, ux_151_145, ux_151_147, ux_151_150, ux_151_151, ux_151_154, ux_151_156, ux_151_158, ux_151_159, ux_151_161, ux_151_162, ux_151_163, ux_151_164, ux_151_165, ux_151_168, ux_151_169, ux_151_172, ux_151_174, ux_151_176, ux_151_177, ux_151_179, ux_151_180, ux_151_181, ux_151_184, ux_151_186, ux_151_187, ux_151_190, ux_151_192, ux_151_193, ux_151_196, ux_151_197, ux_151_200, ux_151_202, ux_151_204, ux_151_205, ux_151_206, ux_151_209, ux_151_210, ux_151_212, ux_151_213, ux_151_216, ux_151_219, ux_151_224, ux_151_227, ux_151_228, ux_151_230, ux_151_233, ux_151_234, ux_151_235, ux_151_238, ux_151_239, ux_151_241, ux_151_242, ux_151_244, ux_151_247, ux_151_248, ux_151_252, ux_151_253, ux_151_256, ux_151_259, ux_151_260, ux_151_263, ux_151_265, ux_151_266, ux_151_268, ux_151_271, ux_151_272, ux_151_275, ux_151_277, ux_151_278, ux_151_279, ux_151_280, ux_151_283, ux_151_284, ux_151_287, ux_151_289, ux_151_291, ux_151_292, ux_151_293, ux_151_296, ux_151_297, ux_151_299, ux_151_301, ux_151_302, ux_151_303, ux_151_306, ux_151_309, ux_151_315, ux_151_316, ux_151_320, ux_151_321, ux_151_324, ux_151_327, ux_151_328, ux_151_331, ux_151_333, ux_151_334, ux_151_336, ux_151_339, ux_151_340, ux_151_343, ux_151_345, ux_151_347, ux_151_348, ux_151_350, ux_151_351, ux_151_352, ux_151_355, ux_151_356, ux_151_358, ux_151_360, ux_151_363, ux_151_364, ux_151_365, ux_151_368, ux_151_369, ux_151_372, ux_151_374, ux_151_376, ux_151_377, ux_151_378, ux_151_381, ux_151_382, ux_151_384, ux_151_386, ux_151_387, ux_151_388, ux_151_391, ux_151_394, ux_151_400, ux_151_403, ux_151_404, ux_151_407, ux_151_408, ux_151_409, ux_151_412, ux_151_413, ux_151_416, ux_151_417, pm_i_c, pm_l_c, pm_q_c, pm_r_c, pm_li_0, pm_li_s, pm_ll_0, pm_ll_s, pm_lq_0, pm_lq_s, pm_s1, pm_s2, pm_kl, pm_wI, pm_wR, pm_pu_n, pm_pu_s, pm_wt, List.take_succ_cons, List.take_zero, List.take_nil, List.drop_succ_cons, List.drop_zero, List.reverse_cons, List.reverse_nil, List.nil_append, List.cons_append, List.length_cons, List.length_nil, true_and, and_true, true_implies, tn_l, tn_0, Int.reduceToNat, Int.reduceLE, Int.reduceLT, Int.reduceEq, Int.reduceAdd, Int.reduceSub, Int.reduceMul, Int.reduceNeg, Nat.reduceAdd, Nat.reduceLeDiff, Nat.reduceEqDiff, Nat.reduceSub, Option.some.injEq, Sum.inl.injEq, Sum.inr.injEq, or_true, true_or, reduceCtorEq, ne_eq, not_false_eq_true, not_true_eq_false, false_implies, implies_true, false_and, and_false, false_or, or_false, if_true, if_false, fr_131_0 hf, fr_131_1 hf, fr_131_5 hf, fr_131_7 hf, fr_131_8 hf, fr_131_9 hf, fr_131_12 hf, fr_131_13 hf, fr_131_14 hf, fr_131_15 hf, fr_131_19 hf, fr_131_20 hf, fr_131_21 hf, fr_131_22 hf, fr_131_23 hf, fr_131_24 hf, fg_131 hf, fv_131 hf, fb_132 hf, fb_133 hf, fb_134 hf, fb_135 hf, fb_136 hf, fb_137 hf, fb_138 hf, fb_139 hf, fb_140 hf, fb_141 hf, fb_142 hf, fb_143 hf, fb_144 hf, fb_145 hf, fb_146 hf, fb_147 hf, pm_ok_ev (tf_stretches (d := d) (by omega) hf hS w1.1), pm_ok_ev (tf_roomOf (d := d) hd hf hS hX w1.1 p t hp ht), e41, ei, lc_le]
    have skip : (xR V p t < cR V p t → V 141 (64 * p + t) = 0 → W 139 t ≠ -2) → pm_w d 151 318 [some (.inr (.inr (some 131))), some (.inl (p0 : Int)), some (.inl (s0 : Int)), some (.inl (m : Int)), some (.inl thr), some (.inl (k : Int)), some (.inl (p : Int)), some (.inl ((t : Int) + 1)), y8] [] (W, R, T) Q := by
      intro hh
      refine ih W m w1 w2 w3 w4 w5 (fun q hq a b => ?_)
      by_cases e : q = t
      · subst e; exact hh a b
      · exact w6 q (by omega) a b
    refine ⟨fun z => by omega, fun _ => ⟨by omega, fun c1 => ⟨by unfold pm_I32; omega, skip (fun _ _ => c1)⟩, fun c1 => ⟨by unfold pm_I32; omega, by unfold pm_I32; omega, by omega, fun c2 => ⟨by unfold pm_I32; omega, skip (fun _ a => absurd a c2)⟩, fun c2 => ⟨fun c3 => ⟨by unfold pm_I32; omega, skip (fun a _ => by omega)⟩, fun c3 => ⟨by omega, by unfold pm_I32; omega, by omega, by unfold pm_I32; omega, by unfold pm_I32; omega, ?_⟩⟩⟩⟩⟩
    have g1 := Classical.not_not.mp c1
    have g2 := Classical.not_not.mp c2
    obtain ⟨b1, b2, b3⟩ := rr_str (v := (p : Int)) hn w1 ht g1 (by omega) ⟨p, by omega, by rw [cmb_P hp hn]; exact w4, Or.inr (Or.inl ⟨p, t, hp, ht, rfl, rfl, rfl, by omega, g2⟩)⟩
    refine ih _ (m + 1) b1 (b3 k (by omega) w2) (by omega) ?_ ?_ (fun u hu a b => ?_)
    · rw [pm_up_fr (by decide), pm_up_fr (by decide)]; exact w4
    · rw [pm_up_ne (by omega), pm_up_fr (by decide)]; exact w5
    · rw [pm_up_fr (by decide), pm_up_row]
      dsimp only
      split
      · omega
      · exact w6 u (by omega) a b
end
