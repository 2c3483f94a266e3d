/-! THE CLASS: raise, weave -/
section
variable {d : Nat} {h : pm_H} {V V2 W : Nat → Nat → Int} {R : Nat → Nat → Option Nat} {T : List (Nat × Nat)} {n b S p s : Nat} {ln : Nat → Int} {c : Nat → Nat → Int} {r : Nat → Int}
def raI (V W : Nat → Nat → Int) (b n S : Nat) (ln : Nat → Int) (c : Nat → Nat → Int) (r : Nat → Int) (p s : Nat) : Prop := lyF V W b ∧ lyI W b n S ln c r ∧ (∀ q, q < n → sm (xL W b q) S = ln q) ∧ lexU n S ln c r (xL W b) p s
def raQ (V : Nat → Nat → Int) (R : Nat → Nat → Option Nat) (T : List (Nat × Nat)) (b n S : Nat) (ln : Nat → Int) (c : Nat → Nat → Int) (r : Nat → Int) (p s : Nat) (r0 : Option pm_V) (h2 : pm_H) : Prop := ∃ W, h2 = (W, R, T) ∧ r0 = none ∧ raI V W b n S ln c r p (s + 1)
def mu (x : Nat → Nat → Int) (S p s : Nat) : Int := sm (fun t => if s < t then x p t else 0) S
/-- one swap -/
theorem ra_swap (hB : ntB n S ln c r) (hI : raI V W b n S ln c r p s) (hp : p < n) (hs : s < S) {W1 : Nat → Nat → Int} (h1 : seF W W1 b) {e fr : Nat} (he : e < S) (hge : W1 (b + 30) e ≠ -2) (hbf : bfs (12 + S) (wR p) (wE c (xL W b) n S p s) (cmb n (W1 (b + 29)) (W1 (b + 30)))) (hfp : W1 (b + 29) p = -1) (hfr : s < fr) (hfS : fr < S) {v : Int} (hv : 0 < v) (hvx : v ≤ xL W b p fr) (hvr : fr = e ∨ v ≤ W (b + 2) e) (hres : resF (W1 (b + 29)) (W1 (b + 30)) c (xL W1 b) v 60 e) {W2 : Nat → Nat → Int} (h2 : mvF W1 W2 b) (hx2 : xL W2 b = augF (W1 (b + 29)) (W1 (b + 30)) v 60 e (xL W1 b)) :
    (xL W2 b p fr = xL W b p fr) ∧ W2 (b + 2) = W (b + 2) ∧ (0 ≤ mL W2 b p fr ∧ mL W2 b p fr ≤ 10000000) ∧ ∀ W5, W5 = pm_up (pm_up (pm_up (pm_up W2 (b + 2) e (W (b + 2) e - v)) (b + 4 + p) fr (xL W2 b p fr + -v)) (b + 17 + p) fr (mL W2 b p fr + v)) (b + 2) fr ((if fr = e then W (b + 2) e - v else W (b + 2) fr) + v) → raI V W5 b n S ln c r p s ∧ mu (xL W5 b) S p s = mu (xL W b) S p s - v := by
  have hn := hB.1
  have hS := hB.2.1
  obtain ⟨I0, II, I2, I3⟩ := id hI
  obtain ⟨⟨i0, i1⟩, i2, i3, i4, i5, l1, l2, l3⟩ := id II
  have bd := ly_bd hB II
  obtain ⟨ex1, em1⟩ := seF_x h1
  obtain ⟨rp, rs, ht, hrs, hpc, hgp⟩ := bfs_tre2 hn hbf
  have hk60 : rs e < 60 := by have := hrs e he hge; omega
  rw [ex1] at hx2 hres
  have sok := src_ok ht 60 e he hge hk60
  have hsrc : srcF (W1 (b + 29)) (W1 (b + 30)) 60 e = p := sok.2.2
  obtain ⟨j1, j2, j3⟩ := aug_ok (v := v) (by omega) ht 60 e (xL W b) he hge hk60 hres (fun _ _ _ => rfl) l1
  rw [hsrc] at j2
  rw [← hx2] at j1 j2 j3
  -- cells that the way doesn't touch
  have unP : ∀ t, t ≠ s → xL W2 b p t = xL W b p t := by
    intro t hts
    rw [hx2]
    exact aug_un ht (fun s' hs' hg w => hts (by rw [← w]; exact hgp s' hs' hg)) (by rw [hfp]; omega) 60 e (xL W b) he hge hk60
  have unQ : ∀ q t, q < p → q < n → xL W2 b q t = xL W b q t := by
    intro q t hqp hqn
    have fq : W1 (b + 29) q = -2 := by
      refine Classical.byContradiction fun w => ?_
      rcases hpc q hqn w with z | z <;> omega
    rw [hx2]
    refine aug_un ht (fun s' hs' hg w => ?_) (by rw [fq]; omega) 60 e (xL W b) he hge hk60
    obtain ⟨q', a1, a2, a3, -⟩ := ht.2 s' hs' (by rw [hg]; omega)
    have : q' = q := by omega
    subst this
    exact a3 fq
  have f2 : W2 (b + 2) = W (b + 2) := (h2.1 _ (by omega)).trans (h1.1 _ (by omega) (by omega) (by omega) (by omega))
  have f1 : W2 (b + 1) = W (b + 1) := (h2.1 _ (by omega)).trans (h1.1 _ (by omega) (by omega) (by omega) (by omega))
  have f0 : ∀ j, j ≠ 10 → W2 b j = W b j := fun j hj => by rw [h2.1 b (by omega)]; exact h1.2 j hj
  have msum : ∀ q t, mL W2 b q t + xL W2 b q t = mL W b q t + xL W b q t := fun q t => by rw [h2.2 q t, ex1, em1]
  have xf := unP fr (by omega)
  have mf : mL W2 b p fr = mL W b p fr := by have := msum p fr; omega
  have bdf := bd.2.2.1 p hp fr hfS
  refine ⟨xf, f2, by omega, fun W5 hW5 => ?_⟩
  have x5 : xL W5 b = upx (xL W2 b) p fr (-v) := by
    have e1 : xL (pm_up W2 (b + 2) e (W (b + 2) e - v)) b = xL W2 b := xL_fr fun q hq => pm_up_fr (by omega)
    have := xL_up (W := pm_up W2 (b + 2) e (W (b + 2) e - v)) (b := b) (p := p) (s := fr) (v := -v) (by omega)
    rw [e1] at this
    rw [← this]
    exact xL_fr fun q hq => by rw [hW5, pm_up_fr (by omega), pm_up_fr (by omega)]
  have m5 : mL W5 b = upx (mL W2 b) p fr v := by
    have e1 : mL (pm_up (pm_up W2 (b + 2) e (W (b + 2) e - v)) (b + 4 + p) fr (xL W2 b p fr + -v)) b = mL W2 b := mL_fr fun q hq => by rw [pm_up_fr (by omega), pm_up_fr (by omega)]
    have := mL_up (W := pm_up (pm_up W2 (b + 2) e (W (b + 2) e - v)) (b + 4 + p) fr (xL W2 b p fr + -v)) (b := b) (p := p) (s := fr) (v := v) (by omega)
    rw [e1] at this
    rw [← this]
    exact mL_fr fun q hq => by rw [hW5, pm_up_fr (by omega)]
  have r5 : W5 (b + 2) = fun j => if j = fr then ((if fr = e then W (b + 2) e - v else W (b + 2) fr) + v) else if j = e then W (b + 2) e - v else W (b + 2) j := by
    rw [hW5, pm_up_row, pm_up_fr (by omega), pm_up_fr (by omega), pm_up_row, f2]
  have l5 : W5 (b + 1) = W (b + 1) := by rw [hW5, pm_up_fr (by omega), pm_up_fr (by omega), pm_up_fr (by omega), pm_up_fr (by omega)]; exact f1
  have b5 : ∀ j, j ≠ 10 → W5 b j = W b j := fun j hj => by rw [hW5, pm_up_fr (by omega), pm_up_fr (by omega), pm_up_fr (by omega), pm_up_fr (by omega)]; exact f0 j hj
  have rows : ∀ q, q < n → sm (xL W5 b q) S = sm (xL W b q) S := by
    intro q hq
    rw [x5, upx_row hfS, j2]
    split <;> omega
  have cols : ∀ t, t < S → sm (fun q => xL W5 b q t) n = sm (fun q => xL W b q t) n + (if t = e then v else 0) + (if t = fr then -v else 0) := by
    intro t ht2
    rw [x5, upx_col hp, j3]
  have re := i3 e he
  have colr : ∀ t, t < S → W5 (b + 2) t = r t - sm (fun q => xL W5 b q t) n := by
    intro t ht2
    have := i3 t ht2
    rw [cols t ht2, r5]
    dsimp only
    by_cases c1 : t = fr
    · rw [if_pos c1, if_pos c1]
      by_cases c2 : fr = e
      · rw [if_pos c2, if_pos (c1.trans c2)]; rw [c1, c2] at this ⊢; omega
      · rw [if_neg c2, if_neg (fun w => c2 (c1.symm.trans w))]; rw [c1] at this ⊢; omega
    · rw [if_neg c1, if_neg c1]
      by_cases c2 : t = e
      · rw [if_pos c2, if_pos c2]; rw [c2] at this ⊢; omega
      · rw [if_neg c2, if_neg c2]; omega
  have lay5 : lay n S ln c r (xL W5 b) := by
    refine ⟨fun q hq t ht2 => ?_, fun q hq => by rw [rows q hq]; exact l2 q hq, fun t ht2 => ?_⟩
    · have := j1 q hq t ht2
      rw [x5]
      unfold upx
      by_cases c1 : q = p ∧ t = fr
      · rw [if_pos c1]; rw [c1.1, c1.2] at this ⊢; omega
      · rw [if_neg c1]; exact this
    · have h3 := l3 t ht2
      have h4 := i3 e he
      rw [cols t ht2]
      by_cases c2 : t = e
      · rw [if_pos c2]
        by_cases c1 : t = fr
        · rw [if_pos c1]; omega
        · rw [if_neg c1]
          rcases hvr with z | z
          · omega
          · rw [c2] at h3 ⊢; omega
      · rw [if_neg c2]
        split <;> omega
  refine ⟨⟨fun q hq => ?_, ⟨⟨by rw [b5 0 (by decide)]; exact i0, by rw [b5 1 (by decide)]; exact i1⟩, fun q hq => by rw [l5, rows q hq]; exact i2 q hq, colr, fun q hq t ht2 => ?_, ?_, lay5⟩, fun q hq => by rw [rows q hq]; exact I2 q hq, lexU_keep I3 (fun q t hq ht2 hbf2 => ?_)⟩, ?_⟩
  · rw [hW5, pm_up_fr (by omega), pm_up_fr (by omega), pm_up_fr (by omega), pm_up_fr (by omega), h2.1 q (by omega), h1.1 q (by omega) (by omega) (by omega) (by omega)]; exact I0 q hq
  · have h3 := msum q t
    have h4 := i4 q hq t ht2
    rw [x5, m5]
    unfold upx
    split <;> omega
  · rw [b5 2 (by decide), i5]
    have : tot n S (xL W5 b) = tot n S (xL W b) := sm_congr rows
    rw [this]
  · rw [x5]
    unfold bef at hbf2
    rw [upx_ne (by omega)]
    rcases hbf2 with z | ⟨z1, z2⟩
    · exact unQ q t z hq
    · rw [z1]; exact unP t (by omega)
  · unfold mu
    have e1 : sm (fun t => if s < t then xL W5 b p t else 0) S = sm (fun t => if t = fr then (if s < t then xL W b p t else 0) + -v else (if s < t then xL W b p t else 0)) S := by
      refine sm_congr fun t ht2 => ?_
      rw [x5]
      by_cases c1 : t = fr
      · subst c1
        rw [if_pos rfl, if_pos hfr, if_pos hfr, upx_eq, xf]
      · rw [if_neg c1]
        by_cases c2 : s < t
        · rw [if_pos c2, if_pos c2, upx_ne (fun w => c1 w.2)]; exact unP t (by omega)
        · rw [if_neg c2, if_neg c2]
    rw [e1, sm_up1 hfS]
    omega
theorem c_raise (hd : 4 ≤ d) (hb : lyq R T b) (hB : ntB n S ln c r) (hL : ∀ q, q < n → ln q ≤ 1000) (hp : p < n) (hs : s < S) (hI : raI V W b n S ln c r p s) : pm_ok d 80 [.inr (.inr (some b)), .inl (p : Int), .inl (s : Int)] (W, R, T) (raQ V R T b n S ln c r p s) := by
  obtain ⟨d, rfl⟩ : ∃ k, d = k + 1 := ⟨d - 1, by omega⟩
  refine pm_ok_iff.mpr ⟨(Nat.le_of_ble_eq_true rfl), ?_⟩
  show pm_w d 80 0 [some (.inr (.inr (some b))), some (.inl (p : Int)), some (.inl (s : Int)), none, none, none, none, none, none] [] (W, R, T) _
  have hn := hB.1
  have hS := hB.2.1
  have hlp := hL p hp
  -- done
  have stop : ∀ W y3 y4 y5 y6 y7 y8, raI V W b n S ln c r p s → (∀ y, fl n S ln c r y → (∀ q' t', q' < n → t' < S → bef q' t' p s → y q' t' = xL W b q' t') → y p s ≤ xL W b p s) → pm_w d 80 187 [some (.inr (.inr (some b))), some (.inl (p : Int)), some (.inl (s : Int)), y3, y4, y5, y6, y7, y8] [] (W, R, T) (raQ V R T b n S ln c r p s) := by
    intro W y3 y4 y5 y6 y7 y8 hI hh
    rw [ux_80_187]
    exact ⟨rfl, W, rfl, rfl, hI.1, hI.2.1, hI.2.2.1, lexU_s hI.2.2.2 hh⟩
  have muB : ∀ W, raI V W b n S ln c r p s → 0 ≤ mu (xL W b) S p s ∧ mu (xL W b) S p s ≤ 1000 := by
    intro W hI
    have l1 := hI.2.1.2.2.2.2.2.1
    have h1 : 0 ≤ mu (xL W b) S p s := sm_nn fun t ht => by have := (l1 p hp t ht).1; split <;> omega
    have h2 : mu (xL W b) S p s ≤ sm (xL W b p) S := sm_le fun t ht => by have := (l1 p hp t ht).1; split <;> omega
    have := hI.2.2.1 p hp
    omega
  have key : ∀ (k j : Nat) (W : Nat → Nat → Int) (last : Int) (y5 y6 y7 y8 : Option pm_V), raI V W b n S ln c r p s → mu (xL W b) S p s ≤ k → (j : Int) + k ≤ 1000 → ((∃ t, s < t ∧ t < S ∧ 0 < xL W b p t ∧ last = (t : Int)) ∨ (last = -1 ∧ ∀ t, s < t → t < S → ¬ 0 < xL W b p t)) → pm_w d 80 10 [some (.inr (.inr (some b))), some (.inl (p : Int)), some (.inl (s : Int)), some (.inl last), some (.inl (j : Int)), y5, y6, y7, y8] [] (W, R, T) (raQ V R T b n S ln c r p s) := by
    intro k
    induction k with
    | zero =>
      intro j W last y5 y6 y7 y8 hI hm hj hlast
      have mb := muB W hI
      have l1 := hI.2.1.2.2.2.2.2.1
      rcases hlast with ⟨t, t1, t2, t3, t4⟩ | ⟨rfl, hz⟩
      · exfalso
        have := sm_ge1 (f := fun t => if s < t then xL W b p t else 0) (n := S) (k := t) (fun u hu => by have := (l1 p hp u hu).1; split <;> omega) t2
        rw [if_pos t1] at this
        unfold mu at mb hm
        omega
      · rw [ux_80_10]
        simp only [ux_80_0, ux_80_1, ux_80_2, ux_80_3, ux_80_7, ux_80_8, ux_80_12, ux_80_14, ux_80_17, ux_80_18, ux_80_21, ux_80_22, ux_80_25, ux_80_26, ux_80_27, ux_80_28, ux_80_29, ux_80_32, ux_80_33, ux_80_34, ux_80_35, ux_80_40, ux_80_42, ux_80_45, ux_80_48, ux_80_49, ux_80_52, ux_80_53, ux_80_56, ux_80_57, ux_80_58, ux_80_60, ux_80_61, ux_80_64, ux_80_65, ux_80_68, ux_80_69, ux_80_71, ux_80_73, ux_80_76, ux_80_78, ux_80_81, ux_80_82, ux_80_84, ux_80_86, ux_80_89, ux_80_90, ux_80_93, ux_80_94, ux_80_95, ux_80_97, ux_80_98, ux_80_101, ux_80_102, ux_80_105, ux_80_106, ux_80_107, ux_80_109, ux_80_110, ux_80_111, ux_80_114, ux_80_116, ux_80_117, ux_80_120, ux_80_123, ux_80_125, ux_80_127, ux_80_132, ux_80_133, ux_80_135, ux_80_137, ux_80_141, ux_80_144, ux_80_146, ux_80_147, ux_80_148, ux_80_150, ux_80_151, ux_80_152, ux_80_153, ux_80_154, ux_80_156, ux_80_158, ux_80_159, ux_80_163, ux_80_166, ux_80_168, ux_80_169, ux_80_170, ux_80_172, ux_80_173, ux_80_175, ux_80_176, ux_80_177, ux_80_181, ux_80_184, pm_i_c, pm_l_c, pm_q_c, pm_r_c, pm_li_0, pm_li_s, pm_ll_0, pm_ll_s, pm_lq_0, pm_lq_s, pm_s1, pm_s2, pm_kl, pm_wI, pm_wR, pm_pu_n, pm_pu_s, pm_wt, List.take_succ_cons, List.take_zero, List.take_nil, List.drop_succ_cons, List.drop_zero, List.reverse_cons, List.reverse_nil, List.nil_append, List.cons_append, List.length_cons, List.length_nil, true_and, and_true, true_implies, tn_l, tn_0, Int.reduceToNat, Int.reduceLE, Int.reduceLT, Int.reduceEq, Int.reduceAdd, Int.reduceSub, Int.reduceMul, Int.reduceNeg, Nat.reduceAdd, Nat.reduceLeDiff, Nat.reduceEqDiff, Nat.reduceSub, Option.some.injEq, Sum.inl.injEq, Sum.inr.injEq, or_true, true_or, reduceCtorEq, ne_eq, not_false_eq_true, not_true_eq_false, false_implies, implies_true, false_and, and_false, false_or, or_false, if_true, if_false, ly_3 hb, ly_4 hb, ly_5 hb, ly_6 hb, ly_7 hb, ly_8 hb, ly_9 hb, ly_t hb, ly_v hb, ly_b1 hb, ly_b2 hb, ly_b3 hb, ly_b16 hb, ly_b29 hb, ly_b30 hb, ly_b31 hb]
        have st := fun y3 y4 y5 y6 y7 y8 => stop W y3 y4 y5 y6 y7 y8 hI (fun y hy ha => by
          have e1 := hy.2 p hp
          have e2 := hI.2.2.1 p hp
          have : sm (y p) S - sm (xL W b p) S ≥ y p s - xL W b p s := by
            rw [← sm_sub]
            have := sm_ge1 (f := fun t => if t = s then y p t - xL W b p t else 0) (n := S) (k := s)
            have e3 : sm (fun t => if t = s then (fun _ => 0) t + (y p s - xL W b p s) else (fun _ => 0) t) S = sm (fun _ => 0) S + (y p s - xL W b p s) := sm_up1 hs
            rw [sm_zero] at e3
            have e4 : sm (fun t => if t = s then (fun _ => 0) t + (y p s - xL W b p s) else (fun _ => 0) t) S ≤ sm (fun t => y p t - xL W b p t) S := by
              refine sm_le fun t ht => ?_
              dsimp only
              by_cases c1 : t = s
              · rw [if_pos c1, c1]; omega
              · rw [if_neg c1]
                by_cases c2 : t < s
                · rw [ha p t hp ht (Or.inr ⟨rfl, c2⟩)]; omega
                · have h1 := hz t (by omega) ht
                  have h2 := (hy.1.1 p hp t ht).1
                  have h3 := (l1 p hp t ht).1
                  omega
            omega
          omega)
        exact ⟨fun z => by omega, fun _ => st _ _ _ _ _ _⟩
    | succ k ih =>
      intro j W last y5 y6 y7 y8 hI hm hj hlast
      have l1 := hI.2.1.2.2.2.2.2.1
      have bd := ly_bd hB hI.2.1
      have i4 := hI.2.1.2.2.2.1
      have stz : (∀ t, s < t → t < S → ¬ 0 < xL W b p t) → ∀ y3 y4 y5 y6 y7 y8, pm_w d 80 187 [some (.inr (.inr (some b))), some (.inl (p : Int)), some (.inl (s : Int)), y3, y4, y5, y6, y7, y8] [] (W, R, T) (raQ V R T b n S ln c r p s) := fun hz y3 y4 y5 y6 y7 y8 => stop W y3 y4 y5 y6 y7 y8 hI (fun y hy ha => by
          have e1 := hy.2 p hp
          have e2 := hI.2.2.1 p hp
          have e3 : sm (fun t => if t = s then (fun _ => 0) t + (y p s - xL W b p s) else (fun _ => 0) t) S = sm (fun _ => 0) S + (y p s - xL W b p s) := sm_up1 hs
          rw [sm_zero] at e3
          have e4 : sm (fun t => if t = s then (fun _ => 0) t + (y p s - xL W b p s) else (fun _ => 0) t) S ≤ sm (fun t => y p t - xL W b p t) S := by
            refine sm_le fun t ht => ?_
            dsimp only
            by_cases c1 : t = s
            · rw [if_pos c1, c1]; omega
            · rw [if_neg c1]
              by_cases c2 : t < s
              · rw [ha p t hp ht (Or.inr ⟨rfl, c2⟩)]; omega
              · have h1 := hz t (by omega) ht
                have h2 := (hy.1.1 p hp t ht).1
                have h3 := (l1 p hp t ht).1
                omega
          have e5 : sm (fun t => y p t - xL W b p t) S = sm (y p) S - sm (xL W b p) S := sm_sub
          omega)
      rcases hlast with ⟨t0, t1, t2, t3, rfl⟩ | ⟨rfl, hz⟩
      · have em : W (b + 17 + p) s = mL W b p s := (mL_eq (by omega)).symm
        rw [ux_80_10]
        simp only [ux_80_0, ux_80_1, ux_80_2, ux_80_3, ux_80_7, ux_80_8, ux_80_12, ux_80_14, ux_80_17, ux_80_18, ux_80_21, ux_80_22, ux_80_25, ux_80_26, ux_80_27, ux_80_28, ux_80_29, ux_80_32, ux_80_33, ux_80_34, ux_80_35, ux_80_40, ux_80_42, ux_80_45, ux_80_48, ux_80_49, ux_80_52, ux_80_53, ux_80_56, ux_80_57, ux_80_58, ux_80_60, ux_80_61, ux_80_64, ux_80_65, ux_80_68, ux_80_69, ux_80_71, ux_80_73, ux_80_76, ux_80_78, ux_80_81, ux_80_82, ux_80_84, ux_80_86, ux_80_89, ux_80_90, ux_80_93, ux_80_94, ux_80_95, ux_80_97, ux_80_98, ux_80_101, ux_80_102, ux_80_105, ux_80_106, ux_80_107, ux_80_109, ux_80_110, ux_80_111, ux_80_114, ux_80_116, ux_80_117, ux_80_120, ux_80_123, ux_80_125, ux_80_127, ux_80_132, ux_80_133, ux_80_135, ux_80_137, ux_80_141, ux_80_144, ux_80_146, ux_80_147, ux_80_148, ux_80_150, ux_80_151, ux_80_152, ux_80_153, ux_80_154, ux_80_156, ux_80_158, ux_80_159, ux_80_163, ux_80_166, ux_80_168, ux_80_169, ux_80_170, ux_80_172, ux_80_173, ux_80_175, ux_80_176, ux_80_177, ux_80_181, ux_80_184, pm_i_c, pm_l_c, pm_q_c, pm_r_c, pm_li_0, pm_li_s, pm_ll_0, pm_ll_s, pm_lq_0, pm_lq_s, pm_s1, pm_s2, pm_kl, pm_wI, pm_wR, pm_pu_n, pm_pu_s, pm_wt, List.take_succ_cons, List.take_zero, List.take_nil, List.drop_succ_cons, List.drop_zero, List.reverse_cons, List.reverse_nil, List.nil_append, List.cons_append, List.length_cons, List.length_nil, true_and, and_true, true_implies, tn_l, tn_0, Int.reduceToNat, Int.reduceLE, Int.reduceLT, Int.reduceEq, Int.reduceAdd, Int.reduceSub, Int.reduceMul, Int.reduceNeg, Nat.reduceAdd, Nat.reduceLeDiff, Nat.reduceEqDiff, Nat.reduceSub, Option.some.injEq, Sum.inl.injEq, Sum.inr.injEq, or_true, true_or, reduceCtorEq, ne_eq, not_false_eq_true, not_true_eq_false, false_implies, implies_true, false_and, and_false, false_or, or_false, if_true, if_false, ly_3 hb, ly_4 hb, ly_5 hb, ly_6 hb, ly_7 hb, ly_8 hb, ly_9 hb, ly_t hb, ly_v hb, ly_b1 hb, ly_b2 hb, ly_b3 hb, ly_b16 hb, ly_b29 hb, ly_b30 hb, ly_b31 hb, ly_m hb (show p < 12 by omega), ly_bm hb (show p < 12 by omega), em]
        refine ⟨fun z => by omega, fun _ => ⟨fun z => by omega, fun _ => ⟨Or.inl (by omega), by omega, fun z => stop W _ _ _ _ _ _ hI (fun y hy ha => ?_), fun z => ?_⟩⟩⟩
        · have h1 := (hy.1.1 p hp s hs).2
          have h2 := i4 p hp s hs
          omega
        · refine pm_ok_mono (c_findSwap (d := d) (V := W) (by omega) hb hB hI.2.1 hp hs (by omega)) ?_
          rintro r0 h2 ⟨W1, rfl, f1, ⟨e, e1, rfl, e3, e4, e5, e6⟩ | ⟨rfl, e2⟩⟩
          · obtain ⟨ex1, em1⟩ := seF_x f1
            have I1 := seF_I f1 hI.2.1
            have bd1 := ly_bd hB I1
            obtain ⟨rp, rs, ht, hrs, hpc, hgp⟩ := bfs_tre2 hn e5
            obtain ⟨rq, hq1, hq⟩ := rq_ex n (W1 (b + 29)) rp
            have hk60 : rs e < 60 := by have := hrs e e1 e3; omega
            -- the swap itself
            have core : ∀ (fr : Nat) (own w : Int), s < fr → fr < S → 0 < w → w ≤ xL W b p fr → (fr = e ∨ w ≤ W (b + 2) e) → pm_w d 80 122 [some (.inr (.inr (some b))), some (.inl (p : Int)), some (.inl (s : Int)), some (.inl (t0 : Int)), some (.inl (j : Int)), some (.inl (e : Int)), some (.inl own), some (.inl (fr : Int)), some (.inl w)] [] (W1, R, T) (raQ V R T b n S ln c r p s) := by
              intro fr own w g1 g2 g3 g4 g5
              rw [ux_80_122]
              simp only [ux_80_0, ux_80_1, ux_80_2, ux_80_3, ux_80_7, ux_80_8, ux_80_12, ux_80_14, ux_80_17, ux_80_18, ux_80_21, ux_80_22, ux_80_25, ux_80_26, ux_80_27, ux_80_28, ux_80_29, ux_80_32, ux_80_33, ux_80_34, ux_80_35, ux_80_40, ux_80_42, ux_80_45, ux_80_48, ux_80_49, ux_80_52, ux_80_53, ux_80_56, ux_80_57, ux_80_58, ux_80_60, ux_80_61, ux_80_64, ux_80_65, ux_80_68, ux_80_69, ux_80_71, ux_80_73, ux_80_76, ux_80_78, ux_80_81, ux_80_82, ux_80_84, ux_80_86, ux_80_89, ux_80_90, ux_80_93, ux_80_94, ux_80_95, ux_80_97, ux_80_98, ux_80_101, ux_80_102, ux_80_105, ux_80_106, ux_80_107, ux_80_109, ux_80_110, ux_80_111, ux_80_114, ux_80_116, ux_80_117, ux_80_120, ux_80_123, ux_80_125, ux_80_127, ux_80_132, ux_80_133, ux_80_135, ux_80_137, ux_80_141, ux_80_144, ux_80_146, ux_80_147, ux_80_148, ux_80_150, ux_80_151, ux_80_152, ux_80_153, ux_80_154, ux_80_156, ux_80_158, ux_80_159, ux_80_163, ux_80_166, ux_80_168, ux_80_169, ux_80_170, ux_80_172, ux_80_173, ux_80_175, ux_80_176, ux_80_177, ux_80_181, ux_80_184, pm_i_c, pm_l_c, pm_q_c, pm_r_c, pm_li_0, pm_li_s, pm_ll_0, pm_ll_s, pm_lq_0, pm_lq_s, pm_s1, pm_s2, pm_kl, pm_wI, pm_wR, pm_pu_n, pm_pu_s, pm_wt, List.take_succ_cons, List.take_zero, List.take_nil, List.drop_succ_cons, List.drop_zero, List.reverse_cons, List.reverse_nil, List.nil_append, List.cons_append, List.length_cons, List.length_nil, true_and, and_true, true_implies, tn_l, tn_0, Int.reduceToNat, Int.reduceLE, Int.reduceLT, Int.reduceEq, Int.reduceAdd, Int.reduceSub, Int.reduceMul, Int.reduceNeg, Nat.reduceAdd, Nat.reduceLeDiff, Nat.reduceEqDiff, Nat.reduceSub, Option.some.injEq, Sum.inl.injEq, Sum.inr.injEq, or_true, true_or, reduceCtorEq, ne_eq, not_false_eq_true, not_true_eq_false, false_implies, implies_true, false_and, and_false, false_or, or_false, if_true, if_false, ly_3 hb, ly_4 hb, ly_5 hb, ly_6 hb, ly_7 hb, ly_8 hb, ly_9 hb, ly_t hb, ly_v hb, ly_b1 hb, ly_b2 hb, ly_b3 hb, ly_b16 hb, ly_b29 hb, ly_b30 hb, ly_b31 hb]
              refine pm_ok_mono (c_narrowest (d := d) (V := W1) (by omega) hb hn hS (by rw [ex1]; exact ht) hq1 hq I1.2.2.2.1 e1 e3 hk60 w g3) ?_
              rintro r0 h2 ⟨v, rfl, rfl, v1, v2, v3⟩
              rw [pm_pu_s, ux_80_130]
              simp only [ux_80_0, ux_80_1, ux_80_2, ux_80_3, ux_80_7, ux_80_8, ux_80_12, ux_80_14, ux_80_17, ux_80_18, ux_80_21, ux_80_22, ux_80_25, ux_80_26, ux_80_27, ux_80_28, ux_80_29, ux_80_32, ux_80_33, ux_80_34, ux_80_35, ux_80_40, ux_80_42, ux_80_45, ux_80_48, ux_80_49, ux_80_52, ux_80_53, ux_80_56, ux_80_57, ux_80_58, ux_80_60, ux_80_61, ux_80_64, ux_80_65, ux_80_68, ux_80_69, ux_80_71, ux_80_73, ux_80_76, ux_80_78, ux_80_81, ux_80_82, ux_80_84, ux_80_86, ux_80_89, ux_80_90, ux_80_93, ux_80_94, ux_80_95, ux_80_97, ux_80_98, ux_80_101, ux_80_102, ux_80_105, ux_80_106, ux_80_107, ux_80_109, ux_80_110, ux_80_111, ux_80_114, ux_80_116, ux_80_117, ux_80_120, ux_80_123, ux_80_125, ux_80_127, ux_80_132, ux_80_133, ux_80_135, ux_80_137, ux_80_141, ux_80_144, ux_80_146, ux_80_147, ux_80_148, ux_80_150, ux_80_151, ux_80_152, ux_80_153, ux_80_154, ux_80_156, ux_80_158, ux_80_159, ux_80_163, ux_80_166, ux_80_168, ux_80_169, ux_80_170, ux_80_172, ux_80_173, ux_80_175, ux_80_176, ux_80_177, ux_80_181, ux_80_184, pm_i_c, pm_l_c, pm_q_c, pm_r_c, pm_li_0, pm_li_s, pm_ll_0, pm_ll_s, pm_lq_0, pm_lq_s, pm_s1, pm_s2, pm_kl, pm_wI, pm_wR, pm_pu_n, pm_pu_s, pm_wt, List.take_succ_cons, List.take_zero, List.take_nil, List.drop_succ_cons, List.drop_zero, List.reverse_cons, List.reverse_nil, List.nil_append, List.cons_append, List.length_cons, List.length_nil, true_and, and_true, true_implies, tn_l, tn_0, Int.reduceToNat, Int.reduceLE, Int.reduceLT, Int.reduceEq, Int.reduceAdd, Int.reduceSub, Int.reduceMul, Int.reduceNeg, Nat.reduceAdd, Nat.reduceLeDiff, Nat.reduceEqDiff, Nat.reduceSub, Option.some.injEq, Sum.inl.injEq, Sum.inr.injEq, or_true, true_or, reduceCtorEq, ne_eq, not_false_eq_true, not_true_eq_false, false_implies, implies_true, false_and, and_false, false_or, or_false, if_true, if_false, ly_3 hb, ly_4 hb, ly_5 hb, ly_6 hb, ly_7 hb, ly_8 hb, ly_9 hb, ly_t hb, ly_v hb, ly_b1 hb, ly_b2 hb, ly_b3 hb, ly_b16 hb, ly_b29 hb, ly_b30 hb, ly_b31 hb]
              have bfr := bd.2.2.1 p hp fr g2
              refine pm_ok_mono (c_moveAlong (d := d) (V := W1) (by omega) hb hn hS (by rw [← ex1] at ht; exact ht) hq1 hq bd1.2.2.1 e1 e3 hk60 (by omega) v (by omega) (by omega)) ?_
              rintro r0 h2 ⟨W2, rfl, rfl, F, hx⟩
              obtain ⟨s1, s2, s3, s4⟩ := ra_swap hB hI hp hs f1 e1 e3 e5 e6 g1 g2 v1 (by omega) (by rcases g5 with z | z; exact Or.inl z; exact Or.inr (by omega)) v3 F hx
              have be := bd.2.1 e e1
              have bfr2 := bd.2.1 fr g2
              have x3 : ∀ y, xL (pm_up W2 (b + 2) e y) b = xL W2 b := fun y => xL_fr fun q hq => pm_up_fr (by omega)
              have m3 : ∀ y, mL (pm_up W2 (b + 2) e y) b = mL W2 b := fun y => mL_fr fun q hq => pm_up_fr (by omega)
              have evm := c_move (d := d) (V := pm_up W2 (b + 2) e (W (b + 2) e - v)) (by omega) hb p fr (by omega) (by omega) (-v) (by rw [x3, s1]; unfold pm_I32; omega) (by rw [m3]; unfold pm_I32; omega)
              rw [x3, m3, Int.neg_neg] at evm
              rw [pm_pu_n, ux_80_140]
              simp only [ux_80_0, ux_80_1, ux_80_2, ux_80_3, ux_80_7, ux_80_8, ux_80_12, ux_80_14, ux_80_17, ux_80_18, ux_80_21, ux_80_22, ux_80_25, ux_80_26, ux_80_27, ux_80_28, ux_80_29, ux_80_32, ux_80_33, ux_80_34, ux_80_35, ux_80_40, ux_80_42, ux_80_45, ux_80_48, ux_80_49, ux_80_52, ux_80_53, ux_80_56, ux_80_57, ux_80_58, ux_80_60, ux_80_61, ux_80_64, ux_80_65, ux_80_68, ux_80_69, ux_80_71, ux_80_73, ux_80_76, ux_80_78, ux_80_81, ux_80_82, ux_80_84, ux_80_86, ux_80_89, ux_80_90, ux_80_93, ux_80_94, ux_80_95, ux_80_97, ux_80_98, ux_80_101, ux_80_102, ux_80_105, ux_80_106, ux_80_107, ux_80_109, ux_80_110, ux_80_111, ux_80_114, ux_80_116, ux_80_117, ux_80_120, ux_80_123, ux_80_125, ux_80_127, ux_80_132, ux_80_133, ux_80_135, ux_80_137, ux_80_141, ux_80_144, ux_80_146, ux_80_147, ux_80_148, ux_80_150, ux_80_151, ux_80_152, ux_80_153, ux_80_154, ux_80_156, ux_80_158, ux_80_159, ux_80_163, ux_80_166, ux_80_168, ux_80_169, ux_80_170, ux_80_172, ux_80_173, ux_80_175, ux_80_176, ux_80_177, ux_80_181, ux_80_184, pm_i_c, pm_l_c, pm_q_c, pm_r_c, pm_li_0, pm_li_s, pm_ll_0, pm_ll_s, pm_lq_0, pm_lq_s, pm_s1, pm_s2, pm_kl, pm_wI, pm_wR, pm_pu_n, pm_pu_s, pm_wt, List.take_succ_cons, List.take_zero, List.take_nil, List.drop_succ_cons, List.drop_zero, List.reverse_cons, List.reverse_nil, List.nil_append, List.cons_append, List.length_cons, List.length_nil, true_and, and_true, true_implies, tn_l, tn_0, Int.reduceToNat, Int.reduceLE, Int.reduceLT, Int.reduceEq, Int.reduceAdd, Int.reduceSub, Int.reduceMul, Int.reduceNeg, Nat.reduceAdd, Nat.reduceLeDiff, Nat.reduceEqDiff, Nat.reduceSub, Option.some.injEq, Sum.inl.injEq, Sum.inr.injEq, or_true, true_or, reduceCtorEq, ne_eq, not_false_eq_true, not_true_eq_false, false_implies, implies_true, false_and, and_false, false_or, or_false, if_true, if_false, ly_3 hb, ly_4 hb, ly_5 hb, ly_6 hb, ly_7 hb, ly_8 hb, ly_9 hb, ly_t hb, ly_v hb, ly_b1 hb, ly_b2 hb, ly_b3 hb, ly_b16 hb, ly_b29 hb, ly_b30 hb, ly_b31 hb, s2, pm_ok_ev evm]
              refine ⟨by omega, by unfold pm_I32; omega, by omega, by unfold pm_I32; omega, ?_⟩
              have efr : pm_up (pm_up (pm_up W2 (b + 2) e (W (b + 2) e - v)) (b + 4 + p) fr (xL W2 b p fr + -v)) (b + 17 + p) fr (mL W2 b p fr + v) (b + 2) fr = if fr = e then W (b + 2) e - v else W (b + 2) fr := by
                rw [pm_up_fr (by omega), pm_up_fr (by omega), pm_up_row, s2]
              rw [ux_80_162]
              simp only [ux_80_0, ux_80_1, ux_80_2, ux_80_3, ux_80_7, ux_80_8, ux_80_12, ux_80_14, ux_80_17, ux_80_18, ux_80_21, ux_80_22, ux_80_25, ux_80_26, ux_80_27, ux_80_28, ux_80_29, ux_80_32, ux_80_33, ux_80_34, ux_80_35, ux_80_40, ux_80_42, ux_80_45, ux_80_48, ux_80_49, ux_80_52, ux_80_53, ux_80_56, ux_80_57, ux_80_58, ux_80_60, ux_80_61, ux_80_64, ux_80_65, ux_80_68, ux_80_69, ux_80_71, ux_80_73, ux_80_76, ux_80_78, ux_80_81, ux_80_82, ux_80_84, ux_80_86, ux_80_89, ux_80_90, ux_80_93, ux_80_94, ux_80_95, ux_80_97, ux_80_98, ux_80_101, ux_80_102, ux_80_105, ux_80_106, ux_80_107, ux_80_109, ux_80_110, ux_80_111, ux_80_114, ux_80_116, ux_80_117, ux_80_120, ux_80_123, ux_80_125, ux_80_127, ux_80_132, ux_80_133, ux_80_135, ux_80_137, ux_80_141, ux_80_144, ux_80_146, ux_80_147, ux_80_148, ux_80_150, ux_80_151, ux_80_152, ux_80_153, ux_80_154, ux_80_156, ux_80_158, ux_80_159, ux_80_163, ux_80_166, ux_80_168, ux_80_169, ux_80_170, ux_80_172, ux_80_173, ux_80_175, ux_80_176, ux_80_177, ux_80_181, ux_80_184, pm_i_c, pm_l_c, pm_q_c, pm_r_c, pm_li_0, pm_li_s, pm_ll_0, pm_ll_s, pm_lq_0, pm_lq_s, pm_s1, pm_s2, pm_kl, pm_wI, pm_wR, pm_pu_n, pm_pu_s, pm_wt, List.take_succ_cons, List.take_zero, List.take_nil, List.drop_succ_cons, List.drop_zero, List.reverse_cons, List.reverse_nil, List.nil_append, List.cons_append, List.length_cons, List.length_nil, true_and, and_true, true_implies, tn_l, tn_0, Int.reduceToNat, Int.reduceLE, Int.reduceLT, Int.reduceEq, Int.reduceAdd, Int.reduceSub, Int.reduceMul, Int.reduceNeg, Nat.reduceAdd, Nat.reduceLeDiff, Nat.reduceEqDiff, Nat.reduceSub, Option.some.injEq, Sum.inl.injEq, Sum.inr.injEq, or_true, true_or, reduceCtorEq, ne_eq, not_false_eq_true, not_true_eq_false, false_implies, implies_true, false_and, and_false, false_or, or_false, if_true, if_false, ly_3 hb, ly_4 hb, ly_5 hb, ly_6 hb, ly_7 hb, ly_8 hb, ly_9 hb, ly_t hb, ly_v hb, ly_b1 hb, ly_b2 hb, ly_b3 hb, ly_b16 hb, ly_b29 hb, ly_b30 hb, ly_b31 hb, efr]
              generalize hW5 : pm_up (pm_up (pm_up (pm_up W2 (b + 2) e (W (b + 2) e - v)) (b + 4 + p) fr (xL W2 b p fr + -v)) (b + 17 + p) fr (mL W2 b p fr + v)) (b + 2) fr ((if fr = e then W (b + 2) e - v else W (b + 2) fr) + v) = W5
              obtain ⟨z1, z2⟩ := s4 W5 hW5.symm
              refine ⟨by omega, by unfold pm_I32; split <;> omega, by omega, ?_⟩
              rw [ux_80_174]
              simp only [ux_80_0, ux_80_1, ux_80_2, ux_80_3, ux_80_7, ux_80_8, ux_80_12, ux_80_14, ux_80_17, ux_80_18, ux_80_21, ux_80_22, ux_80_25, ux_80_26, ux_80_27, ux_80_28, ux_80_29, ux_80_32, ux_80_33, ux_80_34, ux_80_35, ux_80_40, ux_80_42, ux_80_45, ux_80_48, ux_80_49, ux_80_52, ux_80_53, ux_80_56, ux_80_57, ux_80_58, ux_80_60, ux_80_61, ux_80_64, ux_80_65, ux_80_68, ux_80_69, ux_80_71, ux_80_73, ux_80_76, ux_80_78, ux_80_81, ux_80_82, ux_80_84, ux_80_86, ux_80_89, ux_80_90, ux_80_93, ux_80_94, ux_80_95, ux_80_97, ux_80_98, ux_80_101, ux_80_102, ux_80_105, ux_80_106, ux_80_107, ux_80_109, ux_80_110, ux_80_111, ux_80_114, ux_80_116, ux_80_117, ux_80_120, ux_80_123, ux_80_125, ux_80_127, ux_80_132, ux_80_133, ux_80_135, ux_80_137, ux_80_141, ux_80_144, ux_80_146, ux_80_147, ux_80_148, ux_80_150, ux_80_151, ux_80_152, ux_80_153, ux_80_154, ux_80_156, ux_80_158, ux_80_159, ux_80_163, ux_80_166, ux_80_168, ux_80_169, ux_80_170, ux_80_172, ux_80_173, ux_80_175, ux_80_176, ux_80_177, ux_80_181, ux_80_184, pm_i_c, pm_l_c, pm_q_c, pm_r_c, pm_li_0, pm_li_s, pm_ll_0, pm_ll_s, pm_lq_0, pm_lq_s, pm_s1, pm_s2, pm_kl, pm_wI, pm_wR, pm_pu_n, pm_pu_s, pm_wt, List.take_succ_cons, List.take_zero, List.take_nil, List.drop_succ_cons, List.drop_zero, List.reverse_cons, List.reverse_nil, List.nil_append, List.cons_append, List.length_cons, List.length_nil, true_and, and_true, true_implies, tn_l, tn_0, Int.reduceToNat, Int.reduceLE, Int.reduceLT, Int.reduceEq, Int.reduceAdd, Int.reduceSub, Int.reduceMul, Int.reduceNeg, Nat.reduceAdd, Nat.reduceLeDiff, Nat.reduceEqDiff, Nat.reduceSub, Option.some.injEq, Sum.inl.injEq, Sum.inr.injEq, or_true, true_or, reduceCtorEq, ne_eq, not_false_eq_true, not_true_eq_false, false_implies, implies_true, false_and, and_false, false_or, or_false, if_true, if_false, ly_3 hb, ly_4 hb, ly_5 hb, ly_6 hb, ly_7 hb, ly_8 hb, ly_9 hb, ly_t hb, ly_v hb, ly_b1 hb, ly_b2 hb, ly_b3 hb, ly_b16 hb, ly_b29 hb, ly_b30 hb, ly_b31 hb]
              refine pm_ok_mono (c_lastLaid (d := d) (V := W5) (p := p) (s := s) (S := S) (by omega) hb (by omega) hS z1.2.1.1.2) ?_
              rintro r0 h2 ⟨rfl, hll⟩
              have nx : ∀ l : Int, r0 = some (.inl l) → ((∃ t, s < t ∧ t < S ∧ 0 < xL W5 b p t ∧ l = (t : Int)) ∨ (l = -1 ∧ ∀ t, s < t → t < S → ¬ 0 < xL W5 b p t)) → pm_w d 80 180 [some (.inr (.inr (some b))), some (.inl (p : Int)), some (.inl (s : Int)), some (.inl (t0 : Int)), some (.inl (j : Int)), some (.inl (e : Int)), some (.inl own), some (.inl (fr : Int)), some (.inl v)] (pm_pu r0 []) (W5, R, T) (raQ V R T b n S ln c r p s) := by
                intro l hl hh
                rw [hl, pm_pu_s, ux_80_180]
                simp only [ux_80_0, ux_80_1, ux_80_2, ux_80_3, ux_80_7, ux_80_8, ux_80_12, ux_80_14, ux_80_17, ux_80_18, ux_80_21, ux_80_22, ux_80_25, ux_80_26, ux_80_27, ux_80_28, ux_80_29, ux_80_32, ux_80_33, ux_80_34, ux_80_35, ux_80_40, ux_80_42, ux_80_45, ux_80_48, ux_80_49, ux_80_52, ux_80_53, ux_80_56, ux_80_57, ux_80_58, ux_80_60, ux_80_61, ux_80_64, ux_80_65, ux_80_68, ux_80_69, ux_80_71, ux_80_73, ux_80_76, ux_80_78, ux_80_81, ux_80_82, ux_80_84, ux_80_86, ux_80_89, ux_80_90, ux_80_93, ux_80_94, ux_80_95, ux_80_97, ux_80_98, ux_80_101, ux_80_102, ux_80_105, ux_80_106, ux_80_107, ux_80_109, ux_80_110, ux_80_111, ux_80_114, ux_80_116, ux_80_117, ux_80_120, ux_80_123, ux_80_125, ux_80_127, ux_80_132, ux_80_133, ux_80_135, ux_80_137, ux_80_141, ux_80_144, ux_80_146, ux_80_147, ux_80_148, ux_80_150, ux_80_151, ux_80_152, ux_80_153, ux_80_154, ux_80_156, ux_80_158, ux_80_159, ux_80_163, ux_80_166, ux_80_168, ux_80_169, ux_80_170, ux_80_172, ux_80_173, ux_80_175, ux_80_176, ux_80_177, ux_80_181, ux_80_184, pm_i_c, pm_l_c, pm_q_c, pm_r_c, pm_li_0, pm_li_s, pm_ll_0, pm_ll_s, pm_lq_0, pm_lq_s, pm_s1, pm_s2, pm_kl, pm_wI, pm_wR, pm_pu_n, pm_pu_s, pm_wt, List.take_succ_cons, List.take_zero, List.take_nil, List.drop_succ_cons, List.drop_zero, List.reverse_cons, List.reverse_nil, List.nil_append, List.cons_append, List.length_cons, List.length_nil, true_and, and_true, true_implies, tn_l, tn_0, Int.reduceToNat, Int.reduceLE, Int.reduceLT, Int.reduceEq, Int.reduceAdd, Int.reduceSub, Int.reduceMul, Int.reduceNeg, Nat.reduceAdd, Nat.reduceLeDiff, Nat.reduceEqDiff, Nat.reduceSub, Option.some.injEq, Sum.inl.injEq, Sum.inr.injEq, or_true, true_or, reduceCtorEq, ne_eq, not_false_eq_true, not_true_eq_false, false_implies, implies_true, false_and, and_false, false_or, or_false, if_true, if_false, ly_3 hb, ly_4 hb, ly_5 hb, ly_6 hb, ly_7 hb, ly_8 hb, ly_9 hb, ly_t hb, ly_v hb, ly_b1 hb, ly_b2 hb, ly_b3 hb, ly_b16 hb, ly_b29 hb, ly_b30 hb, ly_b31 hb]
                exact ⟨by unfold pm_I32; omega, ih (j + 1) W5 l _ _ _ _ z1 (by omega) (by omega) hh⟩
              rcases hll with ⟨t, u1, u2, u3, u4⟩ | ⟨u1, u2⟩
              · exact nx _ u4 (Or.inl ⟨t, u1, u2, u3, rfl⟩)
              · exact nx _ u1 (Or.inr ⟨rfl, u2⟩)
            have exe : W1 (b + 4 + p) e = xL W b p e := by rw [← ex1, xL_eq (by omega)]
            have ext : W1 (b + 4 + p) t0 = xL W b p t0 := by rw [← ex1, xL_eq (by omega)]
            have ere : W1 (b + 2) e = W (b + 2) e := by rw [f1.1 (b + 2) (by omega) (by omega) (by omega) (by omega)]
            have notown : ¬ (s < e ∧ 0 < xL W b p e) → 0 < min (xL W b p t0) (W (b + 2) e) := fun z => by
              rcases e4 with z2 | z2
              · omega
              · exact absurd z2 z
            rw [pm_pu_s, ux_80_38]
            simp only [ux_80_0, ux_80_1, ux_80_2, ux_80_3, ux_80_7, ux_80_8, ux_80_12, ux_80_14, ux_80_17, ux_80_18, ux_80_21, ux_80_22, ux_80_25, ux_80_26, ux_80_27, ux_80_28, ux_80_29, ux_80_32, ux_80_33, ux_80_34, ux_80_35, ux_80_40, ux_80_42, ux_80_45, ux_80_48, ux_80_49, ux_80_52, ux_80_53, ux_80_56, ux_80_57, ux_80_58, ux_80_60, ux_80_61, ux_80_64, ux_80_65, ux_80_68, ux_80_69, ux_80_71, ux_80_73, ux_80_76, ux_80_78, ux_80_81, ux_80_82, ux_80_84, ux_80_86, ux_80_89, ux_80_90, ux_80_93, ux_80_94, ux_80_95, ux_80_97, ux_80_98, ux_80_101, ux_80_102, ux_80_105, ux_80_106, ux_80_107, ux_80_109, ux_80_110, ux_80_111, ux_80_114, ux_80_116, ux_80_117, ux_80_120, ux_80_123, ux_80_125, ux_80_127, ux_80_132, ux_80_133, ux_80_135, ux_80_137, ux_80_141, ux_80_144, ux_80_146, ux_80_147, ux_80_148, ux_80_150, ux_80_151, ux_80_152, ux_80_153, ux_80_154, ux_80_156, ux_80_158, ux_80_159, ux_80_163, ux_80_166, ux_80_168, ux_80_169, ux_80_170, ux_80_172, ux_80_173, ux_80_175, ux_80_176, ux_80_177, ux_80_181, ux_80_184, pm_i_c, pm_l_c, pm_q_c, pm_r_c, pm_li_0, pm_li_s, pm_ll_0, pm_ll_s, pm_lq_0, pm_lq_s, pm_s1, pm_s2, pm_kl, pm_wI, pm_wR, pm_pu_n, pm_pu_s, pm_wt, List.take_succ_cons, List.take_zero, List.take_nil, List.drop_succ_cons, List.drop_zero, List.reverse_cons, List.reverse_nil, List.nil_append, List.cons_append, List.length_cons, List.length_nil, true_and, and_true, true_implies, tn_l, tn_0, Int.reduceToNat, Int.reduceLE, Int.reduceLT, Int.reduceEq, Int.reduceAdd, Int.reduceSub, Int.reduceMul, Int.reduceNeg, Nat.reduceAdd, Nat.reduceLeDiff, Nat.reduceEqDiff, Nat.reduceSub, Option.some.injEq, Sum.inl.injEq, Sum.inr.injEq, or_true, true_or, reduceCtorEq, ne_eq, not_false_eq_true, not_true_eq_false, false_implies, implies_true, false_and, and_false, false_or, or_false, if_true, if_false, ly_3 hb, ly_4 hb, ly_5 hb, ly_6 hb, ly_7 hb, ly_8 hb, ly_9 hb, ly_t hb, ly_v hb, ly_b1 hb, ly_b2 hb, ly_b3 hb, ly_b16 hb, ly_b29 hb, ly_b30 hb, ly_b31 hb]
            refine ⟨fun _ => ?_, fun z => absurd (by omega) z⟩
            rw [ux_80_46]
            simp only [ux_80_0, ux_80_1, ux_80_2, ux_80_3, ux_80_7, ux_80_8, ux_80_12, ux_80_14, ux_80_17, ux_80_18, ux_80_21, ux_80_22, ux_80_25, ux_80_26, ux_80_27, ux_80_28, ux_80_29, ux_80_32, ux_80_33, ux_80_34, ux_80_35, ux_80_40, ux_80_42, ux_80_45, ux_80_48, ux_80_49, ux_80_52, ux_80_53, ux_80_56, ux_80_57, ux_80_58, ux_80_60, ux_80_61, ux_80_64, ux_80_65, ux_80_68, ux_80_69, ux_80_71, ux_80_73, ux_80_76, ux_80_78, ux_80_81, ux_80_82, ux_80_84, ux_80_86, ux_80_89, ux_80_90, ux_80_93, ux_80_94, ux_80_95, ux_80_97, ux_80_98, ux_80_101, ux_80_102, ux_80_105, ux_80_106, ux_80_107, ux_80_109, ux_80_110, ux_80_111, ux_80_114, ux_80_116, ux_80_117, ux_80_120, ux_80_123, ux_80_125, ux_80_127, ux_80_132, ux_80_133, ux_80_135, ux_80_137, ux_80_141, ux_80_144, ux_80_146, ux_80_147, ux_80_148, ux_80_150, ux_80_151, ux_80_152, ux_80_153, ux_80_154, ux_80_156, ux_80_158, ux_80_159, ux_80_163, ux_80_166, ux_80_168, ux_80_169, ux_80_170, ux_80_172, ux_80_173, ux_80_175, ux_80_176, ux_80_177, ux_80_181, ux_80_184, pm_i_c, pm_l_c, pm_q_c, pm_r_c, pm_li_0, pm_li_s, pm_ll_0, pm_ll_s, pm_lq_0, pm_lq_s, pm_s1, pm_s2, pm_kl, pm_wI, pm_wR, pm_pu_n, pm_pu_s, pm_wt, List.take_succ_cons, List.take_zero, List.take_nil, List.drop_succ_cons, List.drop_zero, List.reverse_cons, List.reverse_nil, List.nil_append, List.cons_append, List.length_cons, List.length_nil, true_and, and_true, true_implies, tn_l, tn_0, Int.reduceToNat, Int.reduceLE, Int.reduceLT, Int.reduceEq, Int.reduceAdd, Int.reduceSub, Int.reduceMul, Int.reduceNeg, Nat.reduceAdd, Nat.reduceLeDiff, Nat.reduceEqDiff, Nat.reduceSub, Option.some.injEq, Sum.inl.injEq, Sum.inr.injEq, or_true, true_or, reduceCtorEq, ne_eq, not_false_eq_true, not_true_eq_false, false_implies, implies_true, false_and, and_false, false_or, or_false, if_true, if_false, ly_3 hb, ly_4 hb, ly_5 hb, ly_6 hb, ly_7 hb, ly_8 hb, ly_9 hb, ly_t hb, ly_v hb, ly_b1 hb, ly_b2 hb, ly_b3 hb, ly_b16 hb, ly_b29 hb, ly_b30 hb, ly_b31 hb, ly_x hb (show p < 12 by omega), ly_bx hb (show p < 12 by omega), exe, ext, ere]
            refine ⟨fun c1 => ⟨Or.inl (by omega), by omega, by omega, core t0 0 _ t1 t2 (notown (by omega)) (by omega) (Or.inr (by omega))⟩, fun c1 => ⟨Or.inl (by omega), by omega, fun c2 => ⟨Or.inl (by omega), by omega, by omega, core t0 0 _ t1 t2 (notown (by omega)) (by omega) (Or.inr (by omega))⟩, fun c2 => ⟨Or.inl (by omega), by omega, core e 1 _ (by omega) e1 (by omega) (Int.le_refl _) (Or.inl rfl)⟩⟩⟩
          · rw [pm_pu_s, ux_80_38]
            simp only [ux_80_0, ux_80_1, ux_80_2, ux_80_3, ux_80_7, ux_80_8, ux_80_12, ux_80_14, ux_80_17, ux_80_18, ux_80_21, ux_80_22, ux_80_25, ux_80_26, ux_80_27, ux_80_28, ux_80_29, ux_80_32, ux_80_33, ux_80_34, ux_80_35, ux_80_40, ux_80_42, ux_80_45, ux_80_48, ux_80_49, ux_80_52, ux_80_53, ux_80_56, ux_80_57, ux_80_58, ux_80_60, ux_80_61, ux_80_64, ux_80_65, ux_80_68, ux_80_69, ux_80_71, ux_80_73, ux_80_76, ux_80_78, ux_80_81, ux_80_82, ux_80_84, ux_80_86, ux_80_89, ux_80_90, ux_80_93, ux_80_94, ux_80_95, ux_80_97, ux_80_98, ux_80_101, ux_80_102, ux_80_105, ux_80_106, ux_80_107, ux_80_109, ux_80_110, ux_80_111, ux_80_114, ux_80_116, ux_80_117, ux_80_120, ux_80_123, ux_80_125, ux_80_127, ux_80_132, ux_80_133, ux_80_135, ux_80_137, ux_80_141, ux_80_144, ux_80_146, ux_80_147, ux_80_148, ux_80_150, ux_80_151, ux_80_152, ux_80_153, ux_80_154, ux_80_156, ux_80_158, ux_80_159, ux_80_163, ux_80_166, ux_80_168, ux_80_169, ux_80_170, ux_80_172, ux_80_173, ux_80_175, ux_80_176, ux_80_177, ux_80_181, ux_80_184, pm_i_c, pm_l_c, pm_q_c, pm_r_c, pm_li_0, pm_li_s, pm_ll_0, pm_ll_s, pm_lq_0, pm_lq_s, pm_s1, pm_s2, pm_kl, pm_wI, pm_wR, pm_pu_n, pm_pu_s, pm_wt, List.take_succ_cons, List.take_zero, List.take_nil, List.drop_succ_cons, List.drop_zero, List.reverse_cons, List.reverse_nil, List.nil_append, List.cons_append, List.length_cons, List.length_nil, true_and, and_true, true_implies, tn_l, tn_0, Int.reduceToNat, Int.reduceLE, Int.reduceLT, Int.reduceEq, Int.reduceAdd, Int.reduceSub, Int.reduceMul, Int.reduceNeg, Nat.reduceAdd, Nat.reduceLeDiff, Nat.reduceEqDiff, Nat.reduceSub, Option.some.injEq, Sum.inl.injEq, Sum.inr.injEq, or_true, true_or, reduceCtorEq, ne_eq, not_false_eq_true, not_true_eq_false, false_implies, implies_true, false_and, and_false, false_or, or_false, if_true, if_false, ly_3 hb, ly_4 hb, ly_5 hb, ly_6 hb, ly_7 hb, ly_8 hb, ly_9 hb, ly_t hb, ly_v hb, ly_b1 hb, ly_b2 hb, ly_b3 hb, ly_b16 hb, ly_b29 hb, ly_b30 hb, ly_b31 hb]
            obtain ⟨ex1, em1⟩ := seF_x f1
            refine ⟨W1, rfl, rfl, lyF_tr hI.1 (seF_ly f1), seF_I f1 hI.2.1, by rw [ex1]; exact hI.2.2.1, ?_⟩
            rw [ex1]
            exact lexU_s hI.2.2.2 (e2 hI.2.2.1)
      · rw [ux_80_10]
        simp only [ux_80_0, ux_80_1, ux_80_2, ux_80_3, ux_80_7, ux_80_8, ux_80_12, ux_80_14, ux_80_17, ux_80_18, ux_80_21, ux_80_22, ux_80_25, ux_80_26, ux_80_27, ux_80_28, ux_80_29, ux_80_32, ux_80_33, ux_80_34, ux_80_35, ux_80_40, ux_80_42, ux_80_45, ux_80_48, ux_80_49, ux_80_52, ux_80_53, ux_80_56, ux_80_57, ux_80_58, ux_80_60, ux_80_61, ux_80_64, ux_80_65, ux_80_68, ux_80_69, ux_80_71, ux_80_73, ux_80_76, ux_80_78, ux_80_81, ux_80_82, ux_80_84, ux_80_86, ux_80_89, ux_80_90, ux_80_93, ux_80_94, ux_80_95, ux_80_97, ux_80_98, ux_80_101, ux_80_102, ux_80_105, ux_80_106, ux_80_107, ux_80_109, ux_80_110, ux_80_111, ux_80_114, ux_80_116, ux_80_117, ux_80_120, ux_80_123, ux_80_125, ux_80_127, ux_80_132, ux_80_133, ux_80_135, ux_80_137, ux_80_141, ux_80_144, ux_80_146, ux_80_147, ux_80_148, ux_80_150, ux_80_151, ux_80_152, ux_80_153, ux_80_154, ux_80_156, ux_80_158, ux_80_159, ux_80_163, ux_80_166, ux_80_168, ux_80_169, ux_80_170, ux_80_172, ux_80_173, ux_80_175, ux_80_176, ux_80_177, ux_80_181, ux_80_184, pm_i_c, pm_l_c, pm_q_c, pm_r_c, pm_li_0, pm_li_s, pm_ll_0, pm_ll_s, pm_lq_0, pm_lq_s, pm_s1, pm_s2, pm_kl, pm_wI, pm_wR, pm_pu_n, pm_pu_s, pm_wt, List.take_succ_cons, List.take_zero, List.take_nil, List.drop_succ_cons, List.drop_zero, List.reverse_cons, List.reverse_nil, List.nil_append, List.cons_append, List.length_cons, List.length_nil, true_and, and_true, true_implies, tn_l, tn_0, Int.reduceToNat, Int.reduceLE, Int.reduceLT, Int.reduceEq, Int.reduceAdd, Int.reduceSub, Int.reduceMul, Int.reduceNeg, Nat.reduceAdd, Nat.reduceLeDiff, Nat.reduceEqDiff, Nat.reduceSub, Option.some.injEq, Sum.inl.injEq, Sum.inr.injEq, or_true, true_or, reduceCtorEq, ne_eq, not_false_eq_true, not_true_eq_false, false_implies, implies_true, false_and, and_false, false_or, or_false, if_true, if_false, ly_3 hb, ly_4 hb, ly_5 hb, ly_6 hb, ly_7 hb, ly_8 hb, ly_9 hb, ly_t hb, ly_v hb, ly_b1 hb, ly_b2 hb, ly_b3 hb, ly_b16 hb, ly_b29 hb, ly_b30 hb, ly_b31 hb]
        exact ⟨fun z => by omega, fun _ => stz hz _ _ _ _ _ _⟩
  simp only [ux_80_0, ux_80_1, ux_80_2, ux_80_3, ux_80_7, ux_80_8, ux_80_12, ux_80_14, ux_80_17, ux_80_18, ux_80_21, ux_80_22, ux_80_25, ux_80_26, ux_80_27, ux_80_28, ux_80_29, ux_80_32, ux_80_33, ux_80_34, ux_80_35, ux_80_40, ux_80_42, ux_80_45, ux_80_48, ux_80_49, ux_80_52, ux_80_53, ux_80_56, ux_80_57, ux_80_58, ux_80_60, ux_80_61, ux_80_64, ux_80_65, ux_80_68, ux_80_69, ux_80_71, ux_80_73, ux_80_76, ux_80_78, ux_80_81, ux_80_82, ux_80_84, ux_80_86, ux_80_89, ux_80_90, ux_80_93, ux_80_94, ux_80_95, ux_80_97, ux_80_98, ux_80_101, ux_80_102, ux_80_105, ux_80_106, ux_80_107, ux_80_109, ux_80_110, ux_80_111, ux_80_114, ux_80_116, ux_80_117, ux_80_120, ux_80_123, ux_80_125, ux_80_127, ux_80_132, ux_80_133, ux_80_135, ux_80_137, ux_80_141, ux_80_144, ux_80_146, ux_80_147, ux_80_148, ux_80_150, ux_80_151, ux_80_152, ux_80_153, ux_80_154, ux_80_156, ux_80_158, ux_80_159, ux_80_163, ux_80_166, ux_80_168, ux_80_169, ux_80_170, ux_80_172, ux_80_173, ux_80_175, ux_80_176, ux_80_177, ux_80_181, ux_80_184, pm_i_c, pm_l_c, pm_q_c, pm_r_c, pm_li_0, pm_li_s, pm_ll_0, pm_ll_s, pm_lq_0, pm_lq_s, pm_s1, pm_s2, pm_kl, pm_wI, pm_wR, pm_pu_n, pm_pu_s, pm_wt, List.take_succ_cons, List.take_zero, List.take_nil, List.drop_succ_cons, List.drop_zero, List.reverse_cons, List.reverse_nil, List.nil_append, List.cons_append, List.length_cons, List.length_nil, true_and, and_true, true_implies, tn_l, tn_0, Int.reduceToNat, Int.reduceLE, Int.reduceLT, Int.reduceEq, Int.reduceAdd, Int.reduceSub, Int.reduceMul, Int.reduceNeg, Nat.reduceAdd, Nat.reduceLeDiff, Nat.reduceEqDiff, Nat.reduceSub, Option.some.injEq, Sum.inl.injEq, Sum.inr.injEq, or_true, true_or, reduceCtorEq, ne_eq, not_false_eq_true, not_true_eq_false, false_implies, implies_true, false_and, and_false, false_or, or_false, if_true, if_false, ly_3 hb, ly_4 hb, ly_5 hb, ly_6 hb, ly_7 hb, ly_8 hb, ly_9 hb, ly_t hb, ly_v hb, ly_b1 hb, ly_b2 hb, ly_b3 hb, ly_b16 hb, ly_b29 hb, ly_b30 hb, ly_b31 hb]
  refine pm_ok_mono (c_lastLaid (d := d) (V := W) (p := p) (s := s) (S := S) (by omega) hb (by omega) hS hI.2.1.1.2) ?_
  rintro r0 h2 ⟨rfl, hll⟩
  have mb := muB W hI
  have nx : ∀ l : Int, r0 = some (.inl l) → ((∃ t, s < t ∧ t < S ∧ 0 < xL W b p t ∧ l = (t : Int)) ∨ (l = -1 ∧ ∀ t, s < t → t < S → ¬ 0 < xL W b p t)) → pm_w d 80 6 [some (.inr (.inr (some b))), some (.inl (p : Int)), some (.inl (s : Int)), none, none, none, none, none, none] (pm_pu r0 []) (W, R, T) (raQ V R T b n S ln c r p s) := by
    intro l hl hh
    rw [hl, pm_pu_s, ux_80_6]
    simp only [ux_80_0, ux_80_1, ux_80_2, ux_80_3, ux_80_7, ux_80_8, ux_80_12, ux_80_14, ux_80_17, ux_80_18, ux_80_21, ux_80_22, ux_80_25, ux_80_26, ux_80_27, ux_80_28, ux_80_29, ux_80_32, ux_80_33, ux_80_34, ux_80_35, ux_80_40, ux_80_42, ux_80_45, ux_80_48, ux_80_49, ux_80_52, ux_80_53, ux_80_56, ux_80_57, ux_80_58, ux_80_60, ux_80_61, ux_80_64, ux_80_65, ux_80_68, ux_80_69, ux_80_71, ux_80_73, ux_80_76, ux_80_78, ux_80_81, ux_80_82, ux_80_84, ux_80_86, ux_80_89, ux_80_90, ux_80_93, ux_80_94, ux_80_95, ux_80_97, ux_80_98, ux_80_101, ux_80_102, ux_80_105, ux_80_106, ux_80_107, ux_80_109, ux_80_110, ux_80_111, ux_80_114, ux_80_116, ux_80_117, ux_80_120, ux_80_123, ux_80_125, ux_80_127, ux_80_132, ux_80_133, ux_80_135, ux_80_137, ux_80_141, ux_80_144, ux_80_146, ux_80_147, ux_80_148, ux_80_150, ux_80_151, ux_80_152, ux_80_153, ux_80_154, ux_80_156, ux_80_158, ux_80_159, ux_80_163, ux_80_166, ux_80_168, ux_80_169, ux_80_170, ux_80_172, ux_80_173, ux_80_175, ux_80_176, ux_80_177, ux_80_181, ux_80_184, pm_i_c, pm_l_c, pm_q_c, pm_r_c, pm_li_0, pm_li_s, pm_ll_0, pm_ll_s, pm_lq_0, pm_lq_s, pm_s1, pm_s2, pm_kl, pm_wI, pm_wR, pm_pu_n, pm_pu_s, pm_wt, List.take_succ_cons, List.take_zero, List.take_nil, List.drop_succ_cons, List.drop_zero, List.reverse_cons, List.reverse_nil, List.nil_append, List.cons_append, List.length_cons, List.length_nil, true_and, and_true, true_implies, tn_l, tn_0, Int.reduceToNat, Int.reduceLE, Int.reduceLT, Int.reduceEq, Int.reduceAdd, Int.reduceSub, Int.reduceMul, Int.reduceNeg, Nat.reduceAdd, Nat.reduceLeDiff, Nat.reduceEqDiff, Nat.reduceSub, Option.some.injEq, Sum.inl.injEq, Sum.inr.injEq, or_true, true_or, reduceCtorEq, ne_eq, not_false_eq_true, not_true_eq_false, false_implies, implies_true, false_and, and_false, false_or, or_false, if_true, if_false, ly_3 hb, ly_4 hb, ly_5 hb, ly_6 hb, ly_7 hb, ly_8 hb, ly_9 hb, ly_t hb, ly_v hb, ly_b1 hb, ly_b2 hb, ly_b3 hb, ly_b16 hb, ly_b29 hb, ly_b30 hb, ly_b31 hb]
    exact key 1000 0 W l _ _ _ _ hI (by omega) (by omega) hh
  rcases hll with ⟨t, u1, u2, u3, u4⟩ | ⟨u1, u2⟩
  · exact nx _ u4 (Or.inl ⟨t, u1, u2, u3, rfl⟩)
  · exact nx _ u1 (Or.inr ⟨rfl, u2⟩)
theorem c_weave (hd : 5 ≤ d) (hb : lyq R T b) (hB : ntB n S ln c r) (hL : ∀ q, q < n → ln q ≤ 1000) (hI : lyI V b n S ln c r) (hF : ∀ q, q < n → sm (xL V b q) S = ln q) : pm_ok d 79 [.inr (.inr (some b))] (V, R, T) (fun r0 h2 => ∃ W, h2 = (W, R, T) ∧ r0 = none ∧ raI V W b n S ln c r n 0) := by
  obtain ⟨d, rfl⟩ : ∃ k, d = k + 1 := ⟨d - 1, by omega⟩
  refine pm_ok_iff.mpr ⟨(Nat.le_of_ble_eq_true rfl), ?_⟩
  show pm_w d 79 0 [some (.inr (.inr (some b))), none, none] [] (V, R, T) _
  generalize hQ : (fun (r0 : Option pm_V) (h2 : pm_H) => ∃ W, h2 = (W, R, T) ∧ r0 = none ∧ raI V W b n S ln c r n 0) = Q
  have hn := hB.1
  have hS := hB.2.1
  simp only [ux_79_0, ux_79_1, ux_79_3, ux_79_4, ux_79_7, ux_79_10, ux_79_11, ux_79_13, ux_79_14, ux_79_17, ux_79_20, ux_79_21, ux_79_22, ux_79_23, ux_79_29, ux_79_32, ux_79_35, pm_i_c, pm_l_c, pm_q_c, pm_r_c, pm_li_0, pm_li_s, pm_ll_0, pm_ll_s, pm_lq_0, pm_lq_s, pm_s1, pm_s2, pm_kl, pm_wI, pm_wR, pm_pu_n, pm_pu_s, pm_wt, List.take_succ_cons, List.take_zero, List.take_nil, List.drop_succ_cons, List.drop_zero, List.reverse_cons, List.reverse_nil, List.nil_append, List.cons_append, List.length_cons, List.length_nil, true_and, and_true, true_implies, tn_l, tn_0, Int.reduceToNat, Int.reduceLE, Int.reduceLT, Int.reduceEq, Int.reduceAdd, Int.reduceSub, Int.reduceMul, Int.reduceNeg, Nat.reduceAdd, Nat.reduceLeDiff, Nat.reduceEqDiff, Nat.reduceSub, Option.some.injEq, Sum.inl.injEq, Sum.inr.injEq, or_true, true_or, reduceCtorEq, ne_eq, not_false_eq_true, not_true_eq_false, false_implies, implies_true, false_and, and_false, false_or, or_false, if_true, if_false, ly_3 hb, ly_4 hb, ly_5 hb, ly_6 hb, ly_7 hb, ly_8 hb, ly_9 hb, ly_t hb, ly_v hb, ly_b1 hb, ly_b2 hb, ly_b3 hb, ly_b16 hb, ly_b29 hb, ly_b30 hb, ly_b31 hb]
  refine pm_up0 (fun i => ∀ W y, raI V W b n S ln c r i 0 → pm_w d 79 2 [some (.inr (.inr (some b))), some (.inl (i : Int)), y] [] (W, R, T) Q) n ?_ ?_ V none ⟨fun _ _ => rfl, hI, hF, lexU_z⟩
  · intro W y w1
    rw [ux_79_2]
    simp only [ux_79_0, ux_79_1, ux_79_3, ux_79_4, ux_79_7, ux_79_10, ux_79_11, ux_79_13, ux_79_14, ux_79_17, ux_79_20, ux_79_21, ux_79_22, ux_79_23, ux_79_29, ux_79_32, ux_79_35, pm_i_c, pm_l_c, pm_q_c, pm_r_c, pm_li_0, pm_li_s, pm_ll_0, pm_ll_s, pm_lq_0, pm_lq_s, pm_s1, pm_s2, pm_kl, pm_wI, pm_wR, pm_pu_n, pm_pu_s, pm_wt, List.take_succ_cons, List.take_zero, List.take_nil, List.drop_succ_cons, List.drop_zero, List.reverse_cons, List.reverse_nil, List.nil_append, List.cons_append, List.length_cons, List.length_nil, true_and, and_true, true_implies, tn_l, tn_0, Int.reduceToNat, Int.reduceLE, Int.reduceLT, Int.reduceEq, Int.reduceAdd, Int.reduceSub, Int.reduceMul, Int.reduceNeg, Nat.reduceAdd, Nat.reduceLeDiff, Nat.reduceEqDiff, Nat.reduceSub, Option.some.injEq, Sum.inl.injEq, Sum.inr.injEq, or_true, true_or, reduceCtorEq, ne_eq, not_false_eq_true, not_true_eq_false, false_implies, implies_true, false_and, and_false, false_or, or_false, if_true, if_false, ly_3 hb, ly_4 hb, ly_5 hb, ly_6 hb, ly_7 hb, ly_8 hb, ly_9 hb, ly_t hb, ly_v hb, ly_b1 hb, ly_b2 hb, ly_b3 hb, ly_b16 hb, ly_b29 hb, ly_b30 hb, ly_b31 hb, w1.2.1.1.1]
    refine ⟨fun _ => ?_, fun z => absurd (Int.le_refl _) z⟩
    rw [ux_79_38, ← hQ]
    exact ⟨rfl, W, rfl, rfl, w1⟩
  · intro i hi ih W y w1
    rw [ux_79_2]
    simp only [ux_79_0, ux_79_1, ux_79_3, ux_79_4, ux_79_7, ux_79_10, ux_79_11, ux_79_13, ux_79_14, ux_79_17, ux_79_20, ux_79_21, ux_79_22, ux_79_23, ux_79_29, ux_79_32, ux_79_35, pm_i_c, pm_l_c, pm_q_c, pm_r_c, pm_li_0, pm_li_s, pm_ll_0, pm_ll_s, pm_lq_0, pm_lq_s, pm_s1, pm_s2, pm_kl, pm_wI, pm_wR, pm_pu_n, pm_pu_s, pm_wt, List.take_succ_cons, List.take_zero, List.take_nil, List.drop_succ_cons, List.drop_zero, List.reverse_cons, List.reverse_nil, List.nil_append, List.cons_append, List.length_cons, List.length_nil, true_and, and_true, true_implies, tn_l, tn_0, Int.reduceToNat, Int.reduceLE, Int.reduceLT, Int.reduceEq, Int.reduceAdd, Int.reduceSub, Int.reduceMul, Int.reduceNeg, Nat.reduceAdd, Nat.reduceLeDiff, Nat.reduceEqDiff, Nat.reduceSub, Option.some.injEq, Sum.inl.injEq, Sum.inr.injEq, or_true, true_or, reduceCtorEq, ne_eq, not_false_eq_true, not_true_eq_false, false_implies, implies_true, false_and, and_false, false_or, or_false, if_true, if_false, ly_3 hb, ly_4 hb, ly_5 hb, ly_6 hb, ly_7 hb, ly_8 hb, ly_9 hb, ly_t hb, ly_v hb, ly_b1 hb, ly_b2 hb, ly_b3 hb, ly_b16 hb, ly_b29 hb, ly_b30 hb, ly_b31 hb, w1.2.1.1.1]
    refine ⟨fun z => by omega, fun _ => ?_⟩
    refine pm_up0 (fun s => ∀ W, raI V W b n S ln c r i s → pm_w d 79 12 [some (.inr (.inr (some b))), some (.inl (i : Int)), some (.inl (s : Int))] [] (W, R, T) Q) S ?_ ?_ W w1
    · intro W w1
      rw [ux_79_12]
      simp only [ux_79_0, ux_79_1, ux_79_3, ux_79_4, ux_79_7, ux_79_10, ux_79_11, ux_79_13, ux_79_14, ux_79_17, ux_79_20, ux_79_21, ux_79_22, ux_79_23, ux_79_29, ux_79_32, ux_79_35, pm_i_c, pm_l_c, pm_q_c, pm_r_c, pm_li_0, pm_li_s, pm_ll_0, pm_ll_s, pm_lq_0, pm_lq_s, pm_s1, pm_s2, pm_kl, pm_wI, pm_wR, pm_pu_n, pm_pu_s, pm_wt, List.take_succ_cons, List.take_zero, List.take_nil, List.drop_succ_cons, List.drop_zero, List.reverse_cons, List.reverse_nil, List.nil_append, List.cons_append, List.length_cons, List.length_nil, true_and, and_true, true_implies, tn_l, tn_0, Int.reduceToNat, Int.reduceLE, Int.reduceLT, Int.reduceEq, Int.reduceAdd, Int.reduceSub, Int.reduceMul, Int.reduceNeg, Nat.reduceAdd, Nat.reduceLeDiff, Nat.reduceEqDiff, Nat.reduceSub, Option.some.injEq, Sum.inl.injEq, Sum.inr.injEq, or_true, true_or, reduceCtorEq, ne_eq, not_false_eq_true, not_true_eq_false, false_implies, implies_true, false_and, and_false, false_or, or_false, if_true, if_false, ly_3 hb, ly_4 hb, ly_5 hb, ly_6 hb, ly_7 hb, ly_8 hb, ly_9 hb, ly_t hb, ly_v hb, ly_b1 hb, ly_b2 hb, ly_b3 hb, ly_b16 hb, ly_b29 hb, ly_b30 hb, ly_b31 hb, w1.2.1.1.2]
      exact ⟨fun _ => ⟨by unfold pm_I32; omega, ih W _ ⟨w1.1, w1.2.1, w1.2.2.1, lexU_p w1.2.2.2⟩⟩, fun z => absurd (Int.le_refl _) z⟩
    · intro s hs ih2 W w1
      rw [ux_79_12]
      simp only [ux_79_0, ux_79_1, ux_79_3, ux_79_4, ux_79_7, ux_79_10, ux_79_11, ux_79_13, ux_79_14, ux_79_17, ux_79_20, ux_79_21, ux_79_22, ux_79_23, ux_79_29, ux_79_32, ux_79_35, pm_i_c, pm_l_c, pm_q_c, pm_r_c, pm_li_0, pm_li_s, pm_ll_0, pm_ll_s, pm_lq_0, pm_lq_s, pm_s1, pm_s2, pm_kl, pm_wI, pm_wR, pm_pu_n, pm_pu_s, pm_wt, List.take_succ_cons, List.take_zero, List.take_nil, List.drop_succ_cons, List.drop_zero, List.reverse_cons, List.reverse_nil, List.nil_append, List.cons_append, List.length_cons, List.length_nil, true_and, and_true, true_implies, tn_l, tn_0, Int.reduceToNat, Int.reduceLE, Int.reduceLT, Int.reduceEq, Int.reduceAdd, Int.reduceSub, Int.reduceMul, Int.reduceNeg, Nat.reduceAdd, Nat.reduceLeDiff, Nat.reduceEqDiff, Nat.reduceSub, Option.some.injEq, Sum.inl.injEq, Sum.inr.injEq, or_true, true_or, reduceCtorEq, ne_eq, not_false_eq_true, not_true_eq_false, false_implies, implies_true, false_and, and_false, false_or, or_false, if_true, if_false, ly_3 hb, ly_4 hb, ly_5 hb, ly_6 hb, ly_7 hb, ly_8 hb, ly_9 hb, ly_t hb, ly_v hb, ly_b1 hb, ly_b2 hb, ly_b3 hb, ly_b16 hb, ly_b29 hb, ly_b30 hb, ly_b31 hb, w1.2.1.1.2]
      refine ⟨fun z => by omega, fun _ => ?_⟩
      refine pm_ok_mono (c_raise (d := d) (V := V) (W := W) (by omega) hb hB hL hi hs w1) ?_
      rintro r0 h2 ⟨W2, rfl, rfl, z⟩
      rw [pm_pu_n, ux_79_26]
      simp only [ux_79_0, ux_79_1, ux_79_3, ux_79_4, ux_79_7, ux_79_10, ux_79_11, ux_79_13, ux_79_14, ux_79_17, ux_79_20, ux_79_21, ux_79_22, ux_79_23, ux_79_29, ux_79_32, ux_79_35, pm_i_c, pm_l_c, pm_q_c, pm_r_c, pm_li_0, pm_li_s, pm_ll_0, pm_ll_s, pm_lq_0, pm_lq_s, pm_s1, pm_s2, pm_kl, pm_wI, pm_wR, pm_pu_n, pm_pu_s, pm_wt, List.take_succ_cons, List.take_zero, List.take_nil, List.drop_succ_cons, List.drop_zero, List.reverse_cons, List.reverse_nil, List.nil_append, List.cons_append, List.length_cons, List.length_nil, true_and, and_true, true_implies, tn_l, tn_0, Int.reduceToNat, Int.reduceLE, Int.reduceLT, Int.reduceEq, Int.reduceAdd, Int.reduceSub, Int.reduceMul, Int.reduceNeg, Nat.reduceAdd, Nat.reduceLeDiff, Nat.reduceEqDiff, Nat.reduceSub, Option.some.injEq, Sum.inl.injEq, Sum.inr.injEq, or_true, true_or, reduceCtorEq, ne_eq, not_false_eq_true, not_true_eq_false, false_implies, implies_true, false_and, and_false, false_or, or_false, if_true, if_false, ly_3 hb, ly_4 hb, ly_5 hb, ly_6 hb, ly_7 hb, ly_8 hb, ly_9 hb, ly_t hb, ly_v hb, ly_b1 hb, ly_b2 hb, ly_b3 hb, ly_b16 hb, ly_b29 hb, ly_b30 hb, ly_b31 hb]
      exact ⟨by unfold pm_I32; omega, ih2 W2 z⟩
end
