/-! THE REFERENCE: lies, on, cuts -/
def stA (f : Nat → Int) (t : Int) : Nat → Nat → Nat
  | 0, k => k
  | r + 1, k => if f k ≤ t ∧ t < f (k + 1) then k else stA f t r (k + 1)
theorem stA_bd {f : Nat → Int} {t : Int} : ∀ (r k : Nat), k ≤ stA f t r k ∧ stA f t r k ≤ k + r ∧ (stA f t r k < k + r → f (stA f t r k) ≤ t ∧ t < f (stA f t r k + 1))
  | 0, k => ⟨Nat.le_refl _, Nat.le_refl _, fun h => absurd h (Nat.lt_irrefl _)⟩
  | r + 1, k => by
    unfold stA
    by_cases c : f k ≤ t ∧ t < f (k + 1)
    · rw [if_pos c]; exact ⟨Nat.le_refl _, by omega, fun _ => c⟩
    · rw [if_neg c]
      obtain ⟨a, b, e⟩ := stA_bd (f := f) (t := t) r (k + 1)
      exact ⟨by omega, by omega, fun z => e (by omega)⟩
theorem stA_congr {f g : Nat → Int} {t : Int} : ∀ (r k : Nat), (∀ j, k ≤ j → j ≤ k + r → f j = g j) → stA f t r k = stA g t r k
  | 0, _, _ => rfl
  | r + 1, k, h => by
    unfold stA
    rw [h k (Nat.le_refl _) (by omega), h (k + 1) (by omega) (by omega), stA_congr r (k + 1) (fun j a b => h j (by omega) (by omega))]
def plA (y : Nat → Int) : Nat → Nat → Int → Int
  | 0, _, _ => -3
  | r + 1, p, v => if v - y p < 0 then (p : Int) else plA y r (p + 1) (v - y p)
theorem plA_bd {y : Nat → Int} : ∀ (r p : Nat) (v : Int), plA y r p v = -3 ∨ (0 ≤ plA y r p v ∧ plA y r p v < p + r)
  | 0, _, _ => Or.inl rfl
  | r + 1, p, v => by
    unfold plA
    split
    · exact Or.inr (by omega)
    · rcases plA_bd (y := y) r (p + 1) (v - y p) with h | h
      · exact Or.inl h
      · exact Or.inr (by omega)
theorem plA_congr {y z : Nat → Int} : ∀ (r p : Nat) (v : Int), (∀ j, p ≤ j → j < p + r → y j = z j) → plA y r p v = plA z r p v
  | 0, _, _, _ => rfl
  | r + 1, p, v, h => by
    unfold plA
    rw [h p (Nat.le_refl _) (by omega), plA_congr r (p + 1) _ (fun j a b => h j (by omega) (by omega))]
def onA (f : Nat → Int) (S n : Nat) (x : Nat → Nat → Int) (loom : Nat) (t : Nat) : Int := if stA f t S 0 = S then -3 else plA (fun p => x p (stA f t S 0)) n 0 ((loom : Int) * (f (stA f t S 0 + 1) - f (stA f t S 0)) + (t : Int) - f (stA f t S 0))
theorem onA_congr {f g : Nat → Int} {S n loom t : Nat} {x y : Nat → Nat → Int} (h1 : 0 < S → ∀ j, j ≤ S → f j = g j) (h2 : ∀ p, p < n → ∀ s, s < S → x p s = y p s) : onA f S n x loom t = onA g S n y loom t := by
  by_cases hS : S = 0
  · subst hS; rfl
  · have h1 := h1 (by omega)
    have e : stA f t S 0 = stA g t S 0 := stA_congr S 0 (fun j a b => h1 j (by omega))
    unfold onA
    rw [e]
    have b := (stA_bd (f := g) (t := (t : Int)) S 0).2.1
    by_cases c : stA g t S 0 = S
    · rw [if_pos c, if_pos c]
    · rw [if_neg c, if_neg c, h1 (stA g t S 0) (by omega), h1 (stA g t S 0 + 1) (by omega)]
      exact plA_congr n 0 _ (fun j a b => h2 j (by omega) _ (by omega))
theorem onA_bd {f : Nat → Int} {S n loom t : Nat} {x : Nat → Nat → Int} : onA f S n x loom t = -3 ∨ (0 ≤ onA f S n x loom t ∧ onA f S n x loom t < n) := by
  unfold onA
  split
  · exact Or.inl rfl
  · rcases plA_bd (y := fun p => x p (stA f t S 0)) n 0 ((loom : Int) * (f (stA f t S 0 + 1) - f (stA f t S 0)) + (t : Int) - f (stA f t S 0)) with h | h
    · exact Or.inl h
    · exact Or.inr (by omega)
def bgF (g : Nat → Int) : Nat → Int
  | 0 => 0
  | k + 1 => bgF g k + if 0 ≤ g k ∧ g k ≠ (if k = 0 then -3 else g (k - 1)) then 1 else 0
theorem bgF_bd {g : Nat → Int} : ∀ k, 0 ≤ bgF g k ∧ bgF g k ≤ k
  | 0 => ⟨Int.le_refl _, Int.le_refl _⟩
  | k + 1 => by
    have := bgF_bd (g := g) k
    show 0 ≤ bgF g k + _ ∧ bgF g k + _ ≤ _
    split <;> omega
theorem bgF_congr {g g' : Nat → Int} : ∀ {k : Nat}, (∀ j, j < k → g j = g' j) → bgF g k = bgF g' k
  | 0, _ => rfl
  | k + 1, h => by
    show bgF g k + _ = bgF g' k + _
    rw [bgF_congr (fun j hj => h j (by omega)), h k (by omega)]
    by_cases c : k = 0
    · rw [if_pos c, if_pos c]
    · rw [if_neg c, if_neg c, h (k - 1) (by omega)]
/-- what the questions of the cloth answer, of some cloth -/
def liI (A : Nat → Int) (n : Nat) (x : Nat → Nat → Int) (p s v : Int) : Prop := if (0 ≤ p ∧ p < n) ∧ 0 ≤ s ∧ s < nS A n 0 then v = x p.toNat s.toNat else v = -1
section
variable {d : Nat} {h : pm_H} {V W : Nat → Nat → Int} {R : Nat → Nat → Option Nat} {T : List (Nat × Nat)} {n : Nat} {L : List Int}
def lsQ (V : Nat → Nat → Int) (R : Nat → Nat → Option Nat) (T : List (Nat × Nat)) (n : Nat) (p s : Int) (r : Option pm_V) (h2 : pm_H) : Prop := ∃ V2 v, h2 = (V2, R, T) ∧ rfr V V2 ∧ r = some (.inl v) ∧ ((¬ ((0 ≤ p ∧ p < n) ∧ 0 ≤ s ∧ s < nS (V 132) n 0) ∧ v = -1) ∨ (((0 ≤ p ∧ p < n) ∧ 0 ≤ s ∧ s < nS (V 132) n 0) ∧ ¬ hal (V 132) n (V 132 0) 0 ∧ v = -2) ∨ (((0 ≤ p ∧ p < n) ∧ 0 ≤ s ∧ s < nS (V 132) n 0) ∧ hal (V 132) n (V 132 0) 0 ∧ ∃ x, clo (V 132) n x ∧ v = x p.toNat s.toNat))
theorem m_lies (hd : 10 ≤ d) (hf : fx R T) (hw : wf (V 132) n) (p s : Int) : pm_ok d 149 [.inr (.inr (some 131)), .inl p, .inl s] (V, R, T) (lsQ V R T n p s) := by
  obtain ⟨d, rfl⟩ : ∃ k, d = k + 1 := ⟨d - 1, by omega⟩
  refine pm_ok_iff.mpr ⟨(Nat.le_of_ble_eq_true rfl), ?_⟩
  show pm_w d 149 0 [some (.inr (.inr (some 131))), some (.inl p), some (.inl s)] [] (V, R, T) _
  have hA0 := hw.2.2.1
  have hn := hw.1
  simp only [ux_149_0, ux_149_1, ux_149_2, ux_149_5, ux_149_6, ux_149_7, ux_149_8, ux_149_12, ux_149_13, ux_149_19, ux_149_20, ux_149_21, ux_149_22, ux_149_25, ux_149_26, ux_149_27, ux_149_30, ux_149_34, ux_149_36, ux_149_42, ux_149_43, ux_149_46, ux_149_48, ux_149_49, ux_149_50, ux_149_51, ux_149_52, ux_149_53, ux_149_54, ux_149_57, ux_149_59, pm_i_c, pm_l_c, pm_q_c, pm_r_c, pm_li_0, pm_li_s, pm_ll_0, pm_ll_s, pm_lq_0, pm_lq_s, pm_s1, pm_s2, pm_kl, pm_wI, pm_wR, pm_pu_n, pm_pu_s, pm_wt, List.take_succ_cons, List.take_zero, List.take_nil, List.drop_succ_cons, List.drop_zero, List.reverse_cons, List.reverse_nil, List.nil_append, List.cons_append, List.length_cons, List.length_nil, true_and, and_true, true_implies, tn_l, tn_0, Int.reduceToNat, Int.reduceLE, Int.reduceLT, Int.reduceEq, Int.reduceAdd, Int.reduceSub, Int.reduceMul, Int.reduceNeg, Nat.reduceAdd, Nat.reduceLeDiff, Nat.reduceEqDiff, Nat.reduceSub, Option.some.injEq, Sum.inl.injEq, Sum.inr.injEq, or_true, true_or, reduceCtorEq, ne_eq, not_false_eq_true, not_true_eq_false, false_implies, implies_true, false_and, and_false, false_or, or_false, if_true, if_false, fr_131_0 hf, fr_131_1 hf, fr_131_5 hf, fr_131_7 hf, fr_131_8 hf, fr_131_9 hf, fr_131_12 hf, fr_131_13 hf, fr_131_14 hf, fr_131_15 hf, fr_131_19 hf, fr_131_20 hf, fr_131_21 hf, fr_131_22 hf, fr_131_23 hf, fr_131_24 hf, fg_131 hf, fv_131 hf, fb_132 hf, fb_133 hf, fb_134 hf, fb_135 hf, fb_136 hf, fb_137 hf, fb_138 hf, fb_139 hf, fb_140 hf, fb_141 hf, fb_142 hf, fb_143 hf, fb_144 hf, fb_145 hf, fb_146 hf, fb_147 hf]
  refine pm_ok_mono (m_settle (d := d) (by omega) hf n hw (V 132 0) 0 (by decide) (by decide)) ?_
  rintro r h2 ⟨rfl, V2, rfl, hst⟩
  obtain ⟨a1, a2, a3, a4, a5⟩ := st_rf0 hw (by decide) (by decide) hA0.1 (by omega) hst
  have hlen := mmL_len (V 132) 0 n
  have g4 := a1.2.2.2.2
  have hA2 : V2 132 2 = n := by rw [a2]; exact hw.2.1
  have hstr : (if 0 < V2 131 6 then V2 131 6 - 1 else 0) = (nS (V 132) n 0 : Int) := by
    unfold nS nst
    split <;> omega
  have hm := m_stretches (d := d) (V := V2) (by omega) hf (by omega) (by omega)
  rw [hstr] at hm
  rw [pm_pu_n, ux_149_11]
  simp only [ux_149_0, ux_149_1, ux_149_2, ux_149_5, ux_149_6, ux_149_7, ux_149_8, ux_149_12, ux_149_13, ux_149_19, ux_149_20, ux_149_21, ux_149_22, ux_149_25, ux_149_26, ux_149_27, ux_149_30, ux_149_34, ux_149_36, ux_149_42, ux_149_43, ux_149_46, ux_149_48, ux_149_49, ux_149_50, ux_149_51, ux_149_52, ux_149_53, ux_149_54, ux_149_57, ux_149_59, pm_i_c, pm_l_c, pm_q_c, pm_r_c, pm_li_0, pm_li_s, pm_ll_0, pm_ll_s, pm_lq_0, pm_lq_s, pm_s1, pm_s2, pm_kl, pm_wI, pm_wR, pm_pu_n, pm_pu_s, pm_wt, List.take_succ_cons, List.take_zero, List.take_nil, List.drop_succ_cons, List.drop_zero, List.reverse_cons, List.reverse_nil, List.nil_append, List.cons_append, List.length_cons, List.length_nil, true_and, and_true, true_implies, tn_l, tn_0, Int.reduceToNat, Int.reduceLE, Int.reduceLT, Int.reduceEq, Int.reduceAdd, Int.reduceSub, Int.reduceMul, Int.reduceNeg, Nat.reduceAdd, Nat.reduceLeDiff, Nat.reduceEqDiff, Nat.reduceSub, Option.some.injEq, Sum.inl.injEq, Sum.inr.injEq, or_true, true_or, reduceCtorEq, ne_eq, not_false_eq_true, not_true_eq_false, false_implies, implies_true, false_and, and_false, false_or, or_false, if_true, if_false, fr_131_0 hf, fr_131_1 hf, fr_131_5 hf, fr_131_7 hf, fr_131_8 hf, fr_131_9 hf, fr_131_12 hf, fr_131_13 hf, fr_131_14 hf, fr_131_15 hf, fr_131_19 hf, fr_131_20 hf, fr_131_21 hf, fr_131_22 hf, fr_131_23 hf, fr_131_24 hf, fg_131 hf, fv_131 hf, fb_132 hf, fb_133 hf, fb_134 hf, fb_135 hf, fb_136 hf, fb_137 hf, fb_138 hf, fb_139 hf, fb_140 hf, fb_141 hf, fb_142 hf, fb_143 hf, fb_144 hf, fb_145 hf, fb_146 hf, fb_147 hf, pm_ok_ev (m_isPiece (d := d) (V := V2) (by omega) hf p (by omega) (by omega)), ux_149_16, pm_ok_ev hm, pm_ok_ev (m_in (d := d) (by omega) _ _ _)]
  have bad : ¬ ((0 ≤ p ∧ p < n) ∧ 0 ≤ s ∧ s < nS (V 132) n 0) → pm_w d 149 33 [some (.inr (.inr (some 131))), some (.inl p), some (.inl s)] [] (V2, R, T) (lsQ V R T n p s) := by
    intro hb
    rw [ux_149_33]
    simp only [ux_149_0, ux_149_1, ux_149_2, ux_149_5, ux_149_6, ux_149_7, ux_149_8, ux_149_12, ux_149_13, ux_149_19, ux_149_20, ux_149_21, ux_149_22, ux_149_25, ux_149_26, ux_149_27, ux_149_30, ux_149_34, ux_149_36, ux_149_42, ux_149_43, ux_149_46, ux_149_48, ux_149_49, ux_149_50, ux_149_51, ux_149_52, ux_149_53, ux_149_54, ux_149_57, ux_149_59, pm_i_c, pm_l_c, pm_q_c, pm_r_c, pm_li_0, pm_li_s, pm_ll_0, pm_ll_s, pm_lq_0, pm_lq_s, pm_s1, pm_s2, pm_kl, pm_wI, pm_wR, pm_pu_n, pm_pu_s, pm_wt, List.take_succ_cons, List.take_zero, List.take_nil, List.drop_succ_cons, List.drop_zero, List.reverse_cons, List.reverse_nil, List.nil_append, List.cons_append, List.length_cons, List.length_nil, true_and, and_true, true_implies, tn_l, tn_0, Int.reduceToNat, Int.reduceLE, Int.reduceLT, Int.reduceEq, Int.reduceAdd, Int.reduceSub, Int.reduceMul, Int.reduceNeg, Nat.reduceAdd, Nat.reduceLeDiff, Nat.reduceEqDiff, Nat.reduceSub, Option.some.injEq, Sum.inl.injEq, Sum.inr.injEq, or_true, true_or, reduceCtorEq, ne_eq, not_false_eq_true, not_true_eq_false, false_implies, implies_true, false_and, and_false, false_or, or_false, if_true, if_false, fr_131_0 hf, fr_131_1 hf, fr_131_5 hf, fr_131_7 hf, fr_131_8 hf, fr_131_9 hf, fr_131_12 hf, fr_131_13 hf, fr_131_14 hf, fr_131_15 hf, fr_131_19 hf, fr_131_20 hf, fr_131_21 hf, fr_131_22 hf, fr_131_23 hf, fr_131_24 hf, fg_131 hf, fv_131 hf, fb_132 hf, fb_133 hf, fb_134 hf, fb_135 hf, fb_136 hf, fb_137 hf, fb_138 hf, fb_139 hf, fb_140 hf, fb_141 hf, fb_142 hf, fb_143 hf, fb_144 hf, fb_145 hf, fb_146 hf, fb_147 hf]
    exact ⟨V2, _, rfl, a3, rfl, Or.inl ⟨hb, rfl⟩⟩
  by_cases c1 : 0 ≤ p ∧ p ≤ V2 132 2 - 1
  · rw [if_pos c1]
    refine ⟨fun z => by omega, fun _ => ⟨by unfold pm_I32; unfold nS nst; omega, ?_⟩⟩
    by_cases c2 : 0 ≤ s ∧ s ≤ (nS (V 132) n 0 : Int) - 1
    · rw [if_pos c2]
      refine ⟨fun _ => ?_, fun z => absurd (by decide) z⟩
      rw [ux_149_35]
      simp only [ux_149_0, ux_149_1, ux_149_2, ux_149_5, ux_149_6, ux_149_7, ux_149_8, ux_149_12, ux_149_13, ux_149_19, ux_149_20, ux_149_21, ux_149_22, ux_149_25, ux_149_26, ux_149_27, ux_149_30, ux_149_34, ux_149_36, ux_149_42, ux_149_43, ux_149_46, ux_149_48, ux_149_49, ux_149_50, ux_149_51, ux_149_52, ux_149_53, ux_149_54, ux_149_57, ux_149_59, pm_i_c, pm_l_c, pm_q_c, pm_r_c, pm_li_0, pm_li_s, pm_ll_0, pm_ll_s, pm_lq_0, pm_lq_s, pm_s1, pm_s2, pm_kl, pm_wI, pm_wR, pm_pu_n, pm_pu_s, pm_wt, List.take_succ_cons, List.take_zero, List.take_nil, List.drop_succ_cons, List.drop_zero, List.reverse_cons, List.reverse_nil, List.nil_append, List.cons_append, List.length_cons, List.length_nil, true_and, and_true, true_implies, tn_l, tn_0, Int.reduceToNat, Int.reduceLE, Int.reduceLT, Int.reduceEq, Int.reduceAdd, Int.reduceSub, Int.reduceMul, Int.reduceNeg, Nat.reduceAdd, Nat.reduceLeDiff, Nat.reduceEqDiff, Nat.reduceSub, Option.some.injEq, Sum.inl.injEq, Sum.inr.injEq, or_true, true_or, reduceCtorEq, ne_eq, not_false_eq_true, not_true_eq_false, false_implies, implies_true, false_and, and_false, false_or, or_false, if_true, if_false, fr_131_0 hf, fr_131_1 hf, fr_131_5 hf, fr_131_7 hf, fr_131_8 hf, fr_131_9 hf, fr_131_12 hf, fr_131_13 hf, fr_131_14 hf, fr_131_15 hf, fr_131_19 hf, fr_131_20 hf, fr_131_21 hf, fr_131_22 hf, fr_131_23 hf, fr_131_24 hf, fg_131 hf, fv_131 hf, fb_132 hf, fb_133 hf, fb_134 hf, fb_135 hf, fb_136 hf, fb_137 hf, fb_138 hf, fb_139 hf, fb_140 hf, fb_141 hf, fb_142 hf, fb_143 hf, fb_144 hf, fb_145 hf, fb_146 hf, fb_147 hf]
      refine pm_ok_mono (m_weave (d := d) (V := V2) (by omega) hf (by rw [a2]; exact hw)) ?_
      rintro r h2 ⟨V3, rfl, b1, ⟨rfl, b2⟩ | ⟨rfl, b2, b3⟩⟩
      · rw [pm_pu_s, ux_149_39]
        simp only [ux_149_0, ux_149_1, ux_149_2, ux_149_5, ux_149_6, ux_149_7, ux_149_8, ux_149_12, ux_149_13, ux_149_19, ux_149_20, ux_149_21, ux_149_22, ux_149_25, ux_149_26, ux_149_27, ux_149_30, ux_149_34, ux_149_36, ux_149_42, ux_149_43, ux_149_46, ux_149_48, ux_149_49, ux_149_50, ux_149_51, ux_149_52, ux_149_53, ux_149_54, ux_149_57, ux_149_59, pm_i_c, pm_l_c, pm_q_c, pm_r_c, pm_li_0, pm_li_s, pm_ll_0, pm_ll_s, pm_lq_0, pm_lq_s, pm_s1, pm_s2, pm_kl, pm_wI, pm_wR, pm_pu_n, pm_pu_s, pm_wt, List.take_succ_cons, List.take_zero, List.take_nil, List.drop_succ_cons, List.drop_zero, List.reverse_cons, List.reverse_nil, List.nil_append, List.cons_append, List.length_cons, List.length_nil, true_and, and_true, true_implies, tn_l, tn_0, Int.reduceToNat, Int.reduceLE, Int.reduceLT, Int.reduceEq, Int.reduceAdd, Int.reduceSub, Int.reduceMul, Int.reduceNeg, Nat.reduceAdd, Nat.reduceLeDiff, Nat.reduceEqDiff, Nat.reduceSub, Option.some.injEq, Sum.inl.injEq, Sum.inr.injEq, or_true, true_or, reduceCtorEq, ne_eq, not_false_eq_true, not_true_eq_false, false_implies, implies_true, false_and, and_false, false_or, or_false, if_true, if_false, fr_131_0 hf, fr_131_1 hf, fr_131_5 hf, fr_131_7 hf, fr_131_8 hf, fr_131_9 hf, fr_131_12 hf, fr_131_13 hf, fr_131_14 hf, fr_131_15 hf, fr_131_19 hf, fr_131_20 hf, fr_131_21 hf, fr_131_22 hf, fr_131_23 hf, fr_131_24 hf, fg_131 hf, fv_131 hf, fb_132 hf, fb_133 hf, fb_134 hf, fb_135 hf, fb_136 hf, fb_137 hf, fb_138 hf, fb_139 hf, fb_140 hf, fb_141 hf, fb_142 hf, fb_143 hf, fb_144 hf, fb_145 hf, fb_146 hf, fb_147 hf]
        rw [a2] at b2
        exact ⟨V3, _, rfl, rfr_tr a3 b1, rfl, Or.inr (Or.inl ⟨by omega, b2, rfl⟩)⟩
      · rw [pm_pu_s, ux_149_39]
        unfold weR at b3
        rw [a2] at b2 b3
        obtain ⟨b3, b4, b5, b6⟩ := b3
        have hnS : nS (V 132) n 0 ≤ 47 := by unfold nS nst; omega
        obtain ⟨pn, rfl⟩ : ∃ k : Nat, p = k := ⟨p.toNat, by omega⟩
        obtain ⟨sn, rfl⟩ : ∃ k : Nat, s = k := ⟨s.toNat, by omega⟩
        have ei : (64 * (pn : Int) + (sn : Int)).toNat = 64 * pn + sn := by omega
        have ex : V3 135 (64 * pn + sn) = xR V3 pn sn := (xR_eq (by omega)).symm
        have b7 := b5.1.1.1 pn (by omega) sn (by omega)
        have b8 : nC (V 132) n (V 132 0) 0 1 pn sn ≤ 1560 := by
          unfold nC
          have hmo : mo (nmo (V 132) n 0) (mmL (V 132) 0 n) := mo_of hw (by decide) (by decide) (fun j hj => rfl)
          have := tkA_bd (lo := V 132 0) (dl := 0) hw hmo (show pn < n by omega) (show sn + 1 < (mmL (V 132) 0 n).length by unfold nS nst at *; omega) hA0.1 (by omega)
          omega
        simp only [ux_149_0, ux_149_1, ux_149_2, ux_149_5, ux_149_6, ux_149_7, ux_149_8, ux_149_12, ux_149_13, ux_149_19, ux_149_20, ux_149_21, ux_149_22, ux_149_25, ux_149_26, ux_149_27, ux_149_30, ux_149_34, ux_149_36, ux_149_42, ux_149_43, ux_149_46, ux_149_48, ux_149_49, ux_149_50, ux_149_51, ux_149_52, ux_149_53, ux_149_54, ux_149_57, ux_149_59, pm_i_c, pm_l_c, pm_q_c, pm_r_c, pm_li_0, pm_li_s, pm_ll_0, pm_ll_s, pm_lq_0, pm_lq_s, pm_s1, pm_s2, pm_kl, pm_wI, pm_wR, pm_pu_n, pm_pu_s, pm_wt, List.take_succ_cons, List.take_zero, List.take_nil, List.drop_succ_cons, List.drop_zero, List.reverse_cons, List.reverse_nil, List.nil_append, List.cons_append, List.length_cons, List.length_nil, true_and, and_true, true_implies, tn_l, tn_0, Int.reduceToNat, Int.reduceLE, Int.reduceLT, Int.reduceEq, Int.reduceAdd, Int.reduceSub, Int.reduceMul, Int.reduceNeg, Nat.reduceAdd, Nat.reduceLeDiff, Nat.reduceEqDiff, Nat.reduceSub, Option.some.injEq, Sum.inl.injEq, Sum.inr.injEq, or_true, true_or, reduceCtorEq, ne_eq, not_false_eq_true, not_true_eq_false, false_implies, implies_true, false_and, and_false, false_or, or_false, if_true, if_false, fr_131_0 hf, fr_131_1 hf, fr_131_5 hf, fr_131_7 hf, fr_131_8 hf, fr_131_9 hf, fr_131_12 hf, fr_131_13 hf, fr_131_14 hf, fr_131_15 hf, fr_131_19 hf, fr_131_20 hf, fr_131_21 hf, fr_131_22 hf, fr_131_23 hf, fr_131_24 hf, fg_131 hf, fv_131 hf, fb_132 hf, fb_133 hf, fb_134 hf, fb_135 hf, fb_136 hf, fb_137 hf, fb_138 hf, fb_139 hf, fb_140 hf, fb_141 hf, fb_142 hf, fb_143 hf, fb_144 hf, fb_145 hf, fb_146 hf, fb_147 hf, ei, ex]
        refine ⟨by unfold pm_I32; omega, by unfold pm_I32; omega, by omega, by unfold pm_I32; omega, V3, _, rfl, rfr_tr a3 b1, rfl, Or.inr (Or.inr ⟨by omega, b2, xR V3, b5, by rw [Int.toNat_natCast, Int.toNat_natCast]⟩)⟩
    · rw [if_neg c2]
      exact ⟨fun z => absurd rfl z, fun _ => bad (by omega)⟩
  · rw [if_neg c1]
    exact ⟨fun _ => bad (by omega), fun z => absurd rfl z⟩
theorem m_pieceOn (hd : 2 ≤ d) (hf : fx R T) (h0 : rf0 V n L) (hb : ∀ p, p < n → ∀ s, s < nst L → 0 ≤ xR V p s ∧ xR V p s ≤ 10000) (loom t : Nat) (hl : loom ≤ 6) (ht : t ≤ 60) : pm_ev d 154 [.inr (.inr (some 131)), .inl (loom : Int), .inl (t : Int)] (V, R, T) (some (.inl (onA (V 134) (nst L) n (xR V) loom t))) (V, R, T) := by
  obtain ⟨hw, hm, h3, h4, h6⟩ := h0
  refine pm_ev_of (by omega) (Nat.le_of_ble_eq_true rfl) ?_
  show pm_w (d - 1) 154 0 [some (.inr (.inr (some 131))), some (.inl (loom : Int)), some (.inl (t : Int)), none, none, none, none] [] (V, R, T) _
  have hn := hw.1
  have hA2 := hw.2.1
  have hlen := hm.2.1
  have hnS : nst L ≤ 47 := by unfold nst; omega
  have hstr : (if 0 < V 131 6 then V 131 6 - 1 else 0) = (nst L : Int) := by
    unfold nst
    split <;> omega
  have hst := m_stretches (d := d - 1) (V := V) (by omega) hf (by omega) (by omega)
  rw [hstr] at hst
  simp only [ux_154_0, ux_154_1, ux_154_3, ux_154_4, ux_154_7, ux_154_10, ux_154_11, ux_154_12, ux_154_15, ux_154_16, ux_154_17, ux_154_20, ux_154_21, ux_154_22, ux_154_25, ux_154_26, ux_154_27, ux_154_28, ux_154_29, ux_154_32, ux_154_35, ux_154_39, ux_154_40, ux_154_43, ux_154_46, ux_154_48, ux_154_49, ux_154_50, ux_154_51, ux_154_52, ux_154_53, ux_154_56, ux_154_57, ux_154_58, ux_154_59, ux_154_60, ux_154_61, ux_154_62, ux_154_65, ux_154_66, ux_154_67, ux_154_68, ux_154_69, ux_154_71, ux_154_72, ux_154_76, ux_154_77, ux_154_80, ux_154_81, ux_154_82, ux_154_85, ux_154_87, ux_154_88, ux_154_91, ux_154_93, ux_154_95, ux_154_96, ux_154_97, ux_154_98, ux_154_99, ux_154_100, ux_154_102, ux_154_104, ux_154_105, ux_154_106, ux_154_109, ux_154_111, ux_154_112, ux_154_115, ux_154_118, ux_154_120, pm_i_c, pm_l_c, pm_q_c, pm_r_c, pm_li_0, pm_li_s, pm_ll_0, pm_ll_s, pm_lq_0, pm_lq_s, pm_s1, pm_s2, pm_kl, pm_wI, pm_wR, pm_pu_n, pm_pu_s, pm_wt, List.take_succ_cons, List.take_zero, List.take_nil, List.drop_succ_cons, List.drop_zero, List.reverse_cons, List.reverse_nil, List.nil_append, List.cons_append, List.length_cons, List.length_nil, true_and, and_true, true_implies, tn_l, tn_0, Int.reduceToNat, Int.reduceLE, Int.reduceLT, Int.reduceEq, Int.reduceAdd, Int.reduceSub, Int.reduceMul, Int.reduceNeg, Nat.reduceAdd, Nat.reduceLeDiff, Nat.reduceEqDiff, Nat.reduceSub, Option.some.injEq, Sum.inl.injEq, Sum.inr.injEq, or_true, true_or, reduceCtorEq, ne_eq, not_false_eq_true, not_true_eq_false, false_implies, implies_true, false_and, and_false, false_or, or_false, if_true, if_false, fr_131_0 hf, fr_131_1 hf, fr_131_5 hf, fr_131_7 hf, fr_131_8 hf, fr_131_9 hf, fr_131_12 hf, fr_131_13 hf, fr_131_14 hf, fr_131_15 hf, fr_131_19 hf, fr_131_20 hf, fr_131_21 hf, fr_131_22 hf, fr_131_23 hf, fr_131_24 hf, fg_131 hf, fv_131 hf, fb_132 hf, fb_133 hf, fb_134 hf, fb_135 hf, fb_136 hf, fb_137 hf, fb_138 hf, fb_139 hf, fb_140 hf, fb_141 hf, fb_142 hf, fb_143 hf, fb_144 hf, fb_145 hf, fb_146 hf, fb_147 hf]
  -- behind the stretch's search
  have k2 : ∀ s : Nat, s = stA (V 134) t (nst L) 0 → pm_w (d - 1) 154 38 [some (.inr (.inr (some 131))), some (.inl (loom : Int)), some (.inl (t : Int)), some (.inl (s : Int)), none, none, none] [] (V, R, T) (fun r2 h2 => r2 = some (.inl (onA (V 134) (nst L) n (xR V) loom t)) ∧ h2 = (V, R, T)) := by
    intro s hs
    have sb := (stA_bd (f := V 134) (t := (t : Int)) (nst L) 0)
    rw [← hs] at sb
    rw [ux_154_38]
    unfold onA
    rw [← hs]
    by_cases c : s = nst L
    · rw [if_pos c]
      simp only [ux_154_0, ux_154_1, ux_154_3, ux_154_4, ux_154_7, ux_154_10, ux_154_11, ux_154_12, ux_154_15, ux_154_16, ux_154_17, ux_154_20, ux_154_21, ux_154_22, ux_154_25, ux_154_26, ux_154_27, ux_154_28, ux_154_29, ux_154_32, ux_154_35, ux_154_39, ux_154_40, ux_154_43, ux_154_46, ux_154_48, ux_154_49, ux_154_50, ux_154_51, ux_154_52, ux_154_53, ux_154_56, ux_154_57, ux_154_58, ux_154_59, ux_154_60, ux_154_61, ux_154_62, ux_154_65, ux_154_66, ux_154_67, ux_154_68, ux_154_69, ux_154_71, ux_154_72, ux_154_76, ux_154_77, ux_154_80, ux_154_81, ux_154_82, ux_154_85, ux_154_87, ux_154_88, ux_154_91, ux_154_93, ux_154_95, ux_154_96, ux_154_97, ux_154_98, ux_154_99, ux_154_100, ux_154_102, ux_154_104, ux_154_105, ux_154_106, ux_154_109, ux_154_111, ux_154_112, ux_154_115, ux_154_118, ux_154_120, pm_i_c, pm_l_c, pm_q_c, pm_r_c, pm_li_0, pm_li_s, pm_ll_0, pm_ll_s, pm_lq_0, pm_lq_s, pm_s1, pm_s2, pm_kl, pm_wI, pm_wR, pm_pu_n, pm_pu_s, pm_wt, List.take_succ_cons, List.take_zero, List.take_nil, List.drop_succ_cons, List.drop_zero, List.reverse_cons, List.reverse_nil, List.nil_append, List.cons_append, List.length_cons, List.length_nil, true_and, and_true, true_implies, tn_l, tn_0, Int.reduceToNat, Int.reduceLE, Int.reduceLT, Int.reduceEq, Int.reduceAdd, Int.reduceSub, Int.reduceMul, Int.reduceNeg, Nat.reduceAdd, Nat.reduceLeDiff, Nat.reduceEqDiff, Nat.reduceSub, Option.some.injEq, Sum.inl.injEq, Sum.inr.injEq, or_true, true_or, reduceCtorEq, ne_eq, not_false_eq_true, not_true_eq_false, false_implies, implies_true, false_and, and_false, false_or, or_false, if_true, if_false, fr_131_0 hf, fr_131_1 hf, fr_131_5 hf, fr_131_7 hf, fr_131_8 hf, fr_131_9 hf, fr_131_12 hf, fr_131_13 hf, fr_131_14 hf, fr_131_15 hf, fr_131_19 hf, fr_131_20 hf, fr_131_21 hf, fr_131_22 hf, fr_131_23 hf, fr_131_24 hf, fg_131 hf, fv_131 hf, fb_132 hf, fb_133 hf, fb_134 hf, fb_135 hf, fb_136 hf, fb_137 hf, fb_138 hf, fb_139 hf, fb_140 hf, fb_141 hf, fb_142 hf, fb_143 hf, fb_144 hf, fb_145 hf, fb_146 hf, fb_147 hf, pm_ok_ev hst]
      exact fun z => absurd (by omega) z
    · rw [if_neg c]
      have m1 := hm.2.2.1 s (by unfold nst at *; omega)
      have m2 := hm.2.2.1 (s + 1) (by unfold nst at *; omega)
      have m3 := hm.2.2.2 s (by unfold nst at *; omega)
      have mb := mulbd (x := (loom : Int)) (y := V 134 (s + 1) - V 134 s) (a := 6) (b := 260) (by omega) (by omega) (by omega) (by omega)
      simp only [ux_154_0, ux_154_1, ux_154_3, ux_154_4, ux_154_7, ux_154_10, ux_154_11, ux_154_12, ux_154_15, ux_154_16, ux_154_17, ux_154_20, ux_154_21, ux_154_22, ux_154_25, ux_154_26, ux_154_27, ux_154_28, ux_154_29, ux_154_32, ux_154_35, ux_154_39, ux_154_40, ux_154_43, ux_154_46, ux_154_48, ux_154_49, ux_154_50, ux_154_51, ux_154_52, ux_154_53, ux_154_56, ux_154_57, ux_154_58, ux_154_59, ux_154_60, ux_154_61, ux_154_62, ux_154_65, ux_154_66, ux_154_67, ux_154_68, ux_154_69, ux_154_71, ux_154_72, ux_154_76, ux_154_77, ux_154_80, ux_154_81, ux_154_82, ux_154_85, ux_154_87, ux_154_88, ux_154_91, ux_154_93, ux_154_95, ux_154_96, ux_154_97, ux_154_98, ux_154_99, ux_154_100, ux_154_102, ux_154_104, ux_154_105, ux_154_106, ux_154_109, ux_154_111, ux_154_112, ux_154_115, ux_154_118, ux_154_120, pm_i_c, pm_l_c, pm_q_c, pm_r_c, pm_li_0, pm_li_s, pm_ll_0, pm_ll_s, pm_lq_0, pm_lq_s, pm_s1, pm_s2, pm_kl, pm_wI, pm_wR, pm_pu_n, pm_pu_s, pm_wt, List.take_succ_cons, List.take_zero, List.take_nil, List.drop_succ_cons, List.drop_zero, List.reverse_cons, List.reverse_nil, List.nil_append, List.cons_append, List.length_cons, List.length_nil, true_and, and_true, true_implies, tn_l, tn_0, Int.reduceToNat, Int.reduceLE, Int.reduceLT, Int.reduceEq, Int.reduceAdd, Int.reduceSub, Int.reduceMul, Int.reduceNeg, Nat.reduceAdd, Nat.reduceLeDiff, Nat.reduceEqDiff, Nat.reduceSub, Option.some.injEq, Sum.inl.injEq, Sum.inr.injEq, or_true, true_or, reduceCtorEq, ne_eq, not_false_eq_true, not_true_eq_false, false_implies, implies_true, false_and, and_false, false_or, or_false, if_true, if_false, fr_131_0 hf, fr_131_1 hf, fr_131_5 hf, fr_131_7 hf, fr_131_8 hf, fr_131_9 hf, fr_131_12 hf, fr_131_13 hf, fr_131_14 hf, fr_131_15 hf, fr_131_19 hf, fr_131_20 hf, fr_131_21 hf, fr_131_22 hf, fr_131_23 hf, fr_131_24 hf, fg_131 hf, fv_131 hf, fb_132 hf, fb_133 hf, fb_134 hf, fb_135 hf, fb_136 hf, fb_137 hf, fb_138 hf, fb_139 hf, fb_140 hf, fb_141 hf, fb_142 hf, fb_143 hf, fb_144 hf, fb_145 hf, fb_146 hf, fb_147 hf, pm_ok_ev hst, pm_ok_ev (m_lengthAt (d := d - 1) (V := V) (by omega) hf s (by omega) (by unfold pm_I32; omega))]
      refine ⟨fun _ => ⟨by unfold pm_I64; omega, by unfold pm_I64; omega, by omega, by unfold pm_I64; omega, ?_⟩, fun z => absurd (by omega) z⟩
      generalize hv : (loom : Int) * (V 134 (s + 1) - V 134 s) + (t : Int) - V 134 s = v
      have vb : -260 ≤ v ∧ v ≤ 2000 := by omega
      have key : ∀ (r p : Nat) (w : Int), p + r = n → -260 - 10000 * (p : Int) ≤ w → w ≤ 2000 → pm_w (d - 1) 154 74 [some (.inr (.inr (some 131))), some (.inl (loom : Int)), some (.inl (t : Int)), some (.inl (s : Int)), some (.inr (.inl w)), none, some (.inl (p : Int))] [] (V, R, T) (fun r2 h2 => r2 = some (.inl (plA (fun p => xR V p s) r p w)) ∧ h2 = (V, R, T)) := by
        intro r
        induction r with
        | zero =>
          intro p w hp w1 w2
          rw [ux_154_74]
          simp only [ux_154_0, ux_154_1, ux_154_3, ux_154_4, ux_154_7, ux_154_10, ux_154_11, ux_154_12, ux_154_15, ux_154_16, ux_154_17, ux_154_20, ux_154_21, ux_154_22, ux_154_25, ux_154_26, ux_154_27, ux_154_28, ux_154_29, ux_154_32, ux_154_35, ux_154_39, ux_154_40, ux_154_43, ux_154_46, ux_154_48, ux_154_49, ux_154_50, ux_154_51, ux_154_52, ux_154_53, ux_154_56, ux_154_57, ux_154_58, ux_154_59, ux_154_60, ux_154_61, ux_154_62, ux_154_65, ux_154_66, ux_154_67, ux_154_68, ux_154_69, ux_154_71, ux_154_72, ux_154_76, ux_154_77, ux_154_80, ux_154_81, ux_154_82, ux_154_85, ux_154_87, ux_154_88, ux_154_91, ux_154_93, ux_154_95, ux_154_96, ux_154_97, ux_154_98, ux_154_99, ux_154_100, ux_154_102, ux_154_104, ux_154_105, ux_154_106, ux_154_109, ux_154_111, ux_154_112, ux_154_115, ux_154_118, ux_154_120, pm_i_c, pm_l_c, pm_q_c, pm_r_c, pm_li_0, pm_li_s, pm_ll_0, pm_ll_s, pm_lq_0, pm_lq_s, pm_s1, pm_s2, pm_kl, pm_wI, pm_wR, pm_pu_n, pm_pu_s, pm_wt, List.take_succ_cons, List.take_zero, List.take_nil, List.drop_succ_cons, List.drop_zero, List.reverse_cons, List.reverse_nil, List.nil_append, List.cons_append, List.length_cons, List.length_nil, true_and, and_true, true_implies, tn_l, tn_0, Int.reduceToNat, Int.reduceLE, Int.reduceLT, Int.reduceEq, Int.reduceAdd, Int.reduceSub, Int.reduceMul, Int.reduceNeg, Nat.reduceAdd, Nat.reduceLeDiff, Nat.reduceEqDiff, Nat.reduceSub, Option.some.injEq, Sum.inl.injEq, Sum.inr.injEq, or_true, true_or, reduceCtorEq, ne_eq, not_false_eq_true, not_true_eq_false, false_implies, implies_true, false_and, and_false, false_or, or_false, if_true, if_false, fr_131_0 hf, fr_131_1 hf, fr_131_5 hf, fr_131_7 hf, fr_131_8 hf, fr_131_9 hf, fr_131_12 hf, fr_131_13 hf, fr_131_14 hf, fr_131_15 hf, fr_131_19 hf, fr_131_20 hf, fr_131_21 hf, fr_131_22 hf, fr_131_23 hf, fr_131_24 hf, fg_131 hf, fv_131 hf, fb_132 hf, fb_133 hf, fb_134 hf, fb_135 hf, fb_136 hf, fb_137 hf, fb_138 hf, fb_139 hf, fb_140 hf, fb_141 hf, fb_142 hf, fb_143 hf, fb_144 hf, fb_145 hf, fb_146 hf, fb_147 hf, hA2]
          exact ⟨fun _ => rfl, fun z => absurd (by omega) z⟩
        | succ r ih =>
          intro p w hp w1 w2
          have ei : (64 * (p : Int) + (s : Int)).toNat = 64 * p + s := by omega
          have ex : V 135 (64 * p + s) = xR V p s := (xR_eq (by omega)).symm
          have xb := hb p (by omega) s (by omega)
          rw [ux_154_74]
          simp only [ux_154_0, ux_154_1, ux_154_3, ux_154_4, ux_154_7, ux_154_10, ux_154_11, ux_154_12, ux_154_15, ux_154_16, ux_154_17, ux_154_20, ux_154_21, ux_154_22, ux_154_25, ux_154_26, ux_154_27, ux_154_28, ux_154_29, ux_154_32, ux_154_35, ux_154_39, ux_154_40, ux_154_43, ux_154_46, ux_154_48, ux_154_49, ux_154_50, ux_154_51, ux_154_52, ux_154_53, ux_154_56, ux_154_57, ux_154_58, ux_154_59, ux_154_60, ux_154_61, ux_154_62, ux_154_65, ux_154_66, ux_154_67, ux_154_68, ux_154_69, ux_154_71, ux_154_72, ux_154_76, ux_154_77, ux_154_80, ux_154_81, ux_154_82, ux_154_85, ux_154_87, ux_154_88, ux_154_91, ux_154_93, ux_154_95, ux_154_96, ux_154_97, ux_154_98, ux_154_99, ux_154_100, ux_154_102, ux_154_104, ux_154_105, ux_154_106, ux_154_109, ux_154_111, ux_154_112, ux_154_115, ux_154_118, ux_154_120, pm_i_c, pm_l_c, pm_q_c, pm_r_c, pm_li_0, pm_li_s, pm_ll_0, pm_ll_s, pm_lq_0, pm_lq_s, pm_s1, pm_s2, pm_kl, pm_wI, pm_wR, pm_pu_n, pm_pu_s, pm_wt, List.take_succ_cons, List.take_zero, List.take_nil, List.drop_succ_cons, List.drop_zero, List.reverse_cons, List.reverse_nil, List.nil_append, List.cons_append, List.length_cons, List.length_nil, true_and, and_true, true_implies, tn_l, tn_0, Int.reduceToNat, Int.reduceLE, Int.reduceLT, Int.reduceEq, Int.reduceAdd, Int.reduceSub, Int.reduceMul, Int.reduceNeg, Nat.reduceAdd, Nat.reduceLeDiff, Nat.reduceEqDiff, Nat.reduceSub, Option.some.injEq, Sum.inl.injEq, Sum.inr.injEq, or_true, true_or, reduceCtorEq, ne_eq, not_false_eq_true, not_true_eq_false, false_implies, implies_true, false_and, and_false, false_or, or_false, if_true, if_false, fr_131_0 hf, fr_131_1 hf, fr_131_5 hf, fr_131_7 hf, fr_131_8 hf, fr_131_9 hf, fr_131_12 hf, fr_131_13 hf, fr_131_14 hf, fr_131_15 hf, fr_131_19 hf, fr_131_20 hf, fr_131_21 hf, fr_131_22 hf, fr_131_23 hf, fr_131_24 hf, fg_131 hf, fv_131 hf, fb_132 hf, fb_133 hf, fb_134 hf, fb_135 hf, fb_136 hf, fb_137 hf, fb_138 hf, fb_139 hf, fb_140 hf, fb_141 hf, fb_142 hf, fb_143 hf, fb_144 hf, fb_145 hf, fb_146 hf, fb_147 hf, hA2, ei, ex, lc_ge]
          unfold plA
          refine ⟨fun z => by omega, fun _ => ⟨by unfold pm_I32; omega, by unfold pm_I32; omega, by omega, by unfold pm_I64; omega, fun z => ⟨by unfold pm_I32; omega, ?_⟩, fun z => ?_⟩⟩
          · rw [if_neg (by omega)]
            exact ih (p + 1) (w - xR V p s) (by omega) (by omega) (by omega)
          · rw [if_pos (by omega)]
      exact key n 0 v (by omega) (by omega) (by omega)
  have key : ∀ (r k : Nat), k + r = nst L → stA (V 134) t r k = stA (V 134) t (nst L) 0 → pm_w (d - 1) 154 2 [some (.inr (.inr (some 131))), some (.inl (loom : Int)), some (.inl (t : Int)), some (.inl (k : Int)), none, none, none] [] (V, R, T) (fun r2 h2 => r2 = some (.inl (onA (V 134) (nst L) n (xR V) loom t)) ∧ h2 = (V, R, T)) := by
    intro r
    induction r with
    | zero =>
      intro k hk he
      rw [ux_154_2]
      simp only [ux_154_0, ux_154_1, ux_154_3, ux_154_4, ux_154_7, ux_154_10, ux_154_11, ux_154_12, ux_154_15, ux_154_16, ux_154_17, ux_154_20, ux_154_21, ux_154_22, ux_154_25, ux_154_26, ux_154_27, ux_154_28, ux_154_29, ux_154_32, ux_154_35, ux_154_39, ux_154_40, ux_154_43, ux_154_46, ux_154_48, ux_154_49, ux_154_50, ux_154_51, ux_154_52, ux_154_53, ux_154_56, ux_154_57, ux_154_58, ux_154_59, ux_154_60, ux_154_61, ux_154_62, ux_154_65, ux_154_66, ux_154_67, ux_154_68, ux_154_69, ux_154_71, ux_154_72, ux_154_76, ux_154_77, ux_154_80, ux_154_81, ux_154_82, ux_154_85, ux_154_87, ux_154_88, ux_154_91, ux_154_93, ux_154_95, ux_154_96, ux_154_97, ux_154_98, ux_154_99, ux_154_100, ux_154_102, ux_154_104, ux_154_105, ux_154_106, ux_154_109, ux_154_111, ux_154_112, ux_154_115, ux_154_118, ux_154_120, pm_i_c, pm_l_c, pm_q_c, pm_r_c, pm_li_0, pm_li_s, pm_ll_0, pm_ll_s, pm_lq_0, pm_lq_s, pm_s1, pm_s2, pm_kl, pm_wI, pm_wR, pm_pu_n, pm_pu_s, pm_wt, List.take_succ_cons, List.take_zero, List.take_nil, List.drop_succ_cons, List.drop_zero, List.reverse_cons, List.reverse_nil, List.nil_append, List.cons_append, List.length_cons, List.length_nil, true_and, and_true, true_implies, tn_l, tn_0, Int.reduceToNat, Int.reduceLE, Int.reduceLT, Int.reduceEq, Int.reduceAdd, Int.reduceSub, Int.reduceMul, Int.reduceNeg, Nat.reduceAdd, Nat.reduceLeDiff, Nat.reduceEqDiff, Nat.reduceSub, Option.some.injEq, Sum.inl.injEq, Sum.inr.injEq, or_true, true_or, reduceCtorEq, ne_eq, not_false_eq_true, not_true_eq_false, false_implies, implies_true, false_and, and_false, false_or, or_false, if_true, if_false, fr_131_0 hf, fr_131_1 hf, fr_131_5 hf, fr_131_7 hf, fr_131_8 hf, fr_131_9 hf, fr_131_12 hf, fr_131_13 hf, fr_131_14 hf, fr_131_15 hf, fr_131_19 hf, fr_131_20 hf, fr_131_21 hf, fr_131_22 hf, fr_131_23 hf, fr_131_24 hf, fg_131 hf, fv_131 hf, fb_132 hf, fb_133 hf, fb_134 hf, fb_135 hf, fb_136 hf, fb_137 hf, fb_138 hf, fb_139 hf, fb_140 hf, fb_141 hf, fb_142 hf, fb_143 hf, fb_144 hf, fb_145 hf, fb_146 hf, fb_147 hf, pm_ok_ev hst]
      exact ⟨fun _ => k2 k he, fun z => absurd (by omega) z⟩
    | succ r ih =>
      intro k hk he
      have e1 : ((k : Int) + 1).toNat = k + 1 := by omega
      rw [ux_154_2]
      simp only [ux_154_0, ux_154_1, ux_154_3, ux_154_4, ux_154_7, ux_154_10, ux_154_11, ux_154_12, ux_154_15, ux_154_16, ux_154_17, ux_154_20, ux_154_21, ux_154_22, ux_154_25, ux_154_26, ux_154_27, ux_154_28, ux_154_29, ux_154_32, ux_154_35, ux_154_39, ux_154_40, ux_154_43, ux_154_46, ux_154_48, ux_154_49, ux_154_50, ux_154_51, ux_154_52, ux_154_53, ux_154_56, ux_154_57, ux_154_58, ux_154_59, ux_154_60, ux_154_61, ux_154_62, ux_154_65, ux_154_66, ux_154_67, ux_154_68, ux_154_69, ux_154_71, ux_154_72, ux_154_76, ux_154_77, ux_154_80, ux_154_81, ux_154_82, ux_154_85, ux_154_87, ux_154_88, ux_154_91, ux_154_93, ux_154_95, ux_154_96, ux_154_97, ux_154_98, ux_154_99, ux_154_100, ux_154_102, ux_154_104, ux_154_105, ux_154_106, ux_154_109, ux_154_111, ux_154_112, ux_154_115, ux_154_118, ux_154_120, pm_i_c, pm_l_c, pm_q_c, pm_r_c, pm_li_0, pm_li_s, pm_ll_0, pm_ll_s, pm_lq_0, pm_lq_s, pm_s1, pm_s2, pm_kl, pm_wI, pm_wR, pm_pu_n, pm_pu_s, pm_wt, List.take_succ_cons, List.take_zero, List.take_nil, List.drop_succ_cons, List.drop_zero, List.reverse_cons, List.reverse_nil, List.nil_append, List.cons_append, List.length_cons, List.length_nil, true_and, and_true, true_implies, tn_l, tn_0, Int.reduceToNat, Int.reduceLE, Int.reduceLT, Int.reduceEq, Int.reduceAdd, Int.reduceSub, Int.reduceMul, Int.reduceNeg, Nat.reduceAdd, Nat.reduceLeDiff, Nat.reduceEqDiff, Nat.reduceSub, Option.some.injEq, Sum.inl.injEq, Sum.inr.injEq, or_true, true_or, reduceCtorEq, ne_eq, not_false_eq_true, not_true_eq_false, false_implies, implies_true, false_and, and_false, false_or, or_false, if_true, if_false, fr_131_0 hf, fr_131_1 hf, fr_131_5 hf, fr_131_7 hf, fr_131_8 hf, fr_131_9 hf, fr_131_12 hf, fr_131_13 hf, fr_131_14 hf, fr_131_15 hf, fr_131_19 hf, fr_131_20 hf, fr_131_21 hf, fr_131_22 hf, fr_131_23 hf, fr_131_24 hf, fg_131 hf, fv_131 hf, fb_132 hf, fb_133 hf, fb_134 hf, fb_135 hf, fb_136 hf, fb_137 hf, fb_138 hf, fb_139 hf, fb_140 hf, fb_141 hf, fb_142 hf, fb_143 hf, fb_144 hf, fb_145 hf, fb_146 hf, fb_147 hf, pm_ok_ev hst, e1]
      rw [show stA (V 134) (t : Int) (r + 1) k = if V 134 k ≤ (t : Int) ∧ (t : Int) < V 134 (k + 1) then k else stA (V 134) (t : Int) r (k + 1) from rfl] at he
      by_cases c : V 134 k ≤ t ∧ (t : Int) < V 134 (k + 1)
      · rw [if_pos c] at he
        refine ⟨fun z => by omega, fun _ => ⟨by omega, fun z => absurd z (by omega), fun _ => ⟨by unfold pm_I32; omega, by omega, fun _ => k2 k he, fun z => absurd c.2 z⟩⟩⟩
      · rw [if_neg c] at he
        have nx := ih (k + 1) (by omega) he
        refine ⟨fun z => by omega, fun _ => ⟨by omega, fun z => ⟨by unfold pm_I32; omega, nx⟩, fun z => ⟨by unfold pm_I32; omega, by omega, fun z2 => absurd ⟨by omega, z2⟩ c, fun z2 => ⟨by unfold pm_I32; omega, nx⟩⟩⟩⟩
  exact key (nst L) 0 (by omega) rfl
theorem we_bd {V V2 : Nat → Nat → Int} (hw : wf (V 132) n) (h : weR V V2 n) : (∀ p, p < n → ∀ s, s < nst (mmL (V 132) 0 n) → 0 ≤ xR V2 p s ∧ xR V2 p s ≤ 10000) ∧ ∀ loom t, onA (V2 134) (nst (mmL (V 132) 0 n)) n (xR V2) loom t = onA (nmo (V 132) n 0) (nS (V 132) n 0) n (xR V2) loom t := by
  obtain ⟨a, b, c, e⟩ := h
  have hA0 := hw.2.2.1
  refine ⟨fun p hp s hs => ?_, fun loom t => onA_congr (fun hS j hj => ?_) (fun _ _ _ _ => rfl)⟩
  · have h1 := c.1.1.1 p hp s hs
    have hmo : mo (nmo (V 132) n 0) (mmL (V 132) 0 n) := mo_of hw (by decide) (by decide) (fun j hj => rfl)
    have := tkA_bd (lo := V 132 0) (dl := 0) hw hmo hp (show s + 1 < (mmL (V 132) 0 n).length by unfold nst at hs; omega) hA0.1 (by omega)
    unfold nC at h1
    omega
  · exact a.2.1.1 j (by unfold nst at *; omega)
def onQ (V : Nat → Nat → Int) (R : Nat → Nat → Option Nat) (T : List (Nat × Nat)) (n : Nat) (l t : Int) (r : Option pm_V) (h2 : pm_H) : Prop := ∃ V2 v, h2 = (V2, R, T) ∧ rfr V V2 ∧ r = some (.inl v) ∧ ((¬ ((0 ≤ l ∧ l < V 132 0) ∧ 0 ≤ t ∧ t < 60) ∧ v = -1) ∨ (((0 ≤ l ∧ l < V 132 0) ∧ 0 ≤ t ∧ t < 60) ∧ ¬ hal (V 132) n (V 132 0) 0 ∧ v = -2) ∨ (((0 ≤ l ∧ l < V 132 0) ∧ 0 ≤ t ∧ t < 60) ∧ hal (V 132) n (V 132 0) 0 ∧ ∃ x, clo (V 132) n x ∧ v = onA (nmo (V 132) n 0) (nS (V 132) n 0) n x l.toNat t.toNat))
theorem m_on (hd : 10 ≤ d) (hf : fx R T) (hw : wf (V 132) n) (l t : Int) : pm_ok d 153 [.inr (.inr (some 131)), .inl l, .inl t] (V, R, T) (onQ V R T n l t) := by
  obtain ⟨d, rfl⟩ : ∃ k, d = k + 1 := ⟨d - 1, by omega⟩
  refine pm_ok_iff.mpr ⟨(Nat.le_of_ble_eq_true rfl), ?_⟩
  show pm_w d 153 0 [some (.inr (.inr (some 131))), some (.inl l), some (.inl t)] [] (V, R, T) _
  have hA0 := hw.2.2.1
  have hn := hw.1
  simp only [ux_153_0, ux_153_1, ux_153_2, ux_153_3, ux_153_6, ux_153_7, ux_153_8, ux_153_9, ux_153_10, ux_153_13, ux_153_16, ux_153_17, ux_153_18, ux_153_20, ux_153_23, ux_153_27, ux_153_29, ux_153_35, ux_153_36, ux_153_37, ux_153_38, ux_153_41, ux_153_44, ux_153_46, pm_i_c, pm_l_c, pm_q_c, pm_r_c, pm_li_0, pm_li_s, pm_ll_0, pm_ll_s, pm_lq_0, pm_lq_s, pm_s1, pm_s2, pm_kl, pm_wI, pm_wR, pm_pu_n, pm_pu_s, pm_wt, List.take_succ_cons, List.take_zero, List.take_nil, List.drop_succ_cons, List.drop_zero, List.reverse_cons, List.reverse_nil, List.nil_append, List.cons_append, List.length_cons, List.length_nil, true_and, and_true, true_implies, tn_l, tn_0, Int.reduceToNat, Int.reduceLE, Int.reduceLT, Int.reduceEq, Int.reduceAdd, Int.reduceSub, Int.reduceMul, Int.reduceNeg, Nat.reduceAdd, Nat.reduceLeDiff, Nat.reduceEqDiff, Nat.reduceSub, Option.some.injEq, Sum.inl.injEq, Sum.inr.injEq, or_true, true_or, reduceCtorEq, ne_eq, not_false_eq_true, not_true_eq_false, false_implies, implies_true, false_and, and_false, false_or, or_false, if_true, if_false, fr_131_0 hf, fr_131_1 hf, fr_131_5 hf, fr_131_7 hf, fr_131_8 hf, fr_131_9 hf, fr_131_12 hf, fr_131_13 hf, fr_131_14 hf, fr_131_15 hf, fr_131_19 hf, fr_131_20 hf, fr_131_21 hf, fr_131_22 hf, fr_131_23 hf, fr_131_24 hf, fg_131 hf, fv_131 hf, fb_132 hf, fb_133 hf, fb_134 hf, fb_135 hf, fb_136 hf, fb_137 hf, fb_138 hf, fb_139 hf, fb_140 hf, fb_141 hf, fb_142 hf, fb_143 hf, fb_144 hf, fb_145 hf, fb_146 hf, fb_147 hf, pm_ok_ev (m_in (d := d) (by omega) _ _ _)]
  refine ⟨by unfold pm_I32; omega, ?_⟩
  have bad : ¬ ((0 ≤ l ∧ l < V 132 0) ∧ 0 ≤ t ∧ t < 60) → pm_w d 153 26 [some (.inr (.inr (some 131))), some (.inl l), some (.inl t)] [] (V, R, T) (onQ V R T n l t) := by
    intro hb
    rw [ux_153_26]
    simp only [ux_153_0, ux_153_1, ux_153_2, ux_153_3, ux_153_6, ux_153_7, ux_153_8, ux_153_9, ux_153_10, ux_153_13, ux_153_16, ux_153_17, ux_153_18, ux_153_20, ux_153_23, ux_153_27, ux_153_29, ux_153_35, ux_153_36, ux_153_37, ux_153_38, ux_153_41, ux_153_44, ux_153_46, pm_i_c, pm_l_c, pm_q_c, pm_r_c, pm_li_0, pm_li_s, pm_ll_0, pm_ll_s, pm_lq_0, pm_lq_s, pm_s1, pm_s2, pm_kl, pm_wI, pm_wR, pm_pu_n, pm_pu_s, pm_wt, List.take_succ_cons, List.take_zero, List.take_nil, List.drop_succ_cons, List.drop_zero, List.reverse_cons, List.reverse_nil, List.nil_append, List.cons_append, List.length_cons, List.length_nil, true_and, and_true, true_implies, tn_l, tn_0, Int.reduceToNat, Int.reduceLE, Int.reduceLT, Int.reduceEq, Int.reduceAdd, Int.reduceSub, Int.reduceMul, Int.reduceNeg, Nat.reduceAdd, Nat.reduceLeDiff, Nat.reduceEqDiff, Nat.reduceSub, Option.some.injEq, Sum.inl.injEq, Sum.inr.injEq, or_true, true_or, reduceCtorEq, ne_eq, not_false_eq_true, not_true_eq_false, false_implies, implies_true, false_and, and_false, false_or, or_false, if_true, if_false, fr_131_0 hf, fr_131_1 hf, fr_131_5 hf, fr_131_7 hf, fr_131_8 hf, fr_131_9 hf, fr_131_12 hf, fr_131_13 hf, fr_131_14 hf, fr_131_15 hf, fr_131_19 hf, fr_131_20 hf, fr_131_21 hf, fr_131_22 hf, fr_131_23 hf, fr_131_24 hf, fg_131 hf, fv_131 hf, fb_132 hf, fb_133 hf, fb_134 hf, fb_135 hf, fb_136 hf, fb_137 hf, fb_138 hf, fb_139 hf, fb_140 hf, fb_141 hf, fb_142 hf, fb_143 hf, fb_144 hf, fb_145 hf, fb_146 hf, fb_147 hf]
    exact ⟨V, _, rfl, fun _ _ _ => rfl, rfl, Or.inl ⟨hb, rfl⟩⟩
  by_cases c1 : 0 ≤ l ∧ l ≤ V 132 0 - 1
  · rw [if_pos c1]
    refine ⟨fun z => by omega, fun _ => ?_⟩
    by_cases c2 : 0 ≤ t ∧ t ≤ 59
    · rw [if_pos c2]
      refine ⟨fun _ => ?_, fun z => absurd (by decide) z⟩
      rw [ux_153_28]
      simp only [ux_153_0, ux_153_1, ux_153_2, ux_153_3, ux_153_6, ux_153_7, ux_153_8, ux_153_9, ux_153_10, ux_153_13, ux_153_16, ux_153_17, ux_153_18, ux_153_20, ux_153_23, ux_153_27, ux_153_29, ux_153_35, ux_153_36, ux_153_37, ux_153_38, ux_153_41, ux_153_44, ux_153_46, pm_i_c, pm_l_c, pm_q_c, pm_r_c, pm_li_0, pm_li_s, pm_ll_0, pm_ll_s, pm_lq_0, pm_lq_s, pm_s1, pm_s2, pm_kl, pm_wI, pm_wR, pm_pu_n, pm_pu_s, pm_wt, List.take_succ_cons, List.take_zero, List.take_nil, List.drop_succ_cons, List.drop_zero, List.reverse_cons, List.reverse_nil, List.nil_append, List.cons_append, List.length_cons, List.length_nil, true_and, and_true, true_implies, tn_l, tn_0, Int.reduceToNat, Int.reduceLE, Int.reduceLT, Int.reduceEq, Int.reduceAdd, Int.reduceSub, Int.reduceMul, Int.reduceNeg, Nat.reduceAdd, Nat.reduceLeDiff, Nat.reduceEqDiff, Nat.reduceSub, Option.some.injEq, Sum.inl.injEq, Sum.inr.injEq, or_true, true_or, reduceCtorEq, ne_eq, not_false_eq_true, not_true_eq_false, false_implies, implies_true, false_and, and_false, false_or, or_false, if_true, if_false, fr_131_0 hf, fr_131_1 hf, fr_131_5 hf, fr_131_7 hf, fr_131_8 hf, fr_131_9 hf, fr_131_12 hf, fr_131_13 hf, fr_131_14 hf, fr_131_15 hf, fr_131_19 hf, fr_131_20 hf, fr_131_21 hf, fr_131_22 hf, fr_131_23 hf, fr_131_24 hf, fg_131 hf, fv_131 hf, fb_132 hf, fb_133 hf, fb_134 hf, fb_135 hf, fb_136 hf, fb_137 hf, fb_138 hf, fb_139 hf, fb_140 hf, fb_141 hf, fb_142 hf, fb_143 hf, fb_144 hf, fb_145 hf, fb_146 hf, fb_147 hf]
      refine pm_ok_mono (m_weave (d := d) (by omega) hf hw) ?_
      rintro r h2 ⟨V3, rfl, b1, ⟨rfl, b2⟩ | ⟨rfl, b2, b3⟩⟩
      · rw [pm_pu_s, ux_153_32]
        simp only [ux_153_0, ux_153_1, ux_153_2, ux_153_3, ux_153_6, ux_153_7, ux_153_8, ux_153_9, ux_153_10, ux_153_13, ux_153_16, ux_153_17, ux_153_18, ux_153_20, ux_153_23, ux_153_27, ux_153_29, ux_153_35, ux_153_36, ux_153_37, ux_153_38, ux_153_41, ux_153_44, ux_153_46, pm_i_c, pm_l_c, pm_q_c, pm_r_c, pm_li_0, pm_li_s, pm_ll_0, pm_ll_s, pm_lq_0, pm_lq_s, pm_s1, pm_s2, pm_kl, pm_wI, pm_wR, pm_pu_n, pm_pu_s, pm_wt, List.take_succ_cons, List.take_zero, List.take_nil, List.drop_succ_cons, List.drop_zero, List.reverse_cons, List.reverse_nil, List.nil_append, List.cons_append, List.length_cons, List.length_nil, true_and, and_true, true_implies, tn_l, tn_0, Int.reduceToNat, Int.reduceLE, Int.reduceLT, Int.reduceEq, Int.reduceAdd, Int.reduceSub, Int.reduceMul, Int.reduceNeg, Nat.reduceAdd, Nat.reduceLeDiff, Nat.reduceEqDiff, Nat.reduceSub, Option.some.injEq, Sum.inl.injEq, Sum.inr.injEq, or_true, true_or, reduceCtorEq, ne_eq, not_false_eq_true, not_true_eq_false, false_implies, implies_true, false_and, and_false, false_or, or_false, if_true, if_false, fr_131_0 hf, fr_131_1 hf, fr_131_5 hf, fr_131_7 hf, fr_131_8 hf, fr_131_9 hf, fr_131_12 hf, fr_131_13 hf, fr_131_14 hf, fr_131_15 hf, fr_131_19 hf, fr_131_20 hf, fr_131_21 hf, fr_131_22 hf, fr_131_23 hf, fr_131_24 hf, fg_131 hf, fv_131 hf, fb_132 hf, fb_133 hf, fb_134 hf, fb_135 hf, fb_136 hf, fb_137 hf, fb_138 hf, fb_139 hf, fb_140 hf, fb_141 hf, fb_142 hf, fb_143 hf, fb_144 hf, fb_145 hf, fb_146 hf, fb_147 hf]
        exact ⟨V3, _, rfl, b1, rfl, Or.inr (Or.inl ⟨by omega, b2, rfl⟩)⟩
      · rw [pm_pu_s, ux_153_32]
        obtain ⟨ln, rfl⟩ : ∃ k : Nat, l = k := ⟨l.toNat, by omega⟩
        obtain ⟨tn, rfl⟩ : ∃ k : Nat, t = k := ⟨t.toNat, by omega⟩
        obtain ⟨w1, w2⟩ := we_bd hw b3
        simp only [ux_153_0, ux_153_1, ux_153_2, ux_153_3, ux_153_6, ux_153_7, ux_153_8, ux_153_9, ux_153_10, ux_153_13, ux_153_16, ux_153_17, ux_153_18, ux_153_20, ux_153_23, ux_153_27, ux_153_29, ux_153_35, ux_153_36, ux_153_37, ux_153_38, ux_153_41, ux_153_44, ux_153_46, pm_i_c, pm_l_c, pm_q_c, pm_r_c, pm_li_0, pm_li_s, pm_ll_0, pm_ll_s, pm_lq_0, pm_lq_s, pm_s1, pm_s2, pm_kl, pm_wI, pm_wR, pm_pu_n, pm_pu_s, pm_wt, List.take_succ_cons, List.take_zero, List.take_nil, List.drop_succ_cons, List.drop_zero, List.reverse_cons, List.reverse_nil, List.nil_append, List.cons_append, List.length_cons, List.length_nil, true_and, and_true, true_implies, tn_l, tn_0, Int.reduceToNat, Int.reduceLE, Int.reduceLT, Int.reduceEq, Int.reduceAdd, Int.reduceSub, Int.reduceMul, Int.reduceNeg, Nat.reduceAdd, Nat.reduceLeDiff, Nat.reduceEqDiff, Nat.reduceSub, Option.some.injEq, Sum.inl.injEq, Sum.inr.injEq, or_true, true_or, reduceCtorEq, ne_eq, not_false_eq_true, not_true_eq_false, false_implies, implies_true, false_and, and_false, false_or, or_false, if_true, if_false, fr_131_0 hf, fr_131_1 hf, fr_131_5 hf, fr_131_7 hf, fr_131_8 hf, fr_131_9 hf, fr_131_12 hf, fr_131_13 hf, fr_131_14 hf, fr_131_15 hf, fr_131_19 hf, fr_131_20 hf, fr_131_21 hf, fr_131_22 hf, fr_131_23 hf, fr_131_24 hf, fg_131 hf, fv_131 hf, fb_132 hf, fb_133 hf, fb_134 hf, fb_135 hf, fb_136 hf, fb_137 hf, fb_138 hf, fb_139 hf, fb_140 hf, fb_141 hf, fb_142 hf, fb_143 hf, fb_144 hf, fb_145 hf, fb_146 hf, fb_147 hf, pm_ok_ev (m_pieceOn (d := d) (V := V3) (by omega) hf b3.1 w1 ln tn (by omega) (by omega))]
        exact ⟨V3, _, rfl, b1, rfl, Or.inr (Or.inr ⟨by omega, b2, xR V3, b3.2.2.1, by rw [Int.toNat_natCast, Int.toNat_natCast]; exact w2 ln tn⟩)⟩
    · rw [if_neg c2]
      exact ⟨fun z => absurd rfl z, fun _ => bad (by omega)⟩
  · rw [if_neg c1]
    exact ⟨fun _ => bad (by omega), fun z => absurd rfl z⟩
def ctA (A : Nat → Int) (n : Nat) (x : Nat → Nat → Int) : Int := sm (fun l => bgF (fun t => onA (nmo A n 0) (nS A n 0) n x l t) 60) (A 0).toNat - n
def ctQ (V : Nat → Nat → Int) (R : Nat → Nat → Option Nat) (T : List (Nat × Nat)) (n : Nat) (r : Option pm_V) (h2 : pm_H) : Prop := ∃ V2 v, h2 = (V2, R, T) ∧ rfr V V2 ∧ r = some (.inl v) ∧ ((¬ hal (V 132) n (V 132 0) 0 ∧ v = -2) ∨ (hal (V 132) n (V 132 0) 0 ∧ ∃ x, clo (V 132) n x ∧ v = ctA (V 132) n x))
theorem m_cuts (hd : 10 ≤ d) (hf : fx R T) (hw : wf (V 132) n) : pm_ok d 155 [.inr (.inr (some 131))] (V, R, T) (ctQ V R T n) := by
  obtain ⟨d, rfl⟩ : ∃ k, d = k + 1 := ⟨d - 1, by omega⟩
  refine pm_ok_iff.mpr ⟨(Nat.le_of_ble_eq_true rfl), ?_⟩
  show pm_w d 155 0 [some (.inr (.inr (some 131))), none, none, none, none, none] [] (V, R, T) _
  have hA0 := hw.2.2.1
  have hn := hw.1
  simp only [ux_155_0, ux_155_1, ux_155_7, ux_155_9, ux_155_10, ux_155_11, ux_155_14, ux_155_15, ux_155_16, ux_155_17, ux_155_18, ux_155_19, ux_155_21, ux_155_22, ux_155_25, ux_155_26, ux_155_27, ux_155_30, ux_155_32, ux_155_33, ux_155_34, ux_155_38, ux_155_40, ux_155_43, ux_155_44, ux_155_45, ux_155_47, ux_155_50, ux_155_52, ux_155_53, ux_155_55, ux_155_58, ux_155_60, ux_155_61, ux_155_64, ux_155_65, ux_155_68, ux_155_69, ux_155_70, ux_155_71, ux_155_73, ux_155_74, ux_155_77, ux_155_80, ux_155_83, ux_155_86, ux_155_87, pm_i_c, pm_l_c, pm_q_c, pm_r_c, pm_li_0, pm_li_s, pm_ll_0, pm_ll_s, pm_lq_0, pm_lq_s, pm_s1, pm_s2, pm_kl, pm_wI, pm_wR, pm_pu_n, pm_pu_s, pm_wt, List.take_succ_cons, List.take_zero, List.take_nil, List.drop_succ_cons, List.drop_zero, List.reverse_cons, List.reverse_nil, List.nil_append, List.cons_append, List.length_cons, List.length_nil, true_and, and_true, true_implies, tn_l, tn_0, Int.reduceToNat, Int.reduceLE, Int.reduceLT, Int.reduceEq, Int.reduceAdd, Int.reduceSub, Int.reduceMul, Int.reduceNeg, Nat.reduceAdd, Nat.reduceLeDiff, Nat.reduceEqDiff, Nat.reduceSub, Option.some.injEq, Sum.inl.injEq, Sum.inr.injEq, or_true, true_or, reduceCtorEq, ne_eq, not_false_eq_true, not_true_eq_false, false_implies, implies_true, false_and, and_false, false_or, or_false, if_true, if_false, fr_131_0 hf, fr_131_1 hf, fr_131_5 hf, fr_131_7 hf, fr_131_8 hf, fr_131_9 hf, fr_131_12 hf, fr_131_13 hf, fr_131_14 hf, fr_131_15 hf, fr_131_19 hf, fr_131_20 hf, fr_131_21 hf, fr_131_22 hf, fr_131_23 hf, fr_131_24 hf, fg_131 hf, fv_131 hf, fb_132 hf, fb_133 hf, fb_134 hf, fb_135 hf, fb_136 hf, fb_137 hf, fb_138 hf, fb_139 hf, fb_140 hf, fb_141 hf, fb_142 hf, fb_143 hf, fb_144 hf, fb_145 hf, fb_146 hf, fb_147 hf]
  refine pm_ok_mono (m_weave (d := d) (by omega) hf hw) ?_
  rintro r h2 ⟨V3, rfl, b1, ⟨rfl, b2⟩ | ⟨rfl, b2, b3⟩⟩
  · rw [pm_pu_s, ux_155_4]
    simp only [ux_155_0, ux_155_1, ux_155_7, ux_155_9, ux_155_10, ux_155_11, ux_155_14, ux_155_15, ux_155_16, ux_155_17, ux_155_18, ux_155_19, ux_155_21, ux_155_22, ux_155_25, ux_155_26, ux_155_27, ux_155_30, ux_155_32, ux_155_33, ux_155_34, ux_155_38, ux_155_40, ux_155_43, ux_155_44, ux_155_45, ux_155_47, ux_155_50, ux_155_52, ux_155_53, ux_155_55, ux_155_58, ux_155_60, ux_155_61, ux_155_64, ux_155_65, ux_155_68, ux_155_69, ux_155_70, ux_155_71, ux_155_73, ux_155_74, ux_155_77, ux_155_80, ux_155_83, ux_155_86, ux_155_87, pm_i_c, pm_l_c, pm_q_c, pm_r_c, pm_li_0, pm_li_s, pm_ll_0, pm_ll_s, pm_lq_0, pm_lq_s, pm_s1, pm_s2, pm_kl, pm_wI, pm_wR, pm_pu_n, pm_pu_s, pm_wt, List.take_succ_cons, List.take_zero, List.take_nil, List.drop_succ_cons, List.drop_zero, List.reverse_cons, List.reverse_nil, List.nil_append, List.cons_append, List.length_cons, List.length_nil, true_and, and_true, true_implies, tn_l, tn_0, Int.reduceToNat, Int.reduceLE, Int.reduceLT, Int.reduceEq, Int.reduceAdd, Int.reduceSub, Int.reduceMul, Int.reduceNeg, Nat.reduceAdd, Nat.reduceLeDiff, Nat.reduceEqDiff, Nat.reduceSub, Option.some.injEq, Sum.inl.injEq, Sum.inr.injEq, or_true, true_or, reduceCtorEq, ne_eq, not_false_eq_true, not_true_eq_false, false_implies, implies_true, false_and, and_false, false_or, or_false, if_true, if_false, fr_131_0 hf, fr_131_1 hf, fr_131_5 hf, fr_131_7 hf, fr_131_8 hf, fr_131_9 hf, fr_131_12 hf, fr_131_13 hf, fr_131_14 hf, fr_131_15 hf, fr_131_19 hf, fr_131_20 hf, fr_131_21 hf, fr_131_22 hf, fr_131_23 hf, fr_131_24 hf, fg_131 hf, fv_131 hf, fb_132 hf, fb_133 hf, fb_134 hf, fb_135 hf, fb_136 hf, fb_137 hf, fb_138 hf, fb_139 hf, fb_140 hf, fb_141 hf, fb_142 hf, fb_143 hf, fb_144 hf, fb_145 hf, fb_146 hf, fb_147 hf]
    exact ⟨V3, _, rfl, b1, rfl, Or.inl ⟨b2, rfl⟩⟩
  · obtain ⟨w1, w2⟩ := we_bd hw b3
    have e2 : V3 132 = V 132 := b3.2.1
    have eA2 : V 132 2 = n := hw.2.1
    obtain ⟨lo, hlo⟩ : ∃ k : Nat, V 132 0 = k := ⟨(V 132 0).toNat, by omega⟩
    generalize hg : (fun l t => onA (nmo (V 132) n 0) (nS (V 132) n 0) n (xR V3) l t) = g
    have hgv : ∀ l t, onA (nmo (V 132) n 0) (nS (V 132) n 0) n (xR V3) l t = g l t := fun l t => by rw [← hg]
    have gb : ∀ l t, -3 ≤ g l t ∧ g l t < 12 := by
      intro l t
      have := onA_bd (f := nmo (V 132) n 0) (S := nS (V 132) n 0) (n := n) (loom := l) (t := t) (x := xR V3)
      rw [hgv] at this
      omega
    have ev : ∀ l t : Nat, l ≤ 6 → t ≤ 60 → pm_ev d 154 [.inr (.inr (some 131)), .inl (l : Int), .inl (t : Int)] (V3, R, T) (some (.inl (g l t))) (V3, R, T) := by
      intro l t h1 h2
      have := m_pieceOn (d := d) (V := V3) (by omega) hf b3.1 w1 l t h1 h2
      rw [w2, hgv] at this
      exact this
    rw [pm_pu_s, ux_155_4]
    simp only [ux_155_0, ux_155_1, ux_155_7, ux_155_9, ux_155_10, ux_155_11, ux_155_14, ux_155_15, ux_155_16, ux_155_17, ux_155_18, ux_155_19, ux_155_21, ux_155_22, ux_155_25, ux_155_26, ux_155_27, ux_155_30, ux_155_32, ux_155_33, ux_155_34, ux_155_38, ux_155_40, ux_155_43, ux_155_44, ux_155_45, ux_155_47, ux_155_50, ux_155_52, ux_155_53, ux_155_55, ux_155_58, ux_155_60, ux_155_61, ux_155_64, ux_155_65, ux_155_68, ux_155_69, ux_155_70, ux_155_71, ux_155_73, ux_155_74, ux_155_77, ux_155_80, ux_155_83, ux_155_86, ux_155_87, pm_i_c, pm_l_c, pm_q_c, pm_r_c, pm_li_0, pm_li_s, pm_ll_0, pm_ll_s, pm_lq_0, pm_lq_s, pm_s1, pm_s2, pm_kl, pm_wI, pm_wR, pm_pu_n, pm_pu_s, pm_wt, List.take_succ_cons, List.take_zero, List.take_nil, List.drop_succ_cons, List.drop_zero, List.reverse_cons, List.reverse_nil, List.nil_append, List.cons_append, List.length_cons, List.length_nil, true_and, and_true, true_implies, tn_l, tn_0, Int.reduceToNat, Int.reduceLE, Int.reduceLT, Int.reduceEq, Int.reduceAdd, Int.reduceSub, Int.reduceMul, Int.reduceNeg, Nat.reduceAdd, Nat.reduceLeDiff, Nat.reduceEqDiff, Nat.reduceSub, Option.some.injEq, Sum.inl.injEq, Sum.inr.injEq, or_true, true_or, reduceCtorEq, ne_eq, not_false_eq_true, not_true_eq_false, false_implies, implies_true, false_and, and_false, false_or, or_false, if_true, if_false, fr_131_0 hf, fr_131_1 hf, fr_131_5 hf, fr_131_7 hf, fr_131_8 hf, fr_131_9 hf, fr_131_12 hf, fr_131_13 hf, fr_131_14 hf, fr_131_15 hf, fr_131_19 hf, fr_131_20 hf, fr_131_21 hf, fr_131_22 hf, fr_131_23 hf, fr_131_24 hf, fg_131 hf, fv_131 hf, fb_132 hf, fb_133 hf, fb_134 hf, fb_135 hf, fb_136 hf, fb_137 hf, fb_138 hf, fb_139 hf, fb_140 hf, fb_141 hf, fb_142 hf, fb_143 hf, fb_144 hf, fb_145 hf, fb_146 hf, fb_147 hf, e2, eA2]
    refine ⟨by unfold pm_I32; omega, ?_⟩
    have key := pm_up0 (fun l => ∀ y3 y4 y5, pm_w d 155 20 [some (.inr (.inr (some 131))), some (.inl (sm (fun l => bgF (g l) 60) l - n)), some (.inl (l : Int)), y3, y4, y5] [] (V3, R, T) (ctQ V R T n)) lo ?_ ?_
    · have := key none none none
      rw [show sm (fun l => bgF (g l) 60) 0 - (n : Int) = -(n : Int) by show 0 - (n : Int) = _; omega] at this
      exact this
    · intro y3 y4 y5
      rw [ux_155_20]
      simp only [ux_155_0, ux_155_1, ux_155_7, ux_155_9, ux_155_10, ux_155_11, ux_155_14, ux_155_15, ux_155_16, ux_155_17, ux_155_18, ux_155_19, ux_155_21, ux_155_22, ux_155_25, ux_155_26, ux_155_27, ux_155_30, ux_155_32, ux_155_33, ux_155_34, ux_155_38, ux_155_40, ux_155_43, ux_155_44, ux_155_45, ux_155_47, ux_155_50, ux_155_52, ux_155_53, ux_155_55, ux_155_58, ux_155_60, ux_155_61, ux_155_64, ux_155_65, ux_155_68, ux_155_69, ux_155_70, ux_155_71, ux_155_73, ux_155_74, ux_155_77, ux_155_80, ux_155_83, ux_155_86, ux_155_87, pm_i_c, pm_l_c, pm_q_c, pm_r_c, pm_li_0, pm_li_s, pm_ll_0, pm_ll_s, pm_lq_0, pm_lq_s, pm_s1, pm_s2, pm_kl, pm_wI, pm_wR, pm_pu_n, pm_pu_s, pm_wt, List.take_succ_cons, List.take_zero, List.take_nil, List.drop_succ_cons, List.drop_zero, List.reverse_cons, List.reverse_nil, List.nil_append, List.cons_append, List.length_cons, List.length_nil, true_and, and_true, true_implies, tn_l, tn_0, Int.reduceToNat, Int.reduceLE, Int.reduceLT, Int.reduceEq, Int.reduceAdd, Int.reduceSub, Int.reduceMul, Int.reduceNeg, Nat.reduceAdd, Nat.reduceLeDiff, Nat.reduceEqDiff, Nat.reduceSub, Option.some.injEq, Sum.inl.injEq, Sum.inr.injEq, or_true, true_or, reduceCtorEq, ne_eq, not_false_eq_true, not_true_eq_false, false_implies, implies_true, false_and, and_false, false_or, or_false, if_true, if_false, fr_131_0 hf, fr_131_1 hf, fr_131_5 hf, fr_131_7 hf, fr_131_8 hf, fr_131_9 hf, fr_131_12 hf, fr_131_13 hf, fr_131_14 hf, fr_131_15 hf, fr_131_19 hf, fr_131_20 hf, fr_131_21 hf, fr_131_22 hf, fr_131_23 hf, fr_131_24 hf, fg_131 hf, fv_131 hf, fb_132 hf, fb_133 hf, fb_134 hf, fb_135 hf, fb_136 hf, fb_137 hf, fb_138 hf, fb_139 hf, fb_140 hf, fb_141 hf, fb_142 hf, fb_143 hf, fb_144 hf, fb_145 hf, fb_146 hf, fb_147 hf, e2, hlo]
      refine ⟨fun _ => ⟨V3, _, rfl, b1, rfl, Or.inr ⟨b2, xR V3, b3.2.2.1, ?_⟩⟩, fun z => absurd (Int.le_refl _) z⟩
      unfold ctA
      rw [hlo, Int.toNat_natCast]
      simp only [hgv]
    · intro l hl ih y3 y4 y5
      have sb := sm_bd (n := l) (f := fun l => bgF (g l) 60) (B := 60) (fun j _ => bgF_bd 60)
      rw [ux_155_20]
      simp only [ux_155_0, ux_155_1, ux_155_7, ux_155_9, ux_155_10, ux_155_11, ux_155_14, ux_155_15, ux_155_16, ux_155_17, ux_155_18, ux_155_19, ux_155_21, ux_155_22, ux_155_25, ux_155_26, ux_155_27, ux_155_30, ux_155_32, ux_155_33, ux_155_34, ux_155_38, ux_155_40, ux_155_43, ux_155_44, ux_155_45, ux_155_47, ux_155_50, ux_155_52, ux_155_53, ux_155_55, ux_155_58, ux_155_60, ux_155_61, ux_155_64, ux_155_65, ux_155_68, ux_155_69, ux_155_70, ux_155_71, ux_155_73, ux_155_74, ux_155_77, ux_155_80, ux_155_83, ux_155_86, ux_155_87, pm_i_c, pm_l_c, pm_q_c, pm_r_c, pm_li_0, pm_li_s, pm_ll_0, pm_ll_s, pm_lq_0, pm_lq_s, pm_s1, pm_s2, pm_kl, pm_wI, pm_wR, pm_pu_n, pm_pu_s, pm_wt, List.take_succ_cons, List.take_zero, List.take_nil, List.drop_succ_cons, List.drop_zero, List.reverse_cons, List.reverse_nil, List.nil_append, List.cons_append, List.length_cons, List.length_nil, true_and, and_true, true_implies, tn_l, tn_0, Int.reduceToNat, Int.reduceLE, Int.reduceLT, Int.reduceEq, Int.reduceAdd, Int.reduceSub, Int.reduceMul, Int.reduceNeg, Nat.reduceAdd, Nat.reduceLeDiff, Nat.reduceEqDiff, Nat.reduceSub, Option.some.injEq, Sum.inl.injEq, Sum.inr.injEq, or_true, true_or, reduceCtorEq, ne_eq, not_false_eq_true, not_true_eq_false, false_implies, implies_true, false_and, and_false, false_or, or_false, if_true, if_false, fr_131_0 hf, fr_131_1 hf, fr_131_5 hf, fr_131_7 hf, fr_131_8 hf, fr_131_9 hf, fr_131_12 hf, fr_131_13 hf, fr_131_14 hf, fr_131_15 hf, fr_131_19 hf, fr_131_20 hf, fr_131_21 hf, fr_131_22 hf, fr_131_23 hf, fr_131_24 hf, fg_131 hf, fv_131 hf, fb_132 hf, fb_133 hf, fb_134 hf, fb_135 hf, fb_136 hf, fb_137 hf, fb_138 hf, fb_139 hf, fb_140 hf, fb_141 hf, fb_142 hf, fb_143 hf, fb_144 hf, fb_145 hf, fb_146 hf, fb_147 hf, e2, hlo]
      refine ⟨fun z => by omega, fun _ => ?_⟩
      have key2 := pm_up0 (fun t => ∀ y5, pm_w d 155 36 [some (.inr (.inr (some 131))), some (.inl (sm (fun l => bgF (g l) 60) l - n + bgF (g l) t)), some (.inl (l : Int)), some (.inl (if t = 0 then -3 else g l (t - 1))), some (.inl (t : Int)), y5] [] (V3, R, T) (ctQ V R T n)) 60 ?_ ?_
      · have := key2 y5
        rw [if_pos rfl, show sm (fun l => bgF (g l) 60) l - (n : Int) + bgF (g l) 0 = sm (fun l => bgF (g l) 60) l - (n : Int) by show _ + 0 = _; omega] at this
        exact this
      · intro y5
        rw [ux_155_36]
        simp only [ux_155_0, ux_155_1, ux_155_7, ux_155_9, ux_155_10, ux_155_11, ux_155_14, ux_155_15, ux_155_16, ux_155_17, ux_155_18, ux_155_19, ux_155_21, ux_155_22, ux_155_25, ux_155_26, ux_155_27, ux_155_30, ux_155_32, ux_155_33, ux_155_34, ux_155_38, ux_155_40, ux_155_43, ux_155_44, ux_155_45, ux_155_47, ux_155_50, ux_155_52, ux_155_53, ux_155_55, ux_155_58, ux_155_60, ux_155_61, ux_155_64, ux_155_65, ux_155_68, ux_155_69, ux_155_70, ux_155_71, ux_155_73, ux_155_74, ux_155_77, ux_155_80, ux_155_83, ux_155_86, ux_155_87, pm_i_c, pm_l_c, pm_q_c, pm_r_c, pm_li_0, pm_li_s, pm_ll_0, pm_ll_s, pm_lq_0, pm_lq_s, pm_s1, pm_s2, pm_kl, pm_wI, pm_wR, pm_pu_n, pm_pu_s, pm_wt, List.take_succ_cons, List.take_zero, List.take_nil, List.drop_succ_cons, List.drop_zero, List.reverse_cons, List.reverse_nil, List.nil_append, List.cons_append, List.length_cons, List.length_nil, true_and, and_true, true_implies, tn_l, tn_0, Int.reduceToNat, Int.reduceLE, Int.reduceLT, Int.reduceEq, Int.reduceAdd, Int.reduceSub, Int.reduceMul, Int.reduceNeg, Nat.reduceAdd, Nat.reduceLeDiff, Nat.reduceEqDiff, Nat.reduceSub, Option.some.injEq, Sum.inl.injEq, Sum.inr.injEq, or_true, true_or, reduceCtorEq, ne_eq, not_false_eq_true, not_true_eq_false, false_implies, implies_true, false_and, and_false, false_or, or_false, if_true, if_false, fr_131_0 hf, fr_131_1 hf, fr_131_5 hf, fr_131_7 hf, fr_131_8 hf, fr_131_9 hf, fr_131_12 hf, fr_131_13 hf, fr_131_14 hf, fr_131_15 hf, fr_131_19 hf, fr_131_20 hf, fr_131_21 hf, fr_131_22 hf, fr_131_23 hf, fr_131_24 hf, fg_131 hf, fv_131 hf, fb_132 hf, fb_133 hf, fb_134 hf, fb_135 hf, fb_136 hf, fb_137 hf, fb_138 hf, fb_139 hf, fb_140 hf, fb_141 hf, fb_142 hf, fb_143 hf, fb_144 hf, fb_145 hf, fb_146 hf, fb_147 hf]
        refine ⟨fun _ => ⟨by unfold pm_I32; omega, ?_⟩, fun z => absurd (by decide) z⟩
        have := ih (some (.inl (if 60 = 0 then -3 else g l (60 - 1)))) (some (.inl 60)) y5
        rw [show sm (fun l => bgF (g l) 60) (l + 1) - (n : Int) = sm (fun l => bgF (g l) 60) l - (n : Int) + bgF (g l) 60 by show sm (fun l => bgF (g l) 60) l + bgF (g l) 60 - (n : Int) = _; omega] at this
        exact this
      · intro t ht ih2 y5
        have bb := bgF_bd (g := g l) t
        have gg := gb l t
        have e3 : bgF (g l) (t + 1) = bgF (g l) t + if 0 ≤ g l t ∧ g l t ≠ (if t = 0 then -3 else g l (t - 1)) then 1 else 0 := rfl
        have ih2 := ih2 (some (.inl (g l t)))
        rw [if_neg (show ¬ t + 1 = 0 by omega), show t + 1 - 1 = t by omega, e3] at ih2
        rw [ux_155_36]
        simp only [ux_155_0, ux_155_1, ux_155_7, ux_155_9, ux_155_10, ux_155_11, ux_155_14, ux_155_15, ux_155_16, ux_155_17, ux_155_18, ux_155_19, ux_155_21, ux_155_22, ux_155_25, ux_155_26, ux_155_27, ux_155_30, ux_155_32, ux_155_33, ux_155_34, ux_155_38, ux_155_40, ux_155_43, ux_155_44, ux_155_45, ux_155_47, ux_155_50, ux_155_52, ux_155_53, ux_155_55, ux_155_58, ux_155_60, ux_155_61, ux_155_64, ux_155_65, ux_155_68, ux_155_69, ux_155_70, ux_155_71, ux_155_73, ux_155_74, ux_155_77, ux_155_80, ux_155_83, ux_155_86, ux_155_87, pm_i_c, pm_l_c, pm_q_c, pm_r_c, pm_li_0, pm_li_s, pm_ll_0, pm_ll_s, pm_lq_0, pm_lq_s, pm_s1, pm_s2, pm_kl, pm_wI, pm_wR, pm_pu_n, pm_pu_s, pm_wt, List.take_succ_cons, List.take_zero, List.take_nil, List.drop_succ_cons, List.drop_zero, List.reverse_cons, List.reverse_nil, List.nil_append, List.cons_append, List.length_cons, List.length_nil, true_and, and_true, true_implies, tn_l, tn_0, Int.reduceToNat, Int.reduceLE, Int.reduceLT, Int.reduceEq, Int.reduceAdd, Int.reduceSub, Int.reduceMul, Int.reduceNeg, Nat.reduceAdd, Nat.reduceLeDiff, Nat.reduceEqDiff, Nat.reduceSub, Option.some.injEq, Sum.inl.injEq, Sum.inr.injEq, or_true, true_or, reduceCtorEq, ne_eq, not_false_eq_true, not_true_eq_false, false_implies, implies_true, false_and, and_false, false_or, or_false, if_true, if_false, fr_131_0 hf, fr_131_1 hf, fr_131_5 hf, fr_131_7 hf, fr_131_8 hf, fr_131_9 hf, fr_131_12 hf, fr_131_13 hf, fr_131_14 hf, fr_131_15 hf, fr_131_19 hf, fr_131_20 hf, fr_131_21 hf, fr_131_22 hf, fr_131_23 hf, fr_131_24 hf, fg_131 hf, fv_131 hf, fb_132 hf, fb_133 hf, fb_134 hf, fb_135 hf, fb_136 hf, fb_137 hf, fb_138 hf, fb_139 hf, fb_140 hf, fb_141 hf, fb_142 hf, fb_143 hf, fb_144 hf, fb_145 hf, fb_146 hf, fb_147 hf, pm_ok_ev (ev l t (by omega) (by omega))]
        generalize hq : (if t = 0 then -3 else g l (t - 1)) = q at ih2 ⊢
        refine ⟨fun z => by omega, fun _ => ⟨fun z => ?_, fun z => ⟨fun z2 => ?_, fun z2 => ?_⟩⟩⟩
        · rw [if_neg (by omega), Int.add_zero] at ih2
          rw [Int.add_zero]
          exact ⟨by unfold pm_I32; omega, by unfold pm_I32; omega, ih2⟩
        · rw [if_neg (fun w => w.2 z2), Int.add_zero] at ih2
          rw [Int.add_zero]
          exact ⟨by unfold pm_I32; omega, by unfold pm_I32; omega, ih2⟩
        · rw [if_pos ⟨by omega, z2⟩, ← Int.add_assoc] at ih2
          exact ⟨by unfold pm_I32; omega, by unfold pm_I32; omega, ih2⟩
end
