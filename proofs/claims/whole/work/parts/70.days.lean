/-! DAYS -/
def mxF (f : Nat → Int) : Nat → Int
  | 0 => 0
  | n + 1 => max (mxF f n) (f n)
theorem mxF_le {f : Nat → Int} {B : Int} : ∀ {n : Nat}, 0 ≤ B → (∀ j, j < n → f j ≤ B) → mxF f n ≤ B
  | 0, h, _ => h
  | n + 1, h, hf => by
    have h1 := mxF_le (n := n) h (fun j hj => hf j (by omega))
    have h2 := hf n (by omega)
    show max (mxF f n) (f n) ≤ B
    omega
theorem mxF_ge {f : Nat → Int} : ∀ {n j : Nat}, j < n → f j ≤ mxF f n
  | 0, j, h => by omega
  | n + 1, j, h => by
    show f j ≤ max (mxF f n) (f n)
    by_cases e : j = n
    · subst e; omega
    · have := mxF_ge (f := f) (n := n) (j := j) (by omega)
      omega
theorem mxF_nn {f : Nat → Int} : ∀ n, 0 ≤ mxF f n
  | 0 => Int.le_refl _
  | n + 1 => by
    have := mxF_nn (f := f) n
    show 0 ≤ max (mxF f n) (f n)
    omega
theorem mxF_congr {f g : Nat → Int} : ∀ {n : Nat}, (∀ j, j < n → f j = g j) → mxF f n = mxF g n
  | 0, _ => rfl
  | n + 1, h => by
    show max (mxF f n) (f n) = max (mxF g n) (g n)
    rw [mxF_congr (fun j hj => h j (by omega)), h n (by omega)]
/-- when a day ends, and the latest end -/
def dyF (n : Nat) (lo : Int) (ln a : Nat → Int) (d : Nat) : Int := max (mxF (fun p => if a p = (d : Int) then ln p else 0) n * lo) (sm (fun p => if a p = (d : Int) then ln p else 0) n)
def latF (n D : Nat) (lo : Int) (ln a : Nat → Int) : Int := mxF (dyF n lo ln a) D
theorem dyF_congr {n : Nat} {lo : Int} {ln a b : Nat → Int} {d : Nat} (h : ∀ p, p < n → a p = b p) : dyF n lo ln a d = dyF n lo ln b d := by
  unfold dyF
  rw [mxF_congr (g := fun p => if b p = (d : Int) then ln p else 0) (fun p hp => by rw [h p hp]), sm_congr (g := fun p => if b p = (d : Int) then ln p else 0) (fun p hp => by rw [h p hp])]
theorem latF_congr {n D : Nat} {lo : Int} {ln a b : Nat → Int} (h : ∀ p, p < n → a p = b p) : latF n D lo ln a = latF n D lo ln b := mxF_congr fun d _ => dyF_congr h
theorem dyF_bd {n : Nat} {lo : Int} {ln a : Nat → Int} {d : Nat} (hl : ∀ p, p < n → 1 ≤ ln p ∧ ln p ≤ 60) (h0 : 0 ≤ lo) (h1 : lo ≤ 6) (hn : n ≤ 8) : (0 ≤ mxF (fun p => if a p = (d : Int) then ln p else 0) n ∧ mxF (fun p => if a p = (d : Int) then ln p else 0) n ≤ 60) ∧ (0 ≤ sm (fun p => if a p = (d : Int) then ln p else 0) n ∧ sm (fun p => if a p = (d : Int) then ln p else 0) n ≤ 480) ∧ (0 ≤ mxF (fun p => if a p = (d : Int) then ln p else 0) n * lo ∧ mxF (fun p => if a p = (d : Int) then ln p else 0) n * lo ≤ 360) ∧ 0 ≤ dyF n lo ln a d ∧ dyF n lo ln a d ≤ 480 := by
  have a1 := mxF_nn (f := fun p => if a p = (d : Int) then ln p else 0) n
  have a2 := mxF_le (f := fun p => if a p = (d : Int) then ln p else 0) (n := n) (B := 60) (by decide) (fun p hp => by have := hl p hp; split <;> omega)
  have a3 := sm_bd (f := fun p => if a p = (d : Int) then ln p else 0) (n := n) (B := 60) (fun p hp => by have := hl p hp; split <;> omega)
  have a4 := mulbd a1 a2 h0 h1
  unfold dyF
  omega
theorem latF_bd {n D : Nat} {lo : Int} {ln a : Nat → Int} (hl : ∀ p, p < n → 1 ≤ ln p ∧ ln p ≤ 60) (h0 : 0 ≤ lo) (h1 : lo ≤ 6) (hn : n ≤ 8) : 0 ≤ latF n D lo ln a ∧ latF n D lo ln a ≤ 480 := ⟨mxF_nn D, mxF_le (by decide) fun d _ => (dyF_bd hl h0 h1 hn).2.2.2.2⟩
def vld (n D : Nat) (a : Nat → Int) : Prop := ∀ p, p < n → 0 ≤ a p ∧ a p < D
def lxL (n : Nat) (a b : Nat → Int) : Prop := ∃ p, p < n ∧ (∀ q, q < p → a q = b q) ∧ a p < b p
theorem lxL_asym {n : Nat} {a b : Nat → Int} (h : lxL n a b) (h' : lxL n b a) : False := by
  obtain ⟨p, p1, p2, p3⟩ := h
  obtain ⟨q, q1, q2, q3⟩ := h'
  by_cases c : p < q
  · have := q2 p c; omega
  · by_cases c2 : q < p
    · have := p2 q c2; omega
    · have : p = q := by omega
      subst this; omega
def dyS (n D : Nat) (lo : Int) (ln : Nat → Int) (m : Int) (a : Nat → Int) : Prop := vld n D a ∧ m = latF n D lo ln a ∧ ∀ b, vld n D b → m ≤ latF n D lo ln b ∧ (latF n D lo ln b = m → (∀ p, p < n → a p = b p) ∨ lxL n a b)
theorem dyS_un {n D : Nat} {lo m m' : Int} {ln a a' : Nat → Int} (h : dyS n D lo ln m a) (h' : dyS n D lo ln m' a') : m = m' ∧ ∀ p, p < n → a p = a' p := by
  obtain ⟨a1, a2, a3⟩ := h
  obtain ⟨b1, b2, b3⟩ := h'
  have e : m = m' := by
    have h1 := (a3 a' b1).1
    have h2 := (b3 a a1).1
    omega
  refine ⟨e, ?_⟩
  rcases (a3 a' b1).2 (by omega) with h1 | h1
  · exact h1
  · rcases (b3 a a1).2 (by omega) with h2 | h2
    · exact fun p hp => (h2 p hp).symm
    · exact (lxL_asym h1 h2).elim
/-- sharings as numbers -/
def dgN (D : Nat) : Nat → Nat → Nat → Int
  | 0, _, _ => 0
  | n + 1, k, p => if p = n then ((k % D : Nat) : Int) else dgN D n (k / D) p
theorem dgN_vld {D : Nat} (hD : 0 < D) : ∀ (n k : Nat), vld n D (dgN D n k)
  | 0, _, p, hp => by omega
  | n + 1, k, p, hp => by
    show 0 ≤ (if p = n then ((k % D : Nat) : Int) else dgN D n (k / D) p) ∧ (if p = n then ((k % D : Nat) : Int) else dgN D n (k / D) p) < D
    by_cases e : p = n
    · rw [if_pos e]
      have := Nat.mod_lt k hD
      omega
    · rw [if_neg e]; exact dgN_vld hD n (k / D) p (by omega)
theorem dgN_lt {D : Nat} (hD : 0 < D) : ∀ {n k k' : Nat}, k < k' → k' < D ^ n → lxL n (dgN D n k) (dgN D n k')
  | 0, k, k', h, h' => by rw [Nat.pow_zero] at h'; omega
  | n + 1, k, k', h, h' => by
    have h2 : k / D ≤ k' / D := Nat.div_le_div_right (by omega)
    by_cases c : k / D < k' / D
    · have h3 : k' / D < D ^ n := by
        rw [Nat.div_lt_iff_lt_mul hD]
        rw [Nat.pow_succ] at h'
        exact h'
      obtain ⟨p, p1, p2, p3⟩ := dgN_lt hD c h3
      refine ⟨p, by omega, fun q hq => ?_, ?_⟩
      · show (if q = n then _ else dgN D n (k / D) q) = (if q = n then _ else dgN D n (k' / D) q)
        rw [if_neg (by omega), if_neg (by omega)]; exact p2 q hq
      · show (if p = n then _ else dgN D n (k / D) p) < (if p = n then _ else dgN D n (k' / D) p)
        rw [if_neg (by omega), if_neg (by omega)]; exact p3
    · have e : k / D = k' / D := by omega
      refine ⟨n, by omega, fun q hq => ?_, ?_⟩
      · show (if q = n then _ else dgN D n (k / D) q) = (if q = n then _ else dgN D n (k' / D) q)
        rw [if_neg (by omega), if_neg (by omega), e]
      · show (if n = n then ((k % D : Nat) : Int) else dgN D n (k / D) n) < (if n = n then ((k' % D : Nat) : Int) else dgN D n (k' / D) n)
        rw [if_pos rfl, if_pos rfl]
        have e1 := Nat.div_add_mod k D
        have e2 := Nat.div_add_mod k' D
        rw [← e] at e2
        omega
theorem dgN_ex {D : Nat} (hD : 0 < D) : ∀ {n : Nat} {a : Nat → Int}, vld n D a → ∃ k, k < D ^ n ∧ ∀ p, p < n → dgN D n k p = a p
  | 0, a, _ => ⟨0, by rw [Nat.pow_zero]; omega, fun p hp => by omega⟩
  | n + 1, a, h => by
    obtain ⟨k, k1, k2⟩ := dgN_ex hD (n := n) (a := a) (fun p hp => h p (by omega))
    have hn := h n (by omega)
    have hd : (k * D + (a n).toNat) / D = k := by
      rw [Nat.mul_comm, Nat.mul_add_div hD, Nat.div_eq_of_lt (by omega)]; omega
    have hm : (k * D + (a n).toNat) % D = (a n).toNat := by
      rw [Nat.mul_comm, Nat.mul_add_mod, Nat.mod_eq_of_lt (by omega)]
    refine ⟨k * D + (a n).toNat, ?_, fun p hp => ?_⟩
    · rw [Nat.pow_succ]
      have : (k + 1) * D ≤ D ^ n * D := Nat.mul_le_mul_right D k1
      rw [Nat.add_mul] at this
      omega
    · show (if p = n then (((k * D + (a n).toNat) % D : Nat) : Int) else dgN D n ((k * D + (a n).toNat) / D) p) = a p
      by_cases e : p = n
      · rw [if_pos e, hm, e]; omega
      · rw [if_neg e, hd]; exact k2 p (by omega)
theorem dy_of {n D kb : Nat} {lo m : Int} {ln a : Nat → Int} (hD : 0 < D) (hk : kb < D ^ n) (hm : m = latF n D lo ln (dgN D n kb)) (h1 : ∀ j, j < D ^ n → m ≤ latF n D lo ln (dgN D n j)) (h2 : ∀ j, j < kb → m < latF n D lo ln (dgN D n j)) (ha : ∀ p, p < n → a p = dgN D n kb p) : dyS n D lo ln m a := by
  refine ⟨fun p hp => by rw [ha p hp]; exact dgN_vld hD n kb p hp, hm.trans (latF_congr fun p hp => (ha p hp).symm), fun b hb => ?_⟩
  obtain ⟨k, k1, k2⟩ := dgN_ex hD hb
  have e : latF n D lo ln (dgN D n k) = latF n D lo ln b := latF_congr k2
  refine ⟨by rw [← e]; exact h1 k k1, fun z => ?_⟩
  by_cases c : k < kb
  · have := h2 k c; omega
  · by_cases c2 : k = kb
    · subst c2
      exact Or.inl fun p hp => (ha p hp).trans (k2 p hp)
    · obtain ⟨p, p1, p2, p3⟩ := dgN_lt hD (show kb < k by omega) k1
      exact Or.inr ⟨p, p1, fun q hq => by rw [ha q (by omega), p2 q hq, k2 q (by omega)], by rw [ha p p1, ← k2 p p1]; exact p3⟩
def dyO (A : Nat → Int) (n : Nat) (D w v : Int) : Prop := (¬ ((1 ≤ D ∧ D ≤ 4) ∧ ((0 ≤ w ∧ w ≤ 1) ∨ (10 ≤ w ∧ w ≤ 9 + n))) ∧ v = -1) ∨ (((1 ≤ D ∧ D ≤ 4) ∧ ((0 ≤ w ∧ w ≤ 1) ∨ (10 ≤ w ∧ w ≤ 9 + n))) ∧ ¬ (1 ≤ n ∧ n ≤ 8) ∧ v = -2) ∨ (((1 ≤ D ∧ D ≤ 4) ∧ ((0 ≤ w ∧ w ≤ 1) ∨ (10 ≤ w ∧ w ≤ 9 + n))) ∧ (1 ≤ n ∧ n ≤ 8) ∧ ∃ m a, dyS n D.toNat (A 0) (fun p => A (15 + p)) m a ∧ v = if w = 0 then (rdA m.toNat (A 0).toNat : Int) else if w = 1 then (rdB m.toNat (A 0).toNat : Int) else a (w - 10).toNat)
theorem dyO_un {A : Nat → Int} {n : Nat} {D w v v' : Int} (h : dyO A n D w v) (h' : dyO A n D w v') : v = v' := by
  rcases h with ⟨a, rfl⟩ | ⟨a, b, rfl⟩ | ⟨a, b, m, c, hc, rfl⟩ <;> rcases h' with ⟨a', rfl⟩ | ⟨a', b', rfl⟩ | ⟨a', b', m', c', hc', rfl⟩
  all_goals first | rfl | (exact absurd a' a) | (exact absurd a a') | (exact absurd b b') | (exact absurd b' b) | skip
  obtain ⟨e1, e2⟩ := dyS_un hc hc'
  rw [e1]
  by_cases c0 : w = 0
  · rw [if_pos c0, if_pos c0]
  · rw [if_neg c0, if_neg c0]
    by_cases c1 : w = 1
    · rw [if_pos c1, if_pos c1]
    · rw [if_neg c1, if_neg c1]
      exact e2 _ (by omega)
section
variable {d : Nat} {h : pm_H} {V W : Nat → Nat → Int} {R : Nat → Nat → Option Nat} {T : List (Nat × Nat)} {n : Nat}
theorem m_latest (hd : 1 ≤ d) (hf : fx R T) (hw : wf (V 132) n) (hn8 : n ≤ 8) (D : Nat) (hD : D ≤ 4) : pm_ev d 171 [.inr (.inr (some 131)), .inl (D : Int)] (V, R, T) (some (.inl (latF n D (V 132 0) (fun p => V 132 (15 + p)) (V 146)))) (V, R, T) := by
  refine pm_ev_of hd (Nat.le_of_ble_eq_true rfl) ?_
  show pm_w (d - 1) 171 0 [some (.inr (.inr (some 131))), some (.inl (D : Int)), none, none, none, none, none, none] [] (V, R, T) _
  have hA0 := hw.2.2.1
  have hA2 := hw.2.1
  have hl : ∀ p, p < n → 1 ≤ V 132 (15 + p) ∧ V 132 (15 + p) ≤ 60 := fun p hp => (hw.2.2.2.2 p hp).2.1
  simp only [ux_171_0, ux_171_1, ux_171_2, ux_171_3, ux_171_5, ux_171_6, ux_171_9, ux_171_10, ux_171_12, ux_171_13, ux_171_15, ux_171_16, ux_171_20, ux_171_21, ux_171_24, ux_171_25, ux_171_26, ux_171_29, ux_171_30, ux_171_33, ux_171_35, ux_171_36, ux_171_37, ux_171_40, ux_171_41, ux_171_44, ux_171_46, ux_171_48, ux_171_49, ux_171_50, ux_171_53, ux_171_54, ux_171_56, ux_171_58, ux_171_60, ux_171_61, ux_171_63, ux_171_65, ux_171_67, ux_171_70, ux_171_72, ux_171_75, ux_171_77, ux_171_79, ux_171_82, ux_171_87, ux_171_88, ux_171_91, ux_171_92, ux_171_93, ux_171_94, ux_171_96, ux_171_99, ux_171_101, ux_171_102, ux_171_105, ux_171_106, ux_171_107, ux_171_108, ux_171_111, ux_171_113, ux_171_115, ux_171_117, ux_171_118, ux_171_121, ux_171_123, ux_171_126, ux_171_127, ux_171_128, ux_171_131, ux_171_134, ux_171_135, pm_i_c, pm_l_c, pm_q_c, pm_r_c, pm_li_0, pm_li_s, pm_ll_0, pm_ll_s, pm_lq_0, pm_lq_s, pm_s1, pm_s2, pm_kl, pm_wI, pm_wR, pm_pu_n, pm_pu_s, pm_wt, List.take_succ_cons, List.take_zero, List.take_nil, List.drop_succ_cons, List.drop_zero, List.reverse_cons, List.reverse_nil, List.nil_append, List.cons_append, List.length_cons, List.length_nil, true_and, and_true, true_implies, tn_l, tn_0, Int.reduceToNat, Int.reduceLE, Int.reduceLT, Int.reduceEq, Int.reduceAdd, Int.reduceSub, Int.reduceMul, Int.reduceNeg, Nat.reduceAdd, Nat.reduceLeDiff, Nat.reduceEqDiff, Nat.reduceSub, Option.some.injEq, Sum.inl.injEq, Sum.inr.injEq, or_true, true_or, reduceCtorEq, ne_eq, not_false_eq_true, not_true_eq_false, false_implies, implies_true, false_and, and_false, false_or, or_false, if_true, if_false, fr_131_0 hf, fr_131_1 hf, fr_131_5 hf, fr_131_7 hf, fr_131_8 hf, fr_131_9 hf, fr_131_12 hf, fr_131_13 hf, fr_131_14 hf, fr_131_15 hf, fr_131_19 hf, fr_131_20 hf, fr_131_21 hf, fr_131_22 hf, fr_131_23 hf, fr_131_24 hf, fg_131 hf, fv_131 hf, fb_132 hf, fb_133 hf, fb_134 hf, fb_135 hf, fb_136 hf, fb_137 hf, fb_138 hf, fb_139 hf, fb_140 hf, fb_141 hf, fb_142 hf, fb_143 hf, fb_144 hf, fb_145 hf, fb_146 hf, fb_147 hf]
  refine pm_up0 (fun e => ∀ y4 y5 y6 y7, pm_w (d - 1) 171 4 [some (.inr (.inr (some 131))), some (.inl (D : Int)), some (.inl (mxF (dyF n (V 132 0) (fun p => V 132 (15 + p)) (V 146)) e)), some (.inl (e : Int)), y4, y5, y6, y7] [] (V, R, T) (fun r2 h2 => r2 = some (.inl (latF n D (V 132 0) (fun p => V 132 (15 + p)) (V 146))) ∧ h2 = (V, R, T))) D ?_ ?_ none none none none
  · intro y4 y5 y6 y7
    rw [ux_171_4]
    simp only [ux_171_0, ux_171_1, ux_171_2, ux_171_3, ux_171_5, ux_171_6, ux_171_9, ux_171_10, ux_171_12, ux_171_13, ux_171_15, ux_171_16, ux_171_20, ux_171_21, ux_171_24, ux_171_25, ux_171_26, ux_171_29, ux_171_30, ux_171_33, ux_171_35, ux_171_36, ux_171_37, ux_171_40, ux_171_41, ux_171_44, ux_171_46, ux_171_48, ux_171_49, ux_171_50, ux_171_53, ux_171_54, ux_171_56, ux_171_58, ux_171_60, ux_171_61, ux_171_63, ux_171_65, ux_171_67, ux_171_70, ux_171_72, ux_171_75, ux_171_77, ux_171_79, ux_171_82, ux_171_87, ux_171_88, ux_171_91, ux_171_92, ux_171_93, ux_171_94, ux_171_96, ux_171_99, ux_171_101, ux_171_102, ux_171_105, ux_171_106, ux_171_107, ux_171_108, ux_171_111, ux_171_113, ux_171_115, ux_171_117, ux_171_118, ux_171_121, ux_171_123, ux_171_126, ux_171_127, ux_171_128, ux_171_131, ux_171_134, ux_171_135, pm_i_c, pm_l_c, pm_q_c, pm_r_c, pm_li_0, pm_li_s, pm_ll_0, pm_ll_s, pm_lq_0, pm_lq_s, pm_s1, pm_s2, pm_kl, pm_wI, pm_wR, pm_pu_n, pm_pu_s, pm_wt, List.take_succ_cons, List.take_zero, List.take_nil, List.drop_succ_cons, List.drop_zero, List.reverse_cons, List.reverse_nil, List.nil_append, List.cons_append, List.length_cons, List.length_nil, true_and, and_true, true_implies, tn_l, tn_0, Int.reduceToNat, Int.reduceLE, Int.reduceLT, Int.reduceEq, Int.reduceAdd, Int.reduceSub, Int.reduceMul, Int.reduceNeg, Nat.reduceAdd, Nat.reduceLeDiff, Nat.reduceEqDiff, Nat.reduceSub, Option.some.injEq, Sum.inl.injEq, Sum.inr.injEq, or_true, true_or, reduceCtorEq, ne_eq, not_false_eq_true, not_true_eq_false, false_implies, implies_true, false_and, and_false, false_or, or_false, if_true, if_false, fr_131_0 hf, fr_131_1 hf, fr_131_5 hf, fr_131_7 hf, fr_131_8 hf, fr_131_9 hf, fr_131_12 hf, fr_131_13 hf, fr_131_14 hf, fr_131_15 hf, fr_131_19 hf, fr_131_20 hf, fr_131_21 hf, fr_131_22 hf, fr_131_23 hf, fr_131_24 hf, fg_131 hf, fv_131 hf, fb_132 hf, fb_133 hf, fb_134 hf, fb_135 hf, fb_136 hf, fb_137 hf, fb_138 hf, fb_139 hf, fb_140 hf, fb_141 hf, fb_142 hf, fb_143 hf, fb_144 hf, fb_145 hf, fb_146 hf, fb_147 hf]
    exact ⟨fun _ => rfl, fun z => absurd (Int.le_refl _) z⟩
  · intro e he ih y4 y5 y6 y7
    rw [ux_171_4]
    simp only [ux_171_0, ux_171_1, ux_171_2, ux_171_3, ux_171_5, ux_171_6, ux_171_9, ux_171_10, ux_171_12, ux_171_13, ux_171_15, ux_171_16, ux_171_20, ux_171_21, ux_171_24, ux_171_25, ux_171_26, ux_171_29, ux_171_30, ux_171_33, ux_171_35, ux_171_36, ux_171_37, ux_171_40, ux_171_41, ux_171_44, ux_171_46, ux_171_48, ux_171_49, ux_171_50, ux_171_53, ux_171_54, ux_171_56, ux_171_58, ux_171_60, ux_171_61, ux_171_63, ux_171_65, ux_171_67, ux_171_70, ux_171_72, ux_171_75, ux_171_77, ux_171_79, ux_171_82, ux_171_87, ux_171_88, ux_171_91, ux_171_92, ux_171_93, ux_171_94, ux_171_96, ux_171_99, ux_171_101, ux_171_102, ux_171_105, ux_171_106, ux_171_107, ux_171_108, ux_171_111, ux_171_113, ux_171_115, ux_171_117, ux_171_118, ux_171_121, ux_171_123, ux_171_126, ux_171_127, ux_171_128, ux_171_131, ux_171_134, ux_171_135, pm_i_c, pm_l_c, pm_q_c, pm_r_c, pm_li_0, pm_li_s, pm_ll_0, pm_ll_s, pm_lq_0, pm_lq_s, pm_s1, pm_s2, pm_kl, pm_wI, pm_wR, pm_pu_n, pm_pu_s, pm_wt, List.take_succ_cons, List.take_zero, List.take_nil, List.drop_succ_cons, List.drop_zero, List.reverse_cons, List.reverse_nil, List.nil_append, List.cons_append, List.length_cons, List.length_nil, true_and, and_true, true_implies, tn_l, tn_0, Int.reduceToNat, Int.reduceLE, Int.reduceLT, Int.reduceEq, Int.reduceAdd, Int.reduceSub, Int.reduceMul, Int.reduceNeg, Nat.reduceAdd, Nat.reduceLeDiff, Nat.reduceEqDiff, Nat.reduceSub, Option.some.injEq, Sum.inl.injEq, Sum.inr.injEq, or_true, true_or, reduceCtorEq, ne_eq, not_false_eq_true, not_true_eq_false, false_implies, implies_true, false_and, and_false, false_or, or_false, if_true, if_false, fr_131_0 hf, fr_131_1 hf, fr_131_5 hf, fr_131_7 hf, fr_131_8 hf, fr_131_9 hf, fr_131_12 hf, fr_131_13 hf, fr_131_14 hf, fr_131_15 hf, fr_131_19 hf, fr_131_20 hf, fr_131_21 hf, fr_131_22 hf, fr_131_23 hf, fr_131_24 hf, fg_131 hf, fv_131 hf, fb_132 hf, fb_133 hf, fb_134 hf, fb_135 hf, fb_136 hf, fb_137 hf, fb_138 hf, fb_139 hf, fb_140 hf, fb_141 hf, fb_142 hf, fb_143 hf, fb_144 hf, fb_145 hf, fb_146 hf, fb_147 hf]
    refine ⟨fun z => by omega, fun _ => ?_⟩
    have bd := dyF_bd (n := n) (lo := V 132 0) (ln := fun p => V 132 (15 + p)) (a := V 146) (d := e) hl (by omega) (by omega) hn8
    refine pm_up0 (fun p => ∀ y7, pm_w (d - 1) 171 18 [some (.inr (.inr (some 131))), some (.inl (D : Int)), some (.inl (mxF (dyF n (V 132 0) (fun p => V 132 (15 + p)) (V 146)) e)), some (.inl (e : Int)), some (.inl (sm (fun p => if V 146 p = (e : Int) then V 132 (15 + p) else 0) p)), some (.inl (mxF (fun p => if V 146 p = (e : Int) then V 132 (15 + p) else 0) p)), some (.inl (p : Int)), y7] [] (V, R, T) (fun r2 h2 => r2 = some (.inl (latF n D (V 132 0) (fun p => V 132 (15 + p)) (V 146))) ∧ h2 = (V, R, T))) n ?_ ?_ y7
    · intro y7
      rw [ux_171_18]
      simp only [ux_171_0, ux_171_1, ux_171_2, ux_171_3, ux_171_5, ux_171_6, ux_171_9, ux_171_10, ux_171_12, ux_171_13, ux_171_15, ux_171_16, ux_171_20, ux_171_21, ux_171_24, ux_171_25, ux_171_26, ux_171_29, ux_171_30, ux_171_33, ux_171_35, ux_171_36, ux_171_37, ux_171_40, ux_171_41, ux_171_44, ux_171_46, ux_171_48, ux_171_49, ux_171_50, ux_171_53, ux_171_54, ux_171_56, ux_171_58, ux_171_60, ux_171_61, ux_171_63, ux_171_65, ux_171_67, ux_171_70, ux_171_72, ux_171_75, ux_171_77, ux_171_79, ux_171_82, ux_171_87, ux_171_88, ux_171_91, ux_171_92, ux_171_93, ux_171_94, ux_171_96, ux_171_99, ux_171_101, ux_171_102, ux_171_105, ux_171_106, ux_171_107, ux_171_108, ux_171_111, ux_171_113, ux_171_115, ux_171_117, ux_171_118, ux_171_121, ux_171_123, ux_171_126, ux_171_127, ux_171_128, ux_171_131, ux_171_134, ux_171_135, pm_i_c, pm_l_c, pm_q_c, pm_r_c, pm_li_0, pm_li_s, pm_ll_0, pm_ll_s, pm_lq_0, pm_lq_s, pm_s1, pm_s2, pm_kl, pm_wI, pm_wR, pm_pu_n, pm_pu_s, pm_wt, List.take_succ_cons, List.take_zero, List.take_nil, List.drop_succ_cons, List.drop_zero, List.reverse_cons, List.reverse_nil, List.nil_append, List.cons_append, List.length_cons, List.length_nil, true_and, and_true, true_implies, tn_l, tn_0, Int.reduceToNat, Int.reduceLE, Int.reduceLT, Int.reduceEq, Int.reduceAdd, Int.reduceSub, Int.reduceMul, Int.reduceNeg, Nat.reduceAdd, Nat.reduceLeDiff, Nat.reduceEqDiff, Nat.reduceSub, Option.some.injEq, Sum.inl.injEq, Sum.inr.injEq, or_true, true_or, reduceCtorEq, ne_eq, not_false_eq_true, not_true_eq_false, false_implies, implies_true, false_and, and_false, false_or, or_false, if_true, if_false, fr_131_0 hf, fr_131_1 hf, fr_131_5 hf, fr_131_7 hf, fr_131_8 hf, fr_131_9 hf, fr_131_12 hf, fr_131_13 hf, fr_131_14 hf, fr_131_15 hf, fr_131_19 hf, fr_131_20 hf, fr_131_21 hf, fr_131_22 hf, fr_131_23 hf, fr_131_24 hf, fg_131 hf, fv_131 hf, fb_132 hf, fb_133 hf, fb_134 hf, fb_135 hf, fb_136 hf, fb_137 hf, fb_138 hf, fb_139 hf, fb_140 hf, fb_141 hf, fb_142 hf, fb_143 hf, fb_144 hf, fb_145 hf, fb_146 hf, fb_147 hf, hA2]
      refine ⟨fun _ => ?_, fun z => absurd (Int.le_refl _) z⟩
      have e0 : mxF (dyF n (V 132 0) (fun p => V 132 (15 + p)) (V 146)) (e + 1) = max (mxF (dyF n (V 132 0) (fun p => V 132 (15 + p)) (V 146)) e) (dyF n (V 132 0) (fun p => V 132 (15 + p)) (V 146) e) := rfl
      rw [e0] at ih
      have e1 : dyF n (V 132 0) (fun p => V 132 (15 + p)) (V 146) e = max (mxF (fun p => if V 146 p = (e : Int) then V 132 (15 + p) else 0) n * V 132 0) (sm (fun p => if V 146 p = (e : Int) then V 132 (15 + p) else 0) n) := rfl
      rw [e1] at ih
      rw [ux_171_85]
      simp only [ux_171_0, ux_171_1, ux_171_2, ux_171_3, ux_171_5, ux_171_6, ux_171_9, ux_171_10, ux_171_12, ux_171_13, ux_171_15, ux_171_16, ux_171_20, ux_171_21, ux_171_24, ux_171_25, ux_171_26, ux_171_29, ux_171_30, ux_171_33, ux_171_35, ux_171_36, ux_171_37, ux_171_40, ux_171_41, ux_171_44, ux_171_46, ux_171_48, ux_171_49, ux_171_50, ux_171_53, ux_171_54, ux_171_56, ux_171_58, ux_171_60, ux_171_61, ux_171_63, ux_171_65, ux_171_67, ux_171_70, ux_171_72, ux_171_75, ux_171_77, ux_171_79, ux_171_82, ux_171_87, ux_171_88, ux_171_91, ux_171_92, ux_171_93, ux_171_94, ux_171_96, ux_171_99, ux_171_101, ux_171_102, ux_171_105, ux_171_106, ux_171_107, ux_171_108, ux_171_111, ux_171_113, ux_171_115, ux_171_117, ux_171_118, ux_171_121, ux_171_123, ux_171_126, ux_171_127, ux_171_128, ux_171_131, ux_171_134, ux_171_135, pm_i_c, pm_l_c, pm_q_c, pm_r_c, pm_li_0, pm_li_s, pm_ll_0, pm_ll_s, pm_lq_0, pm_lq_s, pm_s1, pm_s2, pm_kl, pm_wI, pm_wR, pm_pu_n, pm_pu_s, pm_wt, List.take_succ_cons, List.take_zero, List.take_nil, List.drop_succ_cons, List.drop_zero, List.reverse_cons, List.reverse_nil, List.nil_append, List.cons_append, List.length_cons, List.length_nil, true_and, and_true, true_implies, tn_l, tn_0, Int.reduceToNat, Int.reduceLE, Int.reduceLT, Int.reduceEq, Int.reduceAdd, Int.reduceSub, Int.reduceMul, Int.reduceNeg, Nat.reduceAdd, Nat.reduceLeDiff, Nat.reduceEqDiff, Nat.reduceSub, Option.some.injEq, Sum.inl.injEq, Sum.inr.injEq, or_true, true_or, reduceCtorEq, ne_eq, not_false_eq_true, not_true_eq_false, false_implies, implies_true, false_and, and_false, false_or, or_false, if_true, if_false, fr_131_0 hf, fr_131_1 hf, fr_131_5 hf, fr_131_7 hf, fr_131_8 hf, fr_131_9 hf, fr_131_12 hf, fr_131_13 hf, fr_131_14 hf, fr_131_15 hf, fr_131_19 hf, fr_131_20 hf, fr_131_21 hf, fr_131_22 hf, fr_131_23 hf, fr_131_24 hf, fg_131 hf, fv_131 hf, fb_132 hf, fb_133 hf, fb_134 hf, fb_135 hf, fb_136 hf, fb_137 hf, fb_138 hf, fb_139 hf, fb_140 hf, fb_141 hf, fb_142 hf, fb_143 hf, fb_144 hf, fb_145 hf, fb_146 hf, fb_147 hf]
      generalize mxF (fun p => if V 146 p = (e : Int) then V 132 (15 + p) else 0) n * V 132 0 = x1 at *
      generalize sm (fun p => if V 146 p = (e : Int) then V 132 (15 + p) else 0) n = x2 at *
      generalize mxF (dyF n (V 132 0) (fun p => V 132 (15 + p)) (V 146)) e = x3 at *
      have fin : ∀ x : Int, x = max x3 (max x1 x2) → ∀ y4 y5 y6 y7, pm_w (d - 1) 171 4 [some (.inr (.inr (some 131))), some (.inl (D : Int)), some (.inl x), some (.inl ((e : Int) + 1)), y4, y5, y6, y7] [] (V, R, T) (fun r2 h2 => r2 = some (.inl (latF n D (V 132 0) (fun p => V 132 (15 + p)) (V 146))) ∧ h2 = (V, R, T)) := by
        intro x hx
        rw [← hx] at ih
        exact ih
      (repeat' (first | apply And.intro | intro _)) <;> first | omega | (unfold pm_I32; omega) | (unfold pm_I64; omega) | exact fin _ (by omega) _ _ _ _
    · intro p hp ih2 y7
      have b1 := hl p hp
      have s1 := sm_bd (f := fun p => if V 146 p = (e : Int) then V 132 (15 + p) else 0) (n := p) (B := 60) (fun j hj => by have := hl j (by omega); split <;> omega)
      have e2 : sm (fun p => if V 146 p = (e : Int) then V 132 (15 + p) else 0) (p + 1) = sm (fun p => if V 146 p = (e : Int) then V 132 (15 + p) else 0) p + if V 146 p = (e : Int) then V 132 (15 + p) else 0 := rfl
      have e3 : mxF (fun p => if V 146 p = (e : Int) then V 132 (15 + p) else 0) (p + 1) = max (mxF (fun p => if V 146 p = (e : Int) then V 132 (15 + p) else 0) p) (if V 146 p = (e : Int) then V 132 (15 + p) else 0) := rfl
      rw [e2, e3] at ih2
      generalize sm (fun p => if V 146 p = (e : Int) then V 132 (15 + p) else 0) p = x1 at *
      generalize mxF (fun p => if V 146 p = (e : Int) then V 132 (15 + p) else 0) p = x2 at *
      generalize hx3 : mxF (dyF n (V 132 0) (fun p => V 132 (15 + p)) (V 146)) e = x3 at *
      have fin : ∀ z x y : Int, z = (if V 146 p = (e : Int) then V 132 (15 + p) else 0) → x = x1 + z → y = max x2 z → ∀ y7, pm_w (d - 1) 171 18 [some (.inr (.inr (some 131))), some (.inl (D : Int)), some (.inl x3), some (.inl (e : Int)), some (.inl x), some (.inl y), some (.inl ((p : Int) + 1)), y7] [] (V, R, T) (fun r2 h2 => r2 = some (.inl (latF n D (V 132 0) (fun p => V 132 (15 + p)) (V 146))) ∧ h2 = (V, R, T)) := by
        intro z x y hz hx hy
        rw [← hz, ← hx, ← hy] at ih2
        exact ih2
      rw [ux_171_18]
      simp only [ux_171_0, ux_171_1, ux_171_2, ux_171_3, ux_171_5, ux_171_6, ux_171_9, ux_171_10, ux_171_12, ux_171_13, ux_171_15, ux_171_16, ux_171_20, ux_171_21, ux_171_24, ux_171_25, ux_171_26, ux_171_29, ux_171_30, ux_171_33, ux_171_35, ux_171_36, ux_171_37, ux_171_40, ux_171_41, ux_171_44, ux_171_46, ux_171_48, ux_171_49, ux_171_50, ux_171_53, ux_171_54, ux_171_56, ux_171_58, ux_171_60, ux_171_61, ux_171_63, ux_171_65, ux_171_67, ux_171_70, ux_171_72, ux_171_75, ux_171_77, ux_171_79, ux_171_82, ux_171_87, ux_171_88, ux_171_91, ux_171_92, ux_171_93, ux_171_94, ux_171_96, ux_171_99, ux_171_101, ux_171_102, ux_171_105, ux_171_106, ux_171_107, ux_171_108, ux_171_111, ux_171_113, ux_171_115, ux_171_117, ux_171_118, ux_171_121, ux_171_123, ux_171_126, ux_171_127, ux_171_128, ux_171_131, ux_171_134, ux_171_135, pm_i_c, pm_l_c, pm_q_c, pm_r_c, pm_li_0, pm_li_s, pm_ll_0, pm_ll_s, pm_lq_0, pm_lq_s, pm_s1, pm_s2, pm_kl, pm_wI, pm_wR, pm_pu_n, pm_pu_s, pm_wt, List.take_succ_cons, List.take_zero, List.take_nil, List.drop_succ_cons, List.drop_zero, List.reverse_cons, List.reverse_nil, List.nil_append, List.cons_append, List.length_cons, List.length_nil, true_and, and_true, true_implies, tn_l, tn_0, Int.reduceToNat, Int.reduceLE, Int.reduceLT, Int.reduceEq, Int.reduceAdd, Int.reduceSub, Int.reduceMul, Int.reduceNeg, Nat.reduceAdd, Nat.reduceLeDiff, Nat.reduceEqDiff, Nat.reduceSub, Option.some.injEq, Sum.inl.injEq, Sum.inr.injEq, or_true, true_or, reduceCtorEq, ne_eq, not_false_eq_true, not_true_eq_false, false_implies, implies_true, false_and, and_false, false_or, or_false, if_true, if_false, fr_131_0 hf, fr_131_1 hf, fr_131_5 hf, fr_131_7 hf, fr_131_8 hf, fr_131_9 hf, fr_131_12 hf, fr_131_13 hf, fr_131_14 hf, fr_131_15 hf, fr_131_19 hf, fr_131_20 hf, fr_131_21 hf, fr_131_22 hf, fr_131_23 hf, fr_131_24 hf, fg_131 hf, fv_131 hf, fb_132 hf, fb_133 hf, fb_134 hf, fb_135 hf, fb_136 hf, fb_137 hf, fb_138 hf, fb_139 hf, fb_140 hf, fb_141 hf, fb_142 hf, fb_143 hf, fb_144 hf, fb_145 hf, fb_146 hf, fb_147 hf, hA2]
      (repeat' (first | apply And.intro | intro _)) <;> first | omega | (unfold pm_I32; omega) | (unfold pm_I64; omega) | exact fin (V 132 (15 + p)) _ _ (by rw [if_pos (by omega)]) rfl (by omega) _ | exact fin 0 _ _ (by rw [if_neg (by omega)]) rfl (by omega) _
end
