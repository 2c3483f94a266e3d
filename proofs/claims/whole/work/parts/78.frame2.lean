/-! THE CLASS: a frame -/
theorem l2p (s : Nat) : ((1 : Int) * 2 ^ s).toNat = 2 ^ s := i2p s
theorem l2b {s : Nat} (h : s ≤ 60) : (1 : Int) * 2 ^ s ≤ 9223372036854775807 ∧ 0 ≤ (1 : Int) * 2 ^ s := by
  have h1 : 2 ^ s ≤ 2 ^ 60 := Nat.pow_le_pow_right (by decide) h
  have h2 := i2p s
  have h3 : (2 : Nat) ^ 60 = 1152921504606846976 := by decide
  have h4 : 0 < 2 ^ s := Nat.two_pow_pos s
  omega
theorem btf_bit {P : Nat → Bool} : ∀ {S s : Nat}, s < S → (btf P S / 2 ^ s) % 2 = if P s then 1 else 0
  | 0, s, h => by omega
  | S + 1, s, h => by
    have lt := btf_lt (P := P) S
    show ((btf P S + if P S then 2 ^ S else 0) / 2 ^ s) % 2 = _
    by_cases e : s = S
    · subst e
      cases hP : P s with
      | true =>
        simp only [if_true]
        rw [Nat.add_div_right _ (Nat.two_pow_pos s), Nat.div_eq_of_lt lt]
      | false =>
        simp only [Bool.false_eq_true, if_false, Nat.add_zero]
        rw [Nat.div_eq_of_lt lt]
    · have ih := btf_bit (P := P) (S := S) (s := s) (by omega)
      rw [← ih]
      cases P S with
      | false => simp
      | true =>
        simp only [if_true]
        have e2 : 2 ^ S = 2 ^ s * (2 * 2 ^ (S - s - 1)) := by
          rw [← Nat.mul_assoc, Nat.mul_comm (2 ^ s) 2, ← Nat.pow_succ', ← Nat.pow_add]
          congr 1
          omega
        rw [e2, Nat.add_mul_div_left _ _ (Nat.two_pow_pos s)]
        omega
theorem btf_zero {P : Nat → Bool} : ∀ {S : Nat}, btf P S = 0 ↔ ∀ s, s < S → P s = false
  | 0 => ⟨fun _ s hs => by omega, fun _ => rfl⟩
  | S + 1 => by
    have ih := btf_zero (P := P) (S := S)
    have hp := Nat.two_pow_pos S
    show btf P S + (if P S then 2 ^ S else 0) = 0 ↔ _
    constructor
    · intro w s hs
      by_cases e : s = S
      · subst e
        cases hP : P s with
        | false => rfl
        | true => rw [hP] at w; simp at w
      · exact ih.mp (by omega) s (by omega)
    · intro w
      rw [ih.mpr (fun s hs => w s (by omega)), w S (by omega)]
      rfl
/-- the class's way to say where a piece may lie -/
theorem mlB_cls {A : Nat → Int} {n p s : Nat} {dl : Int} (hw : wf A n) (h0 : 0 ≤ dl) (h1 : dl ≤ 200) (hp : p < n) (hs : s < nS A n dl) : mlB A dl (nmo A n dl) p s = (decide (A (27 + p) ≤ nmo A n dl s) && decide (nmo A n dl (s + 1) ≤ lsA A dl p) && !decide (A (3 + p) = 4 ∧ A (63 + p) < nmo A n dl (s + 1) ∧ nmo A n dl s < A (75 + p))) := by
  obtain ⟨ss, sb⟩ := mmL_ok hw h0 h1 n (Nat.le_refl _)
  have hs2 : s + 1 < (mmL A dl n).length := by unfold nS nst at hs; omega
  have hlt := ss s hs2
  unfold mlB
  by_cases c : A (3 + p) = 4
  · have m1 : A (63 + p) ∈ mmL A dl n := mmL_mem.mpr ⟨p, hp, Or.inr (Or.inr ⟨c, Or.inl rfl⟩)⟩
    have m2 : A (75 + p) ∈ mmL A dl n := mmL_mem.mpr ⟨p, hp, Or.inr (Or.inr ⟨c, Or.inr rfl⟩)⟩
    have g1 := srt_gap ss (t := (mmL A dl n).getD (s + 1) 0 - 1) (s := s) m1 hs2 (by omega) (by omega)
    have g2 := srt_gap ss (t := (mmL A dl n).getD s 0) (s := s) m2 hs2 (by omega) (by omega)
    have e : (decide (A (3 + p) = 4) && decide (A (63 + p) ≤ nmo A n dl s) && decide (nmo A n dl (s + 1) ≤ A (75 + p))) = decide (A (3 + p) = 4 ∧ A (63 + p) < nmo A n dl (s + 1) ∧ nmo A n dl s < A (75 + p)) := by
      rw [Bool.eq_iff_iff]
      simp only [Bool.and_eq_true, decide_eq_true_eq]
      unfold nmo
      omega
    rw [e]
  · have e : (decide (A (3 + p) = 4) && decide (A (63 + p) ≤ nmo A n dl s) && decide (nmo A n dl (s + 1) ≤ A (75 + p))) = decide (A (3 + p) = 4 ∧ A (63 + p) < nmo A n dl (s + 1) ∧ nmo A n dl s < A (75 + p)) := by
      rw [Bool.eq_iff_iff]
      simp only [Bool.and_eq_true, decide_eq_true_eq]
      omega
    rw [e]
/-- a frame of a shed -/
def frO (V : Nat → Nat → Int) (b : Nat) (A : Nat → Int) (n : Nat) (lo dl : Int) : Prop := V b 0 = lo ∧ V b 1 = n ∧ V b 2 = (mmL A dl n).length ∧ V b 3 = (nS A n dl : Int) ∧ rp (V (b + 1)) (mmL A dl n) ∧ ∀ p, p < n → V (b + 2) p = A (15 + p) ∧ V (b + 3) p = min (A (51 + p)) lo ∧ V (b + 4) p = (btf (fun s => mlB A dl (nmo A n dl) p s) (nS A n dl) : Int)
theorem frO_keep {V V2 : Nat → Nat → Int} {b n : Nat} {A : Nat → Int} {lo dl : Int} (h : ∀ q, b ≤ q → q ≤ b + 4 → V2 q = V q) (hf : frO V b A n lo dl) : frO V2 b A n lo dl := by
  unfold frO
  rw [h b (by omega) (by omega), h (b + 1) (by omega) (by omega), h (b + 2) (by omega) (by omega), h (b + 3) (by omega) (by omega), h (b + 4) (by omega) (by omega)]
  exact hf
section
variable {d : Nat} {h : pm_H} {V V2 W : Nat → Nat → Int} {R : Nat → Nat → Option Nat} {T : List (Nat × Nat)} {n a p b : Nat} {A : Nat → Int} {lo dl : Int}
theorem nmo_rp {f : Nat → Int} (hr : rp f (mmL A dl n)) {j : Nat} (hj : j < (mmL A dl n).length) : f j = nmo A n dl j := hr j hj
theorem nmo_bd (hw : wf A n) (h0 : 0 ≤ dl) (h1 : dl ≤ 200) {j : Nat} (hj : j < (mmL A dl n).length) : 0 ≤ nmo A n dl j ∧ nmo A n dl j ≤ 260 := (mmL_ok hw h0 h1 n (Nat.le_refl _)).2 j hj
theorem nmo_lt (hw : wf A n) (h0 : 0 ≤ dl) (h1 : dl ≤ 200) {s : Nat} (hs : s < nS A n dl) : nmo A n dl s < nmo A n dl (s + 1) := (mmL_ok hw h0 h1 n (Nat.le_refl _)).1 s (by unfold nS nst at hs; omega)
theorem nS_bd (hw : wf A n) : nS A n dl ≤ 47 ∧ (mmL A dl n).length ≤ 48 ∧ nS A n dl = (mmL A dl n).length - 1 := by
  have := mmL_len A dl n
  have := hw.1
  unfold nS nst
  omega
theorem c_openFor (hd : 2 ≤ d) (hb : frq R T b) (hw : wf A n) (hp : p < n) (ho : pcO W T a A p) (h0 : 0 ≤ dl) (h1 : dl ≤ 200) (h3 : W b 3 = (nS A n dl : Int)) (hr : rp (W (b + 1)) (mmL A dl n)) : pm_ev d 52 [.inr (.inr (some b)), .inr (.inr (some a)), .inl (A 1), .inl dl] (W, R, T) (some (.inr (.inl (btf (fun s => mlB A dl (nmo A n dl) p s) (nS A n dl) : Int)))) (W, R, T) := by
  refine pm_ev_of (by omega) (Nat.le_of_ble_eq_true rfl) ?_
  show pm_w (d - 1) 52 0 [some (.inr (.inr (some b))), some (.inr (.inr (some a))), some (.inl (A 1)), some (.inl dl), none, none, none, none, none, none] [] (W, R, T) _
  obtain ⟨S1, S2, S3⟩ := nS_bd (dl := dl) hw
  have hls := lsA_bd hw hp h0 h1
  have els : lsA A 0 p + dl = lsA A dl p := by unfold lsA; omega
  simp only [ux_52_0, ux_52_1, ux_52_4, ux_52_5, ux_52_6, ux_52_7, ux_52_8, ux_52_12, ux_52_13, ux_52_15, ux_52_16, ux_52_18, ux_52_19, ux_52_23, ux_52_24, ux_52_27, ux_52_30, ux_52_31, ux_52_34, ux_52_36, ux_52_37, ux_52_39, ux_52_40, ux_52_43, ux_52_45, ux_52_46, ux_52_47, ux_52_48, ux_52_50, ux_52_51, ux_52_54, ux_52_56, ux_52_59, ux_52_61, ux_52_63, ux_52_66, ux_52_67, ux_52_69, ux_52_71, ux_52_77, ux_52_79, ux_52_80, ux_52_82, ux_52_83, ux_52_84, ux_52_89, ux_52_92, ux_52_94, pm_i_c, pm_l_c, pm_q_c, pm_r_c, pm_li_0, pm_li_s, pm_ll_0, pm_ll_s, pm_lq_0, pm_lq_s, pm_s1, pm_s2, pm_kl, pm_wI, pm_wR, pm_pu_n, pm_pu_s, pm_wt, List.take_succ_cons, List.take_zero, List.take_nil, List.drop_succ_cons, List.drop_zero, List.reverse_cons, List.reverse_nil, List.nil_append, List.cons_append, List.length_cons, List.length_nil, true_and, and_true, true_implies, tn_l, tn_0, Int.reduceToNat, Int.reduceLE, Int.reduceLT, Int.reduceEq, Int.reduceAdd, Int.reduceSub, Int.reduceMul, Int.reduceNeg, Nat.reduceAdd, Nat.reduceLeDiff, Nat.reduceEqDiff, Nat.reduceSub, Option.some.injEq, Sum.inl.injEq, Sum.inr.injEq, or_true, true_or, reduceCtorEq, ne_eq, not_false_eq_true, not_true_eq_false, false_implies, implies_true, false_and, and_false, false_or, or_false, if_true, if_false, fq_4 hb, fq_5 hb, fq_6 hb, fq_7 hb, fq_t hb, fq_v hb, fq_b1 hb, fq_b2 hb, fq_b3 hb, fq_b4 hb]
  refine v_last (by omega) ho rfl ?_
  rw [pm_pu_s, ux_52_11]
  simp only [ux_52_0, ux_52_1, ux_52_4, ux_52_5, ux_52_6, ux_52_7, ux_52_8, ux_52_12, ux_52_13, ux_52_15, ux_52_16, ux_52_18, ux_52_19, ux_52_23, ux_52_24, ux_52_27, ux_52_30, ux_52_31, ux_52_34, ux_52_36, ux_52_37, ux_52_39, ux_52_40, ux_52_43, ux_52_45, ux_52_46, ux_52_47, ux_52_48, ux_52_50, ux_52_51, ux_52_54, ux_52_56, ux_52_59, ux_52_61, ux_52_63, ux_52_66, ux_52_67, ux_52_69, ux_52_71, ux_52_77, ux_52_79, ux_52_80, ux_52_82, ux_52_83, ux_52_84, ux_52_89, ux_52_92, ux_52_94, pm_i_c, pm_l_c, pm_q_c, pm_r_c, pm_li_0, pm_li_s, pm_ll_0, pm_ll_s, pm_lq_0, pm_lq_s, pm_s1, pm_s2, pm_kl, pm_wI, pm_wR, pm_pu_n, pm_pu_s, pm_wt, List.take_succ_cons, List.take_zero, List.take_nil, List.drop_succ_cons, List.drop_zero, List.reverse_cons, List.reverse_nil, List.nil_append, List.cons_append, List.length_cons, List.length_nil, true_and, and_true, true_implies, tn_l, tn_0, Int.reduceToNat, Int.reduceLE, Int.reduceLT, Int.reduceEq, Int.reduceAdd, Int.reduceSub, Int.reduceMul, Int.reduceNeg, Nat.reduceAdd, Nat.reduceLeDiff, Nat.reduceEqDiff, Nat.reduceSub, Option.some.injEq, Sum.inl.injEq, Sum.inr.injEq, or_true, true_or, reduceCtorEq, ne_eq, not_false_eq_true, not_true_eq_false, false_implies, implies_true, false_and, and_false, false_or, or_false, if_true, if_false, fq_4 hb, fq_5 hb, fq_6 hb, fq_7 hb, fq_t hb, fq_v hb, fq_b1 hb, fq_b2 hb, fq_b3 hb, fq_b4 hb, els]
  refine ⟨by unfold pm_I32; omega, ?_⟩
  refine pm_up0 (fun s => ∀ y8 y9, pm_w (d - 1) 52 21 [some (.inr (.inr (some b))), some (.inr (.inr (some a))), some (.inl (A 1)), some (.inl dl), some (.inl (lsA A dl p)), some (.inr (.inl (btf (fun s => mlB A dl (nmo A n dl) p s) s : Int))), none, some (.inl (s : Int)), y8, y9] [] (W, R, T) (fun r2 h2 => r2 = some (.inr (.inl (btf (fun s => mlB A dl (nmo A n dl) p s) (nS A n dl) : Int))) ∧ h2 = (W, R, T))) (nS A n dl) ?_ ?_ none none
  · intro y8 y9
    rw [ux_52_21]
    simp only [ux_52_0, ux_52_1, ux_52_4, ux_52_5, ux_52_6, ux_52_7, ux_52_8, ux_52_12, ux_52_13, ux_52_15, ux_52_16, ux_52_18, ux_52_19, ux_52_23, ux_52_24, ux_52_27, ux_52_30, ux_52_31, ux_52_34, ux_52_36, ux_52_37, ux_52_39, ux_52_40, ux_52_43, ux_52_45, ux_52_46, ux_52_47, ux_52_48, ux_52_50, ux_52_51, ux_52_54, ux_52_56, ux_52_59, ux_52_61, ux_52_63, ux_52_66, ux_52_67, ux_52_69, ux_52_71, ux_52_77, ux_52_79, ux_52_80, ux_52_82, ux_52_83, ux_52_84, ux_52_89, ux_52_92, ux_52_94, pm_i_c, pm_l_c, pm_q_c, pm_r_c, pm_li_0, pm_li_s, pm_ll_0, pm_ll_s, pm_lq_0, pm_lq_s, pm_s1, pm_s2, pm_kl, pm_wI, pm_wR, pm_pu_n, pm_pu_s, pm_wt, List.take_succ_cons, List.take_zero, List.take_nil, List.drop_succ_cons, List.drop_zero, List.reverse_cons, List.reverse_nil, List.nil_append, List.cons_append, List.length_cons, List.length_nil, true_and, and_true, true_implies, tn_l, tn_0, Int.reduceToNat, Int.reduceLE, Int.reduceLT, Int.reduceEq, Int.reduceAdd, Int.reduceSub, Int.reduceMul, Int.reduceNeg, Nat.reduceAdd, Nat.reduceLeDiff, Nat.reduceEqDiff, Nat.reduceSub, Option.some.injEq, Sum.inl.injEq, Sum.inr.injEq, or_true, true_or, reduceCtorEq, ne_eq, not_false_eq_true, not_true_eq_false, false_implies, implies_true, false_and, and_false, false_or, or_false, if_true, if_false, fq_4 hb, fq_5 hb, fq_6 hb, fq_7 hb, fq_t hb, fq_v hb, fq_b1 hb, fq_b2 hb, fq_b3 hb, fq_b4 hb, h3]
    exact fun z => absurd (Int.le_refl _) z
  · intro s hs ih y8 y9
    have e1 : W (b + 1) s = nmo A n dl s := hr s (by omega)
    have e2 : W (b + 1) (s + 1) = nmo A n dl (s + 1) := hr (s + 1) (by omega)
    have e3 : ((s : Int) + 1).toNat = s + 1 := by omega
    have eB := mlB_cls hw h0 h1 hp hs
    have eS : btf (fun s => mlB A dl (nmo A n dl) p s) (s + 1) = btf (fun s => mlB A dl (nmo A n dl) p s) s + if mlB A dl (nmo A n dl) p s then 2 ^ s else 0 := rfl
    rw [eS] at ih
    have lt := btf_lt (P := fun s => mlB A dl (nmo A n dl) p s) s
    have no : mlB A dl (nmo A n dl) p s = false → ∀ y8 y9, pm_w (d - 1) 52 86 [some (.inr (.inr (some b))), some (.inr (.inr (some a))), some (.inl (A 1)), some (.inl dl), some (.inl (lsA A dl p)), some (.inr (.inl (btf (fun s => mlB A dl (nmo A n dl) p s) s : Int))), none, some (.inl (s : Int)), y8, y9] [] (W, R, T) (fun r2 h2 => r2 = some (.inr (.inl (btf (fun s => mlB A dl (nmo A n dl) p s) (nS A n dl) : Int))) ∧ h2 = (W, R, T)) := by
      intro hm y8 y9
      rw [hm] at ih
      rw [ux_52_86]
      simp only [ux_52_0, ux_52_1, ux_52_4, ux_52_5, ux_52_6, ux_52_7, ux_52_8, ux_52_12, ux_52_13, ux_52_15, ux_52_16, ux_52_18, ux_52_19, ux_52_23, ux_52_24, ux_52_27, ux_52_30, ux_52_31, ux_52_34, ux_52_36, ux_52_37, ux_52_39, ux_52_40, ux_52_43, ux_52_45, ux_52_46, ux_52_47, ux_52_48, ux_52_50, ux_52_51, ux_52_54, ux_52_56, ux_52_59, ux_52_61, ux_52_63, ux_52_66, ux_52_67, ux_52_69, ux_52_71, ux_52_77, ux_52_79, ux_52_80, ux_52_82, ux_52_83, ux_52_84, ux_52_89, ux_52_92, ux_52_94, pm_i_c, pm_l_c, pm_q_c, pm_r_c, pm_li_0, pm_li_s, pm_ll_0, pm_ll_s, pm_lq_0, pm_lq_s, pm_s1, pm_s2, pm_kl, pm_wI, pm_wR, pm_pu_n, pm_pu_s, pm_wt, List.take_succ_cons, List.take_zero, List.take_nil, List.drop_succ_cons, List.drop_zero, List.reverse_cons, List.reverse_nil, List.nil_append, List.cons_append, List.length_cons, List.length_nil, true_and, and_true, true_implies, tn_l, tn_0, Int.reduceToNat, Int.reduceLE, Int.reduceLT, Int.reduceEq, Int.reduceAdd, Int.reduceSub, Int.reduceMul, Int.reduceNeg, Nat.reduceAdd, Nat.reduceLeDiff, Nat.reduceEqDiff, Nat.reduceSub, Option.some.injEq, Sum.inl.injEq, Sum.inr.injEq, or_true, true_or, reduceCtorEq, ne_eq, not_false_eq_true, not_true_eq_false, false_implies, implies_true, false_and, and_false, false_or, or_false, if_true, if_false]
      exact ⟨by unfold pm_I32; omega, ih _ _⟩
    rw [ux_52_21]
    simp only [ux_52_0, ux_52_1, ux_52_4, ux_52_5, ux_52_6, ux_52_7, ux_52_8, ux_52_12, ux_52_13, ux_52_15, ux_52_16, ux_52_18, ux_52_19, ux_52_23, ux_52_24, ux_52_27, ux_52_30, ux_52_31, ux_52_34, ux_52_36, ux_52_37, ux_52_39, ux_52_40, ux_52_43, ux_52_45, ux_52_46, ux_52_47, ux_52_48, ux_52_50, ux_52_51, ux_52_54, ux_52_56, ux_52_59, ux_52_61, ux_52_63, ux_52_66, ux_52_67, ux_52_69, ux_52_71, ux_52_77, ux_52_79, ux_52_80, ux_52_82, ux_52_83, ux_52_84, ux_52_89, ux_52_92, ux_52_94, pm_i_c, pm_l_c, pm_q_c, pm_r_c, pm_li_0, pm_li_s, pm_ll_0, pm_ll_s, pm_lq_0, pm_lq_s, pm_s1, pm_s2, pm_kl, pm_wI, pm_wR, pm_pu_n, pm_pu_s, pm_wt, List.take_succ_cons, List.take_zero, List.take_nil, List.drop_succ_cons, List.drop_zero, List.reverse_cons, List.reverse_nil, List.nil_append, List.cons_append, List.length_cons, List.length_nil, true_and, and_true, true_implies, tn_l, tn_0, Int.reduceToNat, Int.reduceLE, Int.reduceLT, Int.reduceEq, Int.reduceAdd, Int.reduceSub, Int.reduceMul, Int.reduceNeg, Nat.reduceAdd, Nat.reduceLeDiff, Nat.reduceEqDiff, Nat.reduceSub, Option.some.injEq, Sum.inl.injEq, Sum.inr.injEq, or_true, true_or, reduceCtorEq, ne_eq, not_false_eq_true, not_true_eq_false, false_implies, implies_true, false_and, and_false, false_or, or_false, if_true, if_false, fq_4 hb, fq_5 hb, fq_6 hb, fq_7 hb, fq_t hb, fq_v hb, fq_b1 hb, fq_b2 hb, fq_b3 hb, fq_b4 hb, h3, e1, e2, e3, eq_true (pc_tgs (R := R) ho), ho.2.2.2.1]
    refine ⟨fun z => by omega, fun _ => ⟨by omega, by unfold pm_I32; omega, by omega, fun z => no ?_ _ _, fun z => ⟨fun z2 => no ?_ _ _, fun z2 => ?_⟩⟩⟩
    · rw [eB, decide_eq_false (by omega)]; rfl
    · rw [eB, decide_eq_false (p := nmo A n dl (s + 1) ≤ lsA A dl p) (by omega)]; simp
    · refine v_isb (by omega) ho ?_
      rw [pm_pu_s, ux_52_74]
      simp only [ux_52_0, ux_52_1, ux_52_4, ux_52_5, ux_52_6, ux_52_7, ux_52_8, ux_52_12, ux_52_13, ux_52_15, ux_52_16, ux_52_18, ux_52_19, ux_52_23, ux_52_24, ux_52_27, ux_52_30, ux_52_31, ux_52_34, ux_52_36, ux_52_37, ux_52_39, ux_52_40, ux_52_43, ux_52_45, ux_52_46, ux_52_47, ux_52_48, ux_52_50, ux_52_51, ux_52_54, ux_52_56, ux_52_59, ux_52_61, ux_52_63, ux_52_66, ux_52_67, ux_52_69, ux_52_71, ux_52_77, ux_52_79, ux_52_80, ux_52_82, ux_52_83, ux_52_84, ux_52_89, ux_52_92, ux_52_94, pm_i_c, pm_l_c, pm_q_c, pm_r_c, pm_li_0, pm_li_s, pm_ll_0, pm_ll_s, pm_lq_0, pm_lq_s, pm_s1, pm_s2, pm_kl, pm_wI, pm_wR, pm_pu_n, pm_pu_s, pm_wt, List.take_succ_cons, List.take_zero, List.take_nil, List.drop_succ_cons, List.drop_zero, List.reverse_cons, List.reverse_nil, List.nil_append, List.cons_append, List.length_cons, List.length_nil, true_and, and_true, true_implies, tn_l, tn_0, Int.reduceToNat, Int.reduceLE, Int.reduceLT, Int.reduceEq, Int.reduceAdd, Int.reduceSub, Int.reduceMul, Int.reduceNeg, Nat.reduceAdd, Nat.reduceLeDiff, Nat.reduceEqDiff, Nat.reduceSub, Option.some.injEq, Sum.inl.injEq, Sum.inr.injEq, or_true, true_or, reduceCtorEq, ne_eq, not_false_eq_true, not_true_eq_false, false_implies, implies_true, false_and, and_false, false_or, or_false, if_true, if_false, fq_4 hb, fq_5 hb, fq_6 hb, fq_7 hb, fq_t hb, fq_v hb, fq_b1 hb, fq_b2 hb, fq_b3 hb, fq_b4 hb]
      by_cases c : A (3 + p) = 4 ∧ A (63 + p) < nmo A n dl (s + 1) ∧ nmo A n dl s < A (75 + p)
      · rw [if_pos c]
        exact ⟨fun _ => no (by rw [eB, decide_eq_true c]; simp) _ _, fun z => absurd (by decide) z⟩
      · rw [if_neg c]
        refine ⟨fun z => absurd rfl z, fun _ => ?_⟩
        have hm : mlB A dl (nmo A n dl) p s = true := by
          rw [eB, decide_eq_false c, decide_eq_true (show A (27 + p) ≤ nmo A n dl s by omega), decide_eq_true (show nmo A n dl (s + 1) ≤ lsA A dl p by omega)]
          rfl
        rw [hm] at ih
        have i3 := l2b (s := s) (by omega)
        rw [ux_52_86]
        simp only [ux_52_0, ux_52_1, ux_52_4, ux_52_5, ux_52_6, ux_52_7, ux_52_8, ux_52_12, ux_52_13, ux_52_15, ux_52_16, ux_52_18, ux_52_19, ux_52_23, ux_52_24, ux_52_27, ux_52_30, ux_52_31, ux_52_34, ux_52_36, ux_52_37, ux_52_39, ux_52_40, ux_52_43, ux_52_45, ux_52_46, ux_52_47, ux_52_48, ux_52_50, ux_52_51, ux_52_54, ux_52_56, ux_52_59, ux_52_61, ux_52_63, ux_52_66, ux_52_67, ux_52_69, ux_52_71, ux_52_77, ux_52_79, ux_52_80, ux_52_82, ux_52_83, ux_52_84, ux_52_89, ux_52_92, ux_52_94, pm_i_c, pm_l_c, pm_q_c, pm_r_c, pm_li_0, pm_li_s, pm_ll_0, pm_ll_s, pm_lq_0, pm_lq_s, pm_s1, pm_s2, pm_kl, pm_wI, pm_wR, pm_pu_n, pm_pu_s, pm_wt, List.take_succ_cons, List.take_zero, List.take_nil, List.drop_succ_cons, List.drop_zero, List.reverse_cons, List.reverse_nil, List.nil_append, List.cons_append, List.length_cons, List.length_nil, true_and, and_true, true_implies, tn_l, tn_0, Int.reduceToNat, Int.reduceLE, Int.reduceLT, Int.reduceEq, Int.reduceAdd, Int.reduceSub, Int.reduceMul, Int.reduceNeg, Nat.reduceAdd, Nat.reduceLeDiff, Nat.reduceEqDiff, Nat.reduceSub, Option.some.injEq, Sum.inl.injEq, Sum.inr.injEq, or_true, true_or, reduceCtorEq, ne_eq, not_false_eq_true, not_true_eq_false, false_implies, implies_true, false_and, and_false, false_or, or_false, if_true, if_false, l2p, bor lt]
        exact ⟨⟨by omega, by omega, by omega⟩, ⟨by omega, by omega⟩, by unfold pm_I32; omega, ih _ _⟩
def buQ (V : Nat → Nat → Int) (R : Nat → Nat → Option Nat) (T : List (Nat × Nat)) (b : Nat) (A : Nat → Int) (n : Nat) (lo dl : Int) (r : Option pm_V) (h2 : pm_H) : Prop := ∃ V2, h2 = (V2, R, T) ∧ r = none ∧ (∀ q, q < b ∨ b + 4 < q → V2 q = V q) ∧ frO V2 b A n lo dl
theorem c_build (hd : 3 ≤ d) (hf : fx R T) (hb : frq R T b) (hb1 : 44 < b) (hb2 : b < 131) (hs : shO V R T 1 A n) (hw : wf A n) (h0 : 0 ≤ dl) (h1 : dl ≤ 200) : pm_ok d 48 [.inr (.inr (some b)), .inr (.inr (some 1)), .inl lo, .inl dl] (V, R, T) (buQ V R T b A n lo dl) := by
  obtain ⟨d, rfl⟩ : ∃ k, d = k + 1 := ⟨d - 1, by omega⟩
  refine pm_ok_iff.mpr ⟨(Nat.le_of_ble_eq_true rfl), ?_⟩
  show pm_w d 48 0 [some (.inr (.inr (some b))), some (.inr (.inr (some 1))), some (.inl lo), some (.inl dl), none, none] [] (V, R, T) _
  have hn := hw.1
  have hbb : b + 1 < 148 := by omega
  obtain ⟨S1, S2, S3⟩ := nS_bd (dl := dl) hw
  have shK : ∀ V2 : Nat → Nat → Int, (∀ q, q < b ∨ b + 4 < q → V2 q = V q) → shO V2 R T 1 A n := fun V2 hV => shO_keep (hV 1 (by omega)) rfl (fun q hq _ => hV q (by omega)) (fun _ _ z => z) hs
  have e12 : ∀ k x, pm_up V b k x 1 2 = n := fun k x => by rw [pm_up_fr (by omega)]; exact hs.2.2.1
  simp only [ux_48_0, ux_48_1, ux_48_2, ux_48_5, ux_48_6, ux_48_7, ux_48_10, ux_48_13, ux_48_14, ux_48_15, ux_48_18, ux_48_19, ux_48_23, ux_48_24, ux_48_27, ux_48_30, ux_48_31, ux_48_32, ux_48_34, ux_48_37, ux_48_38, ux_48_41, ux_48_42, ux_48_48, ux_48_52, ux_48_53, ux_48_56, ux_48_57, ux_48_58, ux_48_59, ux_48_62, ux_48_65, ux_48_66, ux_48_70, ux_48_71, ux_48_74, ux_48_77, ux_48_78, ux_48_80, ux_48_83, ux_48_85, ux_48_86, ux_48_89, ux_48_91, ux_48_92, ux_48_94, ux_48_97, ux_48_98, ux_48_99, ux_48_102, ux_48_104, ux_48_106, ux_48_109, ux_48_110, ux_48_113, ux_48_115, ux_48_118, ux_48_119, ux_48_122, ux_48_123, ux_48_124, ux_48_127, ux_48_129, ux_48_130, ux_48_132, ux_48_133, ux_48_136, ux_48_137, ux_48_140, ux_48_141, ux_48_144, ux_48_147, pm_i_c, pm_l_c, pm_q_c, pm_r_c, pm_li_0, pm_li_s, pm_ll_0, pm_ll_s, pm_lq_0, pm_lq_s, pm_s1, pm_s2, pm_kl, pm_wI, pm_wR, pm_pu_n, pm_pu_s, pm_wt, List.take_succ_cons, List.take_zero, List.take_nil, List.drop_succ_cons, List.drop_zero, List.reverse_cons, List.reverse_nil, List.nil_append, List.cons_append, List.length_cons, List.length_nil, true_and, and_true, true_implies, tn_l, tn_0, Int.reduceToNat, Int.reduceLE, Int.reduceLT, Int.reduceEq, Int.reduceAdd, Int.reduceSub, Int.reduceMul, Int.reduceNeg, Nat.reduceAdd, Nat.reduceLeDiff, Nat.reduceEqDiff, Nat.reduceSub, Option.some.injEq, Sum.inl.injEq, Sum.inr.injEq, or_true, true_or, reduceCtorEq, ne_eq, not_false_eq_true, not_true_eq_false, false_implies, implies_true, false_and, and_false, false_or, or_false, if_true, if_false, fq_4 hb, fq_5 hb, fq_6 hb, fq_7 hb, fq_t hb, fq_v hb, fq_b1 hb, fq_b2 hb, fq_b3 hb, fq_b4 hb, fr_1_3 hf, fg_1 hf, fv_1 hf, e12]
  generalize hV1 : pm_up (pm_up (pm_up V b 0 lo) b 1 (n : Int)) b 2 0 = V1
  have v1 : ∀ q, q ≠ b → V1 q = V q := fun q hq => by rw [← hV1, pm_up_fr hq, pm_up_fr hq, pm_up_fr hq]
  have v10 : V1 b 0 = lo := by rw [← hV1, pm_up_ne (by omega), pm_up_ne (by omega), pm_up_eq]
  have v11 : V1 b 1 = n := by rw [← hV1, pm_up_ne (by omega), pm_up_eq]
  have v12 : V1 b 2 = 0 := by rw [← hV1, pm_up_eq]
  -- the second loop
  have k2 : ∀ W, frI V1 W b (mmL A dl n) → W b 3 = (nS A n dl : Int) ∨ True → ∀ y5, pm_w d 48 68 [some (.inr (.inr (some b))), some (.inr (.inr (some 1))), some (.inl lo), some (.inl dl), some (.inl 0), y5] [] (pm_up W b 3 (nS A n dl : Int), R, T) (buQ V R T b A n lo dl) := by
    intro W0 w0 _ y5
    have key := pm_up0 (fun i => ∀ (W : Nat → Nat → Int) (y5 : Option pm_V), (∀ q, q < b ∨ b + 4 < q → W q = V q) → W b 0 = lo → W b 1 = (n : Int) → W b 2 = ((mmL A dl n).length : Int) → W b 3 = (nS A n dl : Int) → rp (W (b + 1)) (mmL A dl n) → (∀ p, p < i → W (b + 2) p = A (15 + p) ∧ W (b + 3) p = min (A (51 + p)) lo ∧ W (b + 4) p = (btf (fun s => mlB A dl (nmo A n dl) p s) (nS A n dl) : Int)) → pm_w d 48 68 [some (.inr (.inr (some b))), some (.inr (.inr (some 1))), some (.inl lo), some (.inl dl), some (.inl (i : Int)), y5] [] (W, R, T) (buQ V R T b A n lo dl)) n ?_ ?_
    · refine key _ y5 (fun q hq => ?_) ?_ ?_ ?_ pm_up_eq ?_ (fun p hp => by omega)
      · rw [pm_up_fr (by omega)]
        refine (funext fun j => w0.1 q j (by omega) (by omega)).trans (v1 q (by omega))
      · rw [pm_up_ne (by omega), w0.1 b 0 (by omega) (by omega)]; exact v10
      · rw [pm_up_ne (by omega), w0.1 b 1 (by omega) (by omega)]; exact v11
      · rw [pm_up_ne (by omega)]; exact w0.2.1
      · rw [pm_up_fr (by omega)]; exact w0.2.2
    · intro W y5 w1 w2 w3 w4 w5 w6 w7
      rw [ux_48_68]
      simp only [ux_48_0, ux_48_1, ux_48_2, ux_48_5, ux_48_6, ux_48_7, ux_48_10, ux_48_13, ux_48_14, ux_48_15, ux_48_18, ux_48_19, ux_48_23, ux_48_24, ux_48_27, ux_48_30, ux_48_31, ux_48_32, ux_48_34, ux_48_37, ux_48_38, ux_48_41, ux_48_42, ux_48_48, ux_48_52, ux_48_53, ux_48_56, ux_48_57, ux_48_58, ux_48_59, ux_48_62, ux_48_65, ux_48_66, ux_48_70, ux_48_71, ux_48_74, ux_48_77, ux_48_78, ux_48_80, ux_48_83, ux_48_85, ux_48_86, ux_48_89, ux_48_91, ux_48_92, ux_48_94, ux_48_97, ux_48_98, ux_48_99, ux_48_102, ux_48_104, ux_48_106, ux_48_109, ux_48_110, ux_48_113, ux_48_115, ux_48_118, ux_48_119, ux_48_122, ux_48_123, ux_48_124, ux_48_127, ux_48_129, ux_48_130, ux_48_132, ux_48_133, ux_48_136, ux_48_137, ux_48_140, ux_48_141, ux_48_144, ux_48_147, pm_i_c, pm_l_c, pm_q_c, pm_r_c, pm_li_0, pm_li_s, pm_ll_0, pm_ll_s, pm_lq_0, pm_lq_s, pm_s1, pm_s2, pm_kl, pm_wI, pm_wR, pm_pu_n, pm_pu_s, pm_wt, List.take_succ_cons, List.take_zero, List.take_nil, List.drop_succ_cons, List.drop_zero, List.reverse_cons, List.reverse_nil, List.nil_append, List.cons_append, List.length_cons, List.length_nil, true_and, and_true, true_implies, tn_l, tn_0, Int.reduceToNat, Int.reduceLE, Int.reduceLT, Int.reduceEq, Int.reduceAdd, Int.reduceSub, Int.reduceMul, Int.reduceNeg, Nat.reduceAdd, Nat.reduceLeDiff, Nat.reduceEqDiff, Nat.reduceSub, Option.some.injEq, Sum.inl.injEq, Sum.inr.injEq, or_true, true_or, reduceCtorEq, ne_eq, not_false_eq_true, not_true_eq_false, false_implies, implies_true, false_and, and_false, false_or, or_false, if_true, if_false, fq_4 hb, fq_5 hb, fq_6 hb, fq_7 hb, fq_t hb, fq_v hb, fq_b1 hb, fq_b2 hb, fq_b3 hb, fq_b4 hb, w3]
      exact ⟨fun _ => ⟨W, rfl, rfl, w1, w2, w3, w4, w5, w6, w7⟩, fun z => absurd (Int.le_refl _) z⟩
    · intro i hi ih W y5 w1 w2 w3 w4 w5 w6 w7
      have hsW := shK W w1
      obtain ⟨a, e, ho⟩ := hsW.2.2.2.1 i hi
      have e : R 2 i = some a := e
      have ev := c_pieceAt (d := d) (by omega) hf hsW.2.2.1 hn (i : Int)
      rw [if_pos (by omega), Int.toNat_natCast, e] at ev
      have wp := hw.2.2.2.2 i hi
      rw [ux_48_68]
      simp only [ux_48_0, ux_48_1, ux_48_2, ux_48_5, ux_48_6, ux_48_7, ux_48_10, ux_48_13, ux_48_14, ux_48_15, ux_48_18, ux_48_19, ux_48_23, ux_48_24, ux_48_27, ux_48_30, ux_48_31, ux_48_32, ux_48_34, ux_48_37, ux_48_38, ux_48_41, ux_48_42, ux_48_48, ux_48_52, ux_48_53, ux_48_56, ux_48_57, ux_48_58, ux_48_59, ux_48_62, ux_48_65, ux_48_66, ux_48_70, ux_48_71, ux_48_74, ux_48_77, ux_48_78, ux_48_80, ux_48_83, ux_48_85, ux_48_86, ux_48_89, ux_48_91, ux_48_92, ux_48_94, ux_48_97, ux_48_98, ux_48_99, ux_48_102, ux_48_106, ux_48_109, ux_48_110, ux_48_113, ux_48_115, ux_48_119, ux_48_122, ux_48_124, ux_48_127, ux_48_129, ux_48_130, ux_48_132, ux_48_133, ux_48_136, ux_48_137, ux_48_141, ux_48_144, ux_48_147, pm_i_c, pm_l_c, pm_q_c, pm_r_c, pm_li_0, pm_li_s, pm_ll_0, pm_ll_s, pm_lq_0, pm_lq_s, pm_s1, pm_s2, pm_kl, pm_wI, pm_wR, pm_pu_n, pm_pu_s, pm_wt, List.take_succ_cons, List.take_zero, List.take_nil, List.drop_succ_cons, List.drop_zero, List.reverse_cons, List.reverse_nil, List.nil_append, List.cons_append, List.length_cons, List.length_nil, true_and, and_true, true_implies, tn_l, tn_0, Int.reduceToNat, Int.reduceLE, Int.reduceLT, Int.reduceEq, Int.reduceAdd, Int.reduceSub, Int.reduceMul, Int.reduceNeg, Nat.reduceAdd, Nat.reduceLeDiff, Nat.reduceEqDiff, Nat.reduceSub, Option.some.injEq, Sum.inl.injEq, Sum.inr.injEq, or_true, true_or, reduceCtorEq, ne_eq, not_false_eq_true, not_true_eq_false, false_implies, implies_true, false_and, and_false, false_or, or_false, if_true, if_false, fq_4 hb, fq_5 hb, fq_6 hb, fq_7 hb, fq_t hb, fq_v hb, fq_b1 hb, fq_b2 hb, fq_b3 hb, fq_b4 hb, fv_1 hf, w3, pm_ok_ev ev, pm_ok_ev (c_lengthOf (d := d) (by omega) hf hsW hn hi)]
      refine ⟨fun z => by omega, fun _ => ⟨by omega, ?_⟩⟩
      have o1 : ∀ k x, pcO (pm_up W (b + 2) k x) T a A i := fun k x => pcO_keep (fun q hq _ => pm_up_fr (by omega)) (fun _ _ z => z) ho
      rw [ux_48_104]
      simp only [ux_48_0, ux_48_1, ux_48_2, ux_48_5, ux_48_6, ux_48_7, ux_48_10, ux_48_13, ux_48_14, ux_48_15, ux_48_18, ux_48_19, ux_48_23, ux_48_24, ux_48_27, ux_48_30, ux_48_31, ux_48_32, ux_48_34, ux_48_37, ux_48_38, ux_48_41, ux_48_42, ux_48_48, ux_48_52, ux_48_53, ux_48_56, ux_48_57, ux_48_58, ux_48_59, ux_48_62, ux_48_65, ux_48_66, ux_48_70, ux_48_71, ux_48_74, ux_48_77, ux_48_78, ux_48_80, ux_48_83, ux_48_85, ux_48_86, ux_48_89, ux_48_91, ux_48_92, ux_48_94, ux_48_97, ux_48_98, ux_48_99, ux_48_102, ux_48_106, ux_48_109, ux_48_110, ux_48_113, ux_48_115, ux_48_119, ux_48_122, ux_48_124, ux_48_127, ux_48_129, ux_48_130, ux_48_132, ux_48_133, ux_48_136, ux_48_137, ux_48_141, ux_48_144, ux_48_147, pm_i_c, pm_l_c, pm_q_c, pm_r_c, pm_li_0, pm_li_s, pm_ll_0, pm_ll_s, pm_lq_0, pm_lq_s, pm_s1, pm_s2, pm_kl, pm_wI, pm_wR, pm_pu_n, pm_pu_s, pm_wt, List.take_succ_cons, List.take_zero, List.take_nil, List.drop_succ_cons, List.drop_zero, List.reverse_cons, List.reverse_nil, List.nil_append, List.cons_append, List.length_cons, List.length_nil, true_and, and_true, true_implies, tn_l, tn_0, Int.reduceToNat, Int.reduceLE, Int.reduceLT, Int.reduceEq, Int.reduceAdd, Int.reduceSub, Int.reduceMul, Int.reduceNeg, Nat.reduceAdd, Nat.reduceLeDiff, Nat.reduceEqDiff, Nat.reduceSub, Option.some.injEq, Sum.inl.injEq, Sum.inr.injEq, or_true, true_or, reduceCtorEq, ne_eq, not_false_eq_true, not_true_eq_false, false_implies, implies_true, false_and, and_false, false_or, or_false, if_true, if_false, fq_4 hb, fq_5 hb, fq_6 hb, fq_7 hb, fq_t hb, fq_v hb, fq_b1 hb, fq_b2 hb, fq_b3 hb, fq_b4 hb]
      refine v_ways (by omega) wp.2.2.2.2.2.2.2.2.2 (o1 _ _) ?_
      rw [pm_pu_s, ux_48_118]
      simp only [ux_48_0, ux_48_1, ux_48_2, ux_48_5, ux_48_6, ux_48_7, ux_48_10, ux_48_13, ux_48_14, ux_48_15, ux_48_18, ux_48_19, ux_48_23, ux_48_24, ux_48_27, ux_48_30, ux_48_31, ux_48_32, ux_48_34, ux_48_37, ux_48_38, ux_48_41, ux_48_42, ux_48_48, ux_48_52, ux_48_53, ux_48_56, ux_48_57, ux_48_58, ux_48_59, ux_48_62, ux_48_65, ux_48_66, ux_48_70, ux_48_71, ux_48_74, ux_48_77, ux_48_78, ux_48_80, ux_48_83, ux_48_85, ux_48_86, ux_48_89, ux_48_91, ux_48_92, ux_48_94, ux_48_97, ux_48_98, ux_48_99, ux_48_102, ux_48_106, ux_48_109, ux_48_110, ux_48_113, ux_48_115, ux_48_119, ux_48_122, ux_48_124, ux_48_127, ux_48_129, ux_48_130, ux_48_132, ux_48_133, ux_48_136, ux_48_137, ux_48_141, ux_48_144, ux_48_147, pm_i_c, pm_l_c, pm_q_c, pm_r_c, pm_li_0, pm_li_s, pm_ll_0, pm_ll_s, pm_lq_0, pm_lq_s, pm_s1, pm_s2, pm_kl, pm_wI, pm_wR, pm_pu_n, pm_pu_s, pm_wt, List.take_succ_cons, List.take_zero, List.take_nil, List.drop_succ_cons, List.drop_zero, List.reverse_cons, List.reverse_nil, List.nil_append, List.cons_append, List.length_cons, List.length_nil, true_and, and_true, true_implies, tn_l, tn_0, Int.reduceToNat, Int.reduceLE, Int.reduceLT, Int.reduceEq, Int.reduceAdd, Int.reduceSub, Int.reduceMul, Int.reduceNeg, Nat.reduceAdd, Nat.reduceLeDiff, Nat.reduceEqDiff, Nat.reduceSub, Option.some.injEq, Sum.inl.injEq, Sum.inr.injEq, or_true, true_or, reduceCtorEq, ne_eq, not_false_eq_true, not_true_eq_false, false_implies, implies_true, false_and, and_false, false_or, or_false, if_true, if_false, fq_4 hb, fq_5 hb, fq_6 hb, fq_7 hb, fq_t hb, fq_v hb, fq_b1 hb, fq_b2 hb, fq_b3 hb, fq_b4 hb]
      refine ⟨by omega, ?_⟩
      generalize hW2 : pm_up (pm_up W (b + 2) i (A (15 + i))) (b + 3) i (min (A (51 + i)) lo) = W2
      have x1 : ∀ q, q ≠ b + 2 → q ≠ b + 3 → W2 q = W q := fun q a b => by rw [← hW2, pm_up_fr b, pm_up_fr a]
      have o2 : pcO W2 T a A i := pcO_keep (fun q hq _ => x1 q (by omega) (by omega)) (fun _ _ z => z) ho
      have s11 : W2 1 1 = A 1 := by rw [x1 1 (by omega) (by omega)]; exact hsW.2.1
      have ev3 := c_openFor (d := d) (by omega) hb hw hi o2 h0 h1 (by rw [x1 b (by omega) (by omega)]; exact w5) (by rw [x1 (b + 1) (by omega) (by omega)]; exact w6)
      rw [ux_48_123]
      simp only [ux_48_0, ux_48_1, ux_48_2, ux_48_5, ux_48_6, ux_48_7, ux_48_10, ux_48_13, ux_48_14, ux_48_15, ux_48_18, ux_48_19, ux_48_23, ux_48_24, ux_48_27, ux_48_30, ux_48_31, ux_48_32, ux_48_34, ux_48_37, ux_48_38, ux_48_41, ux_48_42, ux_48_48, ux_48_52, ux_48_53, ux_48_56, ux_48_57, ux_48_58, ux_48_59, ux_48_62, ux_48_65, ux_48_66, ux_48_70, ux_48_71, ux_48_74, ux_48_77, ux_48_78, ux_48_80, ux_48_83, ux_48_85, ux_48_86, ux_48_89, ux_48_91, ux_48_92, ux_48_94, ux_48_97, ux_48_98, ux_48_99, ux_48_102, ux_48_106, ux_48_109, ux_48_110, ux_48_113, ux_48_115, ux_48_119, ux_48_122, ux_48_124, ux_48_127, ux_48_129, ux_48_130, ux_48_132, ux_48_133, ux_48_136, ux_48_137, ux_48_141, ux_48_144, ux_48_147, pm_i_c, pm_l_c, pm_q_c, pm_r_c, pm_li_0, pm_li_s, pm_ll_0, pm_ll_s, pm_lq_0, pm_lq_s, pm_s1, pm_s2, pm_kl, pm_wI, pm_wR, pm_pu_n, pm_pu_s, pm_wt, List.take_succ_cons, List.take_zero, List.take_nil, List.drop_succ_cons, List.drop_zero, List.reverse_cons, List.reverse_nil, List.nil_append, List.cons_append, List.length_cons, List.length_nil, true_and, and_true, true_implies, tn_l, tn_0, Int.reduceToNat, Int.reduceLE, Int.reduceLT, Int.reduceEq, Int.reduceAdd, Int.reduceSub, Int.reduceMul, Int.reduceNeg, Nat.reduceAdd, Nat.reduceLeDiff, Nat.reduceEqDiff, Nat.reduceSub, Option.some.injEq, Sum.inl.injEq, Sum.inr.injEq, or_true, true_or, reduceCtorEq, ne_eq, not_false_eq_true, not_true_eq_false, false_implies, implies_true, false_and, and_false, false_or, or_false, if_true, if_false, fq_4 hb, fq_5 hb, fq_6 hb, fq_7 hb, fq_t hb, fq_v hb, fq_b1 hb, fq_b2 hb, fq_b3 hb, fq_b4 hb, fr_1_3 hf, fg_1 hf, fv_1 hf, s11, pm_ok_ev ev3]
      rw [ux_48_140]
      simp only [ux_48_0, ux_48_1, ux_48_2, ux_48_5, ux_48_6, ux_48_7, ux_48_10, ux_48_13, ux_48_14, ux_48_15, ux_48_18, ux_48_19, ux_48_23, ux_48_24, ux_48_27, ux_48_30, ux_48_31, ux_48_32, ux_48_34, ux_48_37, ux_48_38, ux_48_41, ux_48_42, ux_48_48, ux_48_52, ux_48_53, ux_48_56, ux_48_57, ux_48_58, ux_48_59, ux_48_62, ux_48_65, ux_48_66, ux_48_70, ux_48_71, ux_48_74, ux_48_77, ux_48_78, ux_48_80, ux_48_83, ux_48_85, ux_48_86, ux_48_89, ux_48_91, ux_48_92, ux_48_94, ux_48_97, ux_48_98, ux_48_99, ux_48_102, ux_48_106, ux_48_109, ux_48_110, ux_48_113, ux_48_115, ux_48_119, ux_48_122, ux_48_124, ux_48_127, ux_48_129, ux_48_130, ux_48_132, ux_48_133, ux_48_136, ux_48_137, ux_48_141, ux_48_144, ux_48_147, pm_i_c, pm_l_c, pm_q_c, pm_r_c, pm_li_0, pm_li_s, pm_ll_0, pm_ll_s, pm_lq_0, pm_lq_s, pm_s1, pm_s2, pm_kl, pm_wI, pm_wR, pm_pu_n, pm_pu_s, pm_wt, List.take_succ_cons, List.take_zero, List.take_nil, List.drop_succ_cons, List.drop_zero, List.reverse_cons, List.reverse_nil, List.nil_append, List.cons_append, List.length_cons, List.length_nil, true_and, and_true, true_implies, tn_l, tn_0, Int.reduceToNat, Int.reduceLE, Int.reduceLT, Int.reduceEq, Int.reduceAdd, Int.reduceSub, Int.reduceMul, Int.reduceNeg, Nat.reduceAdd, Nat.reduceLeDiff, Nat.reduceEqDiff, Nat.reduceSub, Option.some.injEq, Sum.inl.injEq, Sum.inr.injEq, or_true, true_or, reduceCtorEq, ne_eq, not_false_eq_true, not_true_eq_false, false_implies, implies_true, false_and, and_false, false_or, or_false, if_true, if_false, fq_4 hb, fq_5 hb, fq_6 hb, fq_7 hb, fq_t hb, fq_v hb, fq_b1 hb, fq_b2 hb, fq_b3 hb, fq_b4 hb]
      refine ⟨by omega, by unfold pm_I32; omega, ih _ _ (fun q hq => ?_) ?_ ?_ ?_ ?_ ?_ (fun p hp => ?_)⟩
      · rw [pm_up_fr (by omega), x1 q (by omega) (by omega)]; exact w1 q hq
      · rw [pm_up_fr (by omega), x1 b (by omega) (by omega)]; exact w2
      · rw [pm_up_fr (by omega), x1 b (by omega) (by omega)]; exact w3
      · rw [pm_up_fr (by omega), x1 b (by omega) (by omega)]; exact w4
      · rw [pm_up_fr (by omega), x1 b (by omega) (by omega)]; exact w5
      · rw [pm_up_fr (by omega), x1 (b + 1) (by omega) (by omega)]; exact w6
      · have g2 : W2 (b + 2) = fun j => if j = i then A (15 + i) else W (b + 2) j := by rw [← hW2, pm_up_fr (by omega), pm_up_row]
        have g3 : W2 (b + 3) = fun j => if j = i then min (A (51 + i)) lo else W (b + 3) j := by rw [← hW2, pm_up_row, pm_up_fr (by omega)]
        rw [pm_up_fr (show b + 2 ≠ b + 4 by omega), pm_up_fr (show b + 3 ≠ b + 4 by omega), pm_up_row, g2, g3, x1 (b + 4) (by omega) (by omega)]
        dsimp only
        by_cases c : p = i
        · subst c
          rw [if_pos rfl, if_pos rfl, if_pos rfl]
          exact ⟨rfl, rfl, rfl⟩
        · rw [if_neg c, if_neg c, if_neg c]
          exact w7 p (by omega)
  -- the first loop
  refine pm_up0 (fun i => ∀ W y5, frI V1 W b (mmL A dl i) → pm_w d 48 21 [some (.inr (.inr (some b))), some (.inr (.inr (some 1))), some (.inl lo), some (.inl dl), some (.inl (i : Int)), y5] [] (W, R, T) (buQ V R T b A n lo dl)) n ?_ ?_ V1 none ⟨fun _ _ _ _ => rfl, by rw [v12]; rfl, fun j hj => by cases hj⟩
  · intro W y5 w0
    have e1 : W b 1 = n := by rw [w0.1 b 1 (by omega) (by omega)]; exact v11
    have e2 := w0.2.1
    have e3 : max (((mmL A dl n).length : Int) - 1) 0 = (nS A n dl : Int) := by omega
    rw [ux_48_21]
    simp only [ux_48_0, ux_48_1, ux_48_2, ux_48_5, ux_48_6, ux_48_7, ux_48_10, ux_48_13, ux_48_14, ux_48_15, ux_48_18, ux_48_19, ux_48_23, ux_48_24, ux_48_27, ux_48_30, ux_48_31, ux_48_32, ux_48_34, ux_48_37, ux_48_38, ux_48_41, ux_48_42, ux_48_48, ux_48_52, ux_48_53, ux_48_56, ux_48_57, ux_48_58, ux_48_59, ux_48_62, ux_48_65, ux_48_66, ux_48_70, ux_48_71, ux_48_74, ux_48_77, ux_48_78, ux_48_80, ux_48_83, ux_48_85, ux_48_86, ux_48_89, ux_48_91, ux_48_92, ux_48_94, ux_48_97, ux_48_98, ux_48_99, ux_48_102, ux_48_104, ux_48_106, ux_48_109, ux_48_110, ux_48_113, ux_48_115, ux_48_118, ux_48_119, ux_48_122, ux_48_123, ux_48_124, ux_48_127, ux_48_129, ux_48_130, ux_48_132, ux_48_133, ux_48_136, ux_48_137, ux_48_140, ux_48_141, ux_48_144, ux_48_147, pm_i_c, pm_l_c, pm_q_c, pm_r_c, pm_li_0, pm_li_s, pm_ll_0, pm_ll_s, pm_lq_0, pm_lq_s, pm_s1, pm_s2, pm_kl, pm_wI, pm_wR, pm_pu_n, pm_pu_s, pm_wt, List.take_succ_cons, List.take_zero, List.take_nil, List.drop_succ_cons, List.drop_zero, List.reverse_cons, List.reverse_nil, List.nil_append, List.cons_append, List.length_cons, List.length_nil, true_and, and_true, true_implies, tn_l, tn_0, Int.reduceToNat, Int.reduceLE, Int.reduceLT, Int.reduceEq, Int.reduceAdd, Int.reduceSub, Int.reduceMul, Int.reduceNeg, Nat.reduceAdd, Nat.reduceLeDiff, Nat.reduceEqDiff, Nat.reduceSub, Option.some.injEq, Sum.inl.injEq, Sum.inr.injEq, or_true, true_or, reduceCtorEq, ne_eq, not_false_eq_true, not_true_eq_false, false_implies, implies_true, false_and, and_false, false_or, or_false, if_true, if_false, fq_4 hb, fq_5 hb, fq_6 hb, fq_7 hb, fq_t hb, fq_v hb, fq_b1 hb, fq_b2 hb, fq_b3 hb, fq_b4 hb, e1]
    refine ⟨fun _ => ?_, fun z => absurd (Int.le_refl _) z⟩
    rw [ux_48_51]
    simp only [ux_48_0, ux_48_1, ux_48_2, ux_48_5, ux_48_6, ux_48_7, ux_48_10, ux_48_13, ux_48_14, ux_48_15, ux_48_18, ux_48_19, ux_48_23, ux_48_24, ux_48_27, ux_48_30, ux_48_31, ux_48_32, ux_48_34, ux_48_37, ux_48_38, ux_48_41, ux_48_42, ux_48_48, ux_48_52, ux_48_53, ux_48_56, ux_48_57, ux_48_58, ux_48_59, ux_48_62, ux_48_65, ux_48_66, ux_48_70, ux_48_71, ux_48_74, ux_48_77, ux_48_78, ux_48_80, ux_48_83, ux_48_85, ux_48_86, ux_48_89, ux_48_91, ux_48_92, ux_48_94, ux_48_97, ux_48_98, ux_48_99, ux_48_102, ux_48_104, ux_48_106, ux_48_109, ux_48_110, ux_48_113, ux_48_115, ux_48_118, ux_48_119, ux_48_122, ux_48_123, ux_48_124, ux_48_127, ux_48_129, ux_48_130, ux_48_132, ux_48_133, ux_48_136, ux_48_137, ux_48_140, ux_48_141, ux_48_144, ux_48_147, pm_i_c, pm_l_c, pm_q_c, pm_r_c, pm_li_0, pm_li_s, pm_ll_0, pm_ll_s, pm_lq_0, pm_lq_s, pm_s1, pm_s2, pm_kl, pm_wI, pm_wR, pm_pu_n, pm_pu_s, pm_wt, List.take_succ_cons, List.take_zero, List.take_nil, List.drop_succ_cons, List.drop_zero, List.reverse_cons, List.reverse_nil, List.nil_append, List.cons_append, List.length_cons, List.length_nil, true_and, and_true, true_implies, tn_l, tn_0, Int.reduceToNat, Int.reduceLE, Int.reduceLT, Int.reduceEq, Int.reduceAdd, Int.reduceSub, Int.reduceMul, Int.reduceNeg, Nat.reduceAdd, Nat.reduceLeDiff, Nat.reduceEqDiff, Nat.reduceSub, Option.some.injEq, Sum.inl.injEq, Sum.inr.injEq, or_true, true_or, reduceCtorEq, ne_eq, not_false_eq_true, not_true_eq_false, false_implies, implies_true, false_and, and_false, false_or, or_false, if_true, if_false, fq_4 hb, fq_5 hb, fq_6 hb, fq_7 hb, fq_t hb, fq_v hb, fq_b1 hb, fq_b2 hb, fq_b3 hb, fq_b4 hb, e2, e3]
    exact ⟨by unfold pm_I32; omega, k2 W w0 (Or.inr trivial) _⟩
  · intro i hi ih W y5 w0
    have e1 : W b 1 = n := by rw [w0.1 b 1 (by omega) (by omega)]; exact v11
    have w1 : ∀ q, q < b ∨ b + 4 < q → W q = V q := fun q hq => (funext fun j => w0.1 q j (by omega) (by omega)).trans (v1 q (by omega))
    have hsW := shK W w1
    have hs1 := shK V1 (fun q hq => v1 q (by omega))
    obtain ⟨a, e, ho⟩ := hs1.2.2.2.1 i hi
    have e : R 2 i = some a := e
    have ev := c_pieceAt (d := d) (by omega) hf hsW.2.2.1 hn (i : Int)
    rw [if_pos (by omega), Int.toNat_natCast, e] at ev
    have s11 := hsW.2.1
    have hlen := mmL_len A dl i
    rw [ux_48_21]
    simp only [ux_48_0, ux_48_1, ux_48_2, ux_48_5, ux_48_6, ux_48_7, ux_48_10, ux_48_13, ux_48_14, ux_48_15, ux_48_18, ux_48_19, ux_48_23, ux_48_24, ux_48_27, ux_48_30, ux_48_31, ux_48_32, ux_48_34, ux_48_37, ux_48_38, ux_48_41, ux_48_42, ux_48_48, ux_48_52, ux_48_53, ux_48_56, ux_48_57, ux_48_58, ux_48_59, ux_48_62, ux_48_65, ux_48_66, ux_48_70, ux_48_71, ux_48_74, ux_48_77, ux_48_78, ux_48_80, ux_48_83, ux_48_85, ux_48_86, ux_48_89, ux_48_91, ux_48_92, ux_48_94, ux_48_97, ux_48_98, ux_48_99, ux_48_102, ux_48_104, ux_48_106, ux_48_109, ux_48_110, ux_48_113, ux_48_115, ux_48_118, ux_48_119, ux_48_122, ux_48_123, ux_48_124, ux_48_127, ux_48_129, ux_48_130, ux_48_132, ux_48_133, ux_48_136, ux_48_137, ux_48_140, ux_48_141, ux_48_144, ux_48_147, pm_i_c, pm_l_c, pm_q_c, pm_r_c, pm_li_0, pm_li_s, pm_ll_0, pm_ll_s, pm_lq_0, pm_lq_s, pm_s1, pm_s2, pm_kl, pm_wI, pm_wR, pm_pu_n, pm_pu_s, pm_wt, List.take_succ_cons, List.take_zero, List.take_nil, List.drop_succ_cons, List.drop_zero, List.reverse_cons, List.reverse_nil, List.nil_append, List.cons_append, List.length_cons, List.length_nil, true_and, and_true, true_implies, tn_l, tn_0, Int.reduceToNat, Int.reduceLE, Int.reduceLT, Int.reduceEq, Int.reduceAdd, Int.reduceSub, Int.reduceMul, Int.reduceNeg, Nat.reduceAdd, Nat.reduceLeDiff, Nat.reduceEqDiff, Nat.reduceSub, Option.some.injEq, Sum.inl.injEq, Sum.inr.injEq, or_true, true_or, reduceCtorEq, ne_eq, not_false_eq_true, not_true_eq_false, false_implies, implies_true, false_and, and_false, false_or, or_false, if_true, if_false, fq_4 hb, fq_5 hb, fq_6 hb, fq_7 hb, fq_t hb, fq_v hb, fq_b1 hb, fq_b2 hb, fq_b3 hb, fq_b4 hb, fr_1_3 hf, fg_1 hf, fv_1 hf, e1, pm_ok_ev ev, s11]
    refine ⟨fun z => by omega, fun _ => ?_⟩
    refine pm_ok_mono (c_addMomentsOf (d := d) (by omega) hb hbb hw hi ho h0 h1 (by omega) w0) ?_
    rintro r h2 ⟨W2, rfl, rfl, hI2⟩
    rw [pm_pu_n, ux_48_45]
    simp only [ux_48_0, ux_48_1, ux_48_2, ux_48_5, ux_48_6, ux_48_7, ux_48_10, ux_48_13, ux_48_14, ux_48_15, ux_48_18, ux_48_19, ux_48_23, ux_48_24, ux_48_27, ux_48_30, ux_48_31, ux_48_32, ux_48_34, ux_48_37, ux_48_38, ux_48_41, ux_48_42, ux_48_48, ux_48_52, ux_48_53, ux_48_56, ux_48_57, ux_48_58, ux_48_59, ux_48_62, ux_48_65, ux_48_66, ux_48_70, ux_48_71, ux_48_74, ux_48_77, ux_48_78, ux_48_80, ux_48_83, ux_48_85, ux_48_86, ux_48_89, ux_48_91, ux_48_92, ux_48_94, ux_48_97, ux_48_98, ux_48_99, ux_48_102, ux_48_104, ux_48_106, ux_48_109, ux_48_110, ux_48_113, ux_48_115, ux_48_118, ux_48_119, ux_48_122, ux_48_123, ux_48_124, ux_48_127, ux_48_129, ux_48_130, ux_48_132, ux_48_133, ux_48_136, ux_48_137, ux_48_140, ux_48_141, ux_48_144, ux_48_147, pm_i_c, pm_l_c, pm_q_c, pm_r_c, pm_li_0, pm_li_s, pm_ll_0, pm_ll_s, pm_lq_0, pm_lq_s, pm_s1, pm_s2, pm_kl, pm_wI, pm_wR, pm_pu_n, pm_pu_s, pm_wt, List.take_succ_cons, List.take_zero, List.take_nil, List.drop_succ_cons, List.drop_zero, List.reverse_cons, List.reverse_nil, List.nil_append, List.cons_append, List.length_cons, List.length_nil, true_and, and_true, true_implies, tn_l, tn_0, Int.reduceToNat, Int.reduceLE, Int.reduceLT, Int.reduceEq, Int.reduceAdd, Int.reduceSub, Int.reduceMul, Int.reduceNeg, Nat.reduceAdd, Nat.reduceLeDiff, Nat.reduceEqDiff, Nat.reduceSub, Option.some.injEq, Sum.inl.injEq, Sum.inr.injEq, or_true, true_or, reduceCtorEq, ne_eq, not_false_eq_true, not_true_eq_false, false_implies, implies_true, false_and, and_false, false_or, or_false, if_true, if_false, fq_4 hb, fq_5 hb, fq_6 hb, fq_7 hb, fq_t hb, fq_v hb, fq_b1 hb, fq_b2 hb, fq_b3 hb, fq_b4 hb]
    exact ⟨by unfold pm_I32; omega, ih W2 _ hI2⟩
/-- what a frame answers -/
theorem c_stretchLength (hd : 1 ≤ d) (hb : frq R T b) (hw : wf A n) (h0 : 0 ≤ dl) (h1 : dl ≤ 200) (hO : frO V b A n lo dl) (s : Nat) (hs : s < nS A n dl) : pm_ev d 62 [.inr (.inr (some b)), .inl (s : Int)] (V, R, T) (some (.inl (nmo A n dl (s + 1) - nmo A n dl s))) (V, R, T) := by
  refine pm_ev_of hd (Nat.le_of_ble_eq_true rfl) ?_
  show pm_w (d - 1) 62 0 [some (.inr (.inr (some b))), some (.inl (s : Int))] [] (V, R, T) _
  obtain ⟨S1, S2, S3⟩ := nS_bd (dl := dl) hw
  have e1 : V (b + 1) s = nmo A n dl s := hO.2.2.2.2.1 s (by omega)
  have e2 : V (b + 1) (s + 1) = nmo A n dl (s + 1) := hO.2.2.2.2.1 (s + 1) (by omega)
  have e3 : ((s : Int) + 1).toNat = s + 1 := by omega
  have b1 := nmo_bd hw h0 h1 (show s < (mmL A dl n).length by omega)
  have b2 := nmo_bd hw h0 h1 (show s + 1 < (mmL A dl n).length by omega)
  simp only [ux_62_0, ux_62_1, ux_62_4, ux_62_5, ux_62_6, ux_62_7, ux_62_8, ux_62_9, ux_62_12, ux_62_13, ux_62_14, ux_62_15, pm_i_c, pm_l_c, pm_q_c, pm_r_c, pm_li_0, pm_li_s, pm_ll_0, pm_ll_s, pm_lq_0, pm_lq_s, pm_s1, pm_s2, pm_kl, pm_wI, pm_wR, pm_pu_n, pm_pu_s, pm_wt, List.take_succ_cons, List.take_zero, List.take_nil, List.drop_succ_cons, List.drop_zero, List.reverse_cons, List.reverse_nil, List.nil_append, List.cons_append, List.length_cons, List.length_nil, true_and, and_true, true_implies, tn_l, tn_0, Int.reduceToNat, Int.reduceLE, Int.reduceLT, Int.reduceEq, Int.reduceAdd, Int.reduceSub, Int.reduceMul, Int.reduceNeg, Nat.reduceAdd, Nat.reduceLeDiff, Nat.reduceEqDiff, Nat.reduceSub, Option.some.injEq, Sum.inl.injEq, Sum.inr.injEq, or_true, true_or, reduceCtorEq, ne_eq, not_false_eq_true, not_true_eq_false, false_implies, implies_true, false_and, and_false, false_or, or_false, if_true, if_false, fq_4 hb, fq_5 hb, fq_6 hb, fq_7 hb, fq_t hb, fq_v hb, fq_b1 hb, fq_b2 hb, fq_b3 hb, fq_b4 hb, e1, e2, e3]
  exact ⟨by unfold pm_I32; omega, by omega, by omega, by unfold pm_I32; omega⟩
theorem c_stretchTakes (hd : 2 ≤ d) (hb : frq R T b) (hw : wf A n) (h0 : 0 ≤ dl) (h1 : dl ≤ 200) (hl : 0 ≤ lo ∧ lo ≤ 12) (hO : frO V b A n lo dl) (s : Nat) (hs : s < nS A n dl) : pm_ev d 61 [.inr (.inr (some b)), .inl (s : Int)] (V, R, T) (some (.inl (nR A n lo dl 1 s))) (V, R, T) := by
  refine pm_ev_of (by omega) (Nat.le_of_ble_eq_true rfl) ?_
  show pm_w (d - 1) 61 0 [some (.inr (.inr (some b))), some (.inl (s : Int))] [] (V, R, T) _
  obtain ⟨S1, S2, S3⟩ := nS_bd (dl := dl) hw
  have b1 := nmo_bd hw h0 h1 (show s < (mmL A dl n).length by omega)
  have b2 := nmo_bd hw h0 h1 (show s + 1 < (mmL A dl n).length by omega)
  have b3 := nmo_lt hw h0 h1 hs
  have mb := mulbd hl.1 hl.2 (show 0 ≤ nmo A n dl (s + 1) - nmo A n dl s by omega) (show nmo A n dl (s + 1) - nmo A n dl s ≤ 260 by omega)
  simp only [ux_61_0, ux_61_1, ux_61_4, ux_61_5, ux_61_6, ux_61_9, ux_61_10, pm_i_c, pm_l_c, pm_q_c, pm_r_c, pm_li_0, pm_li_s, pm_ll_0, pm_ll_s, pm_lq_0, pm_lq_s, pm_s1, pm_s2, pm_kl, pm_wI, pm_wR, pm_pu_n, pm_pu_s, pm_wt, List.take_succ_cons, List.take_zero, List.take_nil, List.drop_succ_cons, List.drop_zero, List.reverse_cons, List.reverse_nil, List.nil_append, List.cons_append, List.length_cons, List.length_nil, true_and, and_true, true_implies, tn_l, tn_0, Int.reduceToNat, Int.reduceLE, Int.reduceLT, Int.reduceEq, Int.reduceAdd, Int.reduceSub, Int.reduceMul, Int.reduceNeg, Nat.reduceAdd, Nat.reduceLeDiff, Nat.reduceEqDiff, Nat.reduceSub, Option.some.injEq, Sum.inl.injEq, Sum.inr.injEq, or_true, true_or, reduceCtorEq, ne_eq, not_false_eq_true, not_true_eq_false, false_implies, implies_true, false_and, and_false, false_or, or_false, if_true, if_false, fq_4 hb, fq_5 hb, fq_6 hb, fq_7 hb, fq_t hb, fq_v hb, fq_b1 hb, fq_b2 hb, fq_b3 hb, fq_b4 hb, pm_ok_ev (c_stretchLength (d := d - 1) (V := V) (by omega) hb hw h0 h1 hO s hs), hO.1]
  refine ⟨by unfold pm_I32; omega, ?_⟩
  unfold nR rmA
  omega
theorem c_pieceTakes (hd : 2 ≤ d) (hb : frq R T b) (hw : wf A n) (h0 : 0 ≤ dl) (h1 : dl ≤ 200) (hl : 1 ≤ lo ∧ lo ≤ 12) (hO : frO V b A n lo dl) (p s : Nat) (hp : p < n) (hs : s < nS A n dl) : pm_ev d 63 [.inr (.inr (some b)), .inl (p : Int), .inl (s : Int)] (V, R, T) (some (.inl (nC A n lo dl 1 p s))) (V, R, T) := by
  refine pm_ev_of (by omega) (Nat.le_of_ble_eq_true rfl) ?_
  show pm_w (d - 1) 63 0 [some (.inr (.inr (some b))), some (.inl (p : Int)), some (.inl (s : Int)), none] [] (V, R, T) _
  obtain ⟨S1, S2, S3⟩ := nS_bd (dl := dl) hw
  have hn := hw.1
  obtain ⟨g1, g2, g3⟩ := hO.2.2.2.2.2 p hp
  have b1 := nmo_bd hw h0 h1 (show s < (mmL A dl n).length by omega)
  have b2 := nmo_bd hw h0 h1 (show s + 1 < (mmL A dl n).length by omega)
  have b3 := nmo_lt hw h0 h1 hs
  have wp := (hw.2.2.2.2 p hp).2.2.2.2.2.2.1
  have mb := mulbd (show 0 ≤ min (A (51 + p)) lo by omega) (show min (A (51 + p)) lo ≤ 12 by omega) (show 0 ≤ nmo A n dl (s + 1) - nmo A n dl s by omega) (show nmo A n dl (s + 1) - nmo A n dl s ≤ 260 by omega)
  have ebit := btf_bit (P := fun s => mlB A dl (nmo A n dl) p s) hs
  have e1 : ((btf (fun s => mlB A dl (nmo A n dl) p s) (nS A n dl) : Int) / 2 ^ s) = ((btf (fun s => mlB A dl (nmo A n dl) p s) (nS A n dl) / 2 ^ s : Nat) : Int) := by
    rw [Int.natCast_ediv, Int.natCast_pow]; rfl
  have i1 : (0 : Int) ≤ (s : Int) ∧ (s : Int) < 64 ∧ (0 : Int) ≤ (btf (fun s => mlB A dl (nmo A n dl) p s) (nS A n dl) : Int) := by omega
  simp only [ux_63_0, ux_63_1, ux_63_4, ux_63_5, ux_63_6, ux_63_7, ux_63_8, ux_63_9, ux_63_10, ux_63_11, ux_63_12, ux_63_15, ux_63_16, ux_63_19, ux_63_20, ux_63_21, ux_63_22, ux_63_25, ux_63_26, ux_63_29, ux_63_30, ux_63_31, ux_63_32, ux_63_33, ux_63_36, ux_63_37, ux_63_40, ux_63_41, pm_i_c, pm_l_c, pm_q_c, pm_r_c, pm_li_0, pm_li_s, pm_ll_0, pm_ll_s, pm_lq_0, pm_lq_s, pm_s1, pm_s2, pm_kl, pm_wI, pm_wR, pm_pu_n, pm_pu_s, pm_wt, List.take_succ_cons, List.take_zero, List.take_nil, List.drop_succ_cons, List.drop_zero, List.reverse_cons, List.reverse_nil, List.nil_append, List.cons_append, List.length_cons, List.length_nil, true_and, and_true, true_implies, tn_l, tn_0, Int.reduceToNat, Int.reduceLE, Int.reduceLT, Int.reduceEq, Int.reduceAdd, Int.reduceSub, Int.reduceMul, Int.reduceNeg, Nat.reduceAdd, Nat.reduceLeDiff, Nat.reduceEqDiff, Nat.reduceSub, Option.some.injEq, Sum.inl.injEq, Sum.inr.injEq, or_true, true_or, reduceCtorEq, ne_eq, not_false_eq_true, not_true_eq_false, false_implies, implies_true, false_and, and_false, false_or, or_false, if_true, if_false, fq_4 hb, fq_5 hb, fq_6 hb, fq_7 hb, fq_t hb, fq_v hb, fq_b1 hb, fq_b2 hb, fq_b3 hb, fq_b4 hb, g2, g3, e1, Int.toNat_natCast, Int.reduceToNat, Nat.and_one_is_mod, ebit, lc_eq, pm_ok_ev (c_stretchLength (d := d - 1) (V := V) (by omega) hb hw h0 h1 hO s hs)]
  refine ⟨by omega, i1, by first | omega | exact Int.natCast_nonneg _, ?_⟩
  unfold nC tkA
  cases mlB A dl (nmo A n dl) p s with
  | true =>
    simp only [if_true, Int.mul_one]
    refine ⟨fun z => absurd z (by decide), fun _ => ⟨by omega, by unfold pm_I32; omega, trivial⟩⟩
  | false =>
    simp only [Bool.false_eq_true, if_false]
    refine ⟨fun _ => rfl, fun z => absurd rfl z⟩
end
