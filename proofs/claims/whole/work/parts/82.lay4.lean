/-! THE CLASS: the way back, layAlong, layMost -/
def cbt (P : Nat → Prop) : Nat → Nat → Prop := fun _ _ => True
noncomputable def cb (P : Nat → Prop) : Nat → Nat
  | 0 => 0
  | n + 1 => cb P n + @ite _ (P n) (Classical.propDecidable _) 1 0
theorem cb_mono {P Q : Nat → Prop} : ∀ {n : Nat}, (∀ j, j < n → P j → Q j) → cb P n ≤ cb Q n ∧ ((∃ j, j < n ∧ Q j ∧ ¬ P j) → cb P n < cb Q n)
  | 0, _ => ⟨Nat.le_refl _, fun ⟨j, h, _⟩ => by omega⟩
  | n + 1, h => by
    obtain ⟨a, b⟩ := cb_mono (n := n) (fun j hj => h j (by omega))
    have hn := h n (by omega)
    show cb P n + _ ≤ cb Q n + _ ∧ (_ → cb P n + _ < cb Q n + _)
    refine ⟨?_, fun ⟨j, h1, h2, h3⟩ => ?_⟩
    · by_cases c : P n
      · rw [if_pos c, if_pos (hn c)]; omega
      · rw [if_neg c]; split <;> omega
    · by_cases e : j = n
      · subst e
        rw [if_neg h3, if_pos h2]; omega
      · have := b ⟨j, by omega, h2, h3⟩
        by_cases c : P n
        · rw [if_pos c, if_pos (hn c)]; omega
        · rw [if_neg c]; split <;> omega
theorem cb_all : ∀ n, cb (fun _ => True) n = n
  | 0 => rfl
  | n + 1 => by
    show cb (fun _ => True) n + _ = _
    rw [cb_all n, if_pos trivial]
theorem rq_ex (n : Nat) (f : Nat → Int) (rp : Nat → Nat) : ∃ rq : Nat → Nat, (∀ p, p < n → rq p < n) ∧ ∀ p q, p < n → q < n → f q ≠ -2 → rp q < rp p → rq q < rq p := by
  refine ⟨fun p => cb (fun j => f j ≠ -2 ∧ rp j < rp p) n, fun p hp => ?_, fun p q hp hq hf hlt => ?_⟩
  · have := (cb_mono (P := fun j => f j ≠ -2 ∧ rp j < rp p) (Q := fun _ => True) (n := n) (fun _ _ _ => trivial)).2 ⟨p, hp, trivial, fun w => by omega⟩
    rw [cb_all] at this
    exact this
  · exact (cb_mono (P := fun j => f j ≠ -2 ∧ rp j < rp q) (Q := fun j => f j ≠ -2 ∧ rp j < rp p) (n := n) (fun j _ w => ⟨w.1, by omega⟩)).2 ⟨q, hq, ⟨hf, hlt⟩, fun w => by omega⟩
section
variable {d : Nat} {h : pm_H} {V V2 W : Nat → Nat → Int} {R : Nat → Nat → Option Nat} {T : List (Nat × Nat)} {n a p b S : Nat} {ln : Nat → Int} {c x0 : Nat → Nat → Int} {r : Nat → Int} {st : Nat → Prop} {rp rs rq : Nat → Nat}
theorem c_startOf (hd : 1 ≤ d) (hb : lyq R T b) (hn : n ≤ 12) (hS : S ≤ 47) (ht : tre n S c x0 st (V (b + 29)) (V (b + 30)) rp rs) (hq1 : ∀ p, p < n → rq p < n) (hq : ∀ p q, p < n → q < n → V (b + 29) q ≠ -2 → rp q < rp p → rq q < rq p) {k e : Nat} (he : e < S) (hg : V (b + 30) e ≠ -2) (hk : rs e < k) : pm_ev d 72 [.inr (.inr (some b)), .inl (e : Int)] (V, R, T) (some (.inl (srcF (V (b + 29)) (V (b + 30)) k e : Int))) (V, R, T) := by
  refine pm_ev_of hd (Nat.le_of_ble_eq_true rfl) ?_
  show pm_w (d - 1) 72 0 [some (.inr (.inr (some b))), some (.inl (e : Int)), none, none, none] [] (V, R, T) _
  simp only [ux_72_0, ux_72_1, ux_72_2, ux_72_3, ux_72_5, ux_72_7, ux_72_10, ux_72_11, ux_72_14, ux_72_15, ux_72_18, ux_72_19, ux_72_20, ux_72_22, ux_72_24, ux_72_27, ux_72_28, ux_72_31, ux_72_33, ux_72_34, ux_72_35, ux_72_38, ux_72_40, ux_72_41, ux_72_42, ux_72_45, ux_72_47, ux_72_48, ux_72_49, ux_72_52, ux_72_55, ux_72_56, pm_i_c, pm_l_c, pm_q_c, pm_r_c, pm_li_0, pm_li_s, pm_ll_0, pm_ll_s, pm_lq_0, pm_lq_s, pm_s1, pm_s2, pm_kl, pm_wI, pm_wR, pm_pu_n, pm_pu_s, pm_wt, List.take_succ_cons, List.take_zero, List.take_nil, List.drop_succ_cons, List.drop_zero, List.reverse_cons, List.reverse_nil, List.nil_append, List.cons_append, List.length_cons, List.length_nil, true_and, and_true, true_implies, tn_l, tn_0, Int.reduceToNat, Int.reduceLE, Int.reduceLT, Int.reduceEq, Int.reduceAdd, Int.reduceSub, Int.reduceMul, Int.reduceNeg, Nat.reduceAdd, Nat.reduceLeDiff, Nat.reduceEqDiff, Nat.reduceSub, Option.some.injEq, Sum.inl.injEq, Sum.inr.injEq, or_true, true_or, reduceCtorEq, ne_eq, not_false_eq_true, not_true_eq_false, false_implies, implies_true, false_and, and_false, false_or, or_false, if_true, if_false, ly_3 hb, ly_4 hb, ly_5 hb, ly_6 hb, ly_7 hb, ly_8 hb, ly_9 hb, ly_t hb, ly_v hb, ly_b1 hb, ly_b2 hb, ly_b3 hb, ly_b16 hb, ly_b29 hb, ly_b30 hb, ly_b31 hb]
  have key : ∀ (k s i : Nat) (y : Option pm_V), s < S → V (b + 30) s ≠ -2 → rs s < k → i + rq (V (b + 30) s).toNat < 47 → pm_w (d - 1) 72 4 [some (.inr (.inr (some b))), some (.inl (e : Int)), some (.inl (s : Int)), some (.inl (i : Int)), y] [] (V, R, T) (fun r2 h2 => r2 = some (.inl (srcF (V (b + 29)) (V (b + 30)) k s : Int)) ∧ h2 = (V, R, T)) := by
    intro k
    induction k with
    | zero => intro s i y h1 h2 h3; omega
    | succ k ih =>
      intro s i y h1 h2 h3 h4
      obtain ⟨q, g1, g2, g3, g4, g5⟩ := ht.2 s h1 h2
      have e2 : (V (b + 30) s).toNat = q := by omega
      rw [e2] at h4
      have es : srcF (V (b + 29)) (V (b + 30)) (k + 1) s = if V (b + 29) q < 0 then q else srcF (V (b + 29)) (V (b + 30)) k (V (b + 29) q).toNat := by
        show (if V (b + 29) (V (b + 30) s).toNat < 0 then (V (b + 30) s).toNat else srcF (V (b + 29)) (V (b + 30)) k (V (b + 29) (V (b + 30) s).toNat).toNat) = _
        rw [e2]
      rw [es, ux_72_4]
      simp only [ux_72_0, ux_72_1, ux_72_2, ux_72_3, ux_72_5, ux_72_7, ux_72_10, ux_72_11, ux_72_14, ux_72_15, ux_72_18, ux_72_19, ux_72_20, ux_72_22, ux_72_24, ux_72_27, ux_72_28, ux_72_31, ux_72_33, ux_72_34, ux_72_35, ux_72_38, ux_72_40, ux_72_41, ux_72_42, ux_72_45, ux_72_47, ux_72_48, ux_72_49, ux_72_52, ux_72_55, ux_72_56, pm_i_c, pm_l_c, pm_q_c, pm_r_c, pm_li_0, pm_li_s, pm_ll_0, pm_ll_s, pm_lq_0, pm_lq_s, pm_s1, pm_s2, pm_kl, pm_wI, pm_wR, pm_pu_n, pm_pu_s, pm_wt, List.take_succ_cons, List.take_zero, List.take_nil, List.drop_succ_cons, List.drop_zero, List.reverse_cons, List.reverse_nil, List.nil_append, List.cons_append, List.length_cons, List.length_nil, true_and, and_true, true_implies, tn_l, tn_0, Int.reduceToNat, Int.reduceLE, Int.reduceLT, Int.reduceEq, Int.reduceAdd, Int.reduceSub, Int.reduceMul, Int.reduceNeg, Nat.reduceAdd, Nat.reduceLeDiff, Nat.reduceEqDiff, Nat.reduceSub, Option.some.injEq, Sum.inl.injEq, Sum.inr.injEq, or_true, true_or, reduceCtorEq, ne_eq, not_false_eq_true, not_true_eq_false, false_implies, implies_true, false_and, and_false, false_or, or_false, if_true, if_false, ly_3 hb, ly_4 hb, ly_5 hb, ly_6 hb, ly_7 hb, ly_8 hb, ly_9 hb, ly_t hb, ly_v hb, ly_b1 hb, ly_b2 hb, ly_b3 hb, ly_b16 hb, ly_b29 hb, ly_b30 hb, ly_b31 hb, g2]
      rcases ht.1 q g1 g3 with ⟨f1, f2⟩ | ⟨t, f1, f2, f3, f4, f5⟩
      · rw [if_pos (by omega), f1]
        refine ⟨fun z => by omega, fun _ => ⟨fun z => by omega, fun _ => ⟨by omega, fun z => by omega, fun _ => ⟨by omega, fun z => absurd rfl z, fun _ => rfl⟩⟩⟩⟩
      · rw [if_neg (by omega), f2, Int.toNat_natCast]
        obtain ⟨q2, g1', g2', g3', g4', g5'⟩ := ht.2 t f1 f3
        have hlt := hq q q2 g1 g1' g3' (by omega)
        have nx := ih t (i + 1) (some (.inl (q : Int))) f1 f3 (by omega) (by rw [show (V (b + 30) t).toNat = q2 by omega]; omega)
        refine ⟨fun z => by omega, fun _ => ⟨fun z => by omega, fun _ => ⟨by omega, fun z => by omega, fun _ => ⟨by omega, fun _ => ⟨by omega, by unfold pm_I32; omega, nx⟩, fun z => by omega⟩⟩⟩⟩
  obtain ⟨q, g1, g2, g3, g4, g5⟩ := ht.2 e he hg
  have := hq1 q g1
  exact key k e 0 none he hg hk (by rw [show (V (b + 30) e).toNat = q by omega]; omega)
theorem c_narrowest (hd : 1 ≤ d) (hb : lyq R T b) (hn : n ≤ 12) (hS : S ≤ 47) (ht : tre n S c (xL V b) st (V (b + 29)) (V (b + 30)) rp rs) (hq1 : ∀ p, p < n → rq p < n) (hq : ∀ p q, p < n → q < n → V (b + 29) q ≠ -2 → rp q < rp p → rq q < rq p) (hm : ∀ p, p < n → ∀ s, s < S → mL V b p s = c p s - xL V b p s) {k e : Nat} (he : e < S) (hg : V (b + 30) e ≠ -2) (hk : rs e < k) (w : Int) (hw : 0 < w) : pm_ok d 73 [.inr (.inr (some b)), .inl (e : Int), .inl w] (V, R, T) (fun r0 h2 => ∃ v, r0 = some (.inl v) ∧ h2 = (V, R, T) ∧ 0 < v ∧ v ≤ w ∧ resF (V (b + 29)) (V (b + 30)) c (xL V b) v k e) := by
  obtain ⟨d, rfl⟩ : ∃ k, d = k + 1 := ⟨d - 1, by omega⟩
  refine pm_ok_iff.mpr ⟨(Nat.le_of_ble_eq_true rfl), ?_⟩
  show pm_w d 73 0 [some (.inr (.inr (some b))), some (.inl (e : Int)), some (.inl w), none, none, none, none] [] (V, R, T) _
  generalize hQ : (fun (r0 : Option pm_V) (h2 : pm_H) => ∃ v, r0 = some (.inl v) ∧ h2 = (V, R, T) ∧ 0 < v ∧ v ≤ w ∧ resF (V (b + 29)) (V (b + 30)) c (xL V b) v k e) = Q
  have go0 : ∀ v, 0 < v → v ≤ w → resF (V (b + 29)) (V (b + 30)) c (xL V b) v k e → Q (some (.inl v)) (V, R, T) := fun v h1 h2 h3 => by rw [← hQ]; exact ⟨v, rfl, rfl, h1, h2, h3⟩
  simp only [ux_73_0, ux_73_1, ux_73_2, ux_73_3, ux_73_5, ux_73_6, ux_73_10, ux_73_12, ux_73_15, ux_73_17, ux_73_20, ux_73_21, ux_73_24, ux_73_26, ux_73_27, ux_73_29, ux_73_31, ux_73_34, ux_73_35, ux_73_36, ux_73_37, ux_73_38, ux_73_41, ux_73_43, ux_73_44, ux_73_46, ux_73_47, ux_73_50, ux_73_51, ux_73_52, ux_73_55, ux_73_57, ux_73_58, ux_73_60, ux_73_62, ux_73_65, ux_73_66, ux_73_67, ux_73_70, ux_73_72, ux_73_73, ux_73_75, ux_73_76, ux_73_79, ux_73_80, ux_73_83, ux_73_87, pm_i_c, pm_l_c, pm_q_c, pm_r_c, pm_li_0, pm_li_s, pm_ll_0, pm_ll_s, pm_lq_0, pm_lq_s, pm_s1, pm_s2, pm_kl, pm_wI, pm_wR, pm_pu_n, pm_pu_s, pm_wt, List.take_succ_cons, List.take_zero, List.take_nil, List.drop_succ_cons, List.drop_zero, List.reverse_cons, List.reverse_nil, List.nil_append, List.cons_append, List.length_cons, List.length_nil, true_and, and_true, true_implies, tn_l, tn_0, Int.reduceToNat, Int.reduceLE, Int.reduceLT, Int.reduceEq, Int.reduceAdd, Int.reduceSub, Int.reduceMul, Int.reduceNeg, Nat.reduceAdd, Nat.reduceLeDiff, Nat.reduceEqDiff, Nat.reduceSub, Option.some.injEq, Sum.inl.injEq, Sum.inr.injEq, or_true, true_or, reduceCtorEq, ne_eq, not_false_eq_true, not_true_eq_false, false_implies, implies_true, false_and, and_false, false_or, or_false, if_true, if_false, ly_3 hb, ly_4 hb, ly_5 hb, ly_6 hb, ly_7 hb, ly_8 hb, ly_9 hb, ly_t hb, ly_v hb, ly_b1 hb, ly_b2 hb, ly_b3 hb, ly_b16 hb, ly_b29 hb, ly_b30 hb, ly_b31 hb]
  have fin : ∀ (v : Int) (i : Nat) (y : Option pm_V), Q (some (.inl v)) (V, R, T) → pm_w d 73 8 [some (.inr (.inr (some b))), some (.inl (e : Int)), some (.inl w), some (.inl v), some (.inl (-1)), some (.inl (i : Int)), y] [] (V, R, T) Q := by
    intro v i y hv
    rw [ux_73_8]
    simp only [ux_73_0, ux_73_1, ux_73_2, ux_73_3, ux_73_5, ux_73_6, ux_73_10, ux_73_12, ux_73_15, ux_73_17, ux_73_20, ux_73_21, ux_73_24, ux_73_26, ux_73_27, ux_73_29, ux_73_31, ux_73_34, ux_73_35, ux_73_36, ux_73_37, ux_73_38, ux_73_41, ux_73_43, ux_73_44, ux_73_46, ux_73_47, ux_73_50, ux_73_51, ux_73_52, ux_73_55, ux_73_57, ux_73_58, ux_73_60, ux_73_62, ux_73_65, ux_73_66, ux_73_67, ux_73_70, ux_73_72, ux_73_73, ux_73_75, ux_73_76, ux_73_79, ux_73_80, ux_73_83, ux_73_87, pm_i_c, pm_l_c, pm_q_c, pm_r_c, pm_li_0, pm_li_s, pm_ll_0, pm_ll_s, pm_lq_0, pm_lq_s, pm_s1, pm_s2, pm_kl, pm_wI, pm_wR, pm_pu_n, pm_pu_s, pm_wt, List.take_succ_cons, List.take_zero, List.take_nil, List.drop_succ_cons, List.drop_zero, List.reverse_cons, List.reverse_nil, List.nil_append, List.cons_append, List.length_cons, List.length_nil, true_and, and_true, true_implies, tn_l, tn_0, Int.reduceToNat, Int.reduceLE, Int.reduceLT, Int.reduceEq, Int.reduceAdd, Int.reduceSub, Int.reduceMul, Int.reduceNeg, Nat.reduceAdd, Nat.reduceLeDiff, Nat.reduceEqDiff, Nat.reduceSub, Option.some.injEq, Sum.inl.injEq, Sum.inr.injEq, or_true, true_or, reduceCtorEq, ne_eq, not_false_eq_true, not_true_eq_false, false_implies, implies_true, false_and, and_false, false_or, or_false, if_true, if_false, ly_3 hb, ly_4 hb, ly_5 hb, ly_6 hb, ly_7 hb, ly_8 hb, ly_9 hb, ly_t hb, ly_v hb, ly_b1 hb, ly_b2 hb, ly_b3 hb, ly_b16 hb, ly_b29 hb, ly_b30 hb, ly_b31 hb]
    have f2 : pm_w d 73 86 [some (.inr (.inr (some b))), some (.inl (e : Int)), some (.inl w), some (.inl v), some (.inl (-1)), some (.inl (i : Int)), y] [] (V, R, T) Q := by
      rw [ux_73_86]
      simp only [ux_73_0, ux_73_1, ux_73_2, ux_73_3, ux_73_5, ux_73_6, ux_73_10, ux_73_12, ux_73_15, ux_73_17, ux_73_20, ux_73_21, ux_73_24, ux_73_26, ux_73_27, ux_73_29, ux_73_31, ux_73_34, ux_73_35, ux_73_36, ux_73_37, ux_73_38, ux_73_41, ux_73_43, ux_73_44, ux_73_46, ux_73_47, ux_73_50, ux_73_51, ux_73_52, ux_73_55, ux_73_57, ux_73_58, ux_73_60, ux_73_62, ux_73_65, ux_73_66, ux_73_67, ux_73_70, ux_73_72, ux_73_73, ux_73_75, ux_73_76, ux_73_79, ux_73_80, ux_73_83, ux_73_87, pm_i_c, pm_l_c, pm_q_c, pm_r_c, pm_li_0, pm_li_s, pm_ll_0, pm_ll_s, pm_lq_0, pm_lq_s, pm_s1, pm_s2, pm_kl, pm_wI, pm_wR, pm_pu_n, pm_pu_s, pm_wt, List.take_succ_cons, List.take_zero, List.take_nil, List.drop_succ_cons, List.drop_zero, List.reverse_cons, List.reverse_nil, List.nil_append, List.cons_append, List.length_cons, List.length_nil, true_and, and_true, true_implies, tn_l, tn_0, Int.reduceToNat, Int.reduceLE, Int.reduceLT, Int.reduceEq, Int.reduceAdd, Int.reduceSub, Int.reduceMul, Int.reduceNeg, Nat.reduceAdd, Nat.reduceLeDiff, Nat.reduceEqDiff, Nat.reduceSub, Option.some.injEq, Sum.inl.injEq, Sum.inr.injEq, or_true, true_or, reduceCtorEq, ne_eq, not_false_eq_true, not_true_eq_false, false_implies, implies_true, false_and, and_false, false_or, or_false, if_true, if_false]
      exact hv
    exact ⟨fun _ => f2, fun _ => f2⟩
  have key : ∀ (k s i : Nat) (v : Int) (y : Option pm_V), s < S → V (b + 30) s ≠ -2 → rs s < k → i + rq (V (b + 30) s).toNat < 47 → 0 < v → v ≤ w → (∀ v', 0 < v' → v' ≤ v → resF (V (b + 29)) (V (b + 30)) c (xL V b) v' k s → Q (some (.inl v')) (V, R, T)) → pm_w d 73 8 [some (.inr (.inr (some b))), some (.inl (e : Int)), some (.inl w), some (.inl v), some (.inl (s : Int)), some (.inl (i : Int)), y] [] (V, R, T) Q := by
    intro k
    induction k with
    | zero => intro s i v y h1 h2 h3; omega
    | succ k ih =>
      intro s i v y h1 h2 h3 h4 h5 h6 go
      obtain ⟨q, g1, g2, g3, g4, g5⟩ := ht.2 s h1 h2
      have e2 : (V (b + 30) s).toNat = q := by omega
      rw [e2] at h4
      have em : V (b + 17 + q) s = c q s - xL V b q s := by rw [← hm q g1 s h1, mL_eq (by omega)]
      have eres : ∀ v', resF (V (b + 29)) (V (b + 30)) c (xL V b) v' (k + 1) s ↔ (v' ≤ c q s - xL V b q s ∧ (0 ≤ V (b + 29) q → v' ≤ xL V b q (V (b + 29) q).toNat ∧ resF (V (b + 29)) (V (b + 30)) c (xL V b) v' k (V (b + 29) q).toNat)) := by
        intro v'
        show (v' ≤ c (V (b + 30) s).toNat s - xL V b (V (b + 30) s).toNat s ∧ (0 ≤ V (b + 29) (V (b + 30) s).toNat → _)) ↔ _
        rw [e2]
      rw [ux_73_8]
      simp only [ux_73_0, ux_73_1, ux_73_2, ux_73_3, ux_73_5, ux_73_6, ux_73_10, ux_73_12, ux_73_15, ux_73_17, ux_73_20, ux_73_21, ux_73_24, ux_73_26, ux_73_27, ux_73_29, ux_73_31, ux_73_34, ux_73_35, ux_73_36, ux_73_37, ux_73_38, ux_73_41, ux_73_43, ux_73_44, ux_73_46, ux_73_47, ux_73_50, ux_73_51, ux_73_52, ux_73_55, ux_73_57, ux_73_58, ux_73_60, ux_73_62, ux_73_65, ux_73_66, ux_73_67, ux_73_70, ux_73_72, ux_73_73, ux_73_75, ux_73_76, ux_73_79, ux_73_80, ux_73_83, ux_73_87, pm_i_c, pm_l_c, pm_q_c, pm_r_c, pm_li_0, pm_li_s, pm_ll_0, pm_ll_s, pm_lq_0, pm_lq_s, pm_s1, pm_s2, pm_kl, pm_wI, pm_wR, pm_pu_n, pm_pu_s, pm_wt, List.take_succ_cons, List.take_zero, List.take_nil, List.drop_succ_cons, List.drop_zero, List.reverse_cons, List.reverse_nil, List.nil_append, List.cons_append, List.length_cons, List.length_nil, true_and, and_true, true_implies, tn_l, tn_0, Int.reduceToNat, Int.reduceLE, Int.reduceLT, Int.reduceEq, Int.reduceAdd, Int.reduceSub, Int.reduceMul, Int.reduceNeg, Nat.reduceAdd, Nat.reduceLeDiff, Nat.reduceEqDiff, Nat.reduceSub, Option.some.injEq, Sum.inl.injEq, Sum.inr.injEq, or_true, true_or, reduceCtorEq, ne_eq, not_false_eq_true, not_true_eq_false, false_implies, implies_true, false_and, and_false, false_or, or_false, if_true, if_false, ly_3 hb, ly_4 hb, ly_5 hb, ly_6 hb, ly_7 hb, ly_8 hb, ly_9 hb, ly_t hb, ly_v hb, ly_b1 hb, ly_b2 hb, ly_b3 hb, ly_b16 hb, ly_b29 hb, ly_b30 hb, ly_b31 hb, g2, em, ly_m hb (show q < 12 by omega), ly_bm hb (show q < 12 by omega), ly_x hb (show q < 12 by omega), ly_bx hb (show q < 12 by omega)]
      rcases ht.1 q g1 g3 with ⟨f1, f2⟩ | ⟨t, f1, f2, f3, f4, f5⟩
      · rw [f1]
        simp only [ux_73_0, ux_73_1, ux_73_2, ux_73_3, ux_73_5, ux_73_6, ux_73_10, ux_73_12, ux_73_15, ux_73_17, ux_73_20, ux_73_21, ux_73_24, ux_73_26, ux_73_27, ux_73_29, ux_73_31, ux_73_34, ux_73_35, ux_73_36, ux_73_37, ux_73_38, ux_73_41, ux_73_43, ux_73_44, ux_73_46, ux_73_47, ux_73_50, ux_73_51, ux_73_52, ux_73_55, ux_73_57, ux_73_58, ux_73_60, ux_73_62, ux_73_65, ux_73_66, ux_73_67, ux_73_70, ux_73_72, ux_73_73, ux_73_75, ux_73_76, ux_73_79, ux_73_80, ux_73_83, ux_73_87, pm_i_c, pm_l_c, pm_q_c, pm_r_c, pm_li_0, pm_li_s, pm_ll_0, pm_ll_s, pm_lq_0, pm_lq_s, pm_s1, pm_s2, pm_kl, pm_wI, pm_wR, pm_pu_n, pm_pu_s, pm_wt, List.take_succ_cons, List.take_zero, List.take_nil, List.drop_succ_cons, List.drop_zero, List.reverse_cons, List.reverse_nil, List.nil_append, List.cons_append, List.length_cons, List.length_nil, true_and, and_true, true_implies, tn_l, tn_0, Int.reduceToNat, Int.reduceLE, Int.reduceLT, Int.reduceEq, Int.reduceAdd, Int.reduceSub, Int.reduceMul, Int.reduceNeg, Nat.reduceAdd, Nat.reduceLeDiff, Nat.reduceEqDiff, Nat.reduceSub, Option.some.injEq, Sum.inl.injEq, Sum.inr.injEq, or_true, true_or, reduceCtorEq, ne_eq, not_false_eq_true, not_true_eq_false, false_implies, implies_true, false_and, and_false, false_or, or_false, if_true, if_false, ly_3 hb, ly_4 hb, ly_5 hb, ly_6 hb, ly_7 hb, ly_8 hb, ly_9 hb, ly_t hb, ly_v hb, ly_b1 hb, ly_b2 hb, ly_b3 hb, ly_b16 hb, ly_b29 hb, ly_b30 hb, ly_b31 hb]
        refine ⟨fun z => by omega, fun _ => ⟨fun z => by omega, fun _ => ⟨by omega, fun _ => ⟨Or.inl (by omega), by omega, by omega, by unfold pm_I32; omega, fin _ (i + 1) _ (go _ (by omega) (by omega) ((eres _).mpr ⟨by omega, fun z => by omega⟩))⟩, fun z => by omega⟩⟩⟩
      · obtain ⟨q2, g1', g2', g3', g4', g5'⟩ := ht.2 t f1 f3
        have hlt := hq q q2 g1 g1' g3' (by omega)
        have ex : V (b + 4 + q) t = xL V b q t := (xL_eq (by omega)).symm
        rw [f2]
        simp only [ux_73_0, ux_73_1, ux_73_2, ux_73_3, ux_73_5, ux_73_6, ux_73_10, ux_73_12, ux_73_15, ux_73_17, ux_73_20, ux_73_21, ux_73_24, ux_73_26, ux_73_27, ux_73_29, ux_73_31, ux_73_34, ux_73_35, ux_73_36, ux_73_37, ux_73_38, ux_73_41, ux_73_43, ux_73_44, ux_73_46, ux_73_47, ux_73_50, ux_73_51, ux_73_52, ux_73_55, ux_73_57, ux_73_58, ux_73_60, ux_73_62, ux_73_65, ux_73_66, ux_73_67, ux_73_70, ux_73_72, ux_73_73, ux_73_75, ux_73_76, ux_73_79, ux_73_80, ux_73_83, ux_73_87, pm_i_c, pm_l_c, pm_q_c, pm_r_c, pm_li_0, pm_li_s, pm_ll_0, pm_ll_s, pm_lq_0, pm_lq_s, pm_s1, pm_s2, pm_kl, pm_wI, pm_wR, pm_pu_n, pm_pu_s, pm_wt, List.take_succ_cons, List.take_zero, List.take_nil, List.drop_succ_cons, List.drop_zero, List.reverse_cons, List.reverse_nil, List.nil_append, List.cons_append, List.length_cons, List.length_nil, true_and, and_true, true_implies, tn_l, tn_0, Int.reduceToNat, Int.reduceLE, Int.reduceLT, Int.reduceEq, Int.reduceAdd, Int.reduceSub, Int.reduceMul, Int.reduceNeg, Nat.reduceAdd, Nat.reduceLeDiff, Nat.reduceEqDiff, Nat.reduceSub, Option.some.injEq, Sum.inl.injEq, Sum.inr.injEq, or_true, true_or, reduceCtorEq, ne_eq, not_false_eq_true, not_true_eq_false, false_implies, implies_true, false_and, and_false, false_or, or_false, if_true, if_false, ly_3 hb, ly_4 hb, ly_5 hb, ly_6 hb, ly_7 hb, ly_8 hb, ly_9 hb, ly_t hb, ly_v hb, ly_b1 hb, ly_b2 hb, ly_b3 hb, ly_b16 hb, ly_b29 hb, ly_b30 hb, ly_b31 hb, ex]
        refine ⟨fun z => by omega, fun _ => ⟨fun z => by omega, fun _ => ⟨by omega, fun _ => ⟨Or.inl (by omega), by omega, by omega, fun z => by omega, fun _ => ⟨Or.inl (by omega), by omega, by unfold pm_I32; omega, ?_⟩⟩, fun z => by omega⟩⟩⟩
        refine ih t (i + 1) _ _ f1 f3 (by omega) (by rw [show (V (b + 30) t).toNat = q2 by omega]; omega) (by omega) (by omega) (fun v' a1 a2 a3 => go v' a1 (by omega) ((eres v').mpr ⟨by omega, fun _ => ?_⟩))
        rw [f2, Int.toNat_natCast]
        exact ⟨by omega, a3⟩
  obtain ⟨q, g1, g2, g3, g4, g5⟩ := ht.2 e he hg
  have := hq1 q g1
  exact key k e 0 w none he hg hk (by rw [show (V (b + 30) e).toNat = q by omega]; omega) hw (Int.le_refl _) go0
/-- what moves along a way -/
def mvF (V W : Nat → Nat → Int) (b : Nat) : Prop := (∀ q, q < b + 4 ∨ q = b + 16 ∨ b + 28 < q → W q = V q) ∧ ∀ p s, mL W b p s + xL W b p s = mL V b p s + xL V b p s
theorem mvF_rf : mvF V V b := ⟨fun _ _ => rfl, fun _ _ => rfl⟩
theorem mv_step (hp : p < 12) (s : Nat) (v : Int) : ∀ W2, W2 = pm_up (pm_up W (b + 4 + p) s (xL W b p s + v)) (b + 17 + p) s (mL W b p s + -v) → xL W2 b = upx (xL W b) p s v ∧ mL W2 b = upx (mL W b) p s (-v) ∧ (mvF V W b → mvF V W2 b) := by
  intro W2 hW2
  have x1 : xL W2 b = upx (xL W b) p s v := by
    rw [← xL_up (W := W) (b := b) (p := p) (s := s) (v := v) hp]
    exact xL_fr (fun q hq => by rw [hW2, pm_up_fr (by omega)])
  have m1 : mL W2 b = upx (mL W b) p s (-v) := by
    have e : mL (pm_up W (b + 4 + p) s (xL W b p s + v)) b = mL W b := mL_fr (fun q hq => pm_up_fr (by omega))
    have := mL_up (W := pm_up W (b + 4 + p) s (xL W b p s + v)) (b := b) (p := p) (s := s) (v := -v) hp
    rw [e] at this
    rw [hW2]
    exact this
  refine ⟨x1, m1, fun hF => ⟨fun q hq => ?_, fun q t => ?_⟩⟩
  · rw [hW2, pm_up_fr (by omega), pm_up_fr (by omega)]; exact hF.1 q hq
  · rw [x1, m1, ← hF.2 q t]
    unfold upx
    split <;> omega
def maQ (V : Nat → Nat → Int) (R : Nat → Nat → Option Nat) (T : List (Nat × Nat)) (b : Nat) (x1 : Nat → Nat → Int) (r0 : Option pm_V) (h2 : pm_H) : Prop := ∃ W, h2 = (W, R, T) ∧ r0 = none ∧ mvF V W b ∧ xL W b = x1
theorem c_moveAlong (hd : 2 ≤ d) (hb : lyq R T b) (hn : n ≤ 12) (hS : S ≤ 47) (ht : tre n S c x0 st (V (b + 29)) (V (b + 30)) rp rs) (hq1 : ∀ p, p < n → rq p < n) (hq : ∀ p q, p < n → q < n → V (b + 29) q ≠ -2 → rp q < rp p → rq q < rq p) (hbd : ∀ p, p < n → ∀ s, s < S → (0 ≤ xL V b p s ∧ xL V b p s ≤ 10000000) ∧ 0 ≤ mL V b p s ∧ mL V b p s ≤ 10000000) {k e : Nat} (he : e < S) (hg : V (b + 30) e ≠ -2) (hk : rs e < k) (hk2 : k ≤ 60) (v : Int) (hv : 0 ≤ v) (hv2 : v ≤ 10000000) : pm_ok d 74 [.inr (.inr (some b)), .inl (e : Int), .inl v] (V, R, T) (maQ V R T b (augF (V (b + 29)) (V (b + 30)) v k e (xL V b))) := by
  obtain ⟨d, rfl⟩ : ∃ k, d = k + 1 := ⟨d - 1, by omega⟩
  refine pm_ok_iff.mpr ⟨(Nat.le_of_ble_eq_true rfl), ?_⟩
  show pm_w d 74 0 [some (.inr (.inr (some b))), some (.inl (e : Int)), some (.inl v), none, none, none] [] (V, R, T) _
  generalize hx1 : augF (V (b + 29)) (V (b + 30)) v k e (xL V b) = x1
  simp only [ux_74_0, ux_74_1, ux_74_2, ux_74_3, ux_74_7, ux_74_9, ux_74_12, ux_74_13, ux_74_16, ux_74_17, ux_74_20, ux_74_21, ux_74_22, ux_74_24, ux_74_26, ux_74_29, ux_74_30, ux_74_31, ux_74_33, ux_74_34, ux_74_35, ux_74_39, ux_74_42, ux_74_44, ux_74_45, ux_74_46, ux_74_47, ux_74_50, ux_74_51, ux_74_53, ux_74_54, ux_74_55, ux_74_56, ux_74_62, pm_i_c, pm_l_c, pm_q_c, pm_r_c, pm_li_0, pm_li_s, pm_ll_0, pm_ll_s, pm_lq_0, pm_lq_s, pm_s1, pm_s2, pm_kl, pm_wI, pm_wR, pm_pu_n, pm_pu_s, pm_wt, List.take_succ_cons, List.take_zero, List.take_nil, List.drop_succ_cons, List.drop_zero, List.reverse_cons, List.reverse_nil, List.nil_append, List.cons_append, List.length_cons, List.length_nil, true_and, and_true, true_implies, tn_l, tn_0, Int.reduceToNat, Int.reduceLE, Int.reduceLT, Int.reduceEq, Int.reduceAdd, Int.reduceSub, Int.reduceMul, Int.reduceNeg, Nat.reduceAdd, Nat.reduceLeDiff, Nat.reduceEqDiff, Nat.reduceSub, Option.some.injEq, Sum.inl.injEq, Sum.inr.injEq, or_true, true_or, reduceCtorEq, ne_eq, not_false_eq_true, not_true_eq_false, false_implies, implies_true, false_and, and_false, false_or, or_false, if_true, if_false, ly_3 hb, ly_4 hb, ly_5 hb, ly_6 hb, ly_7 hb, ly_8 hb, ly_9 hb, ly_t hb, ly_v hb, ly_b1 hb, ly_b2 hb, ly_b3 hb, ly_b16 hb, ly_b29 hb, ly_b30 hb, ly_b31 hb]
  have fin : ∀ (W : Nat → Nat → Int) (i : Nat) (y : Option pm_V), mvF V W b → xL W b = x1 → pm_w d 74 5 [some (.inr (.inr (some b))), some (.inl (e : Int)), some (.inl v), some (.inl (-1)), some (.inl (i : Int)), y] [] (W, R, T) (maQ V R T b x1) := by
    intro W i y hF hx
    have f2 : pm_w d 74 65 [some (.inr (.inr (some b))), some (.inl (e : Int)), some (.inl v), some (.inl (-1)), some (.inl (i : Int)), y] [] (W, R, T) (maQ V R T b x1) := by
      rw [ux_74_65]
      exact ⟨rfl, W, rfl, rfl, hF, hx⟩
    rw [ux_74_5]
    simp only [ux_74_0, ux_74_1, ux_74_2, ux_74_3, ux_74_7, ux_74_9, ux_74_12, ux_74_13, ux_74_16, ux_74_17, ux_74_20, ux_74_21, ux_74_22, ux_74_24, ux_74_26, ux_74_29, ux_74_30, ux_74_31, ux_74_33, ux_74_34, ux_74_35, ux_74_39, ux_74_42, ux_74_44, ux_74_45, ux_74_46, ux_74_47, ux_74_50, ux_74_51, ux_74_53, ux_74_54, ux_74_55, ux_74_56, ux_74_62, pm_i_c, pm_l_c, pm_q_c, pm_r_c, pm_li_0, pm_li_s, pm_ll_0, pm_ll_s, pm_lq_0, pm_lq_s, pm_s1, pm_s2, pm_kl, pm_wI, pm_wR, pm_pu_n, pm_pu_s, pm_wt, List.take_succ_cons, List.take_zero, List.take_nil, List.drop_succ_cons, List.drop_zero, List.reverse_cons, List.reverse_nil, List.nil_append, List.cons_append, List.length_cons, List.length_nil, true_and, and_true, true_implies, tn_l, tn_0, Int.reduceToNat, Int.reduceLE, Int.reduceLT, Int.reduceEq, Int.reduceAdd, Int.reduceSub, Int.reduceMul, Int.reduceNeg, Nat.reduceAdd, Nat.reduceLeDiff, Nat.reduceEqDiff, Nat.reduceSub, Option.some.injEq, Sum.inl.injEq, Sum.inr.injEq, or_true, true_or, reduceCtorEq, ne_eq, not_false_eq_true, not_true_eq_false, false_implies, implies_true, false_and, and_false, false_or, or_false, if_true, if_false, ly_3 hb, ly_4 hb, ly_5 hb, ly_6 hb, ly_7 hb, ly_8 hb, ly_9 hb, ly_t hb, ly_v hb, ly_b1 hb, ly_b2 hb, ly_b3 hb, ly_b16 hb, ly_b29 hb, ly_b30 hb, ly_b31 hb]
    exact ⟨fun _ => f2, fun _ => f2⟩
  have key : ∀ (k s i : Nat) (W : Nat → Nat → Int) (y : Option pm_V), s < S → V (b + 30) s ≠ -2 → rs s < k → k ≤ 60 → i + rq (V (b + 30) s).toNat < 47 → mvF V W b → (∀ p, p < n → ∀ s, s < S → (-10000000 * (122 - 2 * (k : Int)) ≤ xL W b p s ∧ xL W b p s ≤ 10000000 * (122 - 2 * (k : Int))) ∧ -10000000 * (122 - 2 * (k : Int)) ≤ mL W b p s ∧ mL W b p s ≤ 10000000 * (122 - 2 * (k : Int))) → augF (V (b + 29)) (V (b + 30)) v k s (xL W b) = x1 → pm_w d 74 5 [some (.inr (.inr (some b))), some (.inl (e : Int)), some (.inl v), some (.inl (s : Int)), some (.inl (i : Int)), y] [] (W, R, T) (maQ V R T b x1) := by
    intro k
    induction k with
    | zero => intro s i W y h1 h2 h3; omega
    | succ k ih =>
      intro s i W y h1 h2 h3 h4 h5 hF hbn hau
      obtain ⟨q, g1, g2, g3, g4, g5⟩ := ht.2 s h1 h2
      have e2 : (V (b + 30) s).toNat = q := by omega
      rw [e2] at h5
      have eau : augF (V (b + 29)) (V (b + 30)) v (k + 1) s (xL W b) = if V (b + 29) q < 0 then upx (xL W b) q s v else augF (V (b + 29)) (V (b + 30)) v k (V (b + 29) q).toNat (upx (upx (xL W b) q s v) q (V (b + 29) q).toNat (-v)) := by
        show (if V (b + 29) (V (b + 30) s).toNat < 0 then _ else _) = _
        rw [e2]
      rw [eau] at hau
      have f30 : W (b + 30) = V (b + 30) := hF.1 _ (by omega)
      have f29 : W (b + 29) = V (b + 29) := hF.1 _ (by omega)
      have bq := hbn q g1 s h1
      have ev := c_move (d := d) (V := W) (by omega) hb q s (by omega) (by omega) v (by unfold pm_I32; omega) (by unfold pm_I32; omega)
      rw [ux_74_5]
      simp only [ux_74_0, ux_74_1, ux_74_2, ux_74_3, ux_74_7, ux_74_9, ux_74_12, ux_74_13, ux_74_16, ux_74_17, ux_74_20, ux_74_21, ux_74_22, ux_74_24, ux_74_26, ux_74_29, ux_74_30, ux_74_31, ux_74_33, ux_74_34, ux_74_35, ux_74_39, ux_74_42, ux_74_44, ux_74_45, ux_74_46, ux_74_47, ux_74_50, ux_74_51, ux_74_53, ux_74_54, ux_74_55, ux_74_56, ux_74_62, pm_i_c, pm_l_c, pm_q_c, pm_r_c, pm_li_0, pm_li_s, pm_ll_0, pm_ll_s, pm_lq_0, pm_lq_s, pm_s1, pm_s2, pm_kl, pm_wI, pm_wR, pm_pu_n, pm_pu_s, pm_wt, List.take_succ_cons, List.take_zero, List.take_nil, List.drop_succ_cons, List.drop_zero, List.reverse_cons, List.reverse_nil, List.nil_append, List.cons_append, List.length_cons, List.length_nil, true_and, and_true, true_implies, tn_l, tn_0, Int.reduceToNat, Int.reduceLE, Int.reduceLT, Int.reduceEq, Int.reduceAdd, Int.reduceSub, Int.reduceMul, Int.reduceNeg, Nat.reduceAdd, Nat.reduceLeDiff, Nat.reduceEqDiff, Nat.reduceSub, Option.some.injEq, Sum.inl.injEq, Sum.inr.injEq, or_true, true_or, reduceCtorEq, ne_eq, not_false_eq_true, not_true_eq_false, false_implies, implies_true, false_and, and_false, false_or, or_false, if_true, if_false, ly_3 hb, ly_4 hb, ly_5 hb, ly_6 hb, ly_7 hb, ly_8 hb, ly_9 hb, ly_t hb, ly_v hb, ly_b1 hb, ly_b2 hb, ly_b3 hb, ly_b16 hb, ly_b29 hb, ly_b30 hb, ly_b31 hb, f30, g2, pm_ok_ev ev]
      refine ⟨fun z => by omega, fun _ => ⟨fun z => by omega, fun _ => ⟨by omega, fun _ => ?_, fun z => by omega⟩⟩⟩
      generalize hW1 : pm_up (pm_up W (b + 4 + q) s (xL W b q s + v)) (b + 17 + q) s (mL W b q s + -v) = W1
      obtain ⟨a1, a2, a3⟩ := mv_step (V := V) (W := W) (b := b) (show q < 12 by omega) s v W1 hW1.symm
      have F1 := a3 hF
      have f29' : W1 (b + 29) = V (b + 29) := F1.1 _ (by omega)
      have hb1 : ∀ p, p < n → ∀ t, t < S → (-10000000 * (122 - 2 * (k : Int)) + 10000000 ≤ xL W1 b p t ∧ xL W1 b p t ≤ 10000000 * (122 - 2 * (k : Int)) - 10000000) ∧ -10000000 * (122 - 2 * (k : Int)) + 10000000 ≤ mL W1 b p t ∧ mL W1 b p t ≤ 10000000 * (122 - 2 * (k : Int)) - 10000000 := by
        intro p hp t ht2
        have := hbn p hp t ht2
        rw [a1, a2]
        unfold upx
        split <;> omega
      rw [ux_74_38]
      simp only [ux_74_0, ux_74_1, ux_74_2, ux_74_3, ux_74_7, ux_74_9, ux_74_12, ux_74_13, ux_74_16, ux_74_17, ux_74_20, ux_74_21, ux_74_22, ux_74_24, ux_74_26, ux_74_29, ux_74_30, ux_74_31, ux_74_33, ux_74_34, ux_74_35, ux_74_39, ux_74_42, ux_74_44, ux_74_45, ux_74_46, ux_74_47, ux_74_50, ux_74_51, ux_74_53, ux_74_54, ux_74_55, ux_74_56, ux_74_62, pm_i_c, pm_l_c, pm_q_c, pm_r_c, pm_li_0, pm_li_s, pm_ll_0, pm_ll_s, pm_lq_0, pm_lq_s, pm_s1, pm_s2, pm_kl, pm_wI, pm_wR, pm_pu_n, pm_pu_s, pm_wt, List.take_succ_cons, List.take_zero, List.take_nil, List.drop_succ_cons, List.drop_zero, List.reverse_cons, List.reverse_nil, List.nil_append, List.cons_append, List.length_cons, List.length_nil, true_and, and_true, true_implies, tn_l, tn_0, Int.reduceToNat, Int.reduceLE, Int.reduceLT, Int.reduceEq, Int.reduceAdd, Int.reduceSub, Int.reduceMul, Int.reduceNeg, Nat.reduceAdd, Nat.reduceLeDiff, Nat.reduceEqDiff, Nat.reduceSub, Option.some.injEq, Sum.inl.injEq, Sum.inr.injEq, or_true, true_or, reduceCtorEq, ne_eq, not_false_eq_true, not_true_eq_false, false_implies, implies_true, false_and, and_false, false_or, or_false, if_true, if_false, ly_3 hb, ly_4 hb, ly_5 hb, ly_6 hb, ly_7 hb, ly_8 hb, ly_9 hb, ly_t hb, ly_v hb, ly_b1 hb, ly_b2 hb, ly_b3 hb, ly_b16 hb, ly_b29 hb, ly_b30 hb, ly_b31 hb, f29']
      rcases ht.1 q g1 g3 with ⟨f1, f2⟩ | ⟨t, f1, f2, f3, f4, f5⟩
      · rw [f1]
        refine ⟨by omega, fun _ => ?_, fun z => absurd (by decide) z⟩
        rw [ux_74_59]
        simp only [ux_74_0, ux_74_1, ux_74_2, ux_74_3, ux_74_7, ux_74_9, ux_74_12, ux_74_13, ux_74_16, ux_74_17, ux_74_20, ux_74_21, ux_74_22, ux_74_24, ux_74_26, ux_74_29, ux_74_30, ux_74_31, ux_74_33, ux_74_34, ux_74_35, ux_74_39, ux_74_42, ux_74_44, ux_74_45, ux_74_46, ux_74_47, ux_74_50, ux_74_51, ux_74_53, ux_74_54, ux_74_55, ux_74_56, ux_74_62, pm_i_c, pm_l_c, pm_q_c, pm_r_c, pm_li_0, pm_li_s, pm_ll_0, pm_ll_s, pm_lq_0, pm_lq_s, pm_s1, pm_s2, pm_kl, pm_wI, pm_wR, pm_pu_n, pm_pu_s, pm_wt, List.take_succ_cons, List.take_zero, List.take_nil, List.drop_succ_cons, List.drop_zero, List.reverse_cons, List.reverse_nil, List.nil_append, List.cons_append, List.length_cons, List.length_nil, true_and, and_true, true_implies, tn_l, tn_0, Int.reduceToNat, Int.reduceLE, Int.reduceLT, Int.reduceEq, Int.reduceAdd, Int.reduceSub, Int.reduceMul, Int.reduceNeg, Nat.reduceAdd, Nat.reduceLeDiff, Nat.reduceEqDiff, Nat.reduceSub, Option.some.injEq, Sum.inl.injEq, Sum.inr.injEq, or_true, true_or, reduceCtorEq, ne_eq, not_false_eq_true, not_true_eq_false, false_implies, implies_true, false_and, and_false, false_or, or_false, if_true, if_false, ly_3 hb, ly_4 hb, ly_5 hb, ly_6 hb, ly_7 hb, ly_8 hb, ly_9 hb, ly_t hb, ly_v hb, ly_b1 hb, ly_b2 hb, ly_b3 hb, ly_b16 hb, ly_b29 hb, ly_b30 hb, ly_b31 hb]
        rw [if_pos (by omega)] at hau
        exact ⟨by unfold pm_I32; omega, fin W1 (i + 1) _ F1 (a1.trans hau)⟩
      · obtain ⟨q2, g1', g2', g3', g4', g5'⟩ := ht.2 t f1 f3
        have hlt := hq q q2 g1 g1' g3' (by omega)
        have bq1 := hb1 q g1 t f1
        have ev2 := c_move (d := d) (V := W1) (by omega) hb q t (by omega) (by omega) (-v) (by unfold pm_I32; omega) (by unfold pm_I32; omega)
        rw [f2]
        simp only [pm_ok_ev ev2]
        refine ⟨by omega, fun z => by omega, fun _ => ⟨by unfold pm_I32; omega, ?_⟩⟩
        generalize hW2 : pm_up (pm_up W1 (b + 4 + q) t (xL W1 b q t + -v)) (b + 17 + q) t (mL W1 b q t + - -v) = W2
        obtain ⟨c1, c2, c3⟩ := mv_step (V := V) (W := W1) (b := b) (show q < 12 by omega) t (-v) W2 hW2.symm
        rw [pm_pu_n, ux_74_59]
        simp only [ux_74_0, ux_74_1, ux_74_2, ux_74_3, ux_74_7, ux_74_9, ux_74_12, ux_74_13, ux_74_16, ux_74_17, ux_74_20, ux_74_21, ux_74_22, ux_74_24, ux_74_26, ux_74_29, ux_74_30, ux_74_31, ux_74_33, ux_74_34, ux_74_35, ux_74_39, ux_74_42, ux_74_44, ux_74_45, ux_74_46, ux_74_47, ux_74_50, ux_74_51, ux_74_53, ux_74_54, ux_74_55, ux_74_56, ux_74_62, pm_i_c, pm_l_c, pm_q_c, pm_r_c, pm_li_0, pm_li_s, pm_ll_0, pm_ll_s, pm_lq_0, pm_lq_s, pm_s1, pm_s2, pm_kl, pm_wI, pm_wR, pm_pu_n, pm_pu_s, pm_wt, List.take_succ_cons, List.take_zero, List.take_nil, List.drop_succ_cons, List.drop_zero, List.reverse_cons, List.reverse_nil, List.nil_append, List.cons_append, List.length_cons, List.length_nil, true_and, and_true, true_implies, tn_l, tn_0, Int.reduceToNat, Int.reduceLE, Int.reduceLT, Int.reduceEq, Int.reduceAdd, Int.reduceSub, Int.reduceMul, Int.reduceNeg, Nat.reduceAdd, Nat.reduceLeDiff, Nat.reduceEqDiff, Nat.reduceSub, Option.some.injEq, Sum.inl.injEq, Sum.inr.injEq, or_true, true_or, reduceCtorEq, ne_eq, not_false_eq_true, not_true_eq_false, false_implies, implies_true, false_and, and_false, false_or, or_false, if_true, if_false, ly_3 hb, ly_4 hb, ly_5 hb, ly_6 hb, ly_7 hb, ly_8 hb, ly_9 hb, ly_t hb, ly_v hb, ly_b1 hb, ly_b2 hb, ly_b3 hb, ly_b16 hb, ly_b29 hb, ly_b30 hb, ly_b31 hb]
        rw [if_neg (by omega), f2, Int.toNat_natCast] at hau
        refine ⟨by unfold pm_I32; omega, ih t (i + 1) W2 _ f1 f3 (by omega) (by omega) (by rw [show (V (b + 30) t).toNat = q2 by omega]; omega) (c3 F1) (fun p hp u hu => ?_) ?_⟩
        · have := hb1 p hp u hu
          rw [c1, c2]
          unfold upx
          split <;> omega
        · rw [c1, a1]; exact hau
  obtain ⟨q, g1, g2, g3, g4, g5⟩ := ht.2 e he hg
  have := hq1 q g1
  exact key k e 0 V none he hg hk hk2 (by rw [show (V (b + 30) e).toNat = q by omega]; omega) mvF_rf (fun p hp s hs => by have := hbd p hp s hs; omega) hx1
end
