/-! LEVEL: what both do, a step for a span -/
def wiF (n : Nat) (ln b e v : Nat → Int) (x y : Int) : Int := sm (fun p => if v p = 0 ∧ x ≤ b p ∧ e p ≤ y then ln p else 0) n
def bsB (nn best fr to x y : Int) : Bool := decide ((best = 0 ∧ 0 < nn) ∨ (0 < best ∧ (0 < nn * (to - fr) - best * (y - x) ∨ (nn * (to - fr) - best * (y - x) = 0 ∧ (x < fr ∨ (x = fr ∧ y < to))))))
abbrev bsT : Type := Int × Int × Int
def bs1 (n : Nat) (ln b e v : Nat → Int) (p q : Nat) (s : bsT) : bsT := if (v p = 0 ∧ v q = 0 ∧ b p < e q) ∧ bsB (wiF n ln b e v (b p) (e q)) s.1 s.2.1 s.2.2 (b p) (e q) = true then (wiF n ln b e v (b p) (e q), b p, e q) else s
def bsQ (n : Nat) (ln b e v : Nat → Int) (p : Nat) : Nat → bsT → bsT
  | 0, s => s
  | q + 1, s => bs1 n ln b e v p q (bsQ n ln b e v p q s)
def bsP (n : Nat) (ln b e v : Nat → Int) : Nat → bsT
  | 0 => (0, 0, 0)
  | p + 1 => bsQ n ln b e v p n (bsP n ln b e v p)
/-- the moment x without the span from .. to -/
def tkO (fr to x : Int) : Int := if to ≤ x then x - (to - fr) else if fr < x then fr else x
abbrev lvT : Type := (Nat → Int) × (Nat → Int) × (Nat → Int) × (Nat → Int)
def lvB (n : Nat) (ln : Nat → Int) (s : lvT) : bsT := bsP n ln s.1 s.2.1 s.2.2.2 n
def lvC (s : lvT) (t : bsT) (p : Nat) : Prop := s.2.2.2 p = 0 ∧ t.2.1 ≤ s.1 p ∧ s.2.1 p ≤ t.2.2
def lvA (t : bsT) : Int := (rdA t.1.toNat (t.2.2 - t.2.1).toNat : Int)
def lvD (t : bsT) : Int := (rdB t.1.toNat (t.2.2 - t.2.1).toNat : Int)
noncomputable def lvG (s : lvT) (t : bsT) : lvT := (fun p => tkO t.2.1 t.2.2 (s.1 p), fun p => tkO t.2.1 t.2.2 (s.2.1 p), fun p => @ite _ (lvC s t p) (Classical.propDecidable _) (lvA t) (s.2.2.1 p), fun p => @ite _ (lvC s t p) (Classical.propDecidable _) (lvD t) (s.2.2.2 p))
noncomputable def lvS (n : Nat) (ln : Nat → Int) (s : lvT) : lvT := if (lvB n ln s).1 = 0 then s else lvG s (lvB n ln s)
/-- alike as far as it matters -/
def lvR (n : Nat) (s s' : lvT) : Prop := ∀ p, p < n → s.2.2.2 p = s'.2.2.2 p ∧ (s.2.2.2 p ≠ 0 → s.2.2.1 p = s'.2.2.1 p) ∧ (s.2.2.2 p = 0 → s.1 p = s'.1 p ∧ s.2.1 p = s'.2.1 p)
theorem lvR_rf {n : Nat} {s : lvT} : lvR n s s := fun _ _ => ⟨rfl, fun _ => rfl, fun _ => ⟨rfl, rfl⟩⟩
theorem lvR_sy {n : Nat} {s s' : lvT} (h : lvR n s s') : lvR n s' s := fun p hp => ⟨(h p hp).1.symm, fun z => ((h p hp).2.1 (by rw [(h p hp).1]; exact z)).symm, fun z => ⟨((h p hp).2.2 (by rw [(h p hp).1]; exact z)).1.symm, ((h p hp).2.2 (by rw [(h p hp).1]; exact z)).2.symm⟩⟩
theorem lvR_tr {n : Nat} {s s' s2 : lvT} (h : lvR n s s') (h2 : lvR n s' s2) : lvR n s s2 := fun p hp => by
  obtain ⟨a, b, c⟩ := h p hp
  obtain ⟨a', b', c'⟩ := h2 p hp
  refine ⟨a.trans a', fun z => (b z).trans (b' (by rw [← a]; exact z)), fun z => ?_⟩
  have z' : s'.2.2.2 p = 0 := by rw [← a]; exact z
  exact ⟨(c z).1.trans (c' z').1, (c z).2.trans (c' z').2⟩
theorem wiF_congr {n : Nat} {ln : Nat → Int} {s s' : lvT} (h : lvR n s s') (x y : Int) : wiF n ln s.1 s.2.1 s.2.2.2 x y = wiF n ln s'.1 s'.2.1 s'.2.2.2 x y := by
  refine sm_congr fun p hp => ?_
  obtain ⟨a, -, c⟩ := h p hp
  by_cases z : s.2.2.2 p = 0
  · have z' : s'.2.2.2 p = 0 := by rw [← a]; exact z
    rw [(c z).1, (c z).2, z, z']
  · rw [if_neg (fun w => z w.1), if_neg (fun w => z (by rw [a]; exact w.1))]
theorem bs1_congr {n p q : Nat} {ln : Nat → Int} {s s' : lvT} (h : lvR n s s') (hp : p < n) (hq : q < n) (t : bsT) : bs1 n ln s.1 s.2.1 s.2.2.2 p q t = bs1 n ln s'.1 s'.2.1 s'.2.2.2 p q t := by
  obtain ⟨a, -, c⟩ := h p hp
  obtain ⟨a2, -, c2⟩ := h q hq
  unfold bs1
  by_cases z : s.2.2.2 p = 0 ∧ s.2.2.2 q = 0
  · have e1 : s'.2.2.2 p = 0 := by rw [← a]; exact z.1
    have e2 : s'.2.2.2 q = 0 := by rw [← a2]; exact z.2
    rw [(c z.1).1, (c2 z.2).2, wiF_congr h, z.1, z.2, e1, e2]
  · rw [if_neg (fun w => z ⟨w.1.1, w.1.2.1⟩), if_neg (fun w => z ⟨by rw [a]; exact w.1.1, by rw [a2]; exact w.1.2.1⟩)]
theorem bsQ_congr {n p : Nat} {ln : Nat → Int} {s s' : lvT} (h : lvR n s s') (hp : p < n) (t : bsT) : ∀ q, q ≤ n → bsQ n ln s.1 s.2.1 s.2.2.2 p q t = bsQ n ln s'.1 s'.2.1 s'.2.2.2 p q t
  | 0, _ => rfl
  | q + 1, hq => by
    show bs1 n ln s.1 s.2.1 s.2.2.2 p q (bsQ n ln s.1 s.2.1 s.2.2.2 p q t) = bs1 n ln s'.1 s'.2.1 s'.2.2.2 p q (bsQ n ln s'.1 s'.2.1 s'.2.2.2 p q t)
    rw [bsQ_congr h hp t q (by omega), bs1_congr h hp (by omega)]
theorem bsP_congr {n : Nat} {ln : Nat → Int} {s s' : lvT} (h : lvR n s s') : ∀ p, p ≤ n → bsP n ln s.1 s.2.1 s.2.2.2 p = bsP n ln s'.1 s'.2.1 s'.2.2.2 p
  | 0, _ => rfl
  | p + 1, hp => by
    show bsQ n ln s.1 s.2.1 s.2.2.2 p n (bsP n ln s.1 s.2.1 s.2.2.2 p) = bsQ n ln s'.1 s'.2.1 s'.2.2.2 p n (bsP n ln s'.1 s'.2.1 s'.2.2.2 p)
    rw [bsP_congr h p (by omega), bsQ_congr h (by omega) _ n (Nat.le_refl _)]
theorem lvB_congr {n : Nat} {ln : Nat → Int} {s s' : lvT} (h : lvR n s s') : lvB n ln s = lvB n ln s' := bsP_congr h n (Nat.le_refl _)
/-- in order: open pieces have spans in 0 .. 60 -/
def lvO (n : Nat) (s : lvT) : Prop := ∀ p, p < n → (s.2.2.2 p = 0 → 0 ≤ s.1 p ∧ s.1 p < s.2.1 p ∧ s.2.1 p ≤ 60) ∧ (s.2.2.2 p ≠ 0 → (0 ≤ s.2.2.1 p ∧ s.2.2.1 p ≤ 720) ∧ 0 < s.2.2.2 p ∧ s.2.2.2 p ≤ 60)
def lnO (n : Nat) (ln : Nat → Int) : Prop := n ≤ 12 ∧ ∀ p, p < n → 1 ≤ ln p ∧ ln p ≤ 60
theorem wiF_bd {n : Nat} {ln b e v : Nat → Int} {x y : Int} (h : lnO n ln) : 0 ≤ wiF n ln b e v x y ∧ wiF n ln b e v x y ≤ 720 := by
  have := sm_bd (n := n) (f := fun p => if v p = 0 ∧ x ≤ b p ∧ e p ≤ y then ln p else 0) (B := 60) (fun p hp => by
    have := h.2 p hp
    split <;> omega)
  have hn := h.1
  unfold wiF
  omega
theorem wiF_pos {n p : Nat} {ln b e v : Nat → Int} {x y : Int} (h : lnO n ln) (hp : p < n) (h1 : v p = 0 ∧ x ≤ b p ∧ e p ≤ y) : 0 < wiF n ln b e v x y := by
  have := sm_ge1 (f := fun p => if v p = 0 ∧ x ≤ b p ∧ e p ≤ y then ln p else 0) (n := n) (k := p) (fun j hj => by have := h.2 j hj; split <;> omega) hp
  rw [if_pos h1] at this
  have := h.2 p hp
  unfold wiF
  omega
theorem wiF_ex {n : Nat} {ln b e v : Nat → Int} {x y : Int} (h : 0 < wiF n ln b e v x y) : ∃ p, p < n ∧ v p = 0 ∧ x ≤ b p ∧ e p ≤ y := by
  refine Classical.byContradiction fun w => ?_
  have : wiF n ln b e v x y = 0 := by
    unfold wiF
    rw [sm_congr (g := fun _ => 0) (fun p hp => if_neg (fun z => w ⟨p, hp, z⟩)), sm_zero]
  omega
def bsI (n : Nat) (ln : Nat → Int) (s : lvT) (t : bsT) : Prop := t.1 = 0 ∨ (0 < t.1 ∧ t.1 ≤ 720 ∧ t.1 = wiF n ln s.1 s.2.1 s.2.2.2 t.2.1 t.2.2 ∧ 0 ≤ t.2.1 ∧ t.2.1 < t.2.2 ∧ t.2.2 ≤ 60)
theorem bs1_ok {n p q : Nat} {ln : Nat → Int} {s : lvT} {t : bsT} (hl : lnO n ln) (ho : lvO n s) (hp : p < n) (hq : q < n) (h : bsI n ln s t) : bsI n ln s (bs1 n ln s.1 s.2.1 s.2.2.2 p q t) ∧ (0 < t.1 → 0 < (bs1 n ln s.1 s.2.1 s.2.2.2 p q t).1) ∧ (p = q → s.2.2.2 p = 0 → 0 < (bs1 n ln s.1 s.2.1 s.2.2.2 p q t).1) := by
  unfold bs1
  by_cases c : (s.2.2.2 p = 0 ∧ s.2.2.2 q = 0 ∧ s.1 p < s.2.1 q) ∧ bsB (wiF n ln s.1 s.2.1 s.2.2.2 (s.1 p) (s.2.1 q)) t.1 t.2.1 t.2.2 (s.1 p) (s.2.1 q) = true
  · rw [if_pos c]
    obtain ⟨⟨c1, c2, c3⟩, c4⟩ := c
    have o1 := (ho p hp).1 c1
    have o2 := (ho q hq).1 c2
    have wb := wiF_bd (b := s.1) (e := s.2.1) (v := s.2.2.2) (x := s.1 p) (y := s.2.1 q) hl
    have pos : 0 < wiF n ln s.1 s.2.1 s.2.2.2 (s.1 p) (s.2.1 q) := by
      unfold bsB at c4
      rcases of_decide_eq_true c4 with ⟨-, z⟩ | ⟨z1, z2⟩
      · exact z
      · rcases h with h | ⟨h1, h2, h3, h4, h5, h6⟩
        · omega
        · refine Classical.byContradiction fun w => ?_
          have e0 : wiF n ln s.1 s.2.1 s.2.2.2 (s.1 p) (s.2.1 q) = 0 := by omega
          have := Int.mul_pos z1 (show 0 < s.2.1 q - s.1 p by omega)
          rw [e0, Int.zero_mul] at z2
          omega
    exact ⟨Or.inr ⟨pos, wb.2, rfl, o1.1, c3, o2.2.2⟩, fun _ => pos, fun _ _ => pos⟩
  · rw [if_neg c]
    refine ⟨h, fun z => z, fun e z => ?_⟩
    subst e
    have o1 := (ho p hp).1 z
    rcases h with h | h
    · exfalso
      refine c ⟨⟨z, z, o1.2.1⟩, ?_⟩
      unfold bsB
      exact decide_eq_true (Or.inl ⟨h, wiF_pos hl hp ⟨z, Int.le_refl _, Int.le_refl _⟩⟩)
    · exact h.1
theorem bsQ_ok {n p : Nat} {ln : Nat → Int} {s : lvT} {t : bsT} (hl : lnO n ln) (ho : lvO n s) (hp : p < n) (h : bsI n ln s t) : ∀ q, q ≤ n → bsI n ln s (bsQ n ln s.1 s.2.1 s.2.2.2 p q t) ∧ (0 < t.1 → 0 < (bsQ n ln s.1 s.2.1 s.2.2.2 p q t).1) ∧ (p < q → s.2.2.2 p = 0 → 0 < (bsQ n ln s.1 s.2.1 s.2.2.2 p q t).1)
  | 0, _ => ⟨h, fun z => z, fun z => by omega⟩
  | q + 1, hq => by
    obtain ⟨a, b, c⟩ := bsQ_ok hl ho hp h q (by omega)
    obtain ⟨a', b', c'⟩ := bs1_ok hl ho hp (show q < n by omega) a
    refine ⟨a', fun z => b' (b z), fun z z2 => ?_⟩
    by_cases e : p = q
    · exact c' e z2
    · exact b' (c (by omega) z2)
theorem bsP_ok {n : Nat} {ln : Nat → Int} {s : lvT} (hl : lnO n ln) (ho : lvO n s) : ∀ p, p ≤ n → bsI n ln s (bsP n ln s.1 s.2.1 s.2.2.2 p) ∧ ∀ q, q < p → s.2.2.2 q = 0 → 0 < (bsP n ln s.1 s.2.1 s.2.2.2 p).1
  | 0, _ => ⟨Or.inl rfl, fun q hq => by omega⟩
  | p + 1, hp => by
    obtain ⟨a, b⟩ := bsP_ok hl ho p (by omega)
    obtain ⟨a', b', c'⟩ := bsQ_ok hl ho (show p < n by omega) a n (Nat.le_refl _)
    refine ⟨a', fun q hq z => ?_⟩
    by_cases e : q = p
    · subst e; exact c' (by omega) z
    · exact b' (b q (by omega) z)
theorem lvB_ok {n : Nat} {ln : Nat → Int} {s : lvT} (hl : lnO n ln) (ho : lvO n s) : bsI n ln s (lvB n ln s) ∧ ∀ q, q < n → s.2.2.2 q = 0 → 0 < (lvB n ln s).1 := bsP_ok hl ho n (Nat.le_refl _)
theorem lvD_bd {t : bsT} (h : t.2.1 < t.2.2) (h2 : 0 ≤ t.2.1) (h3 : t.2.2 ≤ 60) (h4 : 0 ≤ t.1) (h5 : t.1 ≤ 720) : (0 ≤ lvA t ∧ lvA t ≤ 720) ∧ 0 < lvD t ∧ lvD t ≤ 60 := by
  obtain ⟨e1, e2, hg, hc, hb⟩ := rd_spec (x := t.1.toNat) (y := (t.2.2 - t.2.1).toNat) (by omega)
  have d1 : rdA t.1.toNat (t.2.2 - t.2.1).toNat ≤ t.1.toNat := Nat.div_le_self _ _
  have d2 : rdB t.1.toNat (t.2.2 - t.2.1).toNat ≤ (t.2.2 - t.2.1).toNat := Nat.div_le_self _ _
  unfold lvA lvD
  omega
theorem lvG_ok {n : Nat} {ln : Nat → Int} {s : lvT} {t : bsT} (ho : lvO n s) (ht : bsI n ln s t) (hp : 0 < t.1) : lvO n (lvG s t) := by
  rcases ht with ht | ⟨h1, h2, h3, h4, h5, h6⟩
  · omega
  · intro p hp
    obtain ⟨o1, o2⟩ := ho p hp
    have db := lvD_bd h5 h4 h6 (by omega) h2
    show ((@ite _ (lvC s t p) (Classical.propDecidable _) (lvD t) (s.2.2.2 p) = 0 → 0 ≤ tkO t.2.1 t.2.2 (s.1 p) ∧ tkO t.2.1 t.2.2 (s.1 p) < tkO t.2.1 t.2.2 (s.2.1 p) ∧ tkO t.2.1 t.2.2 (s.2.1 p) ≤ 60) ∧ (@ite _ (lvC s t p) (Classical.propDecidable _) (lvD t) (s.2.2.2 p) ≠ 0 → (0 ≤ @ite _ (lvC s t p) (Classical.propDecidable _) (lvA t) (s.2.2.1 p) ∧ @ite _ (lvC s t p) (Classical.propDecidable _) (lvA t) (s.2.2.1 p) ≤ 720) ∧ 0 < @ite _ (lvC s t p) (Classical.propDecidable _) (lvD t) (s.2.2.2 p) ∧ @ite _ (lvC s t p) (Classical.propDecidable _) (lvD t) (s.2.2.2 p) ≤ 60))
    by_cases c : lvC s t p
    · rw [if_pos c, if_pos c]
      exact ⟨fun z => by omega, fun _ => db⟩
    · rw [if_neg c, if_neg c]
      refine ⟨fun z => ?_, o2⟩
      have o := o1 z
      unfold lvC at c
      unfold tkO
      split <;> split <;> (try split) <;> (try split) <;> omega
theorem lvS_ok {n : Nat} {ln : Nat → Int} {s : lvT} (hl : lnO n ln) (ho : lvO n s) : lvO n (lvS n ln s) := by
  obtain ⟨a, b⟩ := lvB_ok hl ho
  unfold lvS
  by_cases c : (lvB n ln s).1 = 0
  · rw [if_pos c]; exact ho
  · rw [if_neg c]
    refine lvG_ok ho a ?_
    rcases a with a | a
    · exact absurd a c
    · exact a.1
/-- the step keeps what is alike -/
theorem lvG_congr {n : Nat} {s s' : lvT} {t : bsT} (h : lvR n s s') (hz : 0 < lvD t) : lvR n (lvG s t) (lvG s' t) := by
  intro p hp
  obtain ⟨a, b, c⟩ := h p hp
  have ec : lvC s t p ↔ lvC s' t p := by
    unfold lvC
    by_cases z : s.2.2.2 p = 0
    · rw [(c z).1, (c z).2, ← a]
    · exact ⟨fun w => absurd w.1 z, fun w => absurd (by rw [a]; exact w.1) z⟩
  show (@ite _ (lvC s t p) (Classical.propDecidable _) (lvD t) (s.2.2.2 p) = @ite _ (lvC s' t p) (Classical.propDecidable _) (lvD t) (s'.2.2.2 p)) ∧ (@ite _ (lvC s t p) (Classical.propDecidable _) (lvD t) (s.2.2.2 p) ≠ 0 → @ite _ (lvC s t p) (Classical.propDecidable _) (lvA t) (s.2.2.1 p) = @ite _ (lvC s' t p) (Classical.propDecidable _) (lvA t) (s'.2.2.1 p)) ∧ (@ite _ (lvC s t p) (Classical.propDecidable _) (lvD t) (s.2.2.2 p) = 0 → tkO t.2.1 t.2.2 (s.1 p) = tkO t.2.1 t.2.2 (s'.1 p) ∧ tkO t.2.1 t.2.2 (s.2.1 p) = tkO t.2.1 t.2.2 (s'.2.1 p))
  by_cases w : lvC s t p
  · rw [if_pos w, if_pos (ec.mp w), if_pos w, if_pos (ec.mp w)]
    exact ⟨rfl, fun _ => rfl, fun z => by omega⟩
  · rw [if_neg w, if_neg (fun z => w (ec.mpr z)), if_neg w, if_neg (fun z => w (ec.mpr z))]
    exact ⟨a, b, fun z => ⟨by rw [(c z).1], by rw [(c z).2]⟩⟩
/-- how many are open -/
def opn (v : Nat → Int) : Nat → Nat
  | 0 => 0
  | n + 1 => opn v n + if v n = 0 then 1 else 0
theorem opn_le {v : Nat → Int} : ∀ n, opn v n ≤ n
  | 0 => Nat.le_refl _
  | n + 1 => by
    have := opn_le (v := v) n
    show opn v n + _ ≤ _
    split <;> omega
theorem opn_mono {v v' : Nat → Int} : ∀ {n : Nat}, (∀ p, p < n → v' p = 0 → v p = 0) → opn v' n ≤ opn v n ∧ ((∃ p, p < n ∧ v p = 0 ∧ v' p ≠ 0) → opn v' n < opn v n)
  | 0, _ => ⟨Nat.le_refl _, fun ⟨p, h, _⟩ => by omega⟩
  | n + 1, h => by
    obtain ⟨a, b⟩ := opn_mono (n := n) (fun p hp => h p (by omega))
    have hn := h n (by omega)
    show opn v' n + _ ≤ opn v n + _ ∧ (_ → opn v' n + _ < opn v n + _)
    refine ⟨?_, fun ⟨p, h1, h2, h3⟩ => ?_⟩
    · by_cases c : v' n = 0
      · rw [if_pos c, if_pos (hn c)]; omega
      · rw [if_neg c]; split <;> omega
    · by_cases e : p = n
      · subst e
        rw [if_neg h3, if_pos h2]; omega
      · have := b ⟨p, by omega, h2, h3⟩
        by_cases c : v' n = 0
        · rw [if_pos c, if_pos (hn c)]; omega
        · rw [if_neg c]; split <;> omega
theorem opn_zero {v : Nat → Int} : ∀ {n : Nat}, opn v n = 0 → ∀ p, p < n → v p ≠ 0
  | 0, _, p, hp => by omega
  | n + 1, h, p, hp => by
    have h : opn v n + (if v n = 0 then 1 else 0) = 0 := h
    by_cases e : p = n
    · subst e
      intro w
      rw [if_pos w] at h
      omega
    · exact opn_zero (n := n) (by omega) p (by omega)
theorem lvS_opn {n : Nat} {ln : Nat → Int} {s : lvT} (hl : lnO n ln) (ho : lvO n s) : ((lvB n ln s).1 = 0 → ∀ p, p < n → s.2.2.2 p ≠ 0) ∧ ((lvB n ln s).1 ≠ 0 → opn (lvS n ln s).2.2.2 n < opn s.2.2.2 n) := by
  obtain ⟨a, b⟩ := lvB_ok hl ho
  refine ⟨fun z p hp w => by have := b p hp w; omega, fun z => ?_⟩
  rcases a with a | ⟨h1, h2, h3, h4, h5, h6⟩
  · exact absurd a z
  · have db := lvD_bd h5 h4 h6 (by omega) h2
    unfold lvS
    rw [if_neg z]
    refine (opn_mono (v := s.2.2.2) (v' := (lvG s (lvB n ln s)).2.2.2) (n := n) (fun p hp w => ?_)).2 ?_
    · have w : @ite _ (lvC s (lvB n ln s) p) (Classical.propDecidable _) (lvD (lvB n ln s)) (s.2.2.2 p) = 0 := w
      by_cases c : lvC s (lvB n ln s) p
      · exact c.1
      · rw [if_neg c] at w; exact w
    · rw [h3] at h1
      obtain ⟨p, p1, p2, p3, p4⟩ := wiF_ex h1
      refine ⟨p, p1, p2, ?_⟩
      show @ite _ (lvC s (lvB n ln s) p) (Classical.propDecidable _) (lvD (lvB n ln s)) (s.2.2.2 p) ≠ 0
      rw [if_pos ⟨p2, p3, p4⟩]
      omega
noncomputable def lvN (n : Nat) (ln : Nat → Int) (s : lvT) : Nat → lvT
  | 0 => s
  | k + 1 => lvS n ln (lvN n ln s k)
theorem lvN_ok {n : Nat} {ln : Nat → Int} {s : lvT} (hl : lnO n ln) (ho : lvO n s) : ∀ k, lvO n (lvN n ln s k) ∧ opn (lvN n ln s k).2.2.2 n ≤ n - k
  | 0 => ⟨ho, opn_le n⟩
  | k + 1 => by
    obtain ⟨a, b⟩ := lvN_ok hl ho k
    obtain ⟨c1, c2⟩ := lvS_opn hl a
    refine ⟨lvS_ok hl a, ?_⟩
    by_cases z : (lvB n ln (lvN n ln s k)).1 = 0
    · have e : lvN n ln s (k + 1) = lvN n ln s k := if_pos z
      rw [e]
      have : ∀ m, m ≤ n → opn (lvN n ln s k).2.2.2 m = 0 := by
        intro m
        induction m with
        | zero => intro _; rfl
        | succ m ih =>
          intro hm
          show opn _ m + (if (lvN n ln s k).2.2.2 m = 0 then 1 else 0) = 0
          rw [ih (by omega), if_neg (c1 z m (by omega))]
      rw [this n (Nat.le_refl _)]
      omega
    · have := c2 z
      show opn (lvS n ln (lvN n ln s k)).2.2.2 n ≤ _
      omega
theorem lvN_stab {n : Nat} {ln : Nat → Int} {s : lvT} (hl : lnO n ln) (ho : lvO n s) {k : Nat} (hc : ∀ p, p < n → (lvN n ln s k).2.2.2 p ≠ 0) : ∀ m, lvN n ln s (k + m) = lvN n ln s k
  | 0 => rfl
  | m + 1 => by
    have e := lvN_stab hl ho hc m
    show lvS n ln (lvN n ln s (k + m)) = _
    rw [e]
    unfold lvS
    refine if_pos ?_
    obtain ⟨a, b⟩ := lvB_ok hl (lvN_ok hl ho k).1
    rcases a with a | ⟨h1, h2, h3, h4, h5, h6⟩
    · exact a
    · rw [h3] at h1
      obtain ⟨p, p1, p2, -⟩ := wiF_ex h1
      exact absurd p2 (hc p p1)
theorem lvN_end {n : Nat} {ln : Nat → Int} {s : lvT} (hl : lnO n ln) (ho : lvO n s) {k : Nat} (hc : ∀ p, p < n → (lvN n ln s k).2.2.2 p ≠ 0) : lvN n ln s k = lvN n ln s n := by
  have hn : ∀ p, p < n → (lvN n ln s n).2.2.2 p ≠ 0 := opn_zero (by have := (lvN_ok hl ho n).2; omega)
  by_cases c : k ≤ n
  · have := lvN_stab hl ho hc (n - k)
    rw [show k + (n - k) = n by omega] at this
    exact this.symm
  · have := lvN_stab hl ho hn (k - n)
    rw [show n + (k - n) = k by omega] at this
    exact this
/-- the start, and the answer -/
def lvZ (A : Nat → Int) : lvT := (fun p => A (27 + p), fun p => lsA A 0 p, fun _ => 0, fun _ => 0)
noncomputable def lvV (A : Nat → Int) (n p : Nat) (w : Int) : Int := if w = 0 then (lvN n (fun p => A (15 + p)) (lvZ A) n).2.2.1 p else (lvN n (fun p => A (15 + p)) (lvZ A) n).2.2.2 p
theorem lvZ_ok {A : Nat → Int} {n : Nat} (hw : wf A n) : lnO n (fun p => A (15 + p)) ∧ lvO n (lvZ A) := by
  refine ⟨⟨hw.1, fun p hp => (hw.2.2.2.2 p hp).2.1⟩, fun p hp => ⟨fun _ => ?_, fun z => absurd rfl z⟩⟩
  obtain ⟨h1, h2, h3, h4, h5, h6, -⟩ := hw.2.2.2.2 p hp
  have h7 := hw.2.2.2.1
  show 0 ≤ A (27 + p) ∧ A (27 + p) < lsA A 0 p ∧ lsA A 0 p ≤ 60
  unfold lsA
  by_cases c : A (3 + p) = 2
  · rw [if_pos c]; have := h5 c; omega
  · rw [if_neg c]; have := h6 c; omega
