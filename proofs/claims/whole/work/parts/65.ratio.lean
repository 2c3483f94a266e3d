/-! FRACTIONS without a common divisor -/
def rdA (x y : Nat) : Nat := x / Nat.gcd x y
def rdB (x y : Nat) : Nat := y / Nat.gcd x y
theorem rd_spec {x y : Nat} (hy : 0 < y) : x = rdA x y * Nat.gcd x y ∧ y = rdB x y * Nat.gcd x y ∧ 0 < Nat.gcd x y ∧ Nat.Coprime (rdA x y) (rdB x y) ∧ 0 < rdB x y := by
  have hg : 0 < Nat.gcd x y := Nat.gcd_pos_of_pos_right x hy
  have e2 : y = rdB x y * Nat.gcd x y := (Nat.div_mul_cancel (Nat.gcd_dvd_right x y)).symm
  refine ⟨(Nat.div_mul_cancel (Nat.gcd_dvd_left x y)).symm, e2, hg, Nat.coprime_div_gcd_div_gcd hg, ?_⟩
  refine Nat.pos_of_ne_zero fun w => ?_
  rw [w, Nat.zero_mul] at e2
  omega
theorem rd_un {x y x' y' : Nat} (hy : 0 < y) (hy' : 0 < y') (h : x * y' = x' * y) : rdA x y = rdA x' y' ∧ rdB x y = rdB x' y' := by
  obtain ⟨e1, e2, hg, hc, hb⟩ := rd_spec (x := x) hy
  obtain ⟨e1', e2', hg', hc', hb'⟩ := rd_spec (x := x') hy'
  generalize hga : rdA x y = a at *
  generalize hgb : rdB x y = b at *
  generalize hga' : rdA x' y' = a' at *
  generalize hgb' : rdB x' y' = b' at *
  have k : a * b' = a' * b := by
    have h2 : (a * b') * (Nat.gcd x y * Nat.gcd x' y') = (a' * b) * (Nat.gcd x y * Nat.gcd x' y') := by
      calc (a * b') * (Nat.gcd x y * Nat.gcd x' y') = (a * Nat.gcd x y) * (b' * Nat.gcd x' y') := by simp only [Nat.mul_assoc, Nat.mul_left_comm, Nat.mul_comm]
        _ = x * y' := by rw [← e1, ← e2']
        _ = x' * y := h
        _ = (a' * Nat.gcd x' y') * (b * Nat.gcd x y) := by rw [← e1', ← e2]
        _ = (a' * b) * (Nat.gcd x y * Nat.gcd x' y') := by simp only [Nat.mul_assoc, Nat.mul_left_comm, Nat.mul_comm]
    exact Nat.eq_of_mul_eq_mul_right (Nat.mul_pos hg hg') h2
  refine ⟨Nat.dvd_antisymm ?_ ?_, Nat.dvd_antisymm ?_ ?_⟩
  · refine hc.dvd_of_dvd_mul_right ?_
    exact ⟨b', k.symm⟩
  · refine hc'.dvd_of_dvd_mul_right ?_
    exact ⟨b, k⟩
  · refine hc.symm.dvd_of_dvd_mul_left ?_
    exact ⟨a', by rw [k, Nat.mul_comm]⟩
  · refine hc'.symm.dvd_of_dvd_mul_left ?_
    exact ⟨a, by rw [← k, Nat.mul_comm]⟩
/-! SPEED: the greatest of what pieces ask by what their stretches hold -/
def lnS (A : Nat → Int) (n : Nat) (P : Nat → Bool) : Int := lnP n (nL A 1) P
def cpS (A : Nat → Int) (n : Nat) (P : Nat → Bool) : Int := cpP n (nS A n 0) (nC A n (A 0) 0 1) (nR A n (A 0) 0 1) P
theorem lnS_mul {A : Nat → Int} {n : Nat} {b : Int} {P : Nat → Bool} : lnP n (nL A b) P = lnS A n P * b := by
  unfold lnS lnP
  rw [← sm_mul]
  refine sm_congr fun p _ => ?_
  unfold nL
  split
  · rw [Int.mul_one]
  · rw [Int.zero_mul]
theorem cpS_mul {A : Nat → Int} {n : Nat} {a : Int} {P : Nat → Bool} (ha : 0 ≤ a) : cpP n (nS A n 0) (nC A n (A 0) 0 a) (nR A n (A 0) 0 a) P = cpS A n P * a := by
  unfold cpS cpP
  rw [← sm_mul]
  refine sm_congr fun s _ => ?_
  rw [← min_mul ha, ← sm_mul]
  have e1 : nR A n (A 0) 0 a s = nR A n (A 0) 0 1 s * a := by unfold nR; rw [Int.mul_one]
  rw [e1]
  refine congrArg (min _) (sm_congr fun p _ => ?_)
  unfold nC
  split
  · rw [Int.mul_one]
  · rw [Int.zero_mul]
theorem dk_dec {l1 c1 l2 c2 a1 b1 a2 b2 : Int} (h1 : l2 * b1 - c2 * a1 ≤ l1 * b1 - c1 * a1) (h2 : 0 < l1 * b1 - c1 * a1) (h3 : 0 < l2 * b2 - c2 * a2) (h4 : a2 * c1 = b2 * l1) (hb1 : 0 < b1) (hb2 : 0 < b2) (hc1 : 0 < c1) : c2 < c1 := by
  refine Classical.byContradiction fun hc => ?_
  have he : 0 ≤ c2 - c1 := by omega
  have k1 : (l2 - l1) * b1 ≤ (c2 - c1) * a1 := by
    have e1 : (l2 - l1) * b1 = l2 * b1 - l1 * b1 := Int.sub_mul _ _ _
    have e2 : (c2 - c1) * a1 = c2 * a1 - c1 * a1 := Int.sub_mul _ _ _
    omega
  have k2 : (l2 - l1) * b1 * c1 ≤ (c2 - c1) * a1 * c1 := Int.mul_le_mul_of_nonneg_right k1 (by omega)
  have k3 : (c2 - c1) * (c1 * a1) ≤ (c2 - c1) * (l1 * b1) := Int.mul_le_mul_of_nonneg_left (by omega) he
  have k4 : (l2 * c1 - c2 * l1) * b1 ≤ 0 := by
    have : (l2 * c1 - c2 * l1) * b1 = (l2 - l1) * b1 * c1 - (c2 - c1) * (l1 * b1) := by grind
    have e5 : (c2 - c1) * a1 * c1 = (c2 - c1) * (c1 * a1) := by grind
    omega
  have k5 : 0 < (l2 * b2 - c2 * a2) * c1 := Int.mul_pos h3 hc1
  have k6 : (l2 * b2 - c2 * a2) * c1 = (l2 * c1 - c2 * l1) * b2 := by
    have : (l2 * b2 - c2 * a2) * c1 = l2 * b2 * c1 - c2 * (a2 * c1) := by grind
    rw [this, h4]
    grind
  rw [k6] at k5
  have k7 : 0 < l2 * c1 - c2 * l1 := by
    refine Classical.byContradiction fun w => ?_
    have : (l2 * c1 - c2 * l1) * b2 ≤ 0 := Int.mul_nonpos_of_nonpos_of_nonneg (by omega) (by omega)
    omega
  have := Int.mul_pos k7 hb1
  omega
/-- P asks the most by what it holds -/
def spP (A : Nat → Int) (n : Nat) (P : Nat → Bool) : Prop := 0 < cpS A n P ∧ 0 ≤ lnS A n P ∧ ∀ P', lnS A n P' * cpS A n P ≤ lnS A n P * cpS A n P'
def spA (A : Nat → Int) (n : Nat) (P : Nat → Bool) : Nat := rdA (lnS A n P).toNat (cpS A n P).toNat
def spB (A : Nat → Int) (n : Nat) (P : Nat → Bool) : Nat := rdB (lnS A n P).toNat (cpS A n P).toNat
theorem spP_un {A : Nat → Int} {n : Nat} {P P' : Nat → Bool} (h : spP A n P) (h' : spP A n P') : spA A n P = spA A n P' ∧ spB A n P = spB A n P' := by
  obtain ⟨a1, a2, a3⟩ := h
  obtain ⟨b1, b2, b3⟩ := h'
  have e : lnS A n P * cpS A n P' = lnS A n P' * cpS A n P := Int.le_antisymm (b3 P) (a3 P')
  refine rd_un (by omega) (by omega) ?_
  have e1 : (((lnS A n P).toNat * (cpS A n P').toNat : Nat) : Int) = (((lnS A n P').toNat * (cpS A n P).toNat : Nat) : Int) := by
    rw [Int.natCast_mul, Int.natCast_mul, Int.toNat_of_nonneg a2, Int.toNat_of_nonneg b2, Int.toNat_of_nonneg (by omega), Int.toNat_of_nonneg (by omega)]
    exact e
  omega
/-- a piece may lie nowhere -/
def nwh (A : Nat → Int) (n p : Nat) : Prop := ∀ s, s < nS A n 0 → nC A n (A 0) 0 1 p s = 0
theorem net_bd {A : Nat → Int} {n : Nat} (hw : wf A n) : (∀ p, p < n → ∀ s, s < nS A n 0 → 0 ≤ nC A n (A 0) 0 1 p s ∧ nC A n (A 0) 0 1 p s ≤ nR A n (A 0) 0 1 s) ∧ ∀ s, s < nS A n 0 → 0 < nR A n (A 0) 0 1 s ∧ nR A n (A 0) 0 1 s ≤ 3120 := by
  have hA0 := hw.2.2.1
  have hmo : mo (nmo A n 0) (mmL A 0 n) := mo_of hw (by decide) (by decide) (fun j hj => rfl)
  refine ⟨fun p hp s hs => ?_, fun s hs => ?_⟩
  · have hs2 : s + 1 < (mmL A 0 n).length := by unfold nS nst at hs; omega
    have h1 := tkA_bd (lo := A 0) (dl := 0) hw hmo hp hs2 hA0.1 (by omega)
    have m3 := hmo.2.2.2 s hs2
    unfold nC nR
    rw [Int.mul_one, Int.mul_one]
    refine ⟨h1.1, ?_⟩
    have h2 := rmA_bd (lo := A 0) hmo hs2 hA0.1 (by omega)
    unfold tkA
    split
    · unfold rmA
      exact Int.mul_le_mul_of_nonneg_right (Int.min_le_right _ _) (by omega)
    · omega
  · have hs2 : s + 1 < (mmL A 0 n).length := by unfold nS nst at hs; omega
    have h2 := rmA_bd (lo := A 0) hmo hs2 hA0.1 (by omega)
    unfold nR
    omega
theorem cpS_bd {A : Nat → Int} {n : Nat} (hw : wf A n) (P : Nat → Bool) : 0 ≤ cpS A n P ∧ cpS A n P ≤ 146640 := by
  obtain ⟨h1, h2⟩ := net_bd hw
  have hl := mmL_len A 0 n
  have hn := hw.1
  have := sm_bd (n := nS A n 0) (f := fun s => min (nR A n (A 0) 0 1 s) (sm (fun p => if P p then nC A n (A 0) 0 1 p s else 0) n)) (B := 3120) (fun s hs => by
    have a := h2 s hs
    have b : 0 ≤ sm (fun p => if P p then nC A n (A 0) 0 1 p s else 0) n := sm_nn fun p hp => by
      have := (h1 p hp s hs).1
      split <;> omega
    omega)
  have hS : nS A n 0 ≤ 47 := by unfold nS nst; omega
  have e : cpS A n P = sm (fun s => min (nR A n (A 0) 0 1 s) (sm (fun p => if P p then nC A n (A 0) 0 1 p s else 0) n)) (nS A n 0) := rfl
  omega
theorem lnS_bd {A : Nat → Int} {n : Nat} (hw : wf A n) (P : Nat → Bool) : 0 ≤ lnS A n P ∧ lnS A n P ≤ 720 := by
  have hn := hw.1
  have := sm_bd (n := n) (f := fun p => if P p then nL A 1 p else 0) (B := 60) (fun p hp => by
    have := (hw.2.2.2.2 p hp).2.1
    unfold nL
    split <;> omega)
  have e : lnS A n P = sm (fun p => if P p then nL A 1 p else 0) n := rfl
  omega
/-- what asks something holds something, where each piece may lie somewhere -/
theorem cpS_pos {A : Nat → Int} {n : Nat} {P : Nat → Bool} (hw : wf A n) (hN : ∀ p, p < n → ¬ nwh A n p) {p : Nat} (hp : p < n) (hP : P p = true) : 0 < cpS A n P := by
  obtain ⟨h1, h2⟩ := net_bd hw
  obtain ⟨s, hs, hc⟩ : ∃ s, s < nS A n 0 ∧ nC A n (A 0) 0 1 p s ≠ 0 := by
    refine Classical.byContradiction fun w => hN p hp (fun s hs => ?_)
    exact Classical.byContradiction fun w2 => w ⟨s, hs, w2⟩
  have e : cpS A n P = sm (fun s => min (nR A n (A 0) 0 1 s) (sm (fun p => if P p then nC A n (A 0) 0 1 p s else 0) n)) (nS A n 0) := rfl
  have nn : ∀ t, t < nS A n 0 → ∀ q, q < n → 0 ≤ (if P q then nC A n (A 0) 0 1 q t else 0) := fun t ht q hq => by
    have := (h1 q hq t ht).1
    split <;> omega
  have k1 := sm_ge1 (f := fun s => min (nR A n (A 0) 0 1 s) (sm (fun p => if P p then nC A n (A 0) 0 1 p s else 0) n)) (n := nS A n 0) (k := s) (fun t ht => by
    have a := h2 t ht
    have b := sm_nn (nn t ht)
    omega) hs
  have k2 := sm_ge1 (f := fun p => if P p then nC A n (A 0) 0 1 p s else 0) (n := n) (k := p) (nn s hs) hp
  rw [if_pos hP] at k2
  have := (h1 p hp s hs).1
  have := h2 s hs
  omega
theorem lnS_ex {A : Nat → Int} {n : Nat} {P : Nat → Bool} (h : 0 < lnS A n P) : ∃ p, p < n ∧ P p = true := by
  refine Classical.byContradiction fun w => ?_
  have : lnS A n P = 0 := by
    unfold lnS lnP
    rw [sm_congr (g := fun _ => 0) (fun p hp => if_neg (fun z => w ⟨p, hp, z⟩)), sm_zero]
  omega
