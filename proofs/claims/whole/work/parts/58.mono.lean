/-! MORE LOOMS, MORE DELAY: what fits still fits; counted by hours -/
theorem srt_le {L : List Int} (h : srt L) : ∀ {i j : Nat}, i ≤ j → j < L.length → L.getD i 0 ≤ L.getD j 0
  | i, 0, a, _ => by rw [show i = 0 by omega]; exact Int.le_refl _
  | i, j + 1, a, b => by
    by_cases e : i = j + 1
    · subst e; exact Int.le_refl _
    · have h1 := srt_le h (i := i) (j := j) (by omega) (by omega)
      have h2 := h j b
      omega
theorem mem_getD {L : List Int} {x : Int} (h : x ∈ L) : ∃ i, i < L.length ∧ L.getD i 0 = x := by
  obtain ⟨i, hi, e⟩ := List.getElem_of_mem h
  exact ⟨i, hi, by rw [List.getD_eq_getElem?_getD, List.getElem?_eq_getElem hi, e]; rfl⟩
/-- a moment is not inside a stretch -/
theorem srt_gap {L : List Int} (h : srt L) {x t : Int} {s : Nat} (hx : x ∈ L) (hs : s + 1 < L.length) (h1 : L.getD s 0 ≤ t) (h2 : t < L.getD (s + 1) 0) : (x ≤ t ↔ x ≤ L.getD s 0) ∧ (t + 1 ≤ x ↔ L.getD (s + 1) 0 ≤ x) := by
  obtain ⟨i, hi, rfl⟩ := mem_getD hx
  by_cases c : i ≤ s
  · have := srt_le h c (by omega)
    omega
  · have := srt_le h (show s + 1 ≤ i by omega) hi
    omega
def opB (A : Nat → Int) (dl : Int) (p : Nat) (t : Int) : Bool := decide (A (27 + p) ≤ t) && decide (t + 1 ≤ lsA A dl p) && !(decide (A (3 + p) = 4) && decide (A (63 + p) ≤ t) && decide (t + 1 ≤ A (75 + p)))
def hrF (A : Nat → Int) (n : Nat) (lo dl : Int) (P : Nat → Bool) (t : Nat) : Int := min lo (sm (fun p => if P p then (if opB A dl p t then min (A (51 + p)) lo else 0) else 0) n)
theorem sm_run {F : Nat → Int} {K : Int} {a : Nat} : ∀ {b : Nat}, a ≤ b → (∀ t, a ≤ t → t < b → F t = K) → sm F b - sm F a = ((b : Int) - (a : Int)) * K
  | 0, h, _ => by rw [show a = 0 by omega]; simp
  | b + 1, h, hF => by
    by_cases e : a = b + 1
    · subst e; simp
    · have h1 := sm_run (b := b) (by omega) (fun t x y => hF t x (by omega))
      have h2 := hF b (by omega) (by omega)
      show sm F b + F b - sm F a = _
      rw [h2, show ((b + 1 : Nat) : Int) - (a : Int) = (b : Int) - (a : Int) + 1 by omega, Int.add_mul, ← h1]
      omega
theorem sm_tel {G : Nat → Int} : ∀ {n : Nat}, sm (fun s => G (s + 1) - G s) n = G n - G 0
  | 0 => by show (0 : Int) = _; omega
  | n + 1 => by
    show sm (fun s => G (s + 1) - G s) n + (G (n + 1) - G n) = _
    rw [sm_tel]; omega
theorem min_mul {a b k : Int} (h : 0 ≤ k) : min (a * k) (b * k) = min a b * k := by
  by_cases c : a ≤ b
  · rw [Int.min_eq_left c, Int.min_eq_left (Int.mul_le_mul_of_nonneg_right c h)]
  · have c2 : b ≤ a := by omega
    rw [Int.min_eq_right c2, Int.min_eq_right (Int.mul_le_mul_of_nonneg_right c2 h)]
theorem hours {A : Nat → Int} {n : Nat} {lo dl : Int} (hw : wf A n) (h0 : 0 ≤ dl) (h1 : dl ≤ 200) (h2 : 1 ≤ lo) (P : Nat → Bool) : cpP n (nS A n dl) (nC A n lo dl 1) (nR A n lo dl 1) P = sm (hrF A n lo dl P) 260 := by
  obtain ⟨hs, hb⟩ := mmL_ok hw h0 h1 n (Nat.le_refl _)
  have hmem : ∀ p, p < n → A (27 + p) ∈ mmL A dl n ∧ lsA A dl p ∈ mmL A dl n ∧ (A (3 + p) = 4 → A (63 + p) ∈ mmL A dl n ∧ A (75 + p) ∈ mmL A dl n) := by
    intro p hp
    refine ⟨mmL_mem.mpr ⟨p, hp, Or.inl rfl⟩, mmL_mem.mpr ⟨p, hp, Or.inr (Or.inl rfl)⟩, fun h => ⟨mmL_mem.mpr ⟨p, hp, Or.inr (Or.inr ⟨h, Or.inl rfl⟩)⟩, mmL_mem.mpr ⟨p, hp, Or.inr (Or.inr ⟨h, Or.inr rfl⟩)⟩⟩⟩
  have zero : ∀ t : Nat, (∀ p, p < n → opB A dl p t = false) → hrF A n lo dl P t = 0 := by
    intro t hh
    unfold hrF
    rw [sm_congr (g := fun _ => 0) (fun p hp => by rw [hh p hp]; cases P p <;> simp), sm_zero]
    omega
  by_cases hL : (mmL A dl n).length = 0
  · have hn0 : n = 0 := by
      refine Classical.byContradiction fun w => ?_
      have := (hmem 0 (by omega)).1
      rw [List.length_eq_zero_iff.mp hL] at this
      cases this
    subst hn0
    have e1 : nS A 0 dl = 0 := rfl
    rw [e1, sm_congr (g := fun _ => 0) (fun t _ => zero t (fun p hp => by omega)), sm_zero]
    rfl
  · generalize hLL : mmL A dl n = L at hs hb hmem hL
    have hg : ∀ j, nmo A n dl j = L.getD j 0 := fun j => by unfold nmo; rw [hLL]
    have hSS : nS A n dl = L.length - 1 := by unfold nS; rw [hLL]; rfl
    have hnn : ∀ j, j < L.length → 0 ≤ L.getD j 0 ∧ L.getD j 0 ≤ 260 := hb
    -- one stretch
    have one : ∀ s, s < nS A n dl → min (nR A n lo dl 1 s) (sm (fun p => if P p then nC A n lo dl 1 p s else 0) n) = sm (hrF A n lo dl P) (L.getD (s + 1) 0).toNat - sm (hrF A n lo dl P) (L.getD s 0).toNat := by
      intro s hsS
      have a1 := hnn s (by omega)
      have a2 := hnn (s + 1) (by omega)
      have a3 := hs s (by omega)
      have hF : ∀ t : Nat, (L.getD s 0).toNat ≤ t → t < (L.getD (s + 1) 0).toNat → hrF A n lo dl P t = min lo (sm (fun p => if P p then (if mlB A dl (nmo A n dl) p s then min (A (51 + p)) lo else 0) else 0) n) := by
        intro t b1 b2
        unfold hrF
        refine congrArg (min lo) (sm_congr fun p hp => ?_)
        have : opB A dl p t = mlB A dl (nmo A n dl) p s := by
          obtain ⟨m1, m2, m3⟩ := hmem p hp
          have g1 := srt_gap hs (t := (t : Int)) (s := s) m1 (by omega) (by omega) (by omega)
          have g2 := srt_gap hs (t := (t : Int)) (s := s) m2 (by omega) (by omega) (by omega)
          unfold opB mlB
          rw [hg, hg]
          rw [decide_eq_decide.mpr g1.1, decide_eq_decide.mpr g2.2]
          by_cases c : A (3 + p) = 4
          · have g3 := srt_gap hs (t := (t : Int)) (s := s) (m3 c).1 (by omega) (by omega) (by omega)
            have g4 := srt_gap hs (t := (t : Int)) (s := s) (m3 c).2 (by omega) (by omega) (by omega)
            have g5 : decide ((t : Int) + 1 ≤ A (75 + p)) = decide (L.getD (s + 1) 0 ≤ A (75 + p)) := decide_eq_decide.mpr g4.2
            rw [decide_eq_decide.mpr g3.1, g5]
          · rw [decide_eq_false c]; simp
        rw [this]
      rw [sm_run (by omega) hF]
      have e1 : ((L.getD (s + 1) 0).toNat : Int) - ((L.getD s 0).toNat : Int) = L.getD (s + 1) 0 - L.getD s 0 := by omega
      rw [e1, Int.mul_comm, ← min_mul (by omega), ← sm_mul]
      have e2 : nR A n lo dl 1 s = lo * (L.getD (s + 1) 0 - L.getD s 0) := by unfold nR rmA; rw [hg, hg]; omega
      rw [e2]
      refine congrArg (min _) (sm_congr fun p hp => ?_)
      unfold nC tkA
      rw [hg, hg]
      cases P p <;> cases mlB A dl (nmo A n dl) p s <;> simp
    have e3 : cpP n (nS A n dl) (nC A n lo dl 1) (nR A n lo dl 1) P = sm (fun s => sm (hrF A n lo dl P) (L.getD (s + 1) 0).toNat - sm (hrF A n lo dl P) (L.getD s 0).toNat) (nS A n dl) := sm_congr one
    rw [e3, sm_tel (G := fun s => sm (hrF A n lo dl P) (L.getD s 0).toNat)]
    have z1 : sm (hrF A n lo dl P) (L.getD 0 0).toNat = 0 := by
      rw [sm_congr (g := fun _ => 0) (fun t ht => zero t (fun p hp => ?_)), sm_zero]
      obtain ⟨i, hi, ei⟩ := mem_getD (hmem p hp).1
      have := srt_le hs (Nat.zero_le i) hi
      unfold opB
      rw [decide_eq_false (show ¬ A (27 + p) ≤ (t : Int) by omega)]
      rfl
    have z2 : sm (hrF A n lo dl P) 260 - sm (hrF A n lo dl P) (L.getD (nS A n dl) 0).toNat = 0 := by
      have b1 := hnn (nS A n dl) (by omega)
      rw [sm_run (K := 0) (by omega) (fun t h1 _ => zero t (fun p hp => ?_))]
      · omega
      · obtain ⟨i, hi, ei⟩ := mem_getD (hmem p hp).2.1
        have := srt_le hs (show i ≤ nS A n dl by omega) (by omega)
        unfold opB
        rw [decide_eq_false (show ¬ (t : Int) + 1 ≤ lsA A dl p by omega)]
        simp
    omega
theorem hal_mono {A : Nat → Int} {n : Nat} {lo lo' dl dl' : Int} (hw : wf A n) (h0 : 0 ≤ dl) (h1 : dl ≤ dl') (h2 : dl' ≤ 200) (h3 : 1 ≤ lo) (h4 : lo ≤ lo') (h : hal A n lo dl) : hal A n lo' dl' := by
  intro P
  have a := h P
  rw [hours hw h0 (by omega) h3] at a
  rw [hours hw (by omega) h2 (by omega)]
  refine Int.le_trans a (sm_le fun t _ => ?_)
  unfold hrF
  have : sm (fun p => if P p then (if opB A dl p t then min (A (51 + p)) lo else 0) else 0) n ≤ sm (fun p => if P p then (if opB A dl' p t then min (A (51 + p)) lo' else 0) else 0) n := by
    refine sm_le fun p hp => ?_
    have w := (hw.2.2.2.2 p hp).2.2.2.2.2.2.1
    cases P p with
    | false => simp
    | true =>
      by_cases c : opB A dl p t = true
      · have : opB A dl' p t = true := by
          unfold opB lsA at c ⊢
          simp only [Bool.and_eq_true, decide_eq_true_eq] at c ⊢
          obtain ⟨⟨c1, c2⟩, c3⟩ := c
          exact ⟨⟨c1, by omega⟩, c3⟩
        rw [c, this]
        simp only [if_true]
        omega
      · rw [Bool.not_eq_true] at c
        rw [c]
        simp only [if_true, Bool.false_eq_true, if_false]
        split <;> omega
  omega
