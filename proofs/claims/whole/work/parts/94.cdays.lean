/-! THE CLASS: days, what is sought -/
def usF (b : Nat → Int) : Nat → Int
  | 0 => 0
  | p + 1 => max (usF b p) (b p + 1)
theorem usF_congr {a b : Nat → Int} : ∀ {k : Nat}, (∀ p, p < k → a p = b p) → usF a k = usF b k
  | 0, _ => rfl
  | k + 1, h => by
    show max (usF a k) (a k + 1) = max (usF b k) (b k + 1)
    rw [usF_congr (fun p hp => h p (by omega)), h k (by omega)]
theorem usF_gt {b : Nat → Int} : ∀ {k q : Nat}, q < k → b q < usF b k
  | 0, q, h => by omega
  | k + 1, q, h => by
    show b q < max (usF b k) (b k + 1)
    by_cases e : q = k
    · subst e; omega
    · have := usF_gt (b := b) (k := k) (q := q) (by omega)
      omega
theorem usF_nn {b : Nat → Int} : ∀ k, 0 ≤ usF b k
  | 0 => Int.le_refl _
  | k + 1 => by
    have := usF_nn (b := b) k
    show 0 ≤ max (usF b k) (b k + 1)
    omega
theorem usF_le {b : Nat → Int} {D : Int} (hD : 0 ≤ D) : ∀ {k : Nat}, (∀ p, p < k → b p < D) → usF b k ≤ D
  | 0, _ => hD
  | k + 1, h => by
    have := usF_le hD (k := k) (fun p hp => h p (by omega))
    have := h k (by omega)
    show max (usF b k) (b k + 1) ≤ D
    omega
def rgW (n D : Nat) (b : Nat → Int) : Prop := ∀ p, p < n → 0 ≤ b p ∧ b p ≤ usF b p ∧ b p < D
section
variable {n D k : Nat} {lo : Int} {ln a b : Nat → Int}
theorem mxF_up {f : Nat → Int} {k : Nat} : ∀ {n : Nat}, k ≤ n → mxF f k ≤ mxF f n
  | 0, h => by rw [show k = 0 by omega]; exact Int.le_refl _
  | n + 1, h => by
    by_cases e : k = n + 1
    · rw [e]; exact Int.le_refl _
    · have := mxF_up (f := f) (k := k) (n := n) (by omega)
      show _ ≤ max (mxF f n) (f n)
      omega
theorem sm_up {f : Nat → Int} {k : Nat} : ∀ {n : Nat}, (∀ p, p < n → 0 ≤ f p) → k ≤ n → sm f k ≤ sm f n
  | 0, _, h => by rw [show k = 0 by omega]; exact Int.le_refl _
  | n + 1, h0, h => by
    by_cases e : k = n + 1
    · rw [e]; exact Int.le_refl _
    · have := sm_up (f := f) (k := k) (n := n) (fun p hp => h0 p (by omega)) (by omega)
      have := h0 n (by omega)
      show _ ≤ sm f n + f n
      omega
theorem lat_up (hl : ∀ p, p < n → 1 ≤ ln p ∧ ln p ≤ 60) (h0 : 0 ≤ lo) (hk : k ≤ n) : latF k D lo ln b ≤ latF n D lo ln b := by
  refine mxF_le (mxF_nn _) fun d hd => ?_
  refine Int.le_trans ?_ (mxF_ge hd)
  unfold dyF
  have h1 := mxF_up (f := fun p => if b p = (d : Int) then ln p else 0) hk
  have h2 := sm_up (f := fun p => if b p = (d : Int) then ln p else 0) (fun p hp => by have := hl p hp; split <;> omega) hk
  have h3 := Int.mul_le_mul_of_nonneg_right h1 h0
  omega
/-- the first of the least, from what was best before -/
def bst (n D : Nat) (lo : Int) (ln : Nat → Int) (E : (Nat → Int) → Prop) (m0 : Int) (a0 : Nat → Int) (m1 : Int) (a1 : Nat → Int) : Prop := m1 ≤ m0 ∧ (∀ b, E b → m1 ≤ latF n D lo ln b) ∧ ((m1 = m0 ∧ ∀ p, p < n → a1 p = a0 p) ∨ (m1 < m0 ∧ E a1 ∧ m1 = latF n D lo ln a1 ∧ ∀ b, E b → latF n D lo ln b = m1 → (∀ p, p < n → a1 p = b p) ∨ lxL n a1 b))
theorem swp_lat {u w : Int} (hu : 0 ≤ u ∧ u < D) (hw : 0 ≤ w ∧ w < D) : latF n D lo ln (fun p => if b p = u then w else if b p = w then u else b p) ≤ latF n D lo ln b := by
  refine mxF_le (mxF_nn _) fun d hd => ?_
  have key : ∀ e : Nat, e < D → (∀ p, ((if b p = u then w else if b p = w then u else b p) = (d : Int)) ↔ b p = (e : Int)) → dyF n lo ln (fun p => if b p = u then w else if b p = w then u else b p) d ≤ latF n D lo ln b := by
    intro e he h
    refine Int.le_trans ?_ (mxF_ge he)
    unfold dyF
    have e1 : (fun p => if (if b p = u then w else if b p = w then u else b p) = (d : Int) then ln p else 0) = fun p => if b p = (e : Int) then ln p else 0 := by
      funext p
      by_cases c : b p = (e : Int)
      · rw [if_pos c, if_pos ((h p).mpr c)]
      · rw [if_neg c, if_neg (fun z => c ((h p).mp z))]
    rw [e1]
    exact Int.le_refl _
  by_cases c1 : (d : Int) = u
  · refine key w.toNat (by omega) (fun p => ?_)
    rw [Int.toNat_of_nonneg hw.1]
    split <;> (try split) <;> omega
  · by_cases c2 : (d : Int) = w
    · refine key u.toNat (by omega) (fun p => ?_)
      rw [Int.toNat_of_nonneg hu.1]
      split <;> (try split) <;> omega
    · refine key d hd (fun p => ?_)
      split <;> (try split) <;> omega
theorem dyS_ex (hD : 0 < D) : ∃ m a, dyS n D lo ln m a := by
  have key : ∀ N, 0 < N → ∃ kb, kb < N ∧ (∀ j, j < N → latF n D lo ln (dgN D n kb) ≤ latF n D lo ln (dgN D n j)) ∧ ∀ j, j < kb → latF n D lo ln (dgN D n kb) < latF n D lo ln (dgN D n j) := by
    intro N
    induction N with
    | zero => intro h; omega
    | succ N ih =>
      intro _
      by_cases z : N = 0
      · subst z
        refine ⟨0, by omega, fun j hj => ?_, fun j hj => by omega⟩
        rw [show j = 0 by omega]
        exact Int.le_refl _
      · obtain ⟨kb, k1, k2, k3⟩ := ih (by omega)
        by_cases c : latF n D lo ln (dgN D n N) < latF n D lo ln (dgN D n kb)
        · refine ⟨N, by omega, fun j hj => ?_, fun j hj => ?_⟩
          · by_cases e : j = N
            · rw [e]; exact Int.le_refl _
            · have := k2 j (by omega)
              omega
          · have := k2 j (by omega)
            omega
        · refine ⟨kb, by omega, fun j hj => ?_, k3⟩
          by_cases e : j = N
          · rw [e]; omega
          · exact k2 j (by omega)
  obtain ⟨kb, k1, k2, k3⟩ := key (D ^ n) (Nat.pow_pos hD)
  exact ⟨_, _, dy_of hD k1 rfl k2 k3 (fun _ _ => rfl)⟩
theorem dyS_rg {m : Int} (h : dyS n D lo ln m a) : rgW n D a := by
  obtain ⟨h1, h2, h3⟩ := h
  intro p
  induction p using Nat.strongRecOn with
  | _ p ih =>
    intro hp
    refine ⟨(h1 p hp).1, ?_, (h1 p hp).2⟩
    refine Classical.byContradiction fun c => ?_
    have hu : 0 ≤ usF a p ∧ usF a p < D := ⟨usF_nn p, by have := (h1 p hp).2; omega⟩
    have hw := h1 p hp
    have s1 := swp_lat (n := n) (lo := lo) (ln := ln) (b := a) hu hw
    generalize hb : (fun q => if a q = usF a p then a p else if a q = a p then usF a p else a q) = b at s1
    have hv : vld n D b := fun q hq => by
      have := h1 q hq
      rw [← hb]
      dsimp only
      split <;> (try split) <;> omega
    have hlt : lxL n b a := by
      refine ⟨p, hp, fun q hq => ?_, ?_⟩
      · have g := usF_gt (b := a) hq
        rw [← hb]
        dsimp only
        rw [if_neg (by omega), if_neg (by omega)]
      · rw [← hb]
        dsimp only
        rw [if_neg (by omega), if_pos rfl]
        omega
    obtain ⟨g1, g2⟩ := h3 b hv
    rcases g2 (by omega) with g | g
    · obtain ⟨q, q1, q2, q3⟩ := hlt
      have := g q q1
      omega
    · exact lxL_asym g hlt
/-- what the class finds is what is asked -/
theorem bst_dyS {m0 m : Int} {a0 : Nat → Int} (hD : 0 < D) (hm : 481 ≤ m0) (hl : ∀ p, p < n → 1 ≤ ln p ∧ ln p ≤ 60) (h0 : 0 ≤ lo) (h1 : lo ≤ 6) (hn : n ≤ 8) (h : bst n D lo ln (fun b => rgW n D b) m0 a0 m a) : dyS n D lo ln m a := by
  obtain ⟨m', a', hS⟩ := dyS_ex (n := n) (lo := lo) (ln := ln) hD
  have hr := dyS_rg hS
  obtain ⟨b1, b2, b3⟩ := h
  have hb := latF_bd (D := D) (a := a') hl h0 h1 hn
  have z := b2 a' hr
  rcases b3 with ⟨c1, -⟩ | ⟨c1, c2, c3, c4⟩
  · omega
  · have va : vld n D a := fun p hp => ⟨(c2 p hp).1, (c2 p hp).2.2⟩
    obtain ⟨s1, s2, s3⟩ := hS
    obtain ⟨t1, t2⟩ := s3 a va
    have em : m = m' := by omega
    have ea : ∀ p, p < n → a' p = a p := by
      rcases t2 (by omega) with t | t
      · exact t
      · rcases c4 a' hr (by omega) with g | g
        · exact fun p hp => (g p hp).symm
        · exact absurd (lxL_asym t g) (fun z => z)
    refine ⟨va, c3, fun b hv => ?_⟩
    obtain ⟨u1, u2⟩ := s3 b hv
    refine ⟨by omega, fun e => ?_⟩
    rcases u2 (by omega) with g | ⟨q, q1, q2, q3⟩
    · exact Or.inl fun p hp => (ea p hp).symm.trans (g p hp)
    · exact Or.inr ⟨q, q1, fun r hr => (ea r (by omega)).symm.trans (q2 r hr), by rw [← ea q q1]; exact q3⟩
/-- one day more -/
theorem bst_day {m0 m m' : Int} {a0 a1 a2 : Nat → Int} {k : Nat} {j : Int} {cur : Nat → Int} (hk : k < n) (h : bst n D lo ln (fun b => rgW n D b ∧ (∀ p, p < k → b p = cur p) ∧ b k < j) m0 a0 m a1) (h2 : bst n D lo ln (fun b => rgW n D b ∧ (∀ p, p < k → b p = cur p) ∧ b k = j) m a1 m' a2) : bst n D lo ln (fun b => rgW n D b ∧ (∀ p, p < k → b p = cur p) ∧ b k < j + 1) m0 a0 m' a2 := by
  obtain ⟨x1, x2, x3⟩ := h
  obtain ⟨y1, y2, y3⟩ := h2
  refine ⟨by omega, fun b ⟨e1, e2, e3⟩ => ?_, ?_⟩
  · by_cases c : b k = j
    · exact y2 b ⟨e1, e2, c⟩
    · have := x2 b ⟨e1, e2, by omega⟩
      omega
  · rcases y3 with ⟨c1, c2⟩ | ⟨c1, c2, c3, c4⟩
    · rcases x3 with ⟨d1, d2⟩ | ⟨d1, d2, d3, d4⟩
      · exact Or.inl ⟨by omega, fun p hp => (c2 p hp).trans (d2 p hp)⟩
      · have ra : rgW n D a2 := fun p hp => by
          rw [c2 p hp, usF_congr (b := a1) (fun q hq => c2 q (by omega))]
          exact d2.1 p hp
        have la : latF n D lo ln a2 = latF n D lo ln a1 := latF_congr c2
        refine Or.inr ⟨by omega, ⟨ra, fun p hp => (c2 p (by omega)).trans (d2.2.1 p hp), by rw [c2 k hk]; have := d2.2.2; omega⟩, by rw [la]; omega, fun b ⟨e1, e2, e3⟩ e4 => ?_⟩
        by_cases c : b k = j
        · refine Or.inr ⟨k, hk, fun q hq => ?_, ?_⟩
          · rw [c2 q (by omega), d2.2.1 q hq, e2 q hq]
          · rw [c2 k hk, c]; exact d2.2.2
        · rcases d4 b ⟨e1, e2, by omega⟩ (by omega) with g | ⟨q, q1, q2, q3⟩
          · exact Or.inl fun p hp => (c2 p hp).trans (g p hp)
          · exact Or.inr ⟨q, q1, fun r hr => (c2 r (by omega)).trans (q2 r hr), by rw [c2 q q1]; exact q3⟩
    · refine Or.inr ⟨by omega, ⟨c2.1, c2.2.1, by rw [c2.2.2]; omega⟩, c3, fun b ⟨e1, e2, e3⟩ e4 => ?_⟩
      by_cases c : b k = j
      · exact c4 b ⟨e1, e2, c⟩ e4
      · have := x2 b ⟨e1, e2, by omega⟩
        omega
end
