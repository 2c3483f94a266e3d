/-! A SEARCH with one queue: pieces p as p, stretches s as 12 + s -/
def cnt (f : Nat → Int) : Nat → Nat
  | 0 => 0
  | n + 1 => cnt f n + if f n = -2 then 0 else 1
theorem cnt_le {f : Nat → Int} : ∀ {n : Nat}, cnt f n ≤ n
  | 0 => Nat.le_refl _
  | n + 1 => by
    have := cnt_le (f := f) (n := n)
    show cnt f n + _ ≤ _
    split <;> omega
theorem cnt_congr {f g : Nat → Int} : ∀ {n : Nat}, (∀ j, j < n → f j = g j) → cnt f n = cnt g n
  | 0, _ => rfl
  | n + 1, h => by
    show cnt f n + _ = cnt g n + _
    rw [cnt_congr (fun j hj => h j (by omega)), h n (by omega)]
theorem cnt_up {f : Nat → Int} {k : Nat} {v : Int} (hf : f k = -2) (hv : v ≠ -2) : ∀ {n : Nat}, k < n → cnt (fun j => if j = k then v else f j) n = cnt f n + 1
  | 0, h => by omega
  | n + 1, hk => by
    show cnt (fun j => if j = k then v else f j) n + (if (if n = k then v else f n) = -2 then 0 else 1) = cnt f n + (if f n = -2 then 0 else 1) + 1
    by_cases e : n = k
    · subst e
      rw [cnt_congr (g := f) (fun j hj => if_neg (by omega)), if_pos rfl, if_neg hv, if_pos hf]
    · rw [cnt_up hf hv (by omega), if_neg e]
      omega
def bq (n S : Nat) (ln : Nat → Int) (c x : Nat → Nat → Int) (i t : Nat) (f g u : Nat → Int) (m : Nat) : Prop :=
  m = cnt f i + cnt g t ∧
  (∃ rp rs : Nat → Nat, tre i t c x (fun p => sm (x p) S < ln p) f g rp rs ∧ (∀ p, p < i → f p ≠ -2 → rp p < m ∧ u (rp p) = (p : Int)) ∧ ∀ s, s < t → g s ≠ -2 → rs s < m ∧ u (rs s) = 12 + (s : Int)) ∧
  (∀ j, j < m → (∃ p, p < i ∧ u j = (p : Int) ∧ f p ≠ -2) ∨ ∃ s, s < t ∧ u j = 12 + (s : Int) ∧ g s ≠ -2) ∧
  (∀ p, p < i → sm (x p) S < ln p → f p ≠ -2) ∧
  ∀ P' Q', cls n S ln c x P' Q' → (∀ p, p < i → f p ≠ -2 → P' p = true) ∧ ∀ s, s < t → g s ≠ -2 → Q' s = true
def bx (n S : Nat) (c x : Nat → Nat → Int) (f g u : Nat → Int) (k : Nat) : Prop := ∀ j, j < k → (∀ p, p < n → u j = (p : Int) → ∀ s, s < S → x p s < c p s → g s ≠ -2) ∧ ∀ s, s < S → u j = 12 + (s : Int) → ∀ p, p < n → 0 < x p s → f p ≠ -2
section
variable {n S i t m : Nat} {ln f g u : Nat → Int} {c x : Nat → Nat → Int}
theorem bq_0 : bq n S ln c x 0 0 f g u 0 := ⟨rfl, ⟨fun _ => 0, fun _ => 0, ⟨fun p h => (by omega), fun s h => (by omega)⟩, fun p h => (by omega), fun s h => (by omega)⟩, fun j h => (by omega), fun p h => (by omega), fun _ _ _ => ⟨fun p h => (by omega), fun s h => (by omega)⟩⟩
/-- a piece that doesn't begin -/
theorem bq_no (h : bq n S ln c x i 0 f g u m) (hl : ¬ sm (x i) S < ln i) : bq n S ln c x (i + 1) 0 (fun j => if j = i then -2 else f j) g u m := by
  obtain ⟨h1, ⟨rp, rs, h2, h3, h4⟩, h5, h6, h7⟩ := h
  have hlt : ∀ p, p < i → (if p = i then -2 else f p) = f p := fun p hp => if_neg (by omega)
  have hi : (if i = i then -2 else f i) = -2 := if_pos rfl
  refine ⟨?_, ⟨rp, rs, ⟨fun p hp w => ?_, fun s hs => (by omega)⟩, fun p hp w => ?_, fun s hs => (by omega)⟩, fun j hj => ?_, fun p hp w => ?_, fun P' Q' hc => ⟨fun p hp w => ?_, fun s hs => (by omega)⟩⟩
  · show m = cnt _ i + (if (if i = i then -2 else f i) = -2 then 0 else 1) + cnt g 0
    rw [cnt_congr hlt, hi, if_pos rfl]
    exact h1
  · by_cases e : p = i
    · subst e; exact absurd hi w
    · dsimp only at w ⊢
      rw [hlt p (by omega)] at w ⊢
      exact h2.1 p (by omega) w
  · by_cases e : p = i
    · subst e; exact absurd hi w
    · dsimp only at w
      rw [hlt p (by omega)] at w
      exact h3 p (by omega) w
  · rcases h5 j hj with ⟨p, a, b, c⟩ | ⟨s, a, -⟩
    · exact Or.inl ⟨p, by omega, b, by dsimp only; rw [hlt p a]; exact c⟩
    · omega
  · by_cases e : p = i
    · subst e; exact absurd w hl
    · dsimp only
      rw [hlt p (by omega)]
      exact h6 p (by omega) w
  · by_cases e : p = i
    · subst e; exact absurd hi w
    · dsimp only at w
      rw [hlt p (by omega)] at w
      exact (h7 P' Q' hc).1 p (by omega) w
/-- a piece that begins -/
theorem bq_yes (h : bq n S ln c x i 0 f g u m) (hin : i < n) (hl : sm (x i) S < ln i) : bq n S ln c x (i + 1) 0 (fun j => if j = i then -1 else f j) g (fun j => if j = m then (i : Int) else u j) (m + 1) := by
  obtain ⟨h1, ⟨rp, rs, h2, h3, h4⟩, h5, h6, h7⟩ := h
  have hlt : ∀ p, p < i → (if p = i then -1 else f p) = f p := fun p hp => if_neg (by omega)
  have hi : (if i = i then -1 else f i) = -1 := if_pos rfl
  refine ⟨?_, ⟨fun p => if p = i then m else rp p, rs, ⟨fun p hp w => ?_, fun s hs => (by omega)⟩, fun p hp w => ?_, fun s hs => (by omega)⟩, fun j hj => ?_, fun p hp w => ?_, fun P' Q' hc => ⟨fun p hp w => ?_, fun s hs => (by omega)⟩⟩
  · show m + 1 = cnt _ i + (if (if i = i then -1 else f i) = -2 then 0 else 1) + cnt g 0
    rw [cnt_congr hlt, hi, if_neg (by decide)]
    omega
  · by_cases e : p = i
    · subst e; exact Or.inl ⟨hi, hl⟩
    · dsimp only at w ⊢
      rw [hlt p (by omega)] at w ⊢
      rcases h2.1 p (by omega) w with a | ⟨s, a, -⟩
      · exact Or.inl a
      · omega
  · by_cases e : p = i
    · subst e
      dsimp only
      rw [if_pos rfl, if_pos rfl]
      exact ⟨by omega, rfl⟩
    · dsimp only at w ⊢
      rw [hlt p (by omega)] at w
      have := h3 p (by omega) w
      rw [if_neg e, if_neg (by omega)]
      exact ⟨by omega, this.2⟩
  · by_cases e : j = m
    · exact Or.inl ⟨i, by omega, if_pos e, by dsimp only; rw [hi]; decide⟩
    · rcases h5 j (by omega) with ⟨p, a, b, c⟩ | ⟨s, a, -⟩
      · exact Or.inl ⟨p, by omega, (if_neg e).trans b, by dsimp only; rw [hlt p a]; exact c⟩
      · omega
  · by_cases e : p = i
    · subst e; dsimp only; rw [hi]; decide
    · dsimp only
      rw [hlt p (by omega)]
      exact h6 p (by omega) w
  · by_cases e : p = i
    · subst e; exact hc.1 p hin hl
    · dsimp only at w
      rw [hlt p (by omega)] at w
      exact (h7 P' Q' hc).1 p (by omega) w
/-- a stretch cleared -/
theorem bq_clr (h : bq n S ln c x i t f g u m) (h0 : ∀ s, s < t → g s = -2) : bq n S ln c x i (t + 1) f (fun j => if j = t then -2 else g j) u m ∧ ∀ s, s < t + 1 → (if s = t then -2 else g s) = -2 := by
  obtain ⟨h1, ⟨rp, rs, h2, h3, h4⟩, h5, h6, h7⟩ := h
  have hg : ∀ s, s < t + 1 → (if s = t then -2 else g s) = -2 := by
    intro s hs
    by_cases e : s = t
    · exact if_pos e
    · rw [if_neg e]; exact h0 s (by omega)
  refine ⟨⟨?_, ⟨rp, rs, ⟨fun p hp w => ?_, fun s hs w => absurd (hg s hs) w⟩, h3, fun s hs w => absurd (hg s hs) w⟩, fun j hj => ?_, h6, fun P' Q' hc => ⟨(h7 P' Q' hc).1, fun s hs w => absurd (hg s hs) w⟩⟩, hg⟩
  · show m = cnt f i + (cnt _ t + (if (if t = t then -2 else g t) = -2 then 0 else 1))
    rw [cnt_congr (g := g) (fun j hj => if_neg (by omega)), if_pos (if_pos rfl)]
    exact h1
  · rcases h2.1 p hp w with a | ⟨s, a, b, d, -⟩
    · exact Or.inl a
    · exact absurd (h0 s a) d
  · rcases h5 j hj with a | ⟨s, a, b, d⟩
    · exact Or.inl a
    · exact absurd (h0 s a) d
/-- a stretch reached -/
theorem bq_s (h : bq n S ln c x n S f g u m) {p s : Nat} (hp : p < n) (hf : f p ≠ -2) (hs : s < S) (hg : g s = -2) (hl : x p s < c p s) : bq n S ln c x n S f (fun j => if j = s then (p : Int) else g j) (fun j => if j = m then 12 + (s : Int) else u j) (m + 1) := by
  obtain ⟨h1, ⟨rp, rs, h2, h3, h4⟩, h5, h6, h7⟩ := h
  have hS : (if s = s then (p : Int) else g s) = p := if_pos rfl
  have hn : ∀ t, t ≠ s → (if t = s then (p : Int) else g t) = g t := fun t ht => if_neg ht
  have hmono : ∀ t, g t ≠ -2 → (if t = s then (p : Int) else g t) ≠ -2 := by
    intro t ht
    by_cases e : t = s
    · rw [if_pos e]; omega
    · rw [if_neg e]; exact ht
  have hrs : ∀ t, g t ≠ -2 → (if t = s then m else rs t) = rs t := fun t ht => if_neg (fun w => ht (by rw [w]; exact hg))
  refine ⟨?_, ⟨rp, fun t => if t = s then m else rs t, ⟨fun q hq w => ?_, fun t ht w => ?_⟩, fun q hq w => ?_, fun t ht w => ?_⟩, fun j hj => ?_, h6, fun P' Q' hc => ⟨(h7 P' Q' hc).1, fun t ht w => ?_⟩⟩
  · rw [cnt_up hg (by omega) hs]; omega
  · rcases h2.1 q hq w with a | ⟨t, a1, a2, a3, a4, a5⟩
    · exact Or.inl a
    · exact Or.inr ⟨t, a1, a2, hmono t a3, a4, by dsimp only; rw [hrs t a3]; exact a5⟩
  · by_cases e : t = s
    · subst e
      refine ⟨p, hp, hS, hf, hl, ?_⟩
      dsimp only
      rw [if_pos rfl]
      exact (h3 p hp hf).1
    · dsimp only at w ⊢
      rw [hn t e] at w ⊢
      rw [hrs t w]
      exact h2.2 t ht w
  · have := h3 q hq w
    exact ⟨by omega, (if_neg (by omega)).trans this.2⟩
  · by_cases e : t = s
    · subst e
      dsimp only
      rw [if_pos rfl, if_pos rfl]
      exact ⟨by omega, rfl⟩
    · dsimp only at w ⊢
      rw [hn t e] at w
      have := h4 t ht w
      rw [hrs t w, if_neg (by omega)]
      exact ⟨by omega, this.2⟩
  · by_cases e : j = m
    · exact Or.inr ⟨s, hs, if_pos e, by dsimp only; rw [hS]; omega⟩
    · rcases h5 j (by omega) with ⟨q, a, b, d⟩ | ⟨t, a, b, d⟩
      · exact Or.inl ⟨q, a, (if_neg e).trans b, d⟩
      · exact Or.inr ⟨t, a, (if_neg e).trans b, hmono t d⟩
  · by_cases e : t = s
    · subst e; exact hc.2.1 p hp ((h7 P' Q' hc).1 p hp hf) t ht hl
    · dsimp only at w
      rw [hn t e] at w
      exact (h7 P' Q' hc).2 t ht w
/-- a piece reached -/
theorem bq_p (h : bq n S ln c x n S f g u m) {p s : Nat} (hp : p < n) (hf : f p = -2) (hs : s < S) (hg : g s ≠ -2) (hl : 0 < x p s) : bq n S ln c x n S (fun j => if j = p then (s : Int) else f j) g (fun j => if j = m then (p : Int) else u j) (m + 1) := by
  obtain ⟨h1, ⟨rp, rs, h2, h3, h4⟩, h5, h6, h7⟩ := h
  have hS : (if p = p then (s : Int) else f p) = s := if_pos rfl
  have hn : ∀ t, t ≠ p → (if t = p then (s : Int) else f t) = f t := fun t ht => if_neg ht
  have hmono : ∀ t, f t ≠ -2 → (if t = p then (s : Int) else f t) ≠ -2 := by
    intro t ht
    by_cases e : t = p
    · rw [if_pos e]; omega
    · rw [if_neg e]; exact ht
  have hrs : ∀ t, f t ≠ -2 → (if t = p then m else rp t) = rp t := fun t ht => if_neg (fun w => ht (by rw [w]; exact hf))
  refine ⟨?_, ⟨fun t => if t = p then m else rp t, rs, ⟨fun t ht w => ?_, fun t ht w => ?_⟩, fun t ht w => ?_, fun q hq w => ?_⟩, fun j hj => ?_, fun q hq w => hmono q (h6 q hq w), fun P' Q' hc => ⟨fun t ht w => ?_, (h7 P' Q' hc).2⟩⟩
  · rw [cnt_up hf (by omega) hp]; omega
  · by_cases e : t = p
    · subst e
      refine Or.inr ⟨s, hs, hS, hg, hl, ?_⟩
      dsimp only
      rw [if_pos rfl]
      exact (h4 s hs hg).1
    · dsimp only at w ⊢
      rw [hn t e] at w ⊢
      rw [hrs t w]
      exact h2.1 t ht w
  · obtain ⟨q, a1, a2, a3, a4, a5⟩ := h2.2 t ht w
    exact ⟨q, a1, a2, hmono q a3, a4, by dsimp only; rw [hrs q a3]; exact a5⟩
  · by_cases e : t = p
    · subst e
      dsimp only
      rw [if_pos rfl, if_pos rfl]
      exact ⟨by omega, rfl⟩
    · dsimp only at w ⊢
      rw [hn t e] at w
      have := h3 t ht w
      rw [hrs t w, if_neg (by omega)]
      exact ⟨by omega, this.2⟩
  · have := h4 q hq w
    exact ⟨by omega, (if_neg (by omega)).trans this.2⟩
  · by_cases e : j = m
    · exact Or.inl ⟨p, hp, if_pos e, by dsimp only; rw [hS]; omega⟩
    · rcases h5 j (by omega) with ⟨q, a, b, d⟩ | ⟨t, a, b, d⟩
      · exact Or.inl ⟨q, a, (if_neg e).trans b, hmono q d⟩
      · exact Or.inr ⟨t, a, (if_neg e).trans b, d⟩
  · by_cases e : t = p
    · subst e; exact hc.2.2 s hs ((h7 P' Q' hc).2 s hs hg) t ht hl
    · dsimp only at w
      rw [hn t e] at w
      exact (h7 P' Q' hc).1 t ht w
theorem bx_s {k s : Nat} {p : Int} {y : Int} (h : bx n S c x f g u k) (hp : p ≠ -2) (hk : k ≤ m) : bx n S c x f (fun j => if j = s then p else g j) (fun j => if j = m then y else u j) k := by
  intro j hj
  obtain ⟨a, b⟩ := h j hj
  have e : (if j = m then y else u j) = u j := if_neg (by omega)
  refine ⟨fun q hq w t ht hl => ?_, fun t ht w q hq hl => ?_⟩
  · dsimp only at w ⊢
    rw [e] at w
    have := a q hq w t ht hl
    split
    · exact hp
    · exact this
  · dsimp only at w
    rw [e] at w
    exact b t ht w q hq hl
theorem bx_p {k p : Nat} {s : Int} {y : Int} (h : bx n S c x f g u k) (hs : s ≠ -2) (hk : k ≤ m) : bx n S c x (fun j => if j = p then s else f j) g (fun j => if j = m then y else u j) k := by
  intro j hj
  obtain ⟨a, b⟩ := h j hj
  have e : (if j = m then y else u j) = u j := if_neg (by omega)
  refine ⟨fun q hq w t ht hl => ?_, fun t ht w q hq hl => ?_⟩
  · dsimp only at w
    rw [e] at w
    exact a q hq w t ht hl
  · dsimp only at w ⊢
    rw [e] at w
    have := b t ht w q hq hl
    split
    · exact hs
    · exact this
theorem bq_end (h : bq n S ln c x n S f g u m) (hx : bx n S c x f g u m) : cls n S ln c x (fun p => decide (f p ≠ -2)) (fun s => decide (g s ≠ -2)) ∧ ∀ P' Q', cls n S ln c x P' Q' → (∀ p, p < n → decide (f p ≠ -2) = true → P' p = true) ∧ ∀ s, s < S → decide (g s ≠ -2) = true → Q' s = true := by
  obtain ⟨h1, ⟨rp, rs, h2, h3, h4⟩, h5, h6, h7⟩ := h
  refine ⟨⟨fun p hp w => decide_eq_true (h6 p hp w), fun p hp w s hs hl => decide_eq_true ?_, fun s hs w p hp hl => decide_eq_true ?_⟩, fun P' Q' hc => ⟨fun p hp w => (h7 P' Q' hc).1 p hp (of_decide_eq_true w), fun s hs w => (h7 P' Q' hc).2 s hs (of_decide_eq_true w)⟩⟩
  · have a := h3 p hp (of_decide_eq_true w)
    exact (hx (rp p) a.1).1 p hp a.2 s hs hl
  · have a := h4 s hs (of_decide_eq_true w)
    exact (hx (rs s) a.1).2 s hs a.2 p hp hl
end
