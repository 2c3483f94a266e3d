/-! moments: rising, in bounds, all there -/
def srt (L : List Int) : Prop := ∀ j, j + 1 < L.length → L.getD j 0 < L.getD (j + 1) 0
def inb2 (L : List Int) (a b : Int) : Prop := ∀ j, j < L.length → a ≤ L.getD j 0 ∧ L.getD j 0 ≤ b
theorem insL_srt {t : Int} {L : List Int} (h : srt L) : srt (insL t L) := by
  obtain ⟨-, k2, k3, k4⟩ := kpos_spec (t := t) (f := fun j => L.getD j 0) L.length 0
  unfold insL
  generalize kpos t (fun j => L.getD j 0) L.length 0 = k at k2 k3 k4
  by_cases hc : k < L.length ∧ L.getD k 0 = t
  · rw [if_pos hc]; exact h
  · rw [if_neg hc]
    intro j hj
    rw [len_ins (by omega)] at hj
    rw [getD_ins (by omega), getD_ins (by omega)]
    by_cases h1 : j + 1 < k
    · rw [if_pos (by omega), if_pos h1]
      exact h j (by omega)
    · rw [if_neg h1]
      by_cases h2 : j + 1 = k
      · rw [if_pos (by omega), if_pos h2]
        exact k3 j (by omega) (by omega)
      · rw [if_neg h2]
        by_cases h3 : j = k
        · have hlt : k < L.length := by omega
          have := k4 (by omega)
          have hne : ¬ L.getD k 0 = t := fun w => hc ⟨hlt, w⟩
          rw [if_neg (by omega), if_pos h3, show j + 1 - 1 = k by omega]
          omega
        · rw [if_neg (by omega), if_neg h3]
          have := h (j - 1) (by omega)
          rw [show j - 1 + 1 = j by omega] at this
          rw [show j + 1 - 1 = j by omega]
          exact this
theorem insL_inb {t a b : Int} {L : List Int} (h : inb2 L a b) (h1 : a ≤ t) (h2 : t ≤ b) : inb2 (insL t L) a b := by
  obtain ⟨-, k2, k3, k4⟩ := kpos_spec (t := t) (f := fun j => L.getD j 0) L.length 0
  unfold insL
  generalize kpos t (fun j => L.getD j 0) L.length 0 = k at k2 k3 k4
  by_cases hc : k < L.length ∧ L.getD k 0 = t
  · rw [if_pos hc]; exact h
  · rw [if_neg hc]
    intro j hj
    rw [len_ins (by omega)] at hj
    rw [getD_ins (by omega)]
    by_cases h1 : j < k
    · rw [if_pos h1]; exact h j (by omega)
    · rw [if_neg h1]
      by_cases h2 : j = k
      · rw [if_pos h2]; omega
      · rw [if_neg h2]; exact h (j - 1) (by omega)
theorem insL_mem {t x : Int} {L : List Int} : x ∈ insL t L ↔ x = t ∨ x ∈ L := by
  unfold insL
  generalize kpos t (fun j => L.getD j 0) L.length 0 = k
  by_cases hc : k < L.length ∧ L.getD k 0 = t
  · rw [if_pos hc]
    refine ⟨Or.inr, fun w => ?_⟩
    rcases w with rfl | w
    · rw [← hc.2, List.getD_eq_getElem?_getD, List.getElem?_eq_getElem hc.1]
      exact List.getElem_mem hc.1
    · exact w
  · rw [if_neg hc]
    rw [List.mem_append, List.mem_cons]
    constructor
    · rintro (w | w | w)
      · exact Or.inr (List.mem_of_mem_take w)
      · exact Or.inl w
      · exact Or.inr (List.mem_of_mem_drop w)
    · rintro (w | w)
      · exact Or.inr (Or.inl w)
      · rw [← List.take_append_drop k L] at w
        rcases List.mem_append.mp w with w | w
        · exact Or.inl w
        · exact Or.inr (Or.inr w)
theorem mmP_mem {A : Nat → Int} {dl x : Int} {p : Nat} {L : List Int} : x ∈ mmP A dl p L ↔ x = A (27 + p) ∨ x = lsA A dl p ∨ (A (3 + p) = 4 ∧ (x = A (63 + p) ∨ x = A (75 + p))) ∨ x ∈ L := by
  unfold mmP
  by_cases h : A (3 + p) = 4
  · rw [if_pos h, insL_mem, insL_mem, insL_mem, insL_mem]
    constructor
    · rintro (w | w | w | w | w)
      · exact Or.inr (Or.inr (Or.inl ⟨h, Or.inr w⟩))
      · exact Or.inr (Or.inr (Or.inl ⟨h, Or.inl w⟩))
      · exact Or.inr (Or.inl w)
      · exact Or.inl w
      · exact Or.inr (Or.inr (Or.inr w))
    · rintro (w | w | ⟨-, w | w⟩ | w)
      · exact Or.inr (Or.inr (Or.inr (Or.inl w)))
      · exact Or.inr (Or.inr (Or.inl w))
      · exact Or.inr (Or.inl w)
      · exact Or.inl w
      · exact Or.inr (Or.inr (Or.inr (Or.inr w)))
  · rw [if_neg h, insL_mem, insL_mem]
    constructor
    · rintro (w | w | w)
      · exact Or.inr (Or.inl w)
      · exact Or.inl w
      · exact Or.inr (Or.inr (Or.inr w))
    · rintro (w | w | ⟨w, -⟩ | w)
      · exact Or.inr (Or.inl w)
      · exact Or.inl w
      · exact absurd w h
      · exact Or.inr (Or.inr w)
theorem mmL_mem {A : Nat → Int} {dl x : Int} : ∀ {n : Nat}, x ∈ mmL A dl n ↔ ∃ p, p < n ∧ (x = A (27 + p) ∨ x = lsA A dl p ∨ (A (3 + p) = 4 ∧ (x = A (63 + p) ∨ x = A (75 + p))))
  | 0 => ⟨fun w => (by cases w), fun ⟨_, w, _⟩ => (by cases w)⟩
  | n + 1 => by
    show x ∈ mmP A dl n (mmL A dl n) ↔ _
    rw [mmP_mem, mmL_mem]
    constructor
    · rintro (w | w | w | ⟨p, w1, w2⟩)
      · exact ⟨n, by omega, Or.inl w⟩
      · exact ⟨n, by omega, Or.inr (Or.inl w)⟩
      · exact ⟨n, by omega, Or.inr (Or.inr w)⟩
      · exact ⟨p, by omega, w2⟩
    · rintro ⟨p, w1, w2⟩
      by_cases e : p = n
      · subst e
        rcases w2 with w | w | w
        · exact Or.inl w
        · exact Or.inr (Or.inl w)
        · exact Or.inr (Or.inr (Or.inl w))
      · exact Or.inr (Or.inr (Or.inr ⟨p, by omega, w2⟩))
theorem mmL_ok {A : Nat → Int} {N : Nat} {dl : Int} (hw : wf A N) (h0 : 0 ≤ dl) (h1 : dl ≤ 200) : ∀ n, n ≤ N → srt (mmL A dl n) ∧ inb2 (mmL A dl n) 0 260
  | 0, _ => ⟨fun j hj => (by cases hj), fun j hj => (by cases hj)⟩
  | n + 1, hn => by
    obtain ⟨s1, b1⟩ := mmL_ok hw h0 h1 n (by omega)
    have hA := hw.2.2.2.2 n (by omega)
    have hl := lsA_bd hw (show n < N by omega) h0 h1
    show srt (mmP A dl n (mmL A dl n)) ∧ inb2 (mmP A dl n (mmL A dl n)) 0 260
    have sA := insL_srt (t := lsA A dl n) (insL_srt (t := A (27 + n)) s1)
    have bA := insL_inb (t := lsA A dl n) (insL_inb (t := A (27 + n)) b1 (by omega) (by omega)) hl.1 hl.2
    unfold mmP
    by_cases h : A (3 + n) = 4
    · rw [if_pos h]
      have hB := hA.2.2.2.2.2.2.2.1 h
      exact ⟨insL_srt (insL_srt sA), insL_inb (insL_inb bA (by omega) (by omega)) (by omega) (by omega)⟩
    · rw [if_neg h]
      exact ⟨sA, bA⟩
theorem mo_of {A f : Nat → Int} {n : Nat} {dl : Int} (hw : wf A n) (h0 : 0 ≤ dl) (h1 : dl ≤ 200) (hr : rp f (mmL A dl n)) : mo f (mmL A dl n) := by
  obtain ⟨s1, b1⟩ := mmL_ok hw h0 h1 n (Nat.le_refl _)
  have hl := mmL_len A dl n
  have hn := hw.1
  refine ⟨hr, by omega, fun j hj => by rw [hr j hj]; exact b1 j hj, fun j hj => by rw [hr j (by omega), hr (j + 1) hj]; exact s1 j hj⟩
