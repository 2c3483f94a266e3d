/-! A SEARCH, in general: nodes below N, marks M (-2: not reached) -/
def cmb (n : Nat) (f g : Nat → Int) (a : Nat) : Int := if a < 12 then (if a < n then f a else -2) else g (a - 12)
theorem cmb_p {n p : Nat} {f g : Nat → Int} {v : Int} (hp : p < n) (hn : n ≤ 12) : cmb n (fun j => if j = p then v else f j) g = fun a => if a = p then v else cmb n f g a := by
  funext a
  unfold cmb
  dsimp only
  by_cases h2 : a = p
  · rw [if_pos h2, if_pos h2, if_pos (by omega), if_pos (by omega)]
  · rw [if_neg h2, if_neg h2]
theorem cmb_s {n s : Nat} {f g : Nat → Int} {v : Int} : cmb n f (fun j => if j = s then v else g j) = fun a => if a = 12 + s then v else cmb n f g a := by
  funext a
  unfold cmb
  dsimp only
  by_cases h1 : a < 12
  · rw [if_pos h1, if_pos h1, if_neg (show ¬ a = 12 + s by omega)]
  · rw [if_neg h1, if_neg h1]
    by_cases h2 : a = 12 + s
    · rw [if_pos h2, if_pos (show a - 12 = s by omega)]
    · rw [if_neg h2, if_neg (show ¬ a - 12 = s by omega)]
theorem cmb_P {n p : Nat} {f g : Nat → Int} (hp : p < n) (hn : n ≤ 12) : cmb n f g p = f p := by unfold cmb; rw [if_pos (by omega), if_pos hp]
theorem cmb_S {n s : Nat} {f g : Nat → Int} : cmb n f g (12 + s) = g s := by unfold cmb; rw [if_neg (by omega), show 12 + s - 12 = s by omega]
theorem cmb_cs {n S a : Nat} {f g : Nat → Int} (h : a < 12 + S) (hm : cmb n f g a ≠ -2) : (a < n ∧ a < 12 ∧ f a ≠ -2) ∨ ∃ s, s < S ∧ a = 12 + s ∧ g s ≠ -2 := by
  unfold cmb at hm
  by_cases h1 : a < 12
  · rw [if_pos h1] at hm
    by_cases h2 : a < n
    · rw [if_pos h2] at hm; exact Or.inl ⟨h2, h1, hm⟩
    · rw [if_neg h2] at hm; exact absurd rfl hm
  · rw [if_neg h1] at hm
    exact Or.inr ⟨a - 12, by omega, by omega, hm⟩
def bfs (N : Nat) (rt : Nat → Int → Prop) (E : Nat → Nat → Int → Prop) (M : Nat → Int) : Prop := ∃ rk : Nat → Nat, ∀ a, a < N → M a ≠ -2 → rk a < cnt M N ∧ (rt a (M a) ∨ ∃ b, b < N ∧ M b ≠ -2 ∧ rk b < rk a ∧ E b a (M a))
theorem bfs_push {N a : Nat} {rt : Nat → Int → Prop} {E : Nat → Nat → Int → Prop} {M : Nat → Int} {v : Int} (h : bfs N rt E M) (ha : a < N) (hM : M a = -2) (hv : v ≠ -2) (hb : rt a v ∨ ∃ b, b < N ∧ M b ≠ -2 ∧ E b a v) : bfs N rt E (fun j => if j = a then v else M j) := by
  obtain ⟨rk, h⟩ := h
  refine ⟨fun i => if i = a then cnt M N else rk i, fun i hi hm => ?_⟩
  rw [cnt_up hM hv ha]
  dsimp only at hm ⊢
  by_cases e : i = a
  · subst e
    rw [if_pos rfl, if_pos rfl]
    refine ⟨by omega, ?_⟩
    rcases hb with hb | ⟨b, b1, b2, b3⟩
    · exact Or.inl hb
    · have hne : b ≠ i := fun w => b2 (by rw [w]; exact hM)
      refine Or.inr ⟨b, b1, ?_, ?_, b3⟩
      · rw [if_neg hne]; exact b2
      · rw [if_neg hne]; exact (h b b1 b2).1
  · rw [if_neg e] at hm ⊢
    rw [if_neg e]
    obtain ⟨h1, h2⟩ := h i hi hm
    refine ⟨by omega, ?_⟩
    rcases h2 with h2 | ⟨b, b1, b2, b3, b4⟩
    · exact Or.inl h2
    · have hne : b ≠ a := fun w => b2 (by rw [w]; exact hM)
      exact Or.inr ⟨b, b1, by rw [if_neg hne]; exact b2, by rw [if_neg hne]; exact b3, b4⟩
theorem bfs_imp {N : Nat} {rt : Nat → Int → Prop} {E E' : Nat → Nat → Int → Prop} {M : Nat → Int} (h : bfs N rt E M) (hE : ∀ b a v, E b a v → E' b a v) : bfs N rt E' M := by
  obtain ⟨rk, h⟩ := h
  refine ⟨rk, fun a ha hm => ?_⟩
  obtain ⟨h1, h2⟩ := h a ha hm
  refine ⟨h1, ?_⟩
  rcases h2 with h2 | ⟨b, b1, b2, b3, b4⟩
  · exact Or.inl h2
  · exact Or.inr ⟨b, b1, b2, b3, hE _ _ _ b4⟩
def que (N : Nat) (M u : Nat → Int) (m : Nat) : Prop := m = cnt M N ∧ (∀ j, j < m → ∃ a, a < N ∧ u j = (a : Int) ∧ M a ≠ -2) ∧ ∀ a, a < N → M a ≠ -2 → ∃ j, j < m ∧ u j = (a : Int)
theorem que_push {N a m : Nat} {M u : Nat → Int} {v : Int} (h : que N M u m) (ha : a < N) (hM : M a = -2) (hv : v ≠ -2) : que N (fun j => if j = a then v else M j) (fun j => if j = m then (a : Int) else u j) (m + 1) := by
  obtain ⟨h1, h2, h3⟩ := h
  refine ⟨by rw [cnt_up hM hv ha]; omega, fun j hj => ?_, fun i hi hm => ?_⟩
  · by_cases e : j = m
    · exact ⟨a, ha, if_pos e, by dsimp only; rw [if_pos rfl]; exact hv⟩
    · obtain ⟨b, b1, b2, b3⟩ := h2 j (by omega)
      exact ⟨b, b1, (if_neg e).trans b2, by dsimp only; split; exact hv; exact b3⟩
  · by_cases e : i = a
    · exact ⟨m, by omega, by dsimp only; rw [if_pos rfl, e]⟩
    · dsimp only at hm
      rw [if_neg e] at hm
      obtain ⟨j, j1, j2⟩ := h3 i hi hm
      exact ⟨j, by omega, (if_neg (by omega)).trans j2⟩
def prc (N : Nat) (F : Nat → Nat → Prop) (M u : Nat → Int) (k : Nat) : Prop := ∀ j, j < k → ∀ a, a < N → u j = (a : Int) → ∀ b, b < N → F a b → M b ≠ -2
theorem prc_push {N k m a : Nat} {F : Nat → Nat → Prop} {M u : Nat → Int} {v y : Int} (h : prc N F M u k) (hk : k ≤ m) (hv : v ≠ -2) : prc N F (fun j => if j = a then v else M j) (fun j => if j = m then y else u j) k := by
  intro j hj i hi hu b hb hF
  dsimp only at hu ⊢
  rw [if_neg (by omega)] at hu
  split
  · exact hv
  · exact h j hj i hi hu b hb hF
/-! THE CLOTH: of the full layings the greatest, piece by piece, stretch by stretch -/
def bef (q t p s : Nat) : Prop := q < p ∨ (q = p ∧ t < s)
def fl (n S : Nat) (ln : Nat → Int) (c : Nat → Nat → Int) (r : Nat → Int) (x : Nat → Nat → Int) : Prop := lay n S ln c r x ∧ ∀ p, p < n → sm (x p) S = ln p
def lexU (n S : Nat) (ln : Nat → Int) (c : Nat → Nat → Int) (r : Nat → Int) (x : Nat → Nat → Int) (p s : Nat) : Prop := ∀ q t, q < n → t < S → bef q t p s → ∀ y, fl n S ln c r y → (∀ q' t', q' < n → t' < S → bef q' t' q t → y q' t' = x q' t') → y q t ≤ x q t
theorem lexU_un {n S : Nat} {ln : Nat → Int} {c : Nat → Nat → Int} {r : Nat → Int} {x y : Nat → Nat → Int} (hx : fl n S ln c r x) (hy : fl n S ln c r y) (ux : lexU n S ln c r x n 0) (uy : lexU n S ln c r y n 0) : ∀ p, p < n → ∀ s, s < S → x p s = y p s := by
  intro p
  induction p using Nat.strongRecOn with
  | _ p ihp =>
    intro hp s
    induction s using Nat.strongRecOn with
    | _ s ihs =>
      intro hs
      have ag : ∀ q' t', q' < n → t' < S → bef q' t' p s → x q' t' = y q' t' := by
        intro q' t' hq ht hb
        rcases hb with hb | ⟨rfl, hb⟩
        · exact ihp q' hb hq t' ht
        · exact ihs t' hb ht
      have h1 := uy p s hp hs (Or.inl hp) x hx ag
      have h2 := ux p s hp hs (Or.inl hp) y hy (fun q' t' a b c => (ag q' t' a b c).symm)
      omega
theorem lexU_z {n S : Nat} {ln : Nat → Int} {c : Nat → Nat → Int} {r : Nat → Int} {x : Nat → Nat → Int} : lexU n S ln c r x 0 0 := by
  intro q t _ _ hb
  rcases hb with hb | ⟨-, hb⟩ <;> omega
theorem lexU_keep {n S p s : Nat} {ln : Nat → Int} {c : Nat → Nat → Int} {r : Nat → Int} {x x' : Nat → Nat → Int} (h : lexU n S ln c r x p s) (he : ∀ q t, q < n → t < S → bef q t p s → x' q t = x q t) : lexU n S ln c r x' p s := by
  intro q t hq ht hb y hy ha
  rw [he q t hq ht hb]
  refine h q t hq ht hb y hy (fun q' t' a b d => ?_)
  rw [← he q' t' a b (by unfold bef at *; omega)]
  exact ha q' t' a b d
theorem lexU_s {n S p s : Nat} {ln : Nat → Int} {c : Nat → Nat → Int} {r : Nat → Int} {x : Nat → Nat → Int} (h : lexU n S ln c r x p s) (hn : ∀ y, fl n S ln c r y → (∀ q' t', q' < n → t' < S → bef q' t' p s → y q' t' = x q' t') → y p s ≤ x p s) : lexU n S ln c r x p (s + 1) := by
  intro q t hq ht hb y hy ha
  by_cases e : q = p ∧ t = s
  · obtain ⟨rfl, rfl⟩ := e
    exact hn y hy ha
  · exact h q t hq ht (by unfold bef at *; omega) y hy ha
theorem lexU_p {n S p : Nat} {ln : Nat → Int} {c : Nat → Nat → Int} {r : Nat → Int} {x : Nat → Nat → Int} (h : lexU n S ln c r x p S) : lexU n S ln c r x (p + 1) 0 := fun q t hq ht hb => h q t hq ht (by unfold bef at *; omega)
/-- nothing more goes where no way leads out -/
theorem cl_stop {n S p s : Nat} {ln : Nat → Int} {c : Nat → Nat → Int} {r : Nat → Int} {x : Nat → Nat → Int} {P Q : Nat → Bool} (hx : fl n S ln c r x) (hp : p < n) (hs : s < S) (h1 : Q s = true) (h2 : ∀ t, t < S → Q t = true → ∀ q, q < n → P q = false → ¬ bef q t p s → ¬ (q = p ∧ t = s) → x q t = 0) (h3 : ∀ q, q < n → P q = true → ∀ t, t < S → Q t = false → ¬ bef q t p s → x q t = c q t) (h4 : P p = false) (h5 : (∀ t, t < S → Q t = true → sm (fun q => x q t) n = r t) ∨ (∀ t, t < S → Q t = false → sm (fun q => x q t) n = 0)) :
    ∀ y, fl n S ln c r y → (∀ q' t', q' < n → t' < S → bef q' t' p s → y q' t' = x q' t') → y p s ≤ x p s := by
  intro y hy ha
  refine Classical.byContradiction fun hc => ?_
  have split : ∀ (z : Nat → Nat → Int) q, sm (z q) S = sm (fun t => if Q t then z q t else 0) S + sm (fun t => if Q t then 0 else z q t) S := by
    intro z q
    rw [← sm_add]
    refine sm_congr fun t _ => ?_
    cases Q t <;> simp
  have hw : ∀ q, q < n → sm (fun t => if Q t then x q t else 0) S ≤ sm (fun t => if Q t then y q t else 0) S := by
    intro q hq
    by_cases hP : P q = true
    · have e1 := split x q
      have e2 := split y q
      have e3 := hx.2 q hq
      have e4 := hy.2 q hq
      have : sm (fun t => if Q t then 0 else y q t) S ≤ sm (fun t => if Q t then 0 else x q t) S := by
        refine sm_le fun t ht => ?_
        by_cases hQ : Q t = true
        · rw [if_pos hQ, if_pos hQ]; exact Int.le_refl _
        · rw [if_neg hQ, if_neg hQ]
          by_cases hb : bef q t p s
          · rw [ha q t hq ht hb]; exact Int.le_refl _
          · rw [h3 q hq hP t ht (by rw [← Bool.not_eq_true]; exact hQ) hb]
            exact (hy.1.1 q hq t ht).2
      omega
    · refine sm_le fun t ht => ?_
      by_cases hQ : Q t = true
      · rw [if_pos hQ, if_pos hQ]
        by_cases hb : bef q t p s
        · rw [ha q t hq ht hb]; exact Int.le_refl _
        · by_cases e : q = p ∧ t = s
          · rw [e.1, e.2]; omega
          · rw [h2 t ht hQ q hq (by rw [← Bool.not_eq_true]; exact hP) hb e]
            exact (hy.1.1 q hq t ht).1
      · rw [if_neg hQ, if_neg hQ]; exact Int.le_refl _
  have hlt : sm (fun q => sm (fun t => if Q t then x q t else 0) S) n < sm (fun q => sm (fun t => if Q t then y q t else 0) S) n := by
    refine Classical.byContradiction fun hn => ?_
    have e1 := sm_eqs hw (by omega) p hp
    have e2 := sm_eqs (n := S) (f := fun t => if Q t then x p t else 0) (g := fun t => if Q t then y p t else 0) (fun t ht => ?_) (by omega) s hs
    · rw [if_pos h1, if_pos h1] at e2
      omega
    · by_cases hQ : Q t = true
      · rw [if_pos hQ, if_pos hQ]
        by_cases hb : bef p t p s
        · rw [ha p t hp ht hb]; exact Int.le_refl _
        · by_cases e : p = p ∧ t = s
          · rw [e.2]; omega
          · rw [h2 t ht hQ p hp h4 hb e]
            exact (hy.1.1 p hp t ht).1
      · rw [if_neg hQ, if_neg hQ]; exact Int.le_refl _
  have col : ∀ z : Nat → Nat → Int, sm (fun q => sm (fun t => if Q t then z q t else 0) S) n = sm (fun t => if Q t then sm (fun q => z q t) n else 0) S := by
    intro z
    rw [sm_comm (x := fun q t => if Q t then z q t else 0)]
    refine sm_congr fun t _ => ?_
    cases Q t <;> simp [sm_zero]
  rw [col x, col y] at hlt
  rcases h5 with h5 | h5
  · have : sm (fun t => if Q t then sm (fun q => y q t) n else 0) S ≤ sm (fun t => if Q t then sm (fun q => x q t) n else 0) S := by
      refine sm_le fun t ht => ?_
      by_cases hQ : Q t = true
      · rw [if_pos hQ, if_pos hQ, h5 t ht hQ]; exact hy.1.2.2 t ht
      · rw [if_neg hQ, if_neg hQ]; exact Int.le_refl _
    omega
  · have e1 : sm (fun t => if Q t then sm (fun q => x q t) n else 0) S = tot n S x := by
      unfold tot
      rw [sm_comm]
      refine sm_congr fun t ht => ?_
      cases hQ : Q t with
      | true => simp
      | false => rw [h5 t ht hQ]; simp
    have e2 : sm (fun t => if Q t then sm (fun q => y q t) n else 0) S ≤ tot n S y := by
      unfold tot
      rw [sm_comm]
      refine sm_le fun t ht => ?_
      have : 0 ≤ sm (fun q => y q t) n := sm_nn fun q hq => (hy.1.1 q hq t ht).1
      split <;> omega
    have e3 : tot n S x = sm ln n := sm_congr hx.2
    have e4 : tot n S y = sm ln n := sm_congr hy.2
    omega
