/-! SUMS -/
theorem sm_congr {f g : Nat → Int} : ∀ {n : Nat}, (∀ j, j < n → f j = g j) → sm f n = sm g n
  | 0, _ => rfl
  | n + 1, h => by
    show sm f n + f n = sm g n + g n
    rw [sm_congr (fun j hj => h j (by omega)), h n (by omega)]
theorem sm_le {f g : Nat → Int} : ∀ {n : Nat}, (∀ j, j < n → f j ≤ g j) → sm f n ≤ sm g n
  | 0, _ => Int.le_refl _
  | n + 1, h => by
    have h1 := sm_le (n := n) (fun j hj => h j (by omega))
    have h2 := h n (by omega)
    show sm f n + f n ≤ sm g n + g n
    omega
theorem sm_zero : ∀ {n : Nat}, sm (fun _ => 0) n = 0
  | 0 => rfl
  | n + 1 => by
    show sm (fun _ => 0) n + 0 = 0
    rw [sm_zero]; rfl
theorem sm_nn {f : Nat → Int} {n : Nat} (h : ∀ j, j < n → 0 ≤ f j) : 0 ≤ sm f n := by
  rw [← sm_zero (n := n)]
  exact sm_le h
theorem sm_add {f g : Nat → Int} : ∀ {n : Nat}, sm (fun j => f j + g j) n = sm f n + sm g n
  | 0 => rfl
  | n + 1 => by
    show sm (fun j => f j + g j) n + (f n + g n) = sm f n + f n + (sm g n + g n)
    rw [sm_add]; omega
theorem sm_sub {f g : Nat → Int} : ∀ {n : Nat}, sm (fun j => f j - g j) n = sm f n - sm g n
  | 0 => rfl
  | n + 1 => by
    show sm (fun j => f j - g j) n + (f n - g n) = sm f n + f n - (sm g n + g n)
    rw [sm_sub]; omega
theorem sm_mul {f : Nat → Int} {k : Int} : ∀ {n : Nat}, sm (fun j => f j * k) n = sm f n * k
  | 0 => by show (0 : Int) = 0 * k; omega
  | n + 1 => by
    show sm (fun j => f j * k) n + f n * k = (sm f n + f n) * k
    rw [sm_mul, Int.add_mul]
theorem sm_comm {x : Nat → Nat → Int} {S : Nat} : ∀ {n : Nat}, sm (fun p => sm (fun s => x p s) S) n = sm (fun s => sm (fun p => x p s) n) S
  | 0 => by
    show (0 : Int) = sm (fun s => 0) S
    rw [sm_zero]
  | n + 1 => by
    show sm (fun p => sm (fun s => x p s) S) n + sm (fun s => x n s) S = sm (fun s => sm (fun p => x p s) n + x n s) S
    rw [sm_comm, sm_add]
theorem sm_eqs {f g : Nat → Int} : ∀ {n : Nat}, (∀ j, j < n → f j ≤ g j) → sm g n ≤ sm f n → ∀ j, j < n → f j = g j
  | 0, _, _, j, hj => by omega
  | n + 1, h, hs, j, hj => by
    have h1 := sm_le (n := n) (fun j hj => h j (by omega))
    have h2 := h n (by omega)
    have hs : sm g n + g n ≤ sm f n + f n := hs
    by_cases e : j = n
    · subst e; omega
    · exact sm_eqs (n := n) (fun j hj => h j (by omega)) (by omega) j (by omega)
theorem sm_ge1 {f : Nat → Int} : ∀ {n k : Nat}, (∀ j, j < n → 0 ≤ f j) → k < n → f k ≤ sm f n
  | 0, k, _, h => by omega
  | n + 1, k, h, hk => by
    have h2 := h n (by omega)
    have h3 := sm_nn (n := n) (fun j hj => h j (by omega))
    show f k ≤ sm f n + f n
    by_cases e : k = n
    · subst e; omega
    · have := sm_ge1 (n := n) (k := k) (fun j hj => h j (by omega)) (by omega)
      omega
theorem sm_up1 {f : Nat → Int} {v : Int} : ∀ {n k : Nat}, k < n → sm (fun j => if j = k then f j + v else f j) n = sm f n + v
  | 0, k, h => by omega
  | n + 1, k, hk => by
    show sm (fun j => if j = k then f j + v else f j) n + (if n = k then f n + v else f n) = sm f n + f n + v
    by_cases e : n = k
    · rw [if_pos e, sm_congr (g := f) (fun j hj => if_neg (by omega))]; omega
    · rw [if_neg e, sm_up1 (by omega)]; omega
/-! LAYINGS: n pieces, S stretches, lengths ln, what a piece takes in a stretch c, a stretch's room r -/
def lay (n S : Nat) (ln : Nat → Int) (c : Nat → Nat → Int) (r : Nat → Int) (x : Nat → Nat → Int) : Prop := (∀ p, p < n → ∀ s, s < S → 0 ≤ x p s ∧ x p s ≤ c p s) ∧ (∀ p, p < n → sm (x p) S ≤ ln p) ∧ ∀ s, s < S → sm (fun p => x p s) n ≤ r s
def tot (n S : Nat) (x : Nat → Nat → Int) : Int := sm (fun p => sm (x p) S) n
/-- no way leads out of P, Q -/
def cls (n S : Nat) (ln : Nat → Int) (c x : Nat → Nat → Int) (P Q : Nat → Bool) : Prop := (∀ p, p < n → sm (x p) S < ln p → P p = true) ∧ (∀ p, p < n → P p = true → ∀ s, s < S → x p s < c p s → Q s = true) ∧ ∀ s, s < S → Q s = true → ∀ p, p < n → 0 < x p s → P p = true
def cutA (ln : Nat → Int) (P : Nat → Bool) (p : Nat) : Int := if P p then 0 else ln p
def cutB (n : Nat) (c : Nat → Nat → Int) (r : Nat → Int) (P Q : Nat → Bool) (s : Nat) : Int := if Q s then r s else sm (fun p => if P p then c p s else 0) n
theorem tot_split {n S : Nat} {x : Nat → Nat → Int} (P : Nat → Bool) : tot n S x = sm (fun p => if P p then 0 else sm (x p) S) n + sm (fun s => sm (fun p => if P p then x p s else 0) n) S := by
  unfold tot
  rw [← sm_comm (x := fun p s => if P p then x p s else 0), ← sm_add]
  refine sm_congr fun p _ => ?_
  cases P p with
  | true => simp
  | false => simp [sm_zero]
theorem cut_le {n S : Nat} {ln : Nat → Int} {c : Nat → Nat → Int} {r : Nat → Int} {y : Nat → Nat → Int} (P Q : Nat → Bool) (hy : lay n S ln c r y) : (∀ p, p < n → (if P p then 0 else sm (y p) S) ≤ cutA ln P p) ∧ ∀ s, s < S → sm (fun p => if P p then y p s else 0) n ≤ cutB n c r P Q s := by
  refine ⟨fun p hp => ?_, fun s hs => ?_⟩
  · unfold cutA
    have := hy.2.1 p hp
    split <;> omega
  · unfold cutB
    by_cases hq : Q s = true
    · rw [if_pos hq]
      refine Int.le_trans (sm_le fun p hp => ?_) (hy.2.2 s hs)
      have := (hy.1 p hp s hs).1
      split <;> omega
    · rw [if_neg hq]
      refine sm_le fun p hp => ?_
      have := (hy.1 p hp s hs).2
      split <;> omega
theorem cut_tot {n S : Nat} {ln : Nat → Int} {c : Nat → Nat → Int} {r : Nat → Int} {x : Nat → Nat → Int} {P Q : Nat → Bool} (hx : lay n S ln c r x) (hc : cls n S ln c x P Q) (hr : ∀ s, s < S → Q s = true → sm (fun p => x p s) n = r s) : tot n S x = sm (cutA ln P) n + sm (cutB n c r P Q) S := by
  rw [tot_split P]
  have hB : sm (fun s => sm (fun p => if P p then x p s else 0) n) S = sm (cutB n c r P Q) S := by
    refine sm_congr fun s hs => ?_
    unfold cutB
    by_cases hq : Q s = true
    · rw [if_pos hq, ← hr s hs hq]
      refine sm_congr fun p hp => ?_
      by_cases h : P p = true
      · rw [if_pos h]
      · rw [if_neg h]
        have h1 := (hx.1 p hp s hs).1
        have h2 : ¬ 0 < x p s := fun w => h (hc.2.2 s hs hq p hp w)
        omega
    · rw [if_neg hq]
      refine sm_congr fun p hp => ?_
      by_cases h : P p = true
      · rw [if_pos h, if_pos h]
        have h1 := (hx.1 p hp s hs).2
        have h2 : ¬ x p s < c p s := fun w => hq (hc.2.1 p hp h s hs w)
        omega
      · rw [if_neg h, if_neg h]
  have hA : sm (fun p => if P p then 0 else sm (x p) S) n = sm (cutA ln P) n := by
    refine sm_congr fun p hp => ?_
    unfold cutA
    by_cases h : P p = true
    · rw [if_pos h, if_pos h]
    · rw [if_neg h, if_neg h]
      have h1 := hx.2.1 p hp
      have h2 : ¬ sm (x p) S < ln p := fun w => h (hc.1 p hp w)
      omega
  rw [hA, hB]
theorem cut_max {n S : Nat} {ln : Nat → Int} {c : Nat → Nat → Int} {r : Nat → Int} {x y : Nat → Nat → Int} {P Q : Nat → Bool} (hx : lay n S ln c r x) (hc : cls n S ln c x P Q) (hr : ∀ s, s < S → Q s = true → sm (fun p => x p s) n = r s) (hy : lay n S ln c r y) : tot n S y ≤ tot n S x := by
  rw [cut_tot hx hc hr, tot_split P]
  obtain ⟨h1, h2⟩ := cut_le P Q hy
  have := sm_le h1
  have := sm_le h2
  have e1 : sm (fun j => cutA ln P j) n = sm (cutA ln P) n := rfl
  have e2 : sm (fun j => cutB n c r P Q j) S = sm (cutB n c r P Q) S := rfl
  omega
theorem cut_same {n S : Nat} {ln : Nat → Int} {c : Nat → Nat → Int} {r : Nat → Int} {x y : Nat → Nat → Int} {P Q : Nat → Bool} (hx : lay n S ln c r x) (hc : cls n S ln c x P Q) (hr : ∀ s, s < S → Q s = true → sm (fun p => x p s) n = r s) (hy : lay n S ln c r y) (ht : tot n S y = tot n S x) : cls n S ln c y P Q ∧ ∀ s, s < S → Q s = true → sm (fun p => y p s) n = r s := by
  rw [cut_tot hx hc hr, tot_split P] at ht
  obtain ⟨h1, h2⟩ := cut_le P Q hy
  have g1 := sm_le h1
  have g2 := sm_le h2
  have t1 := sm_eqs h1 (by show sm (cutA ln P) n ≤ _; have e2 : sm (fun j => cutB n c r P Q j) S = sm (cutB n c r P Q) S := rfl; omega)
  have t2 := sm_eqs h2 (by show sm (cutB n c r P Q) S ≤ _; have e2 : sm (fun j => cutA ln P j) n = sm (cutA ln P) n := rfl; omega)
  have q1 : ∀ s, s < S → Q s = true → ∀ p, p < n → (if P p then y p s else 0) = y p s := by
    intro s hs hq
    have a := t2 s hs
    unfold cutB at a
    rw [if_pos hq] at a
    refine sm_eqs (fun p hp => ?_) ?_
    · have := (hy.1 p hp s hs).1
      split <;> omega
    · have := hy.2.2 s hs
      omega
  refine ⟨⟨fun p hp hl => ?_, fun p hp hP s hs hl => ?_, fun s hs hq p hp hl => ?_⟩, fun s hs hq => ?_⟩
  · refine Classical.byContradiction fun w => ?_
    have a := t1 p hp
    unfold cutA at a
    rw [if_neg w, if_neg w] at a
    omega
  · refine Classical.byContradiction fun w => ?_
    have a := t2 s hs
    unfold cutB at a
    rw [if_neg w] at a
    have b := sm_eqs (fun p hp => (show (if P p then y p s else 0) ≤ (if P p then c p s else 0) by
      have := (hy.1 p hp s hs).2
      split <;> omega)) (by omega) p hp
    rw [if_pos hP, if_pos hP] at b
    omega
  · refine Classical.byContradiction fun w => ?_
    have := q1 s hs hq p hp
    rw [if_neg w] at this
    omega
  · have a := t2 s hs
    unfold cutB at a
    rw [if_pos hq] at a
    rw [← a]
    exact sm_congr fun p hp => (q1 s hs hq p hp).symm
/-- a laying of the most, with what a last search reaches -/
def mxf (n S : Nat) (ln : Nat → Int) (c : Nat → Nat → Int) (r : Nat → Int) (x : Nat → Nat → Int) (P Q : Nat → Bool) : Prop := lay n S ln c r x ∧ cls n S ln c x P Q ∧ (∀ s, s < S → Q s = true → sm (fun p => x p s) n = r s) ∧ ∀ P' Q', cls n S ln c x P' Q' → (∀ p, p < n → P p = true → P' p = true) ∧ ∀ s, s < S → Q s = true → Q' s = true
theorem mxf_tot {n S : Nat} {ln : Nat → Int} {c : Nat → Nat → Int} {r : Nat → Int} {x y : Nat → Nat → Int} {P Q P' Q' : Nat → Bool} (hx : mxf n S ln c r x P Q) (hy : mxf n S ln c r y P' Q') : tot n S x = tot n S y := Int.le_antisymm (cut_max hy.1 hy.2.1 hy.2.2.1 hx.1) (cut_max hx.1 hx.2.1 hx.2.2.1 hy.1)
theorem mxf_sets {n S : Nat} {ln : Nat → Int} {c : Nat → Nat → Int} {r : Nat → Int} {x y : Nat → Nat → Int} {P Q P' Q' : Nat → Bool} (hx : mxf n S ln c r x P Q) (hy : mxf n S ln c r y P' Q') : (∀ p, p < n → P p = P' p) ∧ ∀ s, s < S → Q s = Q' s := by
  have ht := mxf_tot hx hy
  have h1 := hx.2.2.2 P' Q' (cut_same hy.1 hy.2.1 hy.2.2.1 hx.1 ht).1
  have h2 := hy.2.2.2 P Q (cut_same hx.1 hx.2.1 hx.2.2.1 hy.1 ht.symm).1
  refine ⟨fun p hp => ?_, fun s hs => ?_⟩
  · exact Bool.eq_iff_iff.mpr ⟨h1.1 p hp, h2.1 p hp⟩
  · exact Bool.eq_iff_iff.mpr ⟨h1.2 s hs, h2.2 s hs⟩
/-! Hall: what pieces ask, and what their stretches hold -/
def lnP (n : Nat) (ln : Nat → Int) (P : Nat → Bool) : Int := sm (fun p => if P p then ln p else 0) n
def cpP (n S : Nat) (c : Nat → Nat → Int) (r : Nat → Int) (P : Nat → Bool) : Int := sm (fun s => min (r s) (sm (fun p => if P p then c p s else 0) n)) S
theorem hall_le {n S : Nat} {ln : Nat → Int} {c : Nat → Nat → Int} {r : Nat → Int} {x : Nat → Nat → Int} (hx : lay n S ln c r x) (P : Nat → Bool) : lnP n ln P - cpP n S c r P ≤ sm ln n - tot n S x := by
  have h2 : sm (fun s => sm (fun p => if P p then x p s else 0) n) S ≤ cpP n S c r P := by
    refine sm_le fun s hs => ?_
    have a1 := (cut_le P (fun _ => true) hx).2 s hs
    have a2 := (cut_le P (fun _ => false) hx).2 s hs
    unfold cutB at a1 a2
    simp only [if_true, Bool.false_eq_true, if_false] at a1 a2
    omega
  have h3 : lnP n ln P + sm (cutA ln P) n = sm ln n := by
    unfold lnP cutA
    rw [← sm_add]
    refine sm_congr fun p _ => ?_
    split <;> omega
  have h1 := sm_le (cut_le P (fun _ => true) hx).1
  have e2 : sm (fun j => cutA ln P j) n = sm (cutA ln P) n := rfl
  have h4 := tot_split (n := n) (S := S) (x := x) P
  omega
theorem hall_min {n S : Nat} {ln : Nat → Int} {c : Nat → Nat → Int} {r : Nat → Int} {x : Nat → Nat → Int} {P Q : Nat → Bool} (hx : mxf n S ln c r x P Q) : ∀ s, s < S → cutB n c r P Q s = min (r s) (sm (fun p => if P p then c p s else 0) n) := by
  obtain ⟨h1, h2, h3, -⟩ := hx
  intro s hs
  unfold cutB
  by_cases hq : Q s = true
  · rw [if_pos hq]
    have : r s ≤ sm (fun p => if P p then c p s else 0) n := by
      rw [← h3 s hs hq]
      refine sm_le fun p hp => ?_
      have a1 := h1.1 p hp s hs
      by_cases h : P p = true
      · rw [if_pos h]; omega
      · rw [if_neg h]
        have h2 : ¬ 0 < x p s := fun w => h (h2.2.2 s hs hq p hp w)
        omega
    omega
  · rw [if_neg hq]
    have : sm (fun p => if P p then c p s else 0) n ≤ r s := by
      refine Int.le_trans (sm_le fun p hp => ?_) (h1.2.2 s hs)
      have a1 := h1.1 p hp s hs
      by_cases h : P p = true
      · rw [if_pos h]
        have h2 : ¬ x p s < c p s := fun w => hq (h2.2.1 p hp h s hs w)
        omega
      · rw [if_neg h]; omega
    omega
theorem hall_eq {n S : Nat} {ln : Nat → Int} {c : Nat → Nat → Int} {r : Nat → Int} {x : Nat → Nat → Int} {P Q : Nat → Bool} (hx : mxf n S ln c r x P Q) : lnP n ln P - cpP n S c r P = sm ln n - tot n S x := by
  rw [cut_tot hx.1 hx.2.1 hx.2.2.1]
  have e : sm (cutB n c r P Q) S = cpP n S c r P := sm_congr (hall_min hx)
  have h3 : lnP n ln P + sm (cutA ln P) n = sm ln n := by
    unfold lnP cutA
    rw [← sm_add]
    refine sm_congr fun p _ => ?_
    split <;> omega
  omega
theorem lay_tot {n S : Nat} {ln : Nat → Int} {c : Nat → Nat → Int} {r : Nat → Int} {x : Nat → Nat → Int} (hx : lay n S ln c r x) : 0 ≤ tot n S x ∧ tot n S x ≤ sm ln n := ⟨sm_nn fun p hp => sm_nn fun s hs => (hx.1 p hp s hs).1, sm_le hx.2.1⟩
/-! A WAY and what is moved along it -/
def upx (x : Nat → Nat → Int) (p s : Nat) (v : Int) : Nat → Nat → Int := fun q t => if q = p ∧ t = s then x q t + v else x q t
theorem upx_eq {x : Nat → Nat → Int} {p s : Nat} {v : Int} : upx x p s v p s = x p s + v := if_pos ⟨rfl, rfl⟩
theorem upx_ne {x : Nat → Nat → Int} {p s q t : Nat} {v : Int} (h : ¬ (q = p ∧ t = s)) : upx x p s v q t = x q t := if_neg h
theorem upx_row {x : Nat → Nat → Int} {p s q S : Nat} {v : Int} (hs : s < S) : sm (upx x p s v q) S = sm (x q) S + if q = p then v else 0 := by
  by_cases h : q = p
  · rw [if_pos h, ← sm_up1 hs]
    refine sm_congr fun t _ => ?_
    unfold upx
    by_cases e : t = s
    · rw [if_pos ⟨h, e⟩, if_pos e]
    · rw [if_neg (fun w => e w.2), if_neg e]
  · rw [if_neg h, Int.add_zero]
    exact sm_congr fun t _ => upx_ne (fun w => h w.1)
theorem upx_col {x : Nat → Nat → Int} {p s t n : Nat} {v : Int} (hp : p < n) : sm (fun q => upx x p s v q t) n = sm (fun q => x q t) n + if t = s then v else 0 := by
  by_cases h : t = s
  · rw [if_pos h, ← sm_up1 hp]
    refine sm_congr fun q _ => ?_
    unfold upx
    by_cases e : q = p
    · rw [if_pos ⟨e, h⟩, if_pos e]
    · rw [if_neg (fun w => e w.1), if_neg e]
  · rw [if_neg h, Int.add_zero]
    exact sm_congr fun q _ => upx_ne (fun w => h w.2)
/-- a search's tree: f the stretch a piece came from (-1 begins, -2 not reached), g the piece a stretch came from -/
def tre (n S : Nat) (c x : Nat → Nat → Int) (st : Nat → Prop) (f g : Nat → Int) (rp rs : Nat → Nat) : Prop := (∀ p, p < n → f p ≠ -2 → (f p = -1 ∧ st p) ∨ ∃ s, s < S ∧ f p = (s : Int) ∧ g s ≠ -2 ∧ 0 < x p s ∧ rs s < rp p) ∧ ∀ s, s < S → g s ≠ -2 → ∃ p, p < n ∧ g s = (p : Int) ∧ f p ≠ -2 ∧ x p s < c p s ∧ rp p < rs s
def augF (f g : Nat → Int) (v : Int) : Nat → Nat → (Nat → Nat → Int) → Nat → Nat → Int
  | 0, _, x => x
  | k + 1, s, x => if f (g s).toNat < 0 then upx x (g s).toNat s v else augF f g v k (f (g s).toNat).toNat (upx (upx x (g s).toNat s v) (g s).toNat (f (g s).toNat).toNat (-v))
def srcF (f g : Nat → Int) : Nat → Nat → Nat
  | 0, s => (g s).toNat
  | k + 1, s => if f (g s).toNat < 0 then (g s).toNat else srcF f g k (f (g s).toNat).toNat
def resF (f g : Nat → Int) (c x : Nat → Nat → Int) (v : Int) : Nat → Nat → Prop
  | 0, _ => True
  | k + 1, s => v ≤ c (g s).toNat s - x (g s).toNat s ∧ (0 ≤ f (g s).toNat → v ≤ x (g s).toNat (f (g s).toNat).toNat ∧ resF f g c x v k (f (g s).toNat).toNat)
theorem src_ok {n S : Nat} {c x : Nat → Nat → Int} {st : Nat → Prop} {f g : Nat → Int} {rp rs : Nat → Nat} (ht : tre n S c x st f g rp rs) : ∀ (k s : Nat), s < S → g s ≠ -2 → rs s < k → srcF f g k s < n ∧ f (srcF f g k s) = -1 ∧ st (srcF f g k s)
  | 0, _, _, _, h => by omega
  | k + 1, s, hs, hg, hk => by
    obtain ⟨p, hp, e1, hf, hl, hr⟩ := ht.2 s hs hg
    have e2 : (g s).toNat = p := by omega
    unfold srcF
    rw [e2]
    rcases ht.1 p hp hf with ⟨h1, h2⟩ | ⟨t, h1, h2, h3, h4, h5⟩
    · rw [if_pos (by omega)]
      exact ⟨hp, h1, h2⟩
    · rw [if_neg (by omega), show (f p).toNat = t by omega]
      exact src_ok ht k t h1 h3 (by omega)
theorem aug_ok {n S : Nat} {c x0 : Nat → Nat → Int} {st : Nat → Prop} {f g : Nat → Int} {rp rs : Nat → Nat} {v : Int} (hv : 0 ≤ v) (ht : tre n S c x0 st f g rp rs) : ∀ (k s : Nat) (x : Nat → Nat → Int), s < S → g s ≠ -2 → rs s < k → resF f g c x0 v k s → (∀ q t, rp q < rs s ∨ rs t < rs s → x q t = x0 q t) → (∀ p, p < n → ∀ s, s < S → 0 ≤ x p s ∧ x p s ≤ c p s) →
    (∀ p, p < n → ∀ t, t < S → 0 ≤ augF f g v k s x p t ∧ augF f g v k s x p t ≤ c p t) ∧ (∀ q, sm (augF f g v k s x q) S = sm (x q) S + if q = srcF f g k s then v else 0) ∧ (∀ t, sm (fun q => augF f g v k s x q t) n = sm (fun q => x q t) n + if t = s then v else 0)
  | 0, _, _, _, _, h, _, _, _ => by omega
  | k + 1, s, x, hs, hg, hk, hres, hun, hb => by
    obtain ⟨p, hp, e1, hf, hl, hr⟩ := ht.2 s hs hg
    have e2 : (g s).toNat = p := by omega
    unfold resF at hres
    rw [e2] at hres
    have b1 : ∀ q, q < n → ∀ t, t < S → 0 ≤ upx x p s v q t ∧ upx x p s v q t ≤ c q t := by
      intro q hq t ht2
      have := hb q hq t ht2
      by_cases e : q = p ∧ t = s
      · obtain ⟨rfl, rfl⟩ := e
        rw [upx_eq]
        have := hun q t (Or.inl hr)
        omega
      · rw [upx_ne e]; exact this
    unfold augF srcF
    rw [e2]
    rcases ht.1 p hp hf with ⟨h1, h2⟩ | ⟨t, h1, h2, h3, h4, h5⟩
    · rw [if_pos (by omega), if_pos (by omega)]
      exact ⟨b1, fun q => upx_row hs, fun t => upx_col hp⟩
    · have e3 : (f p).toNat = t := by omega
      rw [if_neg (by omega), if_neg (by omega), e3]
      rw [e3] at hres
      obtain ⟨hv2, hres2⟩ := hres.2 (by omega)
      have hst : t ≠ s := fun w => by subst w; omega
      have hpt : x p t = x0 p t := hun p t (Or.inl hr)
      have hA : ∀ q u, rp q < rs t ∨ rs u < rs t → upx (upx x p s v) p t (-v) q u = x0 q u := by
        intro q u hqu
        have n1 : ¬ (q = p ∧ u = t) := by rintro ⟨rfl, rfl⟩; omega
        have n2 : ¬ (q = p ∧ u = s) := by rintro ⟨rfl, rfl⟩; omega
        rw [upx_ne n1, upx_ne n2]
        exact hun q u (by omega)
      have hB : ∀ q, q < n → ∀ u, u < S → 0 ≤ upx (upx x p s v) p t (-v) q u ∧ upx (upx x p s v) p t (-v) q u ≤ c q u := by
        intro q hq u hu
        have := b1 q hq u hu
        by_cases e : q = p ∧ u = t
        · obtain ⟨rfl, rfl⟩ := e
          rw [upx_eq, upx_ne (fun w => hst w.2)]
          have := hb q hq u hu
          omega
        · rw [upx_ne e]; exact this
      obtain ⟨i1, i2, i3⟩ := aug_ok hv ht k t (upx (upx x p s v) p t (-v)) h1 h3 (by omega) hres2 hA hB
      refine ⟨i1, fun q => ?_, fun u => ?_⟩
      · rw [i2, upx_row h1, upx_row hs]
        split <;> omega
      · rw [i3, upx_col hp, upx_col hp]
        split <;> omega
theorem lay_aug {n S : Nat} {ln : Nat → Int} {c : Nat → Nat → Int} {r : Nat → Int} {x : Nat → Nat → Int} {st : Nat → Prop} {f g : Nat → Int} {rp rs : Nat → Nat} {v : Int} {k e : Nat} (hv : 0 ≤ v) (ht : tre n S c x st f g rp rs) (hx : lay n S ln c r x) (he : e < S) (hg : g e ≠ -2) (hk : rs e < k) (hres : resF f g c x v k e) (h1 : sm (x (srcF f g k e)) S + v ≤ ln (srcF f g k e)) (h2 : sm (fun q => x q e) n + v ≤ r e) : lay n S ln c r (augF f g v k e x) ∧ tot n S (augF f g v k e x) = tot n S x + v := by
  obtain ⟨i1, i2, i3⟩ := aug_ok hv ht k e x he hg hk hres (fun _ _ _ => rfl) hx.1
  have hs := src_ok ht k e he hg hk
  refine ⟨⟨i1, fun p hp => ?_, fun s hs => ?_⟩, ?_⟩
  · rw [i2]
    have := hx.2.1 p hp
    split
    · next w => rw [w]; exact h1
    · omega
  · rw [i3]
    have := hx.2.2 s hs
    split
    · next w => rw [w]; exact h2
    · omega
  · unfold tot
    rw [← sm_up1 hs.1]
    refine sm_congr fun p _ => ?_
    rw [i2]
    split <;> omega
