/-! a frame's locals and stack, the pure ones and the machine's -/
def pm_FI (i : Nat) (adr : Nat → Nat) (n : Nat) (ls : pm_L) (lsM : Array Slot) (st : List pm_V) : Prop := lsM.size = pm_mL i ∧ lv_wf lsM ∧ (∀ (k : Nat) (v : pm_V), ls[k]? = some (some v) → lsM[k]? = some (.val (pm_tv adr v)) ∧ pm_gv n v) ∧ ∀ v ∈ st, pm_gv n v
theorem pm_FI.push {i n : Nat} {adr : Nat → Nat} {ls : pm_L} {lsM : Array Slot} {st : List pm_V} {v : pm_V} (h : pm_FI i adr n ls lsM st) (hv : pm_gv n v) : pm_FI i adr n ls lsM (v :: st) := ⟨h.1, h.2.1, h.2.2.1, fun w hw => by
  rcases List.mem_cons.mp hw with rfl | hw
  · exact hv
  · exact h.2.2.2 w hw⟩
theorem pm_FI.tail {i n : Nat} {adr : Nat → Nat} {ls : pm_L} {lsM : Array Slot} {st : List pm_V} {v : pm_V} (h : pm_FI i adr n ls lsM (v :: st)) : pm_FI i adr n ls lsM st := ⟨h.1, h.2.1, h.2.2.1, fun w hw => h.2.2.2 w (List.mem_cons_of_mem _ hw)⟩
theorem pm_FI.head {i n : Nat} {adr : Nat → Nat} {ls : pm_L} {lsM : Array Slot} {st : List pm_V} {v : pm_V} (h : pm_FI i adr n ls lsM (v :: st)) : pm_gv n v := h.2.2.2 v List.mem_cons_self
def pm_lv (adr : Nat → Nat) (ls : pm_L) : List (Nat × Value) := (List.range ls.length).filterMap fun k => match ls[k]? with
  | some (some v) => some (k, pm_tv adr v)
  | _ => none
theorem pm_lv_mem {adr : Nat → Nat} {ls : pm_L} {q : Nat × Value} : q ∈ pm_lv adr ls ↔ ∃ v, ls[q.1]? = some (some v) ∧ q.2 = pm_tv adr v := by
  unfold pm_lv
  rw [List.mem_filterMap]
  constructor
  · rintro ⟨k, -, h⟩
    split at h
    · next v e => cases h; exact ⟨v, e, rfl⟩
    · cases h
  · rintro ⟨v, e, h⟩
    refine ⟨q.1, List.mem_range.mpr (List.getElem?_eq_some_iff.mp e).1, ?_⟩
    rw [e]
    obtain ⟨a, b⟩ := q
    cases h
    rfl
theorem pm_FI.has {i n : Nat} {adr : Nat → Nat} {ls : pm_L} {lsM : Array Slot} {st : List pm_V} (h : pm_FI i adr n ls lsM st) : lv_has lsM (pm_mL i) (pm_lv adr ls) := ⟨h.1, h.2.1, fun q hq => by
  obtain ⟨v, e, h2⟩ := pm_lv_mem.mp hq
  rw [h2]
  exact (h.2.2.1 q.1 v e).1⟩
theorem pm_cat {adr : Nat → Nat} {v : pm_V} : (pm_tv adr v).category = 2 ↔ ∃ x, v = .inr (.inl x) := by
  rcases v with x | x | r
  · exact ⟨fun h => (by cases h), fun ⟨_, h⟩ => (by cases h)⟩
  · exact ⟨fun _ => ⟨x, rfl⟩, fun _ => rfl⟩
  · cases r with
    | none => exact ⟨fun h => (by cases h), fun ⟨_, h⟩ => (by cases h)⟩
    | some a => exact ⟨fun h => (by cases h), fun ⟨_, h⟩ => (by cases h)⟩
theorem pm_kl_some {o : Option pm_V} {w : pm_V} (h : pm_kl o = some w) : o = some w ∧ ¬ ∃ x, w = .inr (.inl x) := by
  rcases o with _ | x | x | r
  · cases h
  · cases h; exact ⟨rfl, fun ⟨_, e⟩ => by cases e⟩
  · cases h
  · cases h; exact ⟨rfl, fun ⟨_, e⟩ => by cases e⟩
theorem pm_s1_get {v w : pm_V} : ∀ {ls : pm_L} {k j : Nat}, (pm_s1 ls k v)[j]? = some (some w) → (j = k ∧ w = v) ∨ (j ≠ k ∧ ls[j]? = some (some w) ∧ ¬ (j + 1 = k ∧ ∃ x, w = .inr (.inl x)))
  | [], _, _, h => by cases h
  | o :: t, 0, 0, h => by
    cases h
    exact Or.inl ⟨rfl, rfl⟩
  | o :: t, 0, j + 1, h => Or.inr ⟨by omega, h, fun g => by omega⟩
  | o :: t, 1, 0, h => by
    have h : some (pm_kl o) = some (some w) := h
    obtain ⟨e, g⟩ := pm_kl_some (Option.some.inj h)
    subst e
    exact Or.inr ⟨by omega, rfl, fun q => g q.2⟩
  | o :: t, 1, j + 1, h => by
    have h : (pm_s1 t 0 v)[j]? = some (some w) := h
    rcases pm_s1_get h with ⟨e, g⟩ | ⟨e, g, q⟩
    · exact Or.inl ⟨by omega, g⟩
    · exact Or.inr ⟨by omega, g, fun z => by omega⟩
  | o :: t, k + 2, 0, h => Or.inr ⟨by omega, h, fun z => by omega⟩
  | o :: t, k + 2, j + 1, h => by
    have h : (pm_s1 t (k + 1) v)[j]? = some (some w) := h
    rcases pm_s1_get h with ⟨e, g⟩ | ⟨e, g, q⟩
    · exact Or.inl ⟨by omega, g⟩
    · exact Or.inr ⟨by omega, g, fun z => q ⟨by omega, z.2⟩⟩
theorem pm_s2_get {v w : pm_V} : ∀ {ls : pm_L} {k j : Nat}, (pm_s2 ls k v)[j]? = some (some w) → (j = k ∧ w = v) ∨ (j ≠ k ∧ j ≠ k + 1 ∧ ls[j]? = some (some w) ∧ ¬ (j + 1 = k ∧ ∃ x, w = .inr (.inl x)))
  | [], _, _, h => by cases h
  | [o], 0, _, h => by cases h
  | o :: p :: t, 0, 0, h => by
    cases h
    exact Or.inl ⟨rfl, rfl⟩
  | o :: p :: t, 0, 1, h => by cases h
  | o :: p :: t, 0, j + 2, h => Or.inr ⟨by omega, by omega, h, fun g => by omega⟩
  | o :: t, 1, 0, h => by
    have h : some (pm_kl o) = some (some w) := by cases t <;> exact h
    obtain ⟨e, g⟩ := pm_kl_some (Option.some.inj h)
    subst e
    exact Or.inr ⟨by omega, by omega, rfl, fun q => g q.2⟩
  | o :: t, 1, j + 1, h => by
    have h : (pm_s2 t 0 v)[j]? = some (some w) := by cases t <;> exact h
    rcases pm_s2_get h with ⟨e, g⟩ | ⟨e, e2, g, q⟩
    · exact Or.inl ⟨by omega, g⟩
    · exact Or.inr ⟨by omega, by omega, g, fun z => by omega⟩
  | o :: t, k + 2, 0, h => by
    have h : some o = some (some w) := by cases t <;> exact h
    exact Or.inr ⟨by omega, by omega, h, fun z => by omega⟩
  | o :: t, k + 2, j + 1, h => by
    have h : (pm_s2 t (k + 1) v)[j]? = some (some w) := by cases t <;> exact h
    rcases pm_s2_get h with ⟨e, g⟩ | ⟨e, e2, g, q⟩
    · exact Or.inl ⟨by omega, g⟩
    · exact Or.inr ⟨by omega, by omega, g, fun z => q ⟨by omega, z.2⟩⟩
theorem pm_FI.sto1 {i n k : Nat} {adr : Nat → Nat} {ls : pm_L} {lsM lsM' : Array Slot} {st st' : List pm_V} {v : pm_V} (h : pm_FI i adr n ls lsM st) (hv : pm_gv n v) (hs : ∀ w ∈ st', pm_gv n w)
    (h2 : lv_has lsM' (pm_mL i) ((k, pm_tv adr v) :: (pm_lv adr ls).filter (fun q => !(q.1 == k) && !(q.1 + 1 == k && q.2.category == 2)))) : pm_FI i adr n (pm_s1 ls k v) lsM' st' := by
  refine ⟨h2.1, h2.2.1, fun j w hj => ?_, hs⟩
  rcases pm_s1_get hj with ⟨rfl, rfl⟩ | ⟨e, g, q⟩
  · exact ⟨h2.2.2 (j, pm_tv adr w) List.mem_cons_self, hv⟩
  · refine ⟨h2.2.2 (j, pm_tv adr w) (List.mem_cons_of_mem _ (List.mem_filter.mpr ⟨pm_lv_mem.mpr ⟨w, g, rfl⟩, ?_⟩)), (h.2.2.1 j w g).2⟩
    by_cases e2 : j + 1 = k
    · have hc : ¬ (pm_tv adr w).category = 2 := fun z => q ⟨e2, pm_cat.mp z⟩
      simp [e, hc]
    · simp [e, e2]
theorem pm_FI.sto2 {i n k : Nat} {adr : Nat → Nat} {ls : pm_L} {lsM lsM' : Array Slot} {st st' : List pm_V} {v : pm_V} (h : pm_FI i adr n ls lsM st) (hv : pm_gv n v) (hs : ∀ w ∈ st', pm_gv n w)
    (h2 : lv_has lsM' (pm_mL i) ((k, pm_tv adr v) :: (pm_lv adr ls).filter (fun q => !(q.1 == k) && (!(q.1 == k + 1) && !(q.1 + 1 == k && q.2.category == 2))))) : pm_FI i adr n (pm_s2 ls k v) lsM' st' := by
  refine ⟨h2.1, h2.2.1, fun j w hj => ?_, hs⟩
  rcases pm_s2_get hj with ⟨rfl, rfl⟩ | ⟨e, e3, g, q⟩
  · exact ⟨h2.2.2 (j, pm_tv adr w) List.mem_cons_self, hv⟩
  · refine ⟨h2.2.2 (j, pm_tv adr w) (List.mem_cons_of_mem _ (List.mem_filter.mpr ⟨pm_lv_mem.mpr ⟨w, g, rfl⟩, ?_⟩)), (h.2.2.1 j w g).2⟩
    by_cases e2 : j + 1 = k
    · have hc : ¬ (pm_tv adr w).category = 2 := fun z => q ⟨e2, pm_cat.mp z⟩
      simp [e, e3, hc]
    · simp [e, e2, e3]
/-- another heap, with more cells: the addresses of the old ones stay -/
theorem pm_tv_ext {n : Nat} {adr adr' : Nat → Nat} (ha : ∀ q, q < n → adr' q = adr q) {v : pm_V} (hv : pm_gv n v) : pm_tv adr' v = pm_tv adr v := by
  rcases v with x | x | r
  · rfl
  · rfl
  · cases r with
    | none => rfl
    | some a => show va_rf (some (adr' a)) = va_rf (some (adr a)); rw [ha a hv]
theorem pm_gv_up {n n' : Nat} (hn : n ≤ n') {v : pm_V} (hv : pm_gv n v) : pm_gv n' v := by
  rcases v with x | x | r
  · exact hv
  · exact hv
  · cases r with
    | none => trivial
    | some a => exact Nat.lt_of_lt_of_le hv hn
theorem pm_FI.ext {i n n' : Nat} {adr adr' : Nat → Nat} {ls : pm_L} {lsM : Array Slot} {st : List pm_V} (h : pm_FI i adr n ls lsM st) (hn : n ≤ n') (ha : ∀ q, q < n → adr' q = adr q) : pm_FI i adr' n' ls lsM st :=
  ⟨h.1, h.2.1, fun k v e => ⟨by rw [pm_tv_ext ha (h.2.2.1 k v e).2]; exact (h.2.2.1 k v e).1, pm_gv_up hn (h.2.2.1 k v e).2⟩, fun v hv => pm_gv_up hn (h.2.2.2 v hv)⟩
theorem pm_map_ext {n : Nat} {adr adr' : Nat → Nat} (ha : ∀ q, q < n → adr' q = adr q) {st : List pm_V} (hv : ∀ v ∈ st, pm_gv n v) : st.map (pm_tv adr') = st.map (pm_tv adr) := List.map_congr_left fun v h => pm_tv_ext ha (hv v h)
/-- a method's entry -/
theorem pm_fl_args {adr : Nat → Nat} : ∀ (as : List pm_V) (b k : Nat) (v : pm_V), (pm_fl as)[k]? = some (some v) → (b + k, pm_tv adr v) ∈ lv_args b (as.map (pm_tv adr)) ∧ v ∈ as
  | [], _, _, _, h => by cases h
  | .inl x :: t, b, 0, v, h => by cases h; exact ⟨List.mem_cons_self, List.mem_cons_self⟩
  | .inl x :: t, b, k + 1, v, h => by
    obtain ⟨h1, h2⟩ := pm_fl_args t (b + 1) k v h
    refine ⟨List.mem_cons_of_mem _ ?_, List.mem_cons_of_mem _ h2⟩
    rw [show b + (k + 1) = b + 1 + k by omega]
    exact h1
  | .inr (.inl x) :: t, b, 0, v, h => by cases h; exact ⟨List.mem_cons_self, List.mem_cons_self⟩
  | .inr (.inl x) :: t, b, 1, v, h => by cases h
  | .inr (.inl x) :: t, b, k + 2, v, h => by
    obtain ⟨h1, h2⟩ := pm_fl_args t (b + 2) k v h
    refine ⟨List.mem_cons_of_mem _ ?_, List.mem_cons_of_mem _ h2⟩
    rw [show b + (k + 2) = b + 2 + k by omega]
    exact h1
  | .inr (.inr r) :: t, b, 0, v, h => by cases h; exact ⟨List.mem_cons_self, List.mem_cons_self⟩
  | .inr (.inr r) :: t, b, k + 1, v, h => by
    obtain ⟨h1, h2⟩ := pm_fl_args t (b + 1) k v h
    refine ⟨List.mem_cons_of_mem _ ?_, List.mem_cons_of_mem _ h2⟩
    rw [show b + (k + 1) = b + 1 + k by omega]
    have e : (pm_tv adr (.inr (.inr r))).category ≠ 2 := fun z => by obtain ⟨_, w⟩ := pm_cat.mp z; cases w
    show _ ∈ lv_args (if (pm_tv adr (.inr (.inr r))).category = 2 then b + 2 else b + 1) _
    rw [if_neg e]
    exact h1
theorem pm_ent_get {i : Nat} {as : List pm_V} {k : Nat} {v : pm_V} (h : (pm_ent i as)[k]? = some (some v)) : (pm_fl as)[k]? = some (some v) := by
  unfold pm_ent at h
  by_cases hk : k < (pm_fl as).length
  · rwa [List.getElem?_append_left hk] at h
  · rw [List.getElem?_append_right (by omega)] at h
    obtain ⟨h1, h2⟩ := List.getElem?_eq_some_iff.mp h
    rw [List.getElem_replicate] at h2
    cases h2
