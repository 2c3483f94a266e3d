/-! ONE STEP OF THE PURE MACHINE IS ONE OF THE STATEMENT'S MACHINE -/
def pm_A (s : State) (aC : Nat → ClassId) (a0 : Nat → Nat) (h0 : pm_H) : Nat → Prop := va_A (pm_ws aC a0 h0) s.heap.size
def pm_Qc (D : va_G) (aC : Nat → ClassId) (a0 : Nat → Nat) (h0 : pm_H) (r9 : Option pm_V) (h9 : pm_H) (A : Nat → Prop) : Array Value → State → Outcome → State → Prop := fun _ st oc t => (∃ adr : Nat → Nat, (∀ q, q < h0.2.2.length → adr q = a0 q) ∧ oc = .returned (r9.map (pm_tv adr)) ∧ va_P D pm_cl (pm_ws aC adr h9) t.heap ∧ va_D A (pm_ws aC adr h9) ∧ pm_GH h9 ∧ ∀ v, r9 = some v → pm_gv h9.2.2.length v) ∧ va_F A st t
def pm_rm (d : Nat) (h0 h9 : pm_H) : Room := { frames := d, cells := h9.2.2.length - h0.2.2.length, slots := pm_tot h9 - pm_tot h0, locals := 60 * d }
def pm_Cx (p : Program) (s : State) (m : MethodId) (args : Array Value) (meth : Method) (c : Code) (R : Room) (D : va_G) (aC : Nat → ClassId) (i d : Nat) (h0 h9 : pm_H) : Prop :=
  p.tables.exec = Jvm.exec ∧ c.code = pm_b i ∧ c.maxLocals = pm_mL i ∧ meth.sig.returnType = pm_rt i ∧ s.vm.findClass (pm_cn (pm_ow i)) = some m.cls ∧ (∀ w ∈ pm_W, w.before args s = true) ∧ pm_KK D aC s ∧ meth.locks = false ∧ meth.name = (pm_y i).name ∧ R = pm_rm (d + 1) h0 h9 ∧ i < 172
def pm_HI (s : State) (D : va_G) (aC : Nat → ClassId) (a0 : Nat → Nat) (h0 : pm_H) (adr : Nat → Nat) (h : pm_H) (H : Heap) (locs : List Loc) (cells slots : Nat) : Prop :=
  va_P D pm_cl (pm_ws aC adr h) H ∧ va_D (pm_A s aC a0 h0) (pm_ws aC adr h) ∧ va_S (pm_A s aC a0 h0) s.heap H locs ∧ pm_GH h ∧ (∀ q, q < h0.2.2.length → adr q = a0 q) ∧ h0.2.2.length + cells = h.2.2.length ∧ pm_tot h0 + slots = pm_tot h
abbrev pm_Wg (p : Program) (l : Launch) (e : Env) (R : Room) (s : State) (m : MethodId) (args : Array Value) (below : List Frame) (meth : Method) (c : Code) (D : va_G) (aC : Nat → ClassId) (h0 h9 : pm_H) (a0 : Nat → Nat) (r9 : Option pm_V) (pc : Nat) (adr : Nat → Nat) (H : Heap) (locs : List Loc) (lsM : Array Slot) (st : List pm_V) (cells slots : Nat) : Prop :=
  W p l e R s m args below meth c H locs cells slots (MQ below (pm_Qc D aC a0 h0 r9 h9 (pm_A s aC a0 h0)) args s (h9.2.2.length - h0.2.2.length) (pm_tot h9 - pm_tot h0) (pm_A s aC a0 h0)) (F0 m pc lsM (st.map (pm_tv adr)))
def pm_Go (p : Program) (l : Launch) (e : Env) (R : Room) (s : State) (m : MethodId) (args : Array Value) (below : List Frame) (meth : Method) (c : Code) (D : va_G) (aC : Nat → ClassId) (i d : Nat) (h0 h9 : pm_H) (a0 : Nat → Nat) (r9 : Option pm_V) (n : Nat) : Prop :=
  ∀ (pc : Nat) (ls : pm_L) (st : List pm_V) (h : pm_H) (adr : Nat → Nat) (H : Heap) (locs : List Loc) (lsM : Array Slot) (cells slots : Nat), pm_lp (pm_ev d) i n pc ls st h r9 h9 → pm_HI s D aC a0 h0 adr h H locs cells slots → pm_FI i adr h.2.2.length ls lsM st → pm_Wg p l e R s m args below meth c D aC h0 h9 a0 r9 pc adr H locs lsM st cells slots
theorem pm_b8 {v : Int} (h1 : -128 ≤ v) (h2 : v ≤ 127) : (Int8.ofInt v).toInt32 = Int32.ofInt v := by
  apply Int32.toInt_inj.mp
  rw [Int8.toInt_toInt32, Int8.toInt_ofInt_of_le (by omega) (by omega), pm_t32 (by unfold pm_I32; omega)]
theorem pm_b16 {v : Int} (h1 : -32768 ≤ v) (h2 : v ≤ 32767) : (Int16.ofInt v).toInt32 = Int32.ofInt v := by
  apply Int32.toInt_inj.mp
  rw [Int16.toInt_toInt32, Int16.toInt_ofInt_of_le (by omega) (by omega), pm_t32 (by unfold pm_I32; omega)]
theorem pm_cat1 {adr : Nat → Nat} {x : Option Nat} : (pm_tv adr (.inr (.inr x))).category = 1 := by cases x <;> rfl
theorem pm_le0 {x : Int} (hx : pm_I32 x) : ((0 : Int32) ≤ Int32.ofInt x) ↔ 0 ≤ x := pm_le32 pm_00 hx
theorem pm_lt0 {x : Int} (hx : pm_I32 x) : ((0 : Int32) < Int32.ofInt x) ↔ 0 < x := pm_lt32 pm_00 hx
theorem pm_le0' {x : Int} (hx : pm_I32 x) : (Int32.ofInt x ≤ 0) ↔ x ≤ 0 := pm_le32 hx pm_00
theorem pm_lt0' {x : Int} (hx : pm_I32 x) : (Int32.ofInt x < 0) ↔ x < 0 := pm_lt32 hx pm_00
theorem pm_eq0 {x : Int} (hx : pm_I32 x) : (Int32.ofInt x = 0) ↔ x = 0 := pm_eq32 hx pm_00
theorem pm_eq0l {x : Int} (hx : pm_I64 x) : (Int64.ofInt x = 0) ↔ x = 0 := pm_eq64 (y := 0) hx (by unfold pm_I64; decide)
section
variable {p : Program} {l : Launch} {e : Env} {R : Room} {s : State} {m : MethodId} {args : Array Value} {below : List Frame} {meth : Method} {c : Code} {D : va_G} {aC : Nat → ClassId} {i d : Nat} {h0 h9 : pm_H} {a0 : Nat → Nat} {r9 : Option pm_V} {n pc k : Nat} {ls : pm_L} {st : List pm_V} {h : pm_H} {adr : Nat → Nat} {H : Heap} {locs : List Loc} {lsM : Array Slot} {cells slots : Nat}
theorem pz_iconst {v : Int} (X : pm_Cx p s m args meth c R D aC i d h0 h9) (ih : pm_Go p l e R s m args below meth c D aC i d h0 h9 a0 r9 n) (hH : pm_HI s D aC a0 h0 adr h H locs cells slots) (hF : pm_FI i adr h.2.2.length ls lsM st) (hd : decode (pm_b i) pc = .ok (.iconst v, k)) (hk : pm_lk (.iconst v) k pc = true) (q : ∃ nx : pm_N, pm_s i (.iconst v) k pc ls st h = some nx ∧ pm_lp (pm_ev d) i n nx.1 nx.2.1 nx.2.2.1 nx.2.2.2 r9 h9) : pm_Wg p l e R s m args below meth c D aC h0 h9 a0 r9 pc adr H locs lsM st cells slots := by
  obtain ⟨hx, hb, hml, hr, hown, hts, hKK, hlk, hnm, hR, hi⟩ := X
  have ek : k = 1 := by simpa [pm_lk, pm_ln] using hk
  subst ek
  simp only [pm_s, pm_oi_iff, pm_ol_iff, pm_oq_iff, pm_or_iff, pm_oli_iff, pm_oll_iff, pm_olq_iff, pm_if_iff, pm_br_iff, pm_some_iff] at q
  refine lv_iconst (v := Int32.ofInt v) hx hb hd rfl ?_
  exact ih _ _ _ _ _ _ _ _ _ _ q.2 hH (hF.push q.1)
theorem pz_bipush {v : Int} (X : pm_Cx p s m args meth c R D aC i d h0 h9) (ih : pm_Go p l e R s m args below meth c D aC i d h0 h9 a0 r9 n) (hH : pm_HI s D aC a0 h0 adr h H locs cells slots) (hF : pm_FI i adr h.2.2.length ls lsM st) (hd : decode (pm_b i) pc = .ok (.bipush v, k)) (hk : pm_lk (.bipush v) k pc = true) (q : ∃ nx : pm_N, pm_s i (.bipush v) k pc ls st h = some nx ∧ pm_lp (pm_ev d) i n nx.1 nx.2.1 nx.2.2.1 nx.2.2.2 r9 h9) : pm_Wg p l e R s m args below meth c D aC h0 h9 a0 r9 pc adr H locs lsM st cells slots := by
  obtain ⟨hx, hb, hml, hr, hown, hts, hKK, hlk, hnm, hR, hi⟩ := X
  have ek : k = 2 := by simpa [pm_lk, pm_ln] using hk
  subst ek
  simp only [pm_s, pm_oi_iff, pm_ol_iff, pm_oq_iff, pm_or_iff, pm_oli_iff, pm_oll_iff, pm_olq_iff, pm_if_iff, pm_br_iff, pm_some_iff] at q
  refine lv_bipush (v := Int32.ofInt v) hx hb hd (pm_b8 q.1.1 q.1.2) ?_
  exact ih _ _ _ _ _ _ _ _ _ _ q.2 hH (hF.push (v := .inl v) (show pm_I32 v by unfold pm_I32; omega))
theorem pz_sipush {v : Int} (X : pm_Cx p s m args meth c R D aC i d h0 h9) (ih : pm_Go p l e R s m args below meth c D aC i d h0 h9 a0 r9 n) (hH : pm_HI s D aC a0 h0 adr h H locs cells slots) (hF : pm_FI i adr h.2.2.length ls lsM st) (hd : decode (pm_b i) pc = .ok (.sipush v, k)) (hk : pm_lk (.sipush v) k pc = true) (q : ∃ nx : pm_N, pm_s i (.sipush v) k pc ls st h = some nx ∧ pm_lp (pm_ev d) i n nx.1 nx.2.1 nx.2.2.1 nx.2.2.2 r9 h9) : pm_Wg p l e R s m args below meth c D aC h0 h9 a0 r9 pc adr H locs lsM st cells slots := by
  obtain ⟨hx, hb, hml, hr, hown, hts, hKK, hlk, hnm, hR, hi⟩ := X
  have ek : k = 3 := by simpa [pm_lk, pm_ln] using hk
  subst ek
  simp only [pm_s, pm_oi_iff, pm_ol_iff, pm_oq_iff, pm_or_iff, pm_oli_iff, pm_oll_iff, pm_olq_iff, pm_if_iff, pm_br_iff, pm_some_iff] at q
  refine lv_sipush (v := Int32.ofInt v) hx hb hd (pm_b16 q.1.1 q.1.2) ?_
  exact ih _ _ _ _ _ _ _ _ _ _ q.2 hH (hF.push (v := .inl v) (show pm_I32 v by unfold pm_I32; omega))
theorem pz_lconst {v : Fin 2} (X : pm_Cx p s m args meth c R D aC i d h0 h9) (ih : pm_Go p l e R s m args below meth c D aC i d h0 h9 a0 r9 n) (hH : pm_HI s D aC a0 h0 adr h H locs cells slots) (hF : pm_FI i adr h.2.2.length ls lsM st) (hd : decode (pm_b i) pc = .ok (.lconst v, k)) (hk : pm_lk (.lconst v) k pc = true) (q : ∃ nx : pm_N, pm_s i (.lconst v) k pc ls st h = some nx ∧ pm_lp (pm_ev d) i n nx.1 nx.2.1 nx.2.2.1 nx.2.2.2 r9 h9) : pm_Wg p l e R s m args below meth c D aC h0 h9 a0 r9 pc adr H locs lsM st cells slots := by
  obtain ⟨hx, hb, hml, hr, hown, hts, hKK, hlk, hnm, hR, hi⟩ := X
  have ek : k = 1 := by simpa [pm_lk, pm_ln] using hk
  subst ek
  simp only [pm_s, pm_oi_iff, pm_ol_iff, pm_oq_iff, pm_or_iff, pm_oli_iff, pm_oll_iff, pm_olq_iff, pm_if_iff, pm_br_iff, pm_some_iff] at q
  refine lv_lconst (v := Int64.ofInt ((v : Nat) : Int)) hx hb hd Int64.ofInt_eq_ofNat.symm ?_
  exact ih _ _ _ _ _ _ _ _ _ _ q hH (hF.push (v := .inr (.inl ((v : Nat) : Int))) (show pm_I64 _ by unfold pm_I64; omega))
theorem pz_aconst_null (X : pm_Cx p s m args meth c R D aC i d h0 h9) (ih : pm_Go p l e R s m args below meth c D aC i d h0 h9 a0 r9 n) (hH : pm_HI s D aC a0 h0 adr h H locs cells slots) (hF : pm_FI i adr h.2.2.length ls lsM st) (hd : decode (pm_b i) pc = .ok (.aconst_null, k)) (hk : pm_lk (.aconst_null) k pc = true) (q : ∃ nx : pm_N, pm_s i (.aconst_null) k pc ls st h = some nx ∧ pm_lp (pm_ev d) i n nx.1 nx.2.1 nx.2.2.1 nx.2.2.2 r9 h9) : pm_Wg p l e R s m args below meth c D aC h0 h9 a0 r9 pc adr H locs lsM st cells slots := by
  obtain ⟨hx, hb, hml, hr, hown, hts, hKK, hlk, hnm, hR, hi⟩ := X
  have ek : k = 1 := by simpa [pm_lk, pm_ln] using hk
  subst ek
  simp only [pm_s, pm_oi_iff, pm_ol_iff, pm_oq_iff, pm_or_iff, pm_oli_iff, pm_oll_iff, pm_olq_iff, pm_if_iff, pm_br_iff, pm_some_iff] at q
  refine lv_null hx hb hd ?_
  exact ih _ _ _ _ _ _ _ _ _ _ q hH (hF.push (v := .inr (.inr none)) trivial)
theorem pz_ldc {z : Nat} (X : pm_Cx p s m args meth c R D aC i d h0 h9) (ih : pm_Go p l e R s m args below meth c D aC i d h0 h9 a0 r9 n) (hH : pm_HI s D aC a0 h0 adr h H locs cells slots) (hF : pm_FI i adr h.2.2.length ls lsM st) (hd : decode (pm_b i) pc = .ok (.ldc z, k)) (hk : pm_lk (.ldc z) k pc = true) (q : ∃ nx : pm_N, pm_s i (.ldc z) k pc ls st h = some nx ∧ pm_lp (pm_ev d) i n nx.1 nx.2.1 nx.2.2.1 nx.2.2.2 r9 h9) : pm_Wg p l e R s m args below meth c D aC h0 h9 a0 r9 pc adr H locs lsM st cells slots := by
  obtain ⟨hx, hb, hml, hr, hown, hts, hKK, hlk, hnm, hR, hi⟩ := X
  have ek : k = 2 := by simpa [pm_lk, pm_ln] using hk
  subst ek
  simp only [pm_s] at q
  cases hL : pm_KT.lookup (pm_ow i, z) with
  | none => rw [hL] at q; obtain ⟨_, q, _⟩ := q; cases q
  | some y =>
    obtain ⟨v, wi⟩ := y
    rw [hL] at q
    have q := pm_some_iff.mp q
    have ok := pm_lookup pm_okKT hL
    unfold pm_okK at ok
    rw [Bool.and_eq_true, decide_eq_true_eq] at ok
    refine lv_ldc (v := Int32.ofInt v) hx hb hown (hts _ (pm_hw_W ok.1 rfl)) hd ?_
    exact ih _ _ _ _ _ _ _ _ _ _ q hH (hF.push (v := .inl v) ok.2)
theorem pz_ldc_w {z : Nat} (X : pm_Cx p s m args meth c R D aC i d h0 h9) (ih : pm_Go p l e R s m args below meth c D aC i d h0 h9 a0 r9 n) (hH : pm_HI s D aC a0 h0 adr h H locs cells slots) (hF : pm_FI i adr h.2.2.length ls lsM st) (hd : decode (pm_b i) pc = .ok (.ldc_w z, k)) (hk : pm_lk (.ldc_w z) k pc = true) (q : ∃ nx : pm_N, pm_s i (.ldc_w z) k pc ls st h = some nx ∧ pm_lp (pm_ev d) i n nx.1 nx.2.1 nx.2.2.1 nx.2.2.2 r9 h9) : pm_Wg p l e R s m args below meth c D aC h0 h9 a0 r9 pc adr H locs lsM st cells slots := by
  obtain ⟨hx, hb, hml, hr, hown, hts, hKK, hlk, hnm, hR, hi⟩ := X
  have ek : k = 3 := by simpa [pm_lk, pm_ln] using hk
  subst ek
  simp only [pm_s] at q
  cases hL : pm_KT.lookup (pm_ow i, z) with
  | none => rw [hL] at q; obtain ⟨_, q, _⟩ := q; cases q
  | some y =>
    obtain ⟨v, wi⟩ := y
    rw [hL] at q
    have q := pm_some_iff.mp q
    have ok := pm_lookup pm_okKT hL
    unfold pm_okK at ok
    rw [Bool.and_eq_true, decide_eq_true_eq] at ok
    refine lv_ldcw (v := Int32.ofInt v) hx hb hown (hts _ (pm_hw_W ok.1 rfl)) hd ?_
    exact ih _ _ _ _ _ _ _ _ _ _ q hH (hF.push (v := .inl v) ok.2)
theorem pz_iload_n {z : Fin 4} (X : pm_Cx p s m args meth c R D aC i d h0 h9) (ih : pm_Go p l e R s m args below meth c D aC i d h0 h9 a0 r9 n) (hH : pm_HI s D aC a0 h0 adr h H locs cells slots) (hF : pm_FI i adr h.2.2.length ls lsM st) (hd : decode (pm_b i) pc = .ok (.iload_n z, k)) (hk : pm_lk (.iload_n z) k pc = true) (q : ∃ nx : pm_N, pm_s i (.iload_n z) k pc ls st h = some nx ∧ pm_lp (pm_ev d) i n nx.1 nx.2.1 nx.2.2.1 nx.2.2.2 r9 h9) : pm_Wg p l e R s m args below meth c D aC h0 h9 a0 r9 pc adr H locs lsM st cells slots := by
  obtain ⟨hx, hb, hml, hr, hown, hts, hKK, hlk, hnm, hR, hi⟩ := X
  have ek : k = 1 := by simpa [pm_lk, pm_ln] using hk
  subst ek
  simp only [pm_s, pm_oi_iff, pm_ol_iff, pm_oq_iff, pm_or_iff, pm_oli_iff, pm_oll_iff, pm_olq_iff, pm_if_iff, pm_br_iff, pm_some_iff] at q
  obtain ⟨x, hl, g⟩ := pm_li_ex q
  obtain ⟨h1, h2⟩ := hF.2.2.1 _ _ hl
  refine lv_iload_n hx hb hd rfl h1 ?_
  exact ih _ _ _ _ _ _ _ _ _ _ g hH (hF.push h2)
theorem pz_iload {z : Nat} (X : pm_Cx p s m args meth c R D aC i d h0 h9) (ih : pm_Go p l e R s m args below meth c D aC i d h0 h9 a0 r9 n) (hH : pm_HI s D aC a0 h0 adr h H locs cells slots) (hF : pm_FI i adr h.2.2.length ls lsM st) (hd : decode (pm_b i) pc = .ok (.iload z, k)) (hk : pm_lk (.iload z) k pc = true) (q : ∃ nx : pm_N, pm_s i (.iload z) k pc ls st h = some nx ∧ pm_lp (pm_ev d) i n nx.1 nx.2.1 nx.2.2.1 nx.2.2.2 r9 h9) : pm_Wg p l e R s m args below meth c D aC h0 h9 a0 r9 pc adr H locs lsM st cells slots := by
  obtain ⟨hx, hb, hml, hr, hown, hts, hKK, hlk, hnm, hR, hi⟩ := X
  have ek : k = 2 := by simpa [pm_lk, pm_ln] using hk
  subst ek
  simp only [pm_s, pm_oi_iff, pm_ol_iff, pm_oq_iff, pm_or_iff, pm_oli_iff, pm_oll_iff, pm_olq_iff, pm_if_iff, pm_br_iff, pm_some_iff] at q
  obtain ⟨x, hl, g⟩ := pm_li_ex q
  obtain ⟨h1, h2⟩ := hF.2.2.1 _ _ hl
  refine lv_iload hx hb hd h1 ?_
  exact ih _ _ _ _ _ _ _ _ _ _ g hH (hF.push h2)
theorem pz_lload_n {z : Fin 4} (X : pm_Cx p s m args meth c R D aC i d h0 h9) (ih : pm_Go p l e R s m args below meth c D aC i d h0 h9 a0 r9 n) (hH : pm_HI s D aC a0 h0 adr h H locs cells slots) (hF : pm_FI i adr h.2.2.length ls lsM st) (hd : decode (pm_b i) pc = .ok (.lload_n z, k)) (hk : pm_lk (.lload_n z) k pc = true) (q : ∃ nx : pm_N, pm_s i (.lload_n z) k pc ls st h = some nx ∧ pm_lp (pm_ev d) i n nx.1 nx.2.1 nx.2.2.1 nx.2.2.2 r9 h9) : pm_Wg p l e R s m args below meth c D aC h0 h9 a0 r9 pc adr H locs lsM st cells slots := by
  obtain ⟨hx, hb, hml, hr, hown, hts, hKK, hlk, hnm, hR, hi⟩ := X
  have ek : k = 1 := by simpa [pm_lk, pm_ln] using hk
  subst ek
  simp only [pm_s, pm_oi_iff, pm_ol_iff, pm_oq_iff, pm_or_iff, pm_oli_iff, pm_oll_iff, pm_olq_iff, pm_if_iff, pm_br_iff, pm_some_iff] at q
  obtain ⟨x, hl, g⟩ := pm_ll_ex q
  obtain ⟨h1, h2⟩ := hF.2.2.1 _ _ hl
  refine lv_lload_n hx hb hd rfl h1 ?_
  exact ih _ _ _ _ _ _ _ _ _ _ g hH (hF.push h2)
theorem pz_lload {z : Nat} (X : pm_Cx p s m args meth c R D aC i d h0 h9) (ih : pm_Go p l e R s m args below meth c D aC i d h0 h9 a0 r9 n) (hH : pm_HI s D aC a0 h0 adr h H locs cells slots) (hF : pm_FI i adr h.2.2.length ls lsM st) (hd : decode (pm_b i) pc = .ok (.lload z, k)) (hk : pm_lk (.lload z) k pc = true) (q : ∃ nx : pm_N, pm_s i (.lload z) k pc ls st h = some nx ∧ pm_lp (pm_ev d) i n nx.1 nx.2.1 nx.2.2.1 nx.2.2.2 r9 h9) : pm_Wg p l e R s m args below meth c D aC h0 h9 a0 r9 pc adr H locs lsM st cells slots := by
  obtain ⟨hx, hb, hml, hr, hown, hts, hKK, hlk, hnm, hR, hi⟩ := X
  have ek : k = 2 := by simpa [pm_lk, pm_ln] using hk
  subst ek
  simp only [pm_s, pm_oi_iff, pm_ol_iff, pm_oq_iff, pm_or_iff, pm_oli_iff, pm_oll_iff, pm_olq_iff, pm_if_iff, pm_br_iff, pm_some_iff] at q
  obtain ⟨x, hl, g⟩ := pm_ll_ex q
  obtain ⟨h1, h2⟩ := hF.2.2.1 _ _ hl
  refine lv_lload hx hb hd h1 ?_
  exact ih _ _ _ _ _ _ _ _ _ _ g hH (hF.push h2)
theorem pz_aload_n {z : Fin 4} (X : pm_Cx p s m args meth c R D aC i d h0 h9) (ih : pm_Go p l e R s m args below meth c D aC i d h0 h9 a0 r9 n) (hH : pm_HI s D aC a0 h0 adr h H locs cells slots) (hF : pm_FI i adr h.2.2.length ls lsM st) (hd : decode (pm_b i) pc = .ok (.aload_n z, k)) (hk : pm_lk (.aload_n z) k pc = true) (q : ∃ nx : pm_N, pm_s i (.aload_n z) k pc ls st h = some nx ∧ pm_lp (pm_ev d) i n nx.1 nx.2.1 nx.2.2.1 nx.2.2.2 r9 h9) : pm_Wg p l e R s m args below meth c D aC h0 h9 a0 r9 pc adr H locs lsM st cells slots := by
  obtain ⟨hx, hb, hml, hr, hown, hts, hKK, hlk, hnm, hR, hi⟩ := X
  have ek : k = 1 := by simpa [pm_lk, pm_ln] using hk
  subst ek
  simp only [pm_s, pm_oi_iff, pm_ol_iff, pm_oq_iff, pm_or_iff, pm_oli_iff, pm_oll_iff, pm_olq_iff, pm_if_iff, pm_br_iff, pm_some_iff] at q
  obtain ⟨x, hl, g⟩ := pm_lq_ex q
  obtain ⟨h1, h2⟩ := hF.2.2.1 _ _ hl
  cases x with
  | none =>
    refine lv_aload_nN hx hb hd rfl h1 ?_
    exact ih _ _ _ _ _ _ _ _ _ _ g hH (hF.push h2)
  | some a =>
    refine lv_aload_n hx hb hd rfl h1 ?_
    exact ih _ _ _ _ _ _ _ _ _ _ g hH (hF.push h2)
theorem pz_aload {z : Nat} (X : pm_Cx p s m args meth c R D aC i d h0 h9) (ih : pm_Go p l e R s m args below meth c D aC i d h0 h9 a0 r9 n) (hH : pm_HI s D aC a0 h0 adr h H locs cells slots) (hF : pm_FI i adr h.2.2.length ls lsM st) (hd : decode (pm_b i) pc = .ok (.aload z, k)) (hk : pm_lk (.aload z) k pc = true) (q : ∃ nx : pm_N, pm_s i (.aload z) k pc ls st h = some nx ∧ pm_lp (pm_ev d) i n nx.1 nx.2.1 nx.2.2.1 nx.2.2.2 r9 h9) : pm_Wg p l e R s m args below meth c D aC h0 h9 a0 r9 pc adr H locs lsM st cells slots := by
  obtain ⟨hx, hb, hml, hr, hown, hts, hKK, hlk, hnm, hR, hi⟩ := X
  have ek : k = 2 := by simpa [pm_lk, pm_ln] using hk
  subst ek
  simp only [pm_s, pm_oi_iff, pm_ol_iff, pm_oq_iff, pm_or_iff, pm_oli_iff, pm_oll_iff, pm_olq_iff, pm_if_iff, pm_br_iff, pm_some_iff] at q
  obtain ⟨x, hl, g⟩ := pm_lq_ex q
  obtain ⟨h1, h2⟩ := hF.2.2.1 _ _ hl
  cases x with
  | none =>
    refine lv_aloadN hx hb hd h1 ?_
    exact ih _ _ _ _ _ _ _ _ _ _ g hH (hF.push h2)
  | some a =>
    refine lv_aload hx hb hd h1 ?_
    exact ih _ _ _ _ _ _ _ _ _ _ g hH (hF.push h2)
theorem pz_istore_n {z : Fin 4} (X : pm_Cx p s m args meth c R D aC i d h0 h9) (ih : pm_Go p l e R s m args below meth c D aC i d h0 h9 a0 r9 n) (hH : pm_HI s D aC a0 h0 adr h H locs cells slots) (hF : pm_FI i adr h.2.2.length ls lsM st) (hd : decode (pm_b i) pc = .ok (.istore_n z, k)) (hk : pm_lk (.istore_n z) k pc = true) (q : ∃ nx : pm_N, pm_s i (.istore_n z) k pc ls st h = some nx ∧ pm_lp (pm_ev d) i n nx.1 nx.2.1 nx.2.2.1 nx.2.2.2 r9 h9) : pm_Wg p l e R s m args below meth c D aC h0 h9 a0 r9 pc adr H locs lsM st cells slots := by
  obtain ⟨hx, hb, hml, hr, hown, hts, hKK, hlk, hnm, hR, hi⟩ := X
  have ek : k = 1 := by simpa [pm_lk, pm_ln] using hk
  subst ek
  simp only [pm_s, pm_oi_iff, pm_ol_iff, pm_oq_iff, pm_or_iff, pm_oli_iff, pm_oll_iff, pm_olq_iff, pm_if_iff, pm_br_iff, pm_some_iff] at q
  obtain ⟨x, s1, rfl, hc, g⟩ := pm_i_ex q
  refine lv_istore_n (lv := pm_lv adr ls) hx hb hd rfl hF.has hc rfl (fun ls2 hl2 => ?_)
  exact ih _ _ _ _ _ _ _ _ _ _ g hH (hF.sto1 (v := .inl x) hF.head hF.tail.2.2.2 hl2)
theorem pz_istore {z : Nat} (X : pm_Cx p s m args meth c R D aC i d h0 h9) (ih : pm_Go p l e R s m args below meth c D aC i d h0 h9 a0 r9 n) (hH : pm_HI s D aC a0 h0 adr h H locs cells slots) (hF : pm_FI i adr h.2.2.length ls lsM st) (hd : decode (pm_b i) pc = .ok (.istore z, k)) (hk : pm_lk (.istore z) k pc = true) (q : ∃ nx : pm_N, pm_s i (.istore z) k pc ls st h = some nx ∧ pm_lp (pm_ev d) i n nx.1 nx.2.1 nx.2.2.1 nx.2.2.2 r9 h9) : pm_Wg p l e R s m args below meth c D aC h0 h9 a0 r9 pc adr H locs lsM st cells slots := by
  obtain ⟨hx, hb, hml, hr, hown, hts, hKK, hlk, hnm, hR, hi⟩ := X
  have ek : k = 2 := by simpa [pm_lk, pm_ln] using hk
  subst ek
  simp only [pm_s, pm_oi_iff, pm_ol_iff, pm_oq_iff, pm_or_iff, pm_oli_iff, pm_oll_iff, pm_olq_iff, pm_if_iff, pm_br_iff, pm_some_iff] at q
  obtain ⟨x, s1, rfl, hc, g⟩ := pm_i_ex q
  refine lv_istore (lv := pm_lv adr ls) hx hb hd hF.has hc rfl (fun ls2 hl2 => ?_)
  exact ih _ _ _ _ _ _ _ _ _ _ g hH (hF.sto1 (v := .inl x) hF.head hF.tail.2.2.2 hl2)
theorem pz_lstore_n {z : Fin 4} (X : pm_Cx p s m args meth c R D aC i d h0 h9) (ih : pm_Go p l e R s m args below meth c D aC i d h0 h9 a0 r9 n) (hH : pm_HI s D aC a0 h0 adr h H locs cells slots) (hF : pm_FI i adr h.2.2.length ls lsM st) (hd : decode (pm_b i) pc = .ok (.lstore_n z, k)) (hk : pm_lk (.lstore_n z) k pc = true) (q : ∃ nx : pm_N, pm_s i (.lstore_n z) k pc ls st h = some nx ∧ pm_lp (pm_ev d) i n nx.1 nx.2.1 nx.2.2.1 nx.2.2.2 r9 h9) : pm_Wg p l e R s m args below meth c D aC h0 h9 a0 r9 pc adr H locs lsM st cells slots := by
  obtain ⟨hx, hb, hml, hr, hown, hts, hKK, hlk, hnm, hR, hi⟩ := X
  have ek : k = 1 := by simpa [pm_lk, pm_ln] using hk
  subst ek
  simp only [pm_s, pm_oi_iff, pm_ol_iff, pm_oq_iff, pm_or_iff, pm_oli_iff, pm_oll_iff, pm_olq_iff, pm_if_iff, pm_br_iff, pm_some_iff] at q
  obtain ⟨x, s1, rfl, hc, g⟩ := pm_l_ex q
  refine lv_lstore_n (lv := pm_lv adr ls) hx hb hd rfl hF.has hc rfl (fun ls2 hl2 => ?_)
  exact ih _ _ _ _ _ _ _ _ _ _ g hH (hF.sto2 (v := .inr (.inl x)) hF.head hF.tail.2.2.2 hl2)
theorem pz_lstore {z : Nat} (X : pm_Cx p s m args meth c R D aC i d h0 h9) (ih : pm_Go p l e R s m args below meth c D aC i d h0 h9 a0 r9 n) (hH : pm_HI s D aC a0 h0 adr h H locs cells slots) (hF : pm_FI i adr h.2.2.length ls lsM st) (hd : decode (pm_b i) pc = .ok (.lstore z, k)) (hk : pm_lk (.lstore z) k pc = true) (q : ∃ nx : pm_N, pm_s i (.lstore z) k pc ls st h = some nx ∧ pm_lp (pm_ev d) i n nx.1 nx.2.1 nx.2.2.1 nx.2.2.2 r9 h9) : pm_Wg p l e R s m args below meth c D aC h0 h9 a0 r9 pc adr H locs lsM st cells slots := by
  obtain ⟨hx, hb, hml, hr, hown, hts, hKK, hlk, hnm, hR, hi⟩ := X
  have ek : k = 2 := by simpa [pm_lk, pm_ln] using hk
  subst ek
  simp only [pm_s, pm_oi_iff, pm_ol_iff, pm_oq_iff, pm_or_iff, pm_oli_iff, pm_oll_iff, pm_olq_iff, pm_if_iff, pm_br_iff, pm_some_iff] at q
  obtain ⟨x, s1, rfl, hc, g⟩ := pm_l_ex q
  refine lv_lstore (lv := pm_lv adr ls) hx hb hd hF.has hc rfl (fun ls2 hl2 => ?_)
  exact ih _ _ _ _ _ _ _ _ _ _ g hH (hF.sto2 (v := .inr (.inl x)) hF.head hF.tail.2.2.2 hl2)
theorem pz_astore_n {z : Fin 4} (X : pm_Cx p s m args meth c R D aC i d h0 h9) (ih : pm_Go p l e R s m args below meth c D aC i d h0 h9 a0 r9 n) (hH : pm_HI s D aC a0 h0 adr h H locs cells slots) (hF : pm_FI i adr h.2.2.length ls lsM st) (hd : decode (pm_b i) pc = .ok (.astore_n z, k)) (hk : pm_lk (.astore_n z) k pc = true) (q : ∃ nx : pm_N, pm_s i (.astore_n z) k pc ls st h = some nx ∧ pm_lp (pm_ev d) i n nx.1 nx.2.1 nx.2.2.1 nx.2.2.2 r9 h9) : pm_Wg p l e R s m args below meth c D aC h0 h9 a0 r9 pc adr H locs lsM st cells slots := by
  obtain ⟨hx, hb, hml, hr, hown, hts, hKK, hlk, hnm, hR, hi⟩ := X
  have ek : k = 1 := by simpa [pm_lk, pm_ln] using hk
  subst ek
  simp only [pm_s, pm_oi_iff, pm_ol_iff, pm_oq_iff, pm_or_iff, pm_oli_iff, pm_oll_iff, pm_olq_iff, pm_if_iff, pm_br_iff, pm_some_iff] at q
  obtain ⟨x, s1, rfl, hc, g⟩ := pm_q_ex q
  cases x with
  | none =>
    refine lv_astore_nN (lv := pm_lv adr ls) hx hb hd rfl hF.has hc rfl (fun ls2 hl2 => ?_)
    exact ih _ _ _ _ _ _ _ _ _ _ g hH (hF.sto1 (v := .inr (.inr none)) hF.head hF.tail.2.2.2 hl2)
  | some a =>
    refine lv_astore_n (lv := pm_lv adr ls) hx hb hd rfl hF.has hc rfl (fun ls2 hl2 => ?_)
    exact ih _ _ _ _ _ _ _ _ _ _ g hH (hF.sto1 (v := .inr (.inr (some a))) hF.head hF.tail.2.2.2 hl2)
theorem pz_astore {z : Nat} (X : pm_Cx p s m args meth c R D aC i d h0 h9) (ih : pm_Go p l e R s m args below meth c D aC i d h0 h9 a0 r9 n) (hH : pm_HI s D aC a0 h0 adr h H locs cells slots) (hF : pm_FI i adr h.2.2.length ls lsM st) (hd : decode (pm_b i) pc = .ok (.astore z, k)) (hk : pm_lk (.astore z) k pc = true) (q : ∃ nx : pm_N, pm_s i (.astore z) k pc ls st h = some nx ∧ pm_lp (pm_ev d) i n nx.1 nx.2.1 nx.2.2.1 nx.2.2.2 r9 h9) : pm_Wg p l e R s m args below meth c D aC h0 h9 a0 r9 pc adr H locs lsM st cells slots := by
  obtain ⟨hx, hb, hml, hr, hown, hts, hKK, hlk, hnm, hR, hi⟩ := X
  have ek : k = 2 := by simpa [pm_lk, pm_ln] using hk
  subst ek
  simp only [pm_s, pm_oi_iff, pm_ol_iff, pm_oq_iff, pm_or_iff, pm_oli_iff, pm_oll_iff, pm_olq_iff, pm_if_iff, pm_br_iff, pm_some_iff] at q
  obtain ⟨x, s1, rfl, hc, g⟩ := pm_q_ex q
  cases x with
  | none =>
    refine lv_astoreN (lv := pm_lv adr ls) hx hb hd hF.has hc rfl (fun ls2 hl2 => ?_)
    exact ih _ _ _ _ _ _ _ _ _ _ g hH (hF.sto1 (v := .inr (.inr none)) hF.head hF.tail.2.2.2 hl2)
  | some a =>
    refine lv_astore (lv := pm_lv adr ls) hx hb hd hF.has hc rfl (fun ls2 hl2 => ?_)
    exact ih _ _ _ _ _ _ _ _ _ _ g hH (hF.sto1 (v := .inr (.inr (some a))) hF.head hF.tail.2.2.2 hl2)
theorem pz_iinc {z : Nat} {v : Int} (X : pm_Cx p s m args meth c R D aC i d h0 h9) (ih : pm_Go p l e R s m args below meth c D aC i d h0 h9 a0 r9 n) (hH : pm_HI s D aC a0 h0 adr h H locs cells slots) (hF : pm_FI i adr h.2.2.length ls lsM st) (hd : decode (pm_b i) pc = .ok (.iinc z v, k)) (hk : pm_lk (.iinc z v) k pc = true) (q : ∃ nx : pm_N, pm_s i (.iinc z v) k pc ls st h = some nx ∧ pm_lp (pm_ev d) i n nx.1 nx.2.1 nx.2.2.1 nx.2.2.2 r9 h9) : pm_Wg p l e R s m args below meth c D aC h0 h9 a0 r9 pc adr H locs lsM st cells slots := by
  obtain ⟨hx, hb, hml, hr, hown, hts, hKK, hlk, hnm, hR, hi⟩ := X
  have ek : k = 3 := by simpa [pm_lk, pm_ln] using hk
  subst ek
  simp only [pm_s, pm_oi_iff, pm_ol_iff, pm_oq_iff, pm_or_iff, pm_oli_iff, pm_oll_iff, pm_olq_iff, pm_if_iff, pm_br_iff, pm_some_iff] at q
  obtain ⟨x, hl, ⟨hc, hI⟩, g⟩ := pm_li_ex q
  obtain ⟨kk, hkk⟩ := List.getElem?_of_mem (pm_lv_mem (adr := adr) (q := (z, .int (Int32.ofInt x))).mpr ⟨.inl x, hl, rfl⟩)
  refine lv_iinc (v := Int32.ofInt (x + v)) hx hb hd hF.has hkk (by rw [Int32.ofInt_add]) hc rfl (fun ls2 hl2 => ?_)
  exact ih _ _ _ _ _ _ _ _ _ _ g hH (hF.sto1 (v := .inl (x + v)) hI hF.2.2.2 hl2)
theorem pz_iadd (X : pm_Cx p s m args meth c R D aC i d h0 h9) (ih : pm_Go p l e R s m args below meth c D aC i d h0 h9 a0 r9 n) (hH : pm_HI s D aC a0 h0 adr h H locs cells slots) (hF : pm_FI i adr h.2.2.length ls lsM st) (hd : decode (pm_b i) pc = .ok (.iadd, k)) (hk : pm_lk (.iadd) k pc = true) (q : ∃ nx : pm_N, pm_s i (.iadd) k pc ls st h = some nx ∧ pm_lp (pm_ev d) i n nx.1 nx.2.1 nx.2.2.1 nx.2.2.2 r9 h9) : pm_Wg p l e R s m args below meth c D aC h0 h9 a0 r9 pc adr H locs lsM st cells slots := by
  obtain ⟨hx, hb, hml, hr, hown, hts, hKK, hlk, hnm, hR, hi⟩ := X
  have ek : k = 1 := by simpa [pm_lk, pm_ln] using hk
  subst ek
  simp only [pm_s, pm_oi_iff, pm_ol_iff, pm_oq_iff, pm_or_iff, pm_oli_iff, pm_oll_iff, pm_olq_iff, pm_if_iff, pm_br_iff, pm_some_iff] at q
  obtain ⟨y, s1, rfl, q1⟩ := pm_i_ex q
  obtain ⟨x, s2, rfl, hq, g⟩ := pm_i_ex q1
  refine lv_iadd hx hb hd ?_
  rw [← Int32.ofInt_add]
  exact ih _ _ _ _ _ _ _ _ _ _ g hH (hF.tail.tail.push (v := .inl (x + y)) hq)
theorem pz_isub (X : pm_Cx p s m args meth c R D aC i d h0 h9) (ih : pm_Go p l e R s m args below meth c D aC i d h0 h9 a0 r9 n) (hH : pm_HI s D aC a0 h0 adr h H locs cells slots) (hF : pm_FI i adr h.2.2.length ls lsM st) (hd : decode (pm_b i) pc = .ok (.isub, k)) (hk : pm_lk (.isub) k pc = true) (q : ∃ nx : pm_N, pm_s i (.isub) k pc ls st h = some nx ∧ pm_lp (pm_ev d) i n nx.1 nx.2.1 nx.2.2.1 nx.2.2.2 r9 h9) : pm_Wg p l e R s m args below meth c D aC h0 h9 a0 r9 pc adr H locs lsM st cells slots := by
  obtain ⟨hx, hb, hml, hr, hown, hts, hKK, hlk, hnm, hR, hi⟩ := X
  have ek : k = 1 := by simpa [pm_lk, pm_ln] using hk
  subst ek
  simp only [pm_s, pm_oi_iff, pm_ol_iff, pm_oq_iff, pm_or_iff, pm_oli_iff, pm_oll_iff, pm_olq_iff, pm_if_iff, pm_br_iff, pm_some_iff] at q
  obtain ⟨y, s1, rfl, q1⟩ := pm_i_ex q
  obtain ⟨x, s2, rfl, hq, g⟩ := pm_i_ex q1
  refine lv_isub hx hb hd ?_
  rw [← Int32.ofInt_sub]
  exact ih _ _ _ _ _ _ _ _ _ _ g hH (hF.tail.tail.push (v := .inl (x - y)) hq)
theorem pz_imul (X : pm_Cx p s m args meth c R D aC i d h0 h9) (ih : pm_Go p l e R s m args below meth c D aC i d h0 h9 a0 r9 n) (hH : pm_HI s D aC a0 h0 adr h H locs cells slots) (hF : pm_FI i adr h.2.2.length ls lsM st) (hd : decode (pm_b i) pc = .ok (.imul, k)) (hk : pm_lk (.imul) k pc = true) (q : ∃ nx : pm_N, pm_s i (.imul) k pc ls st h = some nx ∧ pm_lp (pm_ev d) i n nx.1 nx.2.1 nx.2.2.1 nx.2.2.2 r9 h9) : pm_Wg p l e R s m args below meth c D aC h0 h9 a0 r9 pc adr H locs lsM st cells slots := by
  obtain ⟨hx, hb, hml, hr, hown, hts, hKK, hlk, hnm, hR, hi⟩ := X
  have ek : k = 1 := by simpa [pm_lk, pm_ln] using hk
  subst ek
  simp only [pm_s, pm_oi_iff, pm_ol_iff, pm_oq_iff, pm_or_iff, pm_oli_iff, pm_oll_iff, pm_olq_iff, pm_if_iff, pm_br_iff, pm_some_iff] at q
  obtain ⟨y, s1, rfl, q1⟩ := pm_i_ex q
  obtain ⟨x, s2, rfl, hq, g⟩ := pm_i_ex q1
  refine lv_imul hx hb hd ?_
  rw [← Int32.ofInt_mul]
  exact ih _ _ _ _ _ _ _ _ _ _ g hH (hF.tail.tail.push (v := .inl (x * y)) hq)
theorem pz_ladd (X : pm_Cx p s m args meth c R D aC i d h0 h9) (ih : pm_Go p l e R s m args below meth c D aC i d h0 h9 a0 r9 n) (hH : pm_HI s D aC a0 h0 adr h H locs cells slots) (hF : pm_FI i adr h.2.2.length ls lsM st) (hd : decode (pm_b i) pc = .ok (.ladd, k)) (hk : pm_lk (.ladd) k pc = true) (q : ∃ nx : pm_N, pm_s i (.ladd) k pc ls st h = some nx ∧ pm_lp (pm_ev d) i n nx.1 nx.2.1 nx.2.2.1 nx.2.2.2 r9 h9) : pm_Wg p l e R s m args below meth c D aC h0 h9 a0 r9 pc adr H locs lsM st cells slots := by
  obtain ⟨hx, hb, hml, hr, hown, hts, hKK, hlk, hnm, hR, hi⟩ := X
  have ek : k = 1 := by simpa [pm_lk, pm_ln] using hk
  subst ek
  simp only [pm_s, pm_oi_iff, pm_ol_iff, pm_oq_iff, pm_or_iff, pm_oli_iff, pm_oll_iff, pm_olq_iff, pm_if_iff, pm_br_iff, pm_some_iff] at q
  obtain ⟨y, s1, rfl, q1⟩ := pm_l_ex q
  obtain ⟨x, s2, rfl, hq, g⟩ := pm_l_ex q1
  refine lv_ladd hx hb hd ?_
  rw [← Int64.ofInt_add]
  exact ih _ _ _ _ _ _ _ _ _ _ g hH (hF.tail.tail.push (v := .inr (.inl (x + y))) hq)
theorem pz_lsub (X : pm_Cx p s m args meth c R D aC i d h0 h9) (ih : pm_Go p l e R s m args below meth c D aC i d h0 h9 a0 r9 n) (hH : pm_HI s D aC a0 h0 adr h H locs cells slots) (hF : pm_FI i adr h.2.2.length ls lsM st) (hd : decode (pm_b i) pc = .ok (.lsub, k)) (hk : pm_lk (.lsub) k pc = true) (q : ∃ nx : pm_N, pm_s i (.lsub) k pc ls st h = some nx ∧ pm_lp (pm_ev d) i n nx.1 nx.2.1 nx.2.2.1 nx.2.2.2 r9 h9) : pm_Wg p l e R s m args below meth c D aC h0 h9 a0 r9 pc adr H locs lsM st cells slots := by
  obtain ⟨hx, hb, hml, hr, hown, hts, hKK, hlk, hnm, hR, hi⟩ := X
  have ek : k = 1 := by simpa [pm_lk, pm_ln] using hk
  subst ek
  simp only [pm_s, pm_oi_iff, pm_ol_iff, pm_oq_iff, pm_or_iff, pm_oli_iff, pm_oll_iff, pm_olq_iff, pm_if_iff, pm_br_iff, pm_some_iff] at q
  obtain ⟨y, s1, rfl, q1⟩ := pm_l_ex q
  obtain ⟨x, s2, rfl, hq, g⟩ := pm_l_ex q1
  refine lv_lsub hx hb hd ?_
  rw [← Int64.ofInt_sub]
  exact ih _ _ _ _ _ _ _ _ _ _ g hH (hF.tail.tail.push (v := .inr (.inl (x - y))) hq)
theorem pz_lmul (X : pm_Cx p s m args meth c R D aC i d h0 h9) (ih : pm_Go p l e R s m args below meth c D aC i d h0 h9 a0 r9 n) (hH : pm_HI s D aC a0 h0 adr h H locs cells slots) (hF : pm_FI i adr h.2.2.length ls lsM st) (hd : decode (pm_b i) pc = .ok (.lmul, k)) (hk : pm_lk (.lmul) k pc = true) (q : ∃ nx : pm_N, pm_s i (.lmul) k pc ls st h = some nx ∧ pm_lp (pm_ev d) i n nx.1 nx.2.1 nx.2.2.1 nx.2.2.2 r9 h9) : pm_Wg p l e R s m args below meth c D aC h0 h9 a0 r9 pc adr H locs lsM st cells slots := by
  obtain ⟨hx, hb, hml, hr, hown, hts, hKK, hlk, hnm, hR, hi⟩ := X
  have ek : k = 1 := by simpa [pm_lk, pm_ln] using hk
  subst ek
  simp only [pm_s, pm_oi_iff, pm_ol_iff, pm_oq_iff, pm_or_iff, pm_oli_iff, pm_oll_iff, pm_olq_iff, pm_if_iff, pm_br_iff, pm_some_iff] at q
  obtain ⟨y, s1, rfl, q1⟩ := pm_l_ex q
  obtain ⟨x, s2, rfl, hq, g⟩ := pm_l_ex q1
  refine lv_lmul hx hb hd ?_
  rw [← Int64.ofInt_mul]
  exact ih _ _ _ _ _ _ _ _ _ _ g hH (hF.tail.tail.push (v := .inr (.inl (x * y))) hq)
theorem pz_idiv (X : pm_Cx p s m args meth c R D aC i d h0 h9) (ih : pm_Go p l e R s m args below meth c D aC i d h0 h9 a0 r9 n) (hH : pm_HI s D aC a0 h0 adr h H locs cells slots) (hF : pm_FI i adr h.2.2.length ls lsM st) (hd : decode (pm_b i) pc = .ok (.idiv, k)) (hk : pm_lk (.idiv) k pc = true) (q : ∃ nx : pm_N, pm_s i (.idiv) k pc ls st h = some nx ∧ pm_lp (pm_ev d) i n nx.1 nx.2.1 nx.2.2.1 nx.2.2.2 r9 h9) : pm_Wg p l e R s m args below meth c D aC h0 h9 a0 r9 pc adr H locs lsM st cells slots := by
  obtain ⟨hx, hb, hml, hr, hown, hts, hKK, hlk, hnm, hR, hi⟩ := X
  have ek : k = 1 := by simpa [pm_lk, pm_ln] using hk
  subst ek
  simp only [pm_s, pm_oi_iff, pm_ol_iff, pm_oq_iff, pm_or_iff, pm_oli_iff, pm_oll_iff, pm_olq_iff, pm_if_iff, pm_br_iff, pm_some_iff] at q
  obtain ⟨y, s1, rfl, q1⟩ := pm_i_ex q
  obtain ⟨x, s2, rfl, hq, g⟩ := pm_i_ex q1
  have hI : pm_I32 (x / y) := by have := Int.ediv_le_self y (a := x) (by omega); have := Int.ediv_nonneg (a := x) (b := y) (by omega) (by omega); have hX : pm_I32 x := hF.tail.head; unfold pm_I32 at hX ⊢; omega
  refine lv_idiv hx hb hd (fun z => by have := (pm_eq0 hF.head).mp z; omega) ?_
  rw [pm_div32 hF.tail.head hF.head hq.1 hq.2]
  exact ih _ _ _ _ _ _ _ _ _ _ g hH (hF.tail.tail.push (v := .inl (x / y)) hI)
theorem pz_irem (X : pm_Cx p s m args meth c R D aC i d h0 h9) (ih : pm_Go p l e R s m args below meth c D aC i d h0 h9 a0 r9 n) (hH : pm_HI s D aC a0 h0 adr h H locs cells slots) (hF : pm_FI i adr h.2.2.length ls lsM st) (hd : decode (pm_b i) pc = .ok (.irem, k)) (hk : pm_lk (.irem) k pc = true) (q : ∃ nx : pm_N, pm_s i (.irem) k pc ls st h = some nx ∧ pm_lp (pm_ev d) i n nx.1 nx.2.1 nx.2.2.1 nx.2.2.2 r9 h9) : pm_Wg p l e R s m args below meth c D aC h0 h9 a0 r9 pc adr H locs lsM st cells slots := by
  obtain ⟨hx, hb, hml, hr, hown, hts, hKK, hlk, hnm, hR, hi⟩ := X
  have ek : k = 1 := by simpa [pm_lk, pm_ln] using hk
  subst ek
  simp only [pm_s, pm_oi_iff, pm_ol_iff, pm_oq_iff, pm_or_iff, pm_oli_iff, pm_oll_iff, pm_olq_iff, pm_if_iff, pm_br_iff, pm_some_iff] at q
  obtain ⟨y, s1, rfl, q1⟩ := pm_i_ex q
  obtain ⟨x, s2, rfl, hq, g⟩ := pm_i_ex q1
  have hI : pm_I32 (x % y) := by have := Int.emod_lt_of_pos x (b := y) (by omega); have := Int.emod_nonneg x (b := y) (by omega); have hY : pm_I32 y := hF.head; unfold pm_I32 at hY ⊢; omega
  refine lv_irem hx hb hd (fun z => by have := (pm_eq0 hF.head).mp z; omega) ?_
  rw [pm_rem32 hF.tail.head hF.head hq.1 hq.2]
  exact ih _ _ _ _ _ _ _ _ _ _ g hH (hF.tail.tail.push (v := .inl (x % y)) hI)
theorem pz_ldiv (X : pm_Cx p s m args meth c R D aC i d h0 h9) (ih : pm_Go p l e R s m args below meth c D aC i d h0 h9 a0 r9 n) (hH : pm_HI s D aC a0 h0 adr h H locs cells slots) (hF : pm_FI i adr h.2.2.length ls lsM st) (hd : decode (pm_b i) pc = .ok (.ldiv, k)) (hk : pm_lk (.ldiv) k pc = true) (q : ∃ nx : pm_N, pm_s i (.ldiv) k pc ls st h = some nx ∧ pm_lp (pm_ev d) i n nx.1 nx.2.1 nx.2.2.1 nx.2.2.2 r9 h9) : pm_Wg p l e R s m args below meth c D aC h0 h9 a0 r9 pc adr H locs lsM st cells slots := by
  obtain ⟨hx, hb, hml, hr, hown, hts, hKK, hlk, hnm, hR, hi⟩ := X
  have ek : k = 1 := by simpa [pm_lk, pm_ln] using hk
  subst ek
  simp only [pm_s, pm_oi_iff, pm_ol_iff, pm_oq_iff, pm_or_iff, pm_oli_iff, pm_oll_iff, pm_olq_iff, pm_if_iff, pm_br_iff, pm_some_iff] at q
  obtain ⟨y, s1, rfl, q1⟩ := pm_l_ex q
  obtain ⟨x, s2, rfl, hq, g⟩ := pm_l_ex q1
  have hI : pm_I64 (x / y) := by have := Int.ediv_le_self y (a := x) (by omega); have := Int.ediv_nonneg (a := x) (b := y) (by omega) (by omega); have hX : pm_I64 x := hF.tail.head; unfold pm_I64 at hX ⊢; omega
  refine lv_ldiv hx hb hd (fun z => by have := (pm_eq0l hF.head).mp z; omega) ?_
  rw [pm_div64 hF.tail.head hF.head hq.1 hq.2]
  exact ih _ _ _ _ _ _ _ _ _ _ g hH (hF.tail.tail.push (v := .inr (.inl (x / y))) hI)
theorem pz_lrem (X : pm_Cx p s m args meth c R D aC i d h0 h9) (ih : pm_Go p l e R s m args below meth c D aC i d h0 h9 a0 r9 n) (hH : pm_HI s D aC a0 h0 adr h H locs cells slots) (hF : pm_FI i adr h.2.2.length ls lsM st) (hd : decode (pm_b i) pc = .ok (.lrem, k)) (hk : pm_lk (.lrem) k pc = true) (q : ∃ nx : pm_N, pm_s i (.lrem) k pc ls st h = some nx ∧ pm_lp (pm_ev d) i n nx.1 nx.2.1 nx.2.2.1 nx.2.2.2 r9 h9) : pm_Wg p l e R s m args below meth c D aC h0 h9 a0 r9 pc adr H locs lsM st cells slots := by
  obtain ⟨hx, hb, hml, hr, hown, hts, hKK, hlk, hnm, hR, hi⟩ := X
  have ek : k = 1 := by simpa [pm_lk, pm_ln] using hk
  subst ek
  simp only [pm_s, pm_oi_iff, pm_ol_iff, pm_oq_iff, pm_or_iff, pm_oli_iff, pm_oll_iff, pm_olq_iff, pm_if_iff, pm_br_iff, pm_some_iff] at q
  obtain ⟨y, s1, rfl, q1⟩ := pm_l_ex q
  obtain ⟨x, s2, rfl, hq, g⟩ := pm_l_ex q1
  have hI : pm_I64 (x % y) := by have := Int.emod_lt_of_pos x (b := y) (by omega); have := Int.emod_nonneg x (b := y) (by omega); have hY : pm_I64 y := hF.head; unfold pm_I64 at hY ⊢; omega
  refine lv_lrem hx hb hd (fun z => by have := (pm_eq0l hF.head).mp z; omega) ?_
  rw [pm_rem64 hF.tail.head hF.head hq.1 hq.2]
  exact ih _ _ _ _ _ _ _ _ _ _ g hH (hF.tail.tail.push (v := .inr (.inl (x % y))) hI)
theorem pz_ineg (X : pm_Cx p s m args meth c R D aC i d h0 h9) (ih : pm_Go p l e R s m args below meth c D aC i d h0 h9 a0 r9 n) (hH : pm_HI s D aC a0 h0 adr h H locs cells slots) (hF : pm_FI i adr h.2.2.length ls lsM st) (hd : decode (pm_b i) pc = .ok (.ineg, k)) (hk : pm_lk (.ineg) k pc = true) (q : ∃ nx : pm_N, pm_s i (.ineg) k pc ls st h = some nx ∧ pm_lp (pm_ev d) i n nx.1 nx.2.1 nx.2.2.1 nx.2.2.2 r9 h9) : pm_Wg p l e R s m args below meth c D aC h0 h9 a0 r9 pc adr H locs lsM st cells slots := by
  obtain ⟨hx, hb, hml, hr, hown, hts, hKK, hlk, hnm, hR, hi⟩ := X
  have ek : k = 1 := by simpa [pm_lk, pm_ln] using hk
  subst ek
  simp only [pm_s, pm_oi_iff, pm_ol_iff, pm_oq_iff, pm_or_iff, pm_oli_iff, pm_oll_iff, pm_olq_iff, pm_if_iff, pm_br_iff, pm_some_iff] at q
  obtain ⟨x, s1, rfl, hq, g⟩ := pm_i_ex q
  refine lv_ineg hx hb hd ?_
  rw [show (-Int32.ofInt x) = Int32.ofInt (-x) from (Int32.ofInt_neg x).symm]
  exact ih _ _ _ _ _ _ _ _ _ _ g hH (hF.tail.push (v := .inl (-x)) hq)
theorem pz_ishl (X : pm_Cx p s m args meth c R D aC i d h0 h9) (ih : pm_Go p l e R s m args below meth c D aC i d h0 h9 a0 r9 n) (hH : pm_HI s D aC a0 h0 adr h H locs cells slots) (hF : pm_FI i adr h.2.2.length ls lsM st) (hd : decode (pm_b i) pc = .ok (.ishl, k)) (hk : pm_lk (.ishl) k pc = true) (q : ∃ nx : pm_N, pm_s i (.ishl) k pc ls st h = some nx ∧ pm_lp (pm_ev d) i n nx.1 nx.2.1 nx.2.2.1 nx.2.2.2 r9 h9) : pm_Wg p l e R s m args below meth c D aC h0 h9 a0 r9 pc adr H locs lsM st cells slots := by
  obtain ⟨hx, hb, hml, hr, hown, hts, hKK, hlk, hnm, hR, hi⟩ := X
  have ek : k = 1 := by simpa [pm_lk, pm_ln] using hk
  subst ek
  simp only [pm_s, pm_oi_iff, pm_ol_iff, pm_oq_iff, pm_or_iff, pm_oli_iff, pm_oll_iff, pm_olq_iff, pm_if_iff, pm_br_iff, pm_some_iff] at q
  obtain ⟨y, s1, rfl, q1⟩ := pm_i_ex q
  obtain ⟨x, s2, rfl, ⟨h1, h2, h3, h4⟩, g⟩ := pm_i_ex q1
  have hI : pm_I32 (x * 2 ^ y.toNat) := by
    have : 0 ≤ x * 2 ^ y.toNat := Int.mul_nonneg h3 (Int.pow_nonneg (by decide))
    unfold pm_I32; omega
  refine lv_ishl hx hb hd ?_
  rw [pm_shl32 h1 h2 h3 h4]
  exact ih _ _ _ _ _ _ _ _ _ _ g hH (hF.tail.tail.push (v := .inl (x * 2 ^ y.toNat)) hI)
theorem pz_iushr (X : pm_Cx p s m args meth c R D aC i d h0 h9) (ih : pm_Go p l e R s m args below meth c D aC i d h0 h9 a0 r9 n) (hH : pm_HI s D aC a0 h0 adr h H locs cells slots) (hF : pm_FI i adr h.2.2.length ls lsM st) (hd : decode (pm_b i) pc = .ok (.iushr, k)) (hk : pm_lk (.iushr) k pc = true) (q : ∃ nx : pm_N, pm_s i (.iushr) k pc ls st h = some nx ∧ pm_lp (pm_ev d) i n nx.1 nx.2.1 nx.2.2.1 nx.2.2.2 r9 h9) : pm_Wg p l e R s m args below meth c D aC h0 h9 a0 r9 pc adr H locs lsM st cells slots := by
  obtain ⟨hx, hb, hml, hr, hown, hts, hKK, hlk, hnm, hR, hi⟩ := X
  have ek : k = 1 := by simpa [pm_lk, pm_ln] using hk
  subst ek
  simp only [pm_s, pm_oi_iff, pm_ol_iff, pm_oq_iff, pm_or_iff, pm_oli_iff, pm_oll_iff, pm_olq_iff, pm_if_iff, pm_br_iff, pm_some_iff] at q
  obtain ⟨y, s1, rfl, q1⟩ := pm_i_ex q
  obtain ⟨x, s2, rfl, ⟨h1, h2, h3⟩, g⟩ := pm_i_ex q1
  have hI : pm_I32 (x / 2 ^ y.toNat) := by
    have := Int.ediv_le_self (2 ^ y.toNat) (a := x) h3
    have := Int.ediv_nonneg (a := x) (b := 2 ^ y.toNat) h3 (Int.pow_nonneg (by decide))
    have hX : pm_I32 x := hF.tail.head
    unfold pm_I32 at hX ⊢; omega
  refine lv_iushr hx hb hd (pm_ushr32 hF.tail.head h1 h2 h3) ?_
  exact ih _ _ _ _ _ _ _ _ _ _ g hH (hF.tail.tail.push (v := .inl (x / 2 ^ y.toNat)) hI)
theorem pz_lshl (X : pm_Cx p s m args meth c R D aC i d h0 h9) (ih : pm_Go p l e R s m args below meth c D aC i d h0 h9 a0 r9 n) (hH : pm_HI s D aC a0 h0 adr h H locs cells slots) (hF : pm_FI i adr h.2.2.length ls lsM st) (hd : decode (pm_b i) pc = .ok (.lshl, k)) (hk : pm_lk (.lshl) k pc = true) (q : ∃ nx : pm_N, pm_s i (.lshl) k pc ls st h = some nx ∧ pm_lp (pm_ev d) i n nx.1 nx.2.1 nx.2.2.1 nx.2.2.2 r9 h9) : pm_Wg p l e R s m args below meth c D aC h0 h9 a0 r9 pc adr H locs lsM st cells slots := by
  obtain ⟨hx, hb, hml, hr, hown, hts, hKK, hlk, hnm, hR, hi⟩ := X
  have ek : k = 1 := by simpa [pm_lk, pm_ln] using hk
  subst ek
  simp only [pm_s, pm_oi_iff, pm_ol_iff, pm_oq_iff, pm_or_iff, pm_oli_iff, pm_oll_iff, pm_olq_iff, pm_if_iff, pm_br_iff, pm_some_iff] at q
  obtain ⟨y, s1, rfl, q1⟩ := pm_i_ex q
  obtain ⟨x, s2, rfl, ⟨h1, h2, h3, h4⟩, g⟩ := pm_l_ex q1
  have hI : pm_I64 (x * 2 ^ y.toNat) := by
    have : 0 ≤ x * 2 ^ y.toNat := Int.mul_nonneg h3 (Int.pow_nonneg (by decide))
    unfold pm_I64; omega
  refine lv_lshl hx hb hd (pm_shl64 h1 h2 h3) ?_
  exact ih _ _ _ _ _ _ _ _ _ _ g hH (hF.tail.tail.push (v := .inr (.inl (x * 2 ^ y.toNat))) hI)
theorem pz_lushr (X : pm_Cx p s m args meth c R D aC i d h0 h9) (ih : pm_Go p l e R s m args below meth c D aC i d h0 h9 a0 r9 n) (hH : pm_HI s D aC a0 h0 adr h H locs cells slots) (hF : pm_FI i adr h.2.2.length ls lsM st) (hd : decode (pm_b i) pc = .ok (.lushr, k)) (hk : pm_lk (.lushr) k pc = true) (q : ∃ nx : pm_N, pm_s i (.lushr) k pc ls st h = some nx ∧ pm_lp (pm_ev d) i n nx.1 nx.2.1 nx.2.2.1 nx.2.2.2 r9 h9) : pm_Wg p l e R s m args below meth c D aC h0 h9 a0 r9 pc adr H locs lsM st cells slots := by
  obtain ⟨hx, hb, hml, hr, hown, hts, hKK, hlk, hnm, hR, hi⟩ := X
  have ek : k = 1 := by simpa [pm_lk, pm_ln] using hk
  subst ek
  simp only [pm_s, pm_oi_iff, pm_ol_iff, pm_oq_iff, pm_or_iff, pm_oli_iff, pm_oll_iff, pm_olq_iff, pm_if_iff, pm_br_iff, pm_some_iff] at q
  obtain ⟨y, s1, rfl, q1⟩ := pm_i_ex q
  obtain ⟨x, s2, rfl, ⟨h1, h2, h3⟩, g⟩ := pm_l_ex q1
  have hI : pm_I64 (x / 2 ^ y.toNat) := by
    have := Int.ediv_le_self (2 ^ y.toNat) (a := x) h3
    have := Int.ediv_nonneg (a := x) (b := 2 ^ y.toNat) h3 (Int.pow_nonneg (by decide))
    have hX : pm_I64 x := hF.tail.head
    unfold pm_I64 at hX ⊢; omega
  refine lv_lushr hx hb hd (pm_ushr64 hF.tail.head h1 h2 h3) ?_
  exact ih _ _ _ _ _ _ _ _ _ _ g hH (hF.tail.tail.push (v := .inr (.inl (x / 2 ^ y.toNat))) hI)
theorem pz_iand (X : pm_Cx p s m args meth c R D aC i d h0 h9) (ih : pm_Go p l e R s m args below meth c D aC i d h0 h9 a0 r9 n) (hH : pm_HI s D aC a0 h0 adr h H locs cells slots) (hF : pm_FI i adr h.2.2.length ls lsM st) (hd : decode (pm_b i) pc = .ok (.iand, k)) (hk : pm_lk (.iand) k pc = true) (q : ∃ nx : pm_N, pm_s i (.iand) k pc ls st h = some nx ∧ pm_lp (pm_ev d) i n nx.1 nx.2.1 nx.2.2.1 nx.2.2.2 r9 h9) : pm_Wg p l e R s m args below meth c D aC h0 h9 a0 r9 pc adr H locs lsM st cells slots := by
  obtain ⟨hx, hb, hml, hr, hown, hts, hKK, hlk, hnm, hR, hi⟩ := X
  have ek : k = 1 := by simpa [pm_lk, pm_ln] using hk
  subst ek
  simp only [pm_s, pm_oi_iff, pm_ol_iff, pm_oq_iff, pm_or_iff, pm_oli_iff, pm_oll_iff, pm_olq_iff, pm_if_iff, pm_br_iff, pm_some_iff] at q
  obtain ⟨y, s1, rfl, q1⟩ := pm_i_ex q
  obtain ⟨x, s2, rfl, ⟨h1, h2⟩, g⟩ := pm_i_ex q1
  have hI : pm_I32 ((x.toNat &&& y.toNat : Nat) : Int) := by
    have hb2 := Nat.and_lt_two_pow x.toNat (y := y.toNat) (n := 31) (by have hY : pm_I32 y := hF.head; unfold pm_I32 at hY; omega)
    unfold pm_I32; omega
  refine lv_iand hx hb hd ?_
  rw [pm_and32 h1 h2]
  exact ih _ _ _ _ _ _ _ _ _ _ g hH (hF.tail.tail.push (v := .inl (((x.toNat &&& y.toNat : Nat) : Int))) hI)
theorem pz_ior (X : pm_Cx p s m args meth c R D aC i d h0 h9) (ih : pm_Go p l e R s m args below meth c D aC i d h0 h9 a0 r9 n) (hH : pm_HI s D aC a0 h0 adr h H locs cells slots) (hF : pm_FI i adr h.2.2.length ls lsM st) (hd : decode (pm_b i) pc = .ok (.ior, k)) (hk : pm_lk (.ior) k pc = true) (q : ∃ nx : pm_N, pm_s i (.ior) k pc ls st h = some nx ∧ pm_lp (pm_ev d) i n nx.1 nx.2.1 nx.2.2.1 nx.2.2.2 r9 h9) : pm_Wg p l e R s m args below meth c D aC h0 h9 a0 r9 pc adr H locs lsM st cells slots := by
  obtain ⟨hx, hb, hml, hr, hown, hts, hKK, hlk, hnm, hR, hi⟩ := X
  have ek : k = 1 := by simpa [pm_lk, pm_ln] using hk
  subst ek
  simp only [pm_s, pm_oi_iff, pm_ol_iff, pm_oq_iff, pm_or_iff, pm_oli_iff, pm_oll_iff, pm_olq_iff, pm_if_iff, pm_br_iff, pm_some_iff] at q
  obtain ⟨y, s1, rfl, q1⟩ := pm_i_ex q
  obtain ⟨x, s2, rfl, ⟨h1, h2⟩, g⟩ := pm_i_ex q1
  have hI : pm_I32 ((x.toNat ||| y.toNat : Nat) : Int) := by
    have hb2 := Nat.or_lt_two_pow (x := x.toNat) (y := y.toNat) (n := 31) (by have hX : pm_I32 x := hF.tail.head; unfold pm_I32 at hX; omega) (by have hY : pm_I32 y := hF.head; unfold pm_I32 at hY; omega)
    unfold pm_I32; omega
  refine lv_ior hx hb hd ?_
  rw [pm_or32 h1 h2]
  exact ih _ _ _ _ _ _ _ _ _ _ g hH (hF.tail.tail.push (v := .inl (((x.toNat ||| y.toNat : Nat) : Int))) hI)
theorem pz_land (X : pm_Cx p s m args meth c R D aC i d h0 h9) (ih : pm_Go p l e R s m args below meth c D aC i d h0 h9 a0 r9 n) (hH : pm_HI s D aC a0 h0 adr h H locs cells slots) (hF : pm_FI i adr h.2.2.length ls lsM st) (hd : decode (pm_b i) pc = .ok (.land, k)) (hk : pm_lk (.land) k pc = true) (q : ∃ nx : pm_N, pm_s i (.land) k pc ls st h = some nx ∧ pm_lp (pm_ev d) i n nx.1 nx.2.1 nx.2.2.1 nx.2.2.2 r9 h9) : pm_Wg p l e R s m args below meth c D aC h0 h9 a0 r9 pc adr H locs lsM st cells slots := by
  obtain ⟨hx, hb, hml, hr, hown, hts, hKK, hlk, hnm, hR, hi⟩ := X
  have ek : k = 1 := by simpa [pm_lk, pm_ln] using hk
  subst ek
  simp only [pm_s, pm_oi_iff, pm_ol_iff, pm_oq_iff, pm_or_iff, pm_oli_iff, pm_oll_iff, pm_olq_iff, pm_if_iff, pm_br_iff, pm_some_iff] at q
  obtain ⟨y, s1, rfl, q1⟩ := pm_l_ex q
  obtain ⟨x, s2, rfl, ⟨h1, h2⟩, g⟩ := pm_l_ex q1
  have hI : pm_I64 ((x.toNat &&& y.toNat : Nat) : Int) := by
    have hb2 := Nat.and_lt_two_pow x.toNat (y := y.toNat) (n := 63) (by have hY : pm_I64 y := hF.head; unfold pm_I64 at hY; omega)
    unfold pm_I64; omega
  refine lv_land hx hb hd ?_
  rw [pm_and64 h1 h2]
  exact ih _ _ _ _ _ _ _ _ _ _ g hH (hF.tail.tail.push (v := .inr (.inl (((x.toNat &&& y.toNat : Nat) : Int)))) hI)
theorem pz_lor (X : pm_Cx p s m args meth c R D aC i d h0 h9) (ih : pm_Go p l e R s m args below meth c D aC i d h0 h9 a0 r9 n) (hH : pm_HI s D aC a0 h0 adr h H locs cells slots) (hF : pm_FI i adr h.2.2.length ls lsM st) (hd : decode (pm_b i) pc = .ok (.lor, k)) (hk : pm_lk (.lor) k pc = true) (q : ∃ nx : pm_N, pm_s i (.lor) k pc ls st h = some nx ∧ pm_lp (pm_ev d) i n nx.1 nx.2.1 nx.2.2.1 nx.2.2.2 r9 h9) : pm_Wg p l e R s m args below meth c D aC h0 h9 a0 r9 pc adr H locs lsM st cells slots := by
  obtain ⟨hx, hb, hml, hr, hown, hts, hKK, hlk, hnm, hR, hi⟩ := X
  have ek : k = 1 := by simpa [pm_lk, pm_ln] using hk
  subst ek
  simp only [pm_s, pm_oi_iff, pm_ol_iff, pm_oq_iff, pm_or_iff, pm_oli_iff, pm_oll_iff, pm_olq_iff, pm_if_iff, pm_br_iff, pm_some_iff] at q
  obtain ⟨y, s1, rfl, q1⟩ := pm_l_ex q
  obtain ⟨x, s2, rfl, ⟨h1, h2⟩, g⟩ := pm_l_ex q1
  have hI : pm_I64 ((x.toNat ||| y.toNat : Nat) : Int) := by
    have hb2 := Nat.or_lt_two_pow (x := x.toNat) (y := y.toNat) (n := 63) (by have hX : pm_I64 x := hF.tail.head; unfold pm_I64 at hX; omega) (by have hY : pm_I64 y := hF.head; unfold pm_I64 at hY; omega)
    unfold pm_I64; omega
  refine lv_lor hx hb hd ?_
  rw [pm_or64 h1 h2]
  exact ih _ _ _ _ _ _ _ _ _ _ g hH (hF.tail.tail.push (v := .inr (.inl (((x.toNat ||| y.toNat : Nat) : Int)))) hI)
theorem pz_i2l (X : pm_Cx p s m args meth c R D aC i d h0 h9) (ih : pm_Go p l e R s m args below meth c D aC i d h0 h9 a0 r9 n) (hH : pm_HI s D aC a0 h0 adr h H locs cells slots) (hF : pm_FI i adr h.2.2.length ls lsM st) (hd : decode (pm_b i) pc = .ok (.i2l, k)) (hk : pm_lk (.i2l) k pc = true) (q : ∃ nx : pm_N, pm_s i (.i2l) k pc ls st h = some nx ∧ pm_lp (pm_ev d) i n nx.1 nx.2.1 nx.2.2.1 nx.2.2.2 r9 h9) : pm_Wg p l e R s m args below meth c D aC h0 h9 a0 r9 pc adr H locs lsM st cells slots := by
  obtain ⟨hx, hb, hml, hr, hown, hts, hKK, hlk, hnm, hR, hi⟩ := X
  have ek : k = 1 := by simpa [pm_lk, pm_ln] using hk
  subst ek
  simp only [pm_s, pm_oi_iff, pm_ol_iff, pm_oq_iff, pm_or_iff, pm_oli_iff, pm_oll_iff, pm_olq_iff, pm_if_iff, pm_br_iff, pm_some_iff] at q
  obtain ⟨x, s1, rfl, g⟩ := pm_i_ex q
  refine lv_i2l hx hb hd (pm_i2l hF.head) ?_
  exact ih _ _ _ _ _ _ _ _ _ _ g hH (hF.tail.push (v := .inr (.inl x)) (pm_i64 hF.head))
theorem pz_l2i (X : pm_Cx p s m args meth c R D aC i d h0 h9) (ih : pm_Go p l e R s m args below meth c D aC i d h0 h9 a0 r9 n) (hH : pm_HI s D aC a0 h0 adr h H locs cells slots) (hF : pm_FI i adr h.2.2.length ls lsM st) (hd : decode (pm_b i) pc = .ok (.l2i, k)) (hk : pm_lk (.l2i) k pc = true) (q : ∃ nx : pm_N, pm_s i (.l2i) k pc ls st h = some nx ∧ pm_lp (pm_ev d) i n nx.1 nx.2.1 nx.2.2.1 nx.2.2.2 r9 h9) : pm_Wg p l e R s m args below meth c D aC h0 h9 a0 r9 pc adr H locs lsM st cells slots := by
  obtain ⟨hx, hb, hml, hr, hown, hts, hKK, hlk, hnm, hR, hi⟩ := X
  have ek : k = 1 := by simpa [pm_lk, pm_ln] using hk
  subst ek
  simp only [pm_s, pm_oi_iff, pm_ol_iff, pm_oq_iff, pm_or_iff, pm_oli_iff, pm_oll_iff, pm_olq_iff, pm_if_iff, pm_br_iff, pm_some_iff] at q
  obtain ⟨x, s1, rfl, hq, g⟩ := pm_l_ex q
  refine lv_l2i hx hb hd (pm_l2i x) ?_
  exact ih _ _ _ _ _ _ _ _ _ _ g hH (hF.tail.push (v := .inl x) hq)
theorem pz_lcmp (X : pm_Cx p s m args meth c R D aC i d h0 h9) (ih : pm_Go p l e R s m args below meth c D aC i d h0 h9 a0 r9 n) (hH : pm_HI s D aC a0 h0 adr h H locs cells slots) (hF : pm_FI i adr h.2.2.length ls lsM st) (hd : decode (pm_b i) pc = .ok (.lcmp, k)) (hk : pm_lk (.lcmp) k pc = true) (q : ∃ nx : pm_N, pm_s i (.lcmp) k pc ls st h = some nx ∧ pm_lp (pm_ev d) i n nx.1 nx.2.1 nx.2.2.1 nx.2.2.2 r9 h9) : pm_Wg p l e R s m args below meth c D aC h0 h9 a0 r9 pc adr H locs lsM st cells slots := by
  obtain ⟨hx, hb, hml, hr, hown, hts, hKK, hlk, hnm, hR, hi⟩ := X
  have ek : k = 1 := by simpa [pm_lk, pm_ln] using hk
  subst ek
  simp only [pm_s, pm_oi_iff, pm_ol_iff, pm_oq_iff, pm_or_iff, pm_oli_iff, pm_oll_iff, pm_olq_iff, pm_if_iff, pm_br_iff, pm_some_iff] at q
  obtain ⟨y, s1, rfl, q1⟩ := pm_l_ex q
  obtain ⟨x, s2, rfl, g⟩ := pm_l_ex q1
  refine W.lcmp hx hb hd ?_
  rw [pm_lcmp hF.tail.head hF.head]
  exact ih _ _ _ _ _ _ _ _ _ _ g hH (hF.tail.tail.push (v := .inl (pm_lc x y)) (pm_lc32 x y))
theorem pz_dup (X : pm_Cx p s m args meth c R D aC i d h0 h9) (ih : pm_Go p l e R s m args below meth c D aC i d h0 h9 a0 r9 n) (hH : pm_HI s D aC a0 h0 adr h H locs cells slots) (hF : pm_FI i adr h.2.2.length ls lsM st) (hd : decode (pm_b i) pc = .ok (.dup, k)) (hk : pm_lk (.dup) k pc = true) (q : ∃ nx : pm_N, pm_s i (.dup) k pc ls st h = some nx ∧ pm_lp (pm_ev d) i n nx.1 nx.2.1 nx.2.2.1 nx.2.2.2 r9 h9) : pm_Wg p l e R s m args below meth c D aC h0 h9 a0 r9 pc adr H locs lsM st cells slots := by
  obtain ⟨hx, hb, hml, hr, hown, hts, hKK, hlk, hnm, hR, hi⟩ := X
  have ek : k = 1 := by simpa [pm_lk, pm_ln] using hk
  subst ek
  simp only [pm_s, pm_oi_iff, pm_ol_iff, pm_oq_iff, pm_or_iff, pm_oli_iff, pm_oll_iff, pm_olq_iff, pm_if_iff, pm_br_iff, pm_some_iff] at q
  obtain ⟨x, s1, rfl, g⟩ := pm_q_ex q
  refine lv_dup hx hb hd pm_cat1 ?_
  exact ih _ _ _ _ _ _ _ _ _ _ g hH (hF.push hF.head)
theorem pz_dup2 (X : pm_Cx p s m args meth c R D aC i d h0 h9) (ih : pm_Go p l e R s m args below meth c D aC i d h0 h9 a0 r9 n) (hH : pm_HI s D aC a0 h0 adr h H locs cells slots) (hF : pm_FI i adr h.2.2.length ls lsM st) (hd : decode (pm_b i) pc = .ok (.dup2, k)) (hk : pm_lk (.dup2) k pc = true) (q : ∃ nx : pm_N, pm_s i (.dup2) k pc ls st h = some nx ∧ pm_lp (pm_ev d) i n nx.1 nx.2.1 nx.2.2.1 nx.2.2.2 r9 h9) : pm_Wg p l e R s m args below meth c D aC h0 h9 a0 r9 pc adr H locs lsM st cells slots := by
  obtain ⟨hx, hb, hml, hr, hown, hts, hKK, hlk, hnm, hR, hi⟩ := X
  have ek : k = 1 := by simpa [pm_lk, pm_ln] using hk
  subst ek
  simp only [pm_s, pm_oi_iff, pm_ol_iff, pm_oq_iff, pm_or_iff, pm_oli_iff, pm_oll_iff, pm_olq_iff, pm_if_iff, pm_br_iff, pm_some_iff] at q
  obtain ⟨y, s1, rfl, q1⟩ := pm_i_ex q
  obtain ⟨x, s2, rfl, g⟩ := pm_q_ex q1
  refine lv_dup2_11 hx hb hd rfl pm_cat1 ?_
  exact ih _ _ _ _ _ _ _ _ _ _ g hH ((hF.push hF.tail.head).push hF.head)
theorem pz_if_eq {off : Int} (X : pm_Cx p s m args meth c R D aC i d h0 h9) (ih : pm_Go p l e R s m args below meth c D aC i d h0 h9 a0 r9 n) (hH : pm_HI s D aC a0 h0 adr h H locs cells slots) (hF : pm_FI i adr h.2.2.length ls lsM st) (hd : decode (pm_b i) pc = .ok (.ifCond .eq off, k)) (hk : pm_lk (.ifCond .eq off) k pc = true) (q : ∃ nx : pm_N, pm_s i (.ifCond .eq off) k pc ls st h = some nx ∧ pm_lp (pm_ev d) i n nx.1 nx.2.1 nx.2.2.1 nx.2.2.2 r9 h9) : pm_Wg p l e R s m args below meth c D aC h0 h9 a0 r9 pc adr H locs lsM st cells slots := by
  obtain ⟨hx, hb, hml, hr, hown, hts, hKK, hlk, hnm, hR, hi⟩ := X
  simp only [pm_lk, Bool.and_eq_true, beq_iff_eq, decide_eq_true_eq] at hk
  obtain ⟨rfl, hk⟩ := hk
  have ht : (pc : Int) + off = ((((pc : Int) + off).toNat : Nat) : Int) := (Int.toNat_of_nonneg hk).symm
  simp only [pm_s, pm_oi_iff, pm_ol_iff, pm_oq_iff, pm_or_iff, pm_oli_iff, pm_oll_iff, pm_olq_iff, pm_if_iff, pm_br_iff, pm_some_iff] at q
  obtain ⟨x, s1, rfl, q1⟩ := pm_i_ex q
  refine lv_if_eq hx hb hd ht (fun z => ?_) (fun z => ?_)
  · exact ih _ _ _ _ _ _ _ _ _ _ (q1.1 ((pm_eq0 hF.head).mp z)) hH hF.tail
  · exact ih _ _ _ _ _ _ _ _ _ _ (q1.2 (fun w => z ((pm_eq0 hF.head).mpr w))) hH hF.tail
theorem pz_ic_eq {off : Int} (X : pm_Cx p s m args meth c R D aC i d h0 h9) (ih : pm_Go p l e R s m args below meth c D aC i d h0 h9 a0 r9 n) (hH : pm_HI s D aC a0 h0 adr h H locs cells slots) (hF : pm_FI i adr h.2.2.length ls lsM st) (hd : decode (pm_b i) pc = .ok (.if_icmp .eq off, k)) (hk : pm_lk (.if_icmp .eq off) k pc = true) (q : ∃ nx : pm_N, pm_s i (.if_icmp .eq off) k pc ls st h = some nx ∧ pm_lp (pm_ev d) i n nx.1 nx.2.1 nx.2.2.1 nx.2.2.2 r9 h9) : pm_Wg p l e R s m args below meth c D aC h0 h9 a0 r9 pc adr H locs lsM st cells slots := by
  obtain ⟨hx, hb, hml, hr, hown, hts, hKK, hlk, hnm, hR, hi⟩ := X
  simp only [pm_lk, Bool.and_eq_true, beq_iff_eq, decide_eq_true_eq] at hk
  obtain ⟨rfl, hk⟩ := hk
  have ht : (pc : Int) + off = ((((pc : Int) + off).toNat : Nat) : Int) := (Int.toNat_of_nonneg hk).symm
  simp only [pm_s, pm_oi_iff, pm_ol_iff, pm_oq_iff, pm_or_iff, pm_oli_iff, pm_oll_iff, pm_olq_iff, pm_if_iff, pm_br_iff, pm_some_iff] at q
  obtain ⟨y, s1, rfl, q1⟩ := pm_i_ex q
  obtain ⟨x, s2, rfl, q2⟩ := pm_i_ex q1
  refine lv_icmp_eq hx hb hd ht (fun z => ?_) (fun z => ?_)
  · exact ih _ _ _ _ _ _ _ _ _ _ (q2.1 ((pm_eq32 hF.tail.head hF.head).mp z)) hH hF.tail.tail
  · exact ih _ _ _ _ _ _ _ _ _ _ (q2.2 (fun w => z ((pm_eq32 hF.tail.head hF.head).mpr w))) hH hF.tail.tail
theorem pz_if_ne {off : Int} (X : pm_Cx p s m args meth c R D aC i d h0 h9) (ih : pm_Go p l e R s m args below meth c D aC i d h0 h9 a0 r9 n) (hH : pm_HI s D aC a0 h0 adr h H locs cells slots) (hF : pm_FI i adr h.2.2.length ls lsM st) (hd : decode (pm_b i) pc = .ok (.ifCond .ne off, k)) (hk : pm_lk (.ifCond .ne off) k pc = true) (q : ∃ nx : pm_N, pm_s i (.ifCond .ne off) k pc ls st h = some nx ∧ pm_lp (pm_ev d) i n nx.1 nx.2.1 nx.2.2.1 nx.2.2.2 r9 h9) : pm_Wg p l e R s m args below meth c D aC h0 h9 a0 r9 pc adr H locs lsM st cells slots := by
  obtain ⟨hx, hb, hml, hr, hown, hts, hKK, hlk, hnm, hR, hi⟩ := X
  simp only [pm_lk, Bool.and_eq_true, beq_iff_eq, decide_eq_true_eq] at hk
  obtain ⟨rfl, hk⟩ := hk
  have ht : (pc : Int) + off = ((((pc : Int) + off).toNat : Nat) : Int) := (Int.toNat_of_nonneg hk).symm
  simp only [pm_s, pm_oi_iff, pm_ol_iff, pm_oq_iff, pm_or_iff, pm_oli_iff, pm_oll_iff, pm_olq_iff, pm_if_iff, pm_br_iff, pm_some_iff] at q
  obtain ⟨x, s1, rfl, q1⟩ := pm_i_ex q
  refine lv_if_ne hx hb hd ht (fun z => ?_) (fun z => ?_)
  · exact ih _ _ _ _ _ _ _ _ _ _ (q1.1 (fun w => z ((pm_eq0 hF.head).mpr w))) hH hF.tail
  · exact ih _ _ _ _ _ _ _ _ _ _ (q1.2 (fun w => w ((pm_eq0 hF.head).mp z))) hH hF.tail
theorem pz_ic_ne {off : Int} (X : pm_Cx p s m args meth c R D aC i d h0 h9) (ih : pm_Go p l e R s m args below meth c D aC i d h0 h9 a0 r9 n) (hH : pm_HI s D aC a0 h0 adr h H locs cells slots) (hF : pm_FI i adr h.2.2.length ls lsM st) (hd : decode (pm_b i) pc = .ok (.if_icmp .ne off, k)) (hk : pm_lk (.if_icmp .ne off) k pc = true) (q : ∃ nx : pm_N, pm_s i (.if_icmp .ne off) k pc ls st h = some nx ∧ pm_lp (pm_ev d) i n nx.1 nx.2.1 nx.2.2.1 nx.2.2.2 r9 h9) : pm_Wg p l e R s m args below meth c D aC h0 h9 a0 r9 pc adr H locs lsM st cells slots := by
  obtain ⟨hx, hb, hml, hr, hown, hts, hKK, hlk, hnm, hR, hi⟩ := X
  simp only [pm_lk, Bool.and_eq_true, beq_iff_eq, decide_eq_true_eq] at hk
  obtain ⟨rfl, hk⟩ := hk
  have ht : (pc : Int) + off = ((((pc : Int) + off).toNat : Nat) : Int) := (Int.toNat_of_nonneg hk).symm
  simp only [pm_s, pm_oi_iff, pm_ol_iff, pm_oq_iff, pm_or_iff, pm_oli_iff, pm_oll_iff, pm_olq_iff, pm_if_iff, pm_br_iff, pm_some_iff] at q
  obtain ⟨y, s1, rfl, q1⟩ := pm_i_ex q
  obtain ⟨x, s2, rfl, q2⟩ := pm_i_ex q1
  refine lv_icmp_ne hx hb hd ht (fun z => ?_) (fun z => ?_)
  · exact ih _ _ _ _ _ _ _ _ _ _ (q2.1 (fun w => z ((pm_eq32 hF.tail.head hF.head).mpr w))) hH hF.tail.tail
  · exact ih _ _ _ _ _ _ _ _ _ _ (q2.2 (fun w => w ((pm_eq32 hF.tail.head hF.head).mp z))) hH hF.tail.tail
theorem pz_if_lt {off : Int} (X : pm_Cx p s m args meth c R D aC i d h0 h9) (ih : pm_Go p l e R s m args below meth c D aC i d h0 h9 a0 r9 n) (hH : pm_HI s D aC a0 h0 adr h H locs cells slots) (hF : pm_FI i adr h.2.2.length ls lsM st) (hd : decode (pm_b i) pc = .ok (.ifCond .lt off, k)) (hk : pm_lk (.ifCond .lt off) k pc = true) (q : ∃ nx : pm_N, pm_s i (.ifCond .lt off) k pc ls st h = some nx ∧ pm_lp (pm_ev d) i n nx.1 nx.2.1 nx.2.2.1 nx.2.2.2 r9 h9) : pm_Wg p l e R s m args below meth c D aC h0 h9 a0 r9 pc adr H locs lsM st cells slots := by
  obtain ⟨hx, hb, hml, hr, hown, hts, hKK, hlk, hnm, hR, hi⟩ := X
  simp only [pm_lk, Bool.and_eq_true, beq_iff_eq, decide_eq_true_eq] at hk
  obtain ⟨rfl, hk⟩ := hk
  have ht : (pc : Int) + off = ((((pc : Int) + off).toNat : Nat) : Int) := (Int.toNat_of_nonneg hk).symm
  simp only [pm_s, pm_oi_iff, pm_ol_iff, pm_oq_iff, pm_or_iff, pm_oli_iff, pm_oll_iff, pm_olq_iff, pm_if_iff, pm_br_iff, pm_some_iff] at q
  obtain ⟨x, s1, rfl, q1⟩ := pm_i_ex q
  refine lv_if_lt hx hb hd ht (fun z => ?_) (fun z => ?_)
  · exact ih _ _ _ _ _ _ _ _ _ _ (q1.1 ((pm_lt0' hF.head).mp z)) hH hF.tail
  · exact ih _ _ _ _ _ _ _ _ _ _ (q1.2 (fun w => z ((pm_lt0' hF.head).mpr w))) hH hF.tail
theorem pz_ic_lt {off : Int} (X : pm_Cx p s m args meth c R D aC i d h0 h9) (ih : pm_Go p l e R s m args below meth c D aC i d h0 h9 a0 r9 n) (hH : pm_HI s D aC a0 h0 adr h H locs cells slots) (hF : pm_FI i adr h.2.2.length ls lsM st) (hd : decode (pm_b i) pc = .ok (.if_icmp .lt off, k)) (hk : pm_lk (.if_icmp .lt off) k pc = true) (q : ∃ nx : pm_N, pm_s i (.if_icmp .lt off) k pc ls st h = some nx ∧ pm_lp (pm_ev d) i n nx.1 nx.2.1 nx.2.2.1 nx.2.2.2 r9 h9) : pm_Wg p l e R s m args below meth c D aC h0 h9 a0 r9 pc adr H locs lsM st cells slots := by
  obtain ⟨hx, hb, hml, hr, hown, hts, hKK, hlk, hnm, hR, hi⟩ := X
  simp only [pm_lk, Bool.and_eq_true, beq_iff_eq, decide_eq_true_eq] at hk
  obtain ⟨rfl, hk⟩ := hk
  have ht : (pc : Int) + off = ((((pc : Int) + off).toNat : Nat) : Int) := (Int.toNat_of_nonneg hk).symm
  simp only [pm_s, pm_oi_iff, pm_ol_iff, pm_oq_iff, pm_or_iff, pm_oli_iff, pm_oll_iff, pm_olq_iff, pm_if_iff, pm_br_iff, pm_some_iff] at q
  obtain ⟨y, s1, rfl, q1⟩ := pm_i_ex q
  obtain ⟨x, s2, rfl, q2⟩ := pm_i_ex q1
  refine lv_icmp_lt hx hb hd ht (fun z => ?_) (fun z => ?_)
  · exact ih _ _ _ _ _ _ _ _ _ _ (q2.1 ((pm_lt32 hF.tail.head hF.head).mp z)) hH hF.tail.tail
  · exact ih _ _ _ _ _ _ _ _ _ _ (q2.2 (fun w => z ((pm_lt32 hF.tail.head hF.head).mpr w))) hH hF.tail.tail
theorem pz_if_ge {off : Int} (X : pm_Cx p s m args meth c R D aC i d h0 h9) (ih : pm_Go p l e R s m args below meth c D aC i d h0 h9 a0 r9 n) (hH : pm_HI s D aC a0 h0 adr h H locs cells slots) (hF : pm_FI i adr h.2.2.length ls lsM st) (hd : decode (pm_b i) pc = .ok (.ifCond .ge off, k)) (hk : pm_lk (.ifCond .ge off) k pc = true) (q : ∃ nx : pm_N, pm_s i (.ifCond .ge off) k pc ls st h = some nx ∧ pm_lp (pm_ev d) i n nx.1 nx.2.1 nx.2.2.1 nx.2.2.2 r9 h9) : pm_Wg p l e R s m args below meth c D aC h0 h9 a0 r9 pc adr H locs lsM st cells slots := by
  obtain ⟨hx, hb, hml, hr, hown, hts, hKK, hlk, hnm, hR, hi⟩ := X
  simp only [pm_lk, Bool.and_eq_true, beq_iff_eq, decide_eq_true_eq] at hk
  obtain ⟨rfl, hk⟩ := hk
  have ht : (pc : Int) + off = ((((pc : Int) + off).toNat : Nat) : Int) := (Int.toNat_of_nonneg hk).symm
  simp only [pm_s, pm_oi_iff, pm_ol_iff, pm_oq_iff, pm_or_iff, pm_oli_iff, pm_oll_iff, pm_olq_iff, pm_if_iff, pm_br_iff, pm_some_iff] at q
  obtain ⟨x, s1, rfl, q1⟩ := pm_i_ex q
  refine lv_if_ge hx hb hd ht (fun z => ?_) (fun z => ?_)
  · exact ih _ _ _ _ _ _ _ _ _ _ (q1.1 ((pm_le0 hF.head).mp z)) hH hF.tail
  · exact ih _ _ _ _ _ _ _ _ _ _ (q1.2 (fun w => z ((pm_le0 hF.head).mpr w))) hH hF.tail
theorem pz_ic_ge {off : Int} (X : pm_Cx p s m args meth c R D aC i d h0 h9) (ih : pm_Go p l e R s m args below meth c D aC i d h0 h9 a0 r9 n) (hH : pm_HI s D aC a0 h0 adr h H locs cells slots) (hF : pm_FI i adr h.2.2.length ls lsM st) (hd : decode (pm_b i) pc = .ok (.if_icmp .ge off, k)) (hk : pm_lk (.if_icmp .ge off) k pc = true) (q : ∃ nx : pm_N, pm_s i (.if_icmp .ge off) k pc ls st h = some nx ∧ pm_lp (pm_ev d) i n nx.1 nx.2.1 nx.2.2.1 nx.2.2.2 r9 h9) : pm_Wg p l e R s m args below meth c D aC h0 h9 a0 r9 pc adr H locs lsM st cells slots := by
  obtain ⟨hx, hb, hml, hr, hown, hts, hKK, hlk, hnm, hR, hi⟩ := X
  simp only [pm_lk, Bool.and_eq_true, beq_iff_eq, decide_eq_true_eq] at hk
  obtain ⟨rfl, hk⟩ := hk
  have ht : (pc : Int) + off = ((((pc : Int) + off).toNat : Nat) : Int) := (Int.toNat_of_nonneg hk).symm
  simp only [pm_s, pm_oi_iff, pm_ol_iff, pm_oq_iff, pm_or_iff, pm_oli_iff, pm_oll_iff, pm_olq_iff, pm_if_iff, pm_br_iff, pm_some_iff] at q
  obtain ⟨y, s1, rfl, q1⟩ := pm_i_ex q
  obtain ⟨x, s2, rfl, q2⟩ := pm_i_ex q1
  refine lv_icmp_ge hx hb hd ht (fun z => ?_) (fun z => ?_)
  · exact ih _ _ _ _ _ _ _ _ _ _ (q2.1 ((pm_le32 hF.head hF.tail.head).mp z)) hH hF.tail.tail
  · exact ih _ _ _ _ _ _ _ _ _ _ (q2.2 (fun w => z ((pm_le32 hF.head hF.tail.head).mpr w))) hH hF.tail.tail
theorem pz_if_gt {off : Int} (X : pm_Cx p s m args meth c R D aC i d h0 h9) (ih : pm_Go p l e R s m args below meth c D aC i d h0 h9 a0 r9 n) (hH : pm_HI s D aC a0 h0 adr h H locs cells slots) (hF : pm_FI i adr h.2.2.length ls lsM st) (hd : decode (pm_b i) pc = .ok (.ifCond .gt off, k)) (hk : pm_lk (.ifCond .gt off) k pc = true) (q : ∃ nx : pm_N, pm_s i (.ifCond .gt off) k pc ls st h = some nx ∧ pm_lp (pm_ev d) i n nx.1 nx.2.1 nx.2.2.1 nx.2.2.2 r9 h9) : pm_Wg p l e R s m args below meth c D aC h0 h9 a0 r9 pc adr H locs lsM st cells slots := by
  obtain ⟨hx, hb, hml, hr, hown, hts, hKK, hlk, hnm, hR, hi⟩ := X
  simp only [pm_lk, Bool.and_eq_true, beq_iff_eq, decide_eq_true_eq] at hk
  obtain ⟨rfl, hk⟩ := hk
  have ht : (pc : Int) + off = ((((pc : Int) + off).toNat : Nat) : Int) := (Int.toNat_of_nonneg hk).symm
  simp only [pm_s, pm_oi_iff, pm_ol_iff, pm_oq_iff, pm_or_iff, pm_oli_iff, pm_oll_iff, pm_olq_iff, pm_if_iff, pm_br_iff, pm_some_iff] at q
  obtain ⟨x, s1, rfl, q1⟩ := pm_i_ex q
  refine lv_if_gt hx hb hd ht (fun z => ?_) (fun z => ?_)
  · exact ih _ _ _ _ _ _ _ _ _ _ (q1.1 ((pm_lt0 hF.head).mp z)) hH hF.tail
  · exact ih _ _ _ _ _ _ _ _ _ _ (q1.2 (fun w => z ((pm_lt0 hF.head).mpr w))) hH hF.tail
theorem pz_ic_gt {off : Int} (X : pm_Cx p s m args meth c R D aC i d h0 h9) (ih : pm_Go p l e R s m args below meth c D aC i d h0 h9 a0 r9 n) (hH : pm_HI s D aC a0 h0 adr h H locs cells slots) (hF : pm_FI i adr h.2.2.length ls lsM st) (hd : decode (pm_b i) pc = .ok (.if_icmp .gt off, k)) (hk : pm_lk (.if_icmp .gt off) k pc = true) (q : ∃ nx : pm_N, pm_s i (.if_icmp .gt off) k pc ls st h = some nx ∧ pm_lp (pm_ev d) i n nx.1 nx.2.1 nx.2.2.1 nx.2.2.2 r9 h9) : pm_Wg p l e R s m args below meth c D aC h0 h9 a0 r9 pc adr H locs lsM st cells slots := by
  obtain ⟨hx, hb, hml, hr, hown, hts, hKK, hlk, hnm, hR, hi⟩ := X
  simp only [pm_lk, Bool.and_eq_true, beq_iff_eq, decide_eq_true_eq] at hk
  obtain ⟨rfl, hk⟩ := hk
  have ht : (pc : Int) + off = ((((pc : Int) + off).toNat : Nat) : Int) := (Int.toNat_of_nonneg hk).symm
  simp only [pm_s, pm_oi_iff, pm_ol_iff, pm_oq_iff, pm_or_iff, pm_oli_iff, pm_oll_iff, pm_olq_iff, pm_if_iff, pm_br_iff, pm_some_iff] at q
  obtain ⟨y, s1, rfl, q1⟩ := pm_i_ex q
  obtain ⟨x, s2, rfl, q2⟩ := pm_i_ex q1
  refine lv_icmp_gt hx hb hd ht (fun z => ?_) (fun z => ?_)
  · exact ih _ _ _ _ _ _ _ _ _ _ (q2.1 ((pm_lt32 hF.head hF.tail.head).mp z)) hH hF.tail.tail
  · exact ih _ _ _ _ _ _ _ _ _ _ (q2.2 (fun w => z ((pm_lt32 hF.head hF.tail.head).mpr w))) hH hF.tail.tail
theorem pz_if_le {off : Int} (X : pm_Cx p s m args meth c R D aC i d h0 h9) (ih : pm_Go p l e R s m args below meth c D aC i d h0 h9 a0 r9 n) (hH : pm_HI s D aC a0 h0 adr h H locs cells slots) (hF : pm_FI i adr h.2.2.length ls lsM st) (hd : decode (pm_b i) pc = .ok (.ifCond .le off, k)) (hk : pm_lk (.ifCond .le off) k pc = true) (q : ∃ nx : pm_N, pm_s i (.ifCond .le off) k pc ls st h = some nx ∧ pm_lp (pm_ev d) i n nx.1 nx.2.1 nx.2.2.1 nx.2.2.2 r9 h9) : pm_Wg p l e R s m args below meth c D aC h0 h9 a0 r9 pc adr H locs lsM st cells slots := by
  obtain ⟨hx, hb, hml, hr, hown, hts, hKK, hlk, hnm, hR, hi⟩ := X
  simp only [pm_lk, Bool.and_eq_true, beq_iff_eq, decide_eq_true_eq] at hk
  obtain ⟨rfl, hk⟩ := hk
  have ht : (pc : Int) + off = ((((pc : Int) + off).toNat : Nat) : Int) := (Int.toNat_of_nonneg hk).symm
  simp only [pm_s, pm_oi_iff, pm_ol_iff, pm_oq_iff, pm_or_iff, pm_oli_iff, pm_oll_iff, pm_olq_iff, pm_if_iff, pm_br_iff, pm_some_iff] at q
  obtain ⟨x, s1, rfl, q1⟩ := pm_i_ex q
  refine lv_if_le hx hb hd ht (fun z => ?_) (fun z => ?_)
  · exact ih _ _ _ _ _ _ _ _ _ _ (q1.1 ((pm_le0' hF.head).mp z)) hH hF.tail
  · exact ih _ _ _ _ _ _ _ _ _ _ (q1.2 (fun w => z ((pm_le0' hF.head).mpr w))) hH hF.tail
theorem pz_ic_le {off : Int} (X : pm_Cx p s m args meth c R D aC i d h0 h9) (ih : pm_Go p l e R s m args below meth c D aC i d h0 h9 a0 r9 n) (hH : pm_HI s D aC a0 h0 adr h H locs cells slots) (hF : pm_FI i adr h.2.2.length ls lsM st) (hd : decode (pm_b i) pc = .ok (.if_icmp .le off, k)) (hk : pm_lk (.if_icmp .le off) k pc = true) (q : ∃ nx : pm_N, pm_s i (.if_icmp .le off) k pc ls st h = some nx ∧ pm_lp (pm_ev d) i n nx.1 nx.2.1 nx.2.2.1 nx.2.2.2 r9 h9) : pm_Wg p l e R s m args below meth c D aC h0 h9 a0 r9 pc adr H locs lsM st cells slots := by
  obtain ⟨hx, hb, hml, hr, hown, hts, hKK, hlk, hnm, hR, hi⟩ := X
  simp only [pm_lk, Bool.and_eq_true, beq_iff_eq, decide_eq_true_eq] at hk
  obtain ⟨rfl, hk⟩ := hk
  have ht : (pc : Int) + off = ((((pc : Int) + off).toNat : Nat) : Int) := (Int.toNat_of_nonneg hk).symm
  simp only [pm_s, pm_oi_iff, pm_ol_iff, pm_oq_iff, pm_or_iff, pm_oli_iff, pm_oll_iff, pm_olq_iff, pm_if_iff, pm_br_iff, pm_some_iff] at q
  obtain ⟨y, s1, rfl, q1⟩ := pm_i_ex q
  obtain ⟨x, s2, rfl, q2⟩ := pm_i_ex q1
  refine lv_icmp_le hx hb hd ht (fun z => ?_) (fun z => ?_)
  · exact ih _ _ _ _ _ _ _ _ _ _ (q2.1 ((pm_le32 hF.tail.head hF.head).mp z)) hH hF.tail.tail
  · exact ih _ _ _ _ _ _ _ _ _ _ (q2.2 (fun w => z ((pm_le32 hF.tail.head hF.head).mpr w))) hH hF.tail.tail
theorem pz_ifnull {off : Int} (X : pm_Cx p s m args meth c R D aC i d h0 h9) (ih : pm_Go p l e R s m args below meth c D aC i d h0 h9 a0 r9 n) (hH : pm_HI s D aC a0 h0 adr h H locs cells slots) (hF : pm_FI i adr h.2.2.length ls lsM st) (hd : decode (pm_b i) pc = .ok (.ifnull off, k)) (hk : pm_lk (.ifnull off) k pc = true) (q : ∃ nx : pm_N, pm_s i (.ifnull off) k pc ls st h = some nx ∧ pm_lp (pm_ev d) i n nx.1 nx.2.1 nx.2.2.1 nx.2.2.2 r9 h9) : pm_Wg p l e R s m args below meth c D aC h0 h9 a0 r9 pc adr H locs lsM st cells slots := by
  obtain ⟨hx, hb, hml, hr, hown, hts, hKK, hlk, hnm, hR, hi⟩ := X
  simp only [pm_lk, Bool.and_eq_true, beq_iff_eq, decide_eq_true_eq] at hk
  obtain ⟨rfl, hk⟩ := hk
  have ht : (pc : Int) + off = ((((pc : Int) + off).toNat : Nat) : Int) := (Int.toNat_of_nonneg hk).symm
  simp only [pm_s, pm_oi_iff, pm_ol_iff, pm_oq_iff, pm_or_iff, pm_oli_iff, pm_oll_iff, pm_olq_iff, pm_if_iff, pm_br_iff, pm_some_iff] at q
  obtain ⟨x, s1, rfl, q1⟩ := pm_q_ex q
  cases x with
  | none =>
    refine lv_ifnullN hx hb hd ht ?_
    exact ih _ _ _ _ _ _ _ _ _ _ (q1.1 rfl) hH hF.tail
  | some a =>
    refine lv_ifnull hx hb hd ?_
    exact ih _ _ _ _ _ _ _ _ _ _ (q1.2 (fun z => by cases z)) hH hF.tail
theorem pz_ifnonnull {off : Int} (X : pm_Cx p s m args meth c R D aC i d h0 h9) (ih : pm_Go p l e R s m args below meth c D aC i d h0 h9 a0 r9 n) (hH : pm_HI s D aC a0 h0 adr h H locs cells slots) (hF : pm_FI i adr h.2.2.length ls lsM st) (hd : decode (pm_b i) pc = .ok (.ifnonnull off, k)) (hk : pm_lk (.ifnonnull off) k pc = true) (q : ∃ nx : pm_N, pm_s i (.ifnonnull off) k pc ls st h = some nx ∧ pm_lp (pm_ev d) i n nx.1 nx.2.1 nx.2.2.1 nx.2.2.2 r9 h9) : pm_Wg p l e R s m args below meth c D aC h0 h9 a0 r9 pc adr H locs lsM st cells slots := by
  obtain ⟨hx, hb, hml, hr, hown, hts, hKK, hlk, hnm, hR, hi⟩ := X
  simp only [pm_lk, Bool.and_eq_true, beq_iff_eq, decide_eq_true_eq] at hk
  obtain ⟨rfl, hk⟩ := hk
  have ht : (pc : Int) + off = ((((pc : Int) + off).toNat : Nat) : Int) := (Int.toNat_of_nonneg hk).symm
  simp only [pm_s, pm_oi_iff, pm_ol_iff, pm_oq_iff, pm_or_iff, pm_oli_iff, pm_oll_iff, pm_olq_iff, pm_if_iff, pm_br_iff, pm_some_iff] at q
  obtain ⟨x, s1, rfl, q1⟩ := pm_q_ex q
  cases x with
  | none =>
    refine lv_ifnonnullN hx hb hd ?_
    exact ih _ _ _ _ _ _ _ _ _ _ (q1.2 (fun z => z rfl)) hH hF.tail
  | some a =>
    refine lv_ifnonnull hx hb hd ht ?_
    exact ih _ _ _ _ _ _ _ _ _ _ (q1.1 (fun z => by cases z)) hH hF.tail
theorem pz_goto {off : Int} (X : pm_Cx p s m args meth c R D aC i d h0 h9) (ih : pm_Go p l e R s m args below meth c D aC i d h0 h9 a0 r9 n) (hH : pm_HI s D aC a0 h0 adr h H locs cells slots) (hF : pm_FI i adr h.2.2.length ls lsM st) (hd : decode (pm_b i) pc = .ok (.goto off, k)) (hk : pm_lk (.goto off) k pc = true) (q : ∃ nx : pm_N, pm_s i (.goto off) k pc ls st h = some nx ∧ pm_lp (pm_ev d) i n nx.1 nx.2.1 nx.2.2.1 nx.2.2.2 r9 h9) : pm_Wg p l e R s m args below meth c D aC h0 h9 a0 r9 pc adr H locs lsM st cells slots := by
  obtain ⟨hx, hb, hml, hr, hown, hts, hKK, hlk, hnm, hR, hi⟩ := X
  simp only [pm_lk, Bool.and_eq_true, beq_iff_eq, decide_eq_true_eq] at hk
  obtain ⟨rfl, hk⟩ := hk
  have ht : (pc : Int) + off = ((((pc : Int) + off).toNat : Nat) : Int) := (Int.toNat_of_nonneg hk).symm
  simp only [pm_s, pm_oi_iff, pm_ol_iff, pm_oq_iff, pm_or_iff, pm_oli_iff, pm_oll_iff, pm_olq_iff, pm_if_iff, pm_br_iff, pm_some_iff] at q
  refine lv_goto hx hb hd ht ?_
  exact ih _ _ _ _ _ _ _ _ _ _ q hH hF
theorem pz_tableswitch {df lo hh : Int} {offs : Array Int} (X : pm_Cx p s m args meth c R D aC i d h0 h9) (ih : pm_Go p l e R s m args below meth c D aC i d h0 h9 a0 r9 n) (hH : pm_HI s D aC a0 h0 adr h H locs cells slots) (hF : pm_FI i adr h.2.2.length ls lsM st) (hd : decode (pm_b i) pc = .ok (.tableswitch df lo hh offs, k)) (hk : pm_lk (.tableswitch df lo hh offs) k pc = true) (q : ∃ nx : pm_N, pm_s i (.tableswitch df lo hh offs) k pc ls st h = some nx ∧ pm_lp (pm_ev d) i n nx.1 nx.2.1 nx.2.2.1 nx.2.2.2 r9 h9) : pm_Wg p l e R s m args below meth c D aC h0 h9 a0 r9 pc adr H locs lsM st cells slots := by
  obtain ⟨hx, hb, hml, hr, hown, hts, hKK, hlk, hnm, hR, hi⟩ := X
  simp only [pm_s, pm_oi_iff, pm_ol_iff, pm_oq_iff, pm_or_iff, pm_oli_iff, pm_oll_iff, pm_olq_iff, pm_if_iff, pm_br_iff, pm_some_iff] at q
  simp only [pm_lk, Bool.and_eq_true, decide_eq_true_eq, List.all_eq_true] at hk
  obtain ⟨⟨hk1, hk2⟩, hk3⟩ := hk
  obtain ⟨x, s1, rfl, g⟩ := pm_i_ex q
  have hX : pm_I32 x := hF.head
  by_cases hc : x < lo ∨ hh < x
  · rw [if_pos hc] at g
    refine lv_tableOut hx hb hd (by rw [pm_t32 hX]; exact hc) (Int.toNat_of_nonneg hk1).symm ?_
    exact ih _ _ _ _ _ _ _ _ _ _ g hH hF.tail
  · rw [if_neg hc] at g
    have hl : (x - lo).toNat < offs.toList.length := by omega
    have e1 : offs.toList.getD (x - lo).toNat 0 = offs.toList[(x - lo).toNat] := by rw [List.getD_eq_getElem?_getD, List.getElem?_eq_getElem hl]; rfl
    have e2 : offs[(x - lo).toNat]? = some (offs.toList.getD (x - lo).toNat 0) := by
      rw [e1, ← Array.getElem?_toList, List.getElem?_eq_getElem hl]
    refine lv_tableIn hx hb hd (by rw [pm_t32 hX]; exact fun z => hc (Or.inl z)) (by rw [pm_t32 hX]; exact fun z => hc (Or.inr z)) (by rw [pm_t32 hX]; exact e2) (Int.toNat_of_nonneg (hk2 _ (by rw [e1]; exact List.getElem_mem hl))).symm ?_
    exact ih _ _ _ _ _ _ _ _ _ _ g hH hF.tail
end
