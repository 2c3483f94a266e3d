/-! worlds -/
def pm_tv (adr : Nat → Nat) : pm_V → Value
  | .inl x => .int (Int32.ofInt x)
  | .inr (.inl x) => .long (Int64.ofInt x)
  | .inr (.inr r) => va_rf (r.map adr)
def pm_gv (n : Nat) : pm_V → Prop
  | .inl x => pm_I32 x
  | .inr (.inl x) => pm_I64 x
  | .inr (.inr (some p)) => p < n
  | .inr (.inr none) => True
def pm_fv (adr : Nat → Nat) (h : pm_H) (q kd k : Nat) : Value := match kd with
  | 0 => .int (Int32.ofInt (h.1 q k))
  | 1 => .int (Int32.ofInt (h.1 q k))
  | 2 => .long (Int64.ofInt (h.1 q k))
  | _ => va_rf ((h.2.1 q k).map adr)
def pm_cell (aC : Nat → ClassId) (adr : Nat → Nat) (h : pm_H) (q : Nat) (z : Nat × Nat) : va_E :=
  if z.1 < 13 then .inr (z.1, (List.range z.2).map fun k => pm_fv adr h q (pm_kd z.1 k) k)
  else if z.1 = 20 ∨ z.1 = 22 then .inl (aC z.1, z.2, .inl fun j => Int32.ofInt (h.1 q j))
  else if z.1 = 21 then .inl (aC 21, z.2, .inr (.inl fun j => Int64.ofInt (h.1 q j)))
  else .inl (aC z.1, z.2, .inr (.inr (.inr (.inr fun j => (h.2.1 q j).map adr))))
def pm_ws (aC : Nat → ClassId) (adr : Nat → Nat) (h : pm_H) : va_W := (List.range h.2.2.length).map fun q => (adr q, pm_cell aC adr h q (h.2.2.getD q (99, 0)))
def pm_tot (h : pm_H) : Nat := (h.2.2.map fun z => z.2).sum
theorem pm_ws_get {aC : Nat → ClassId} {adr : Nat → Nat} {h : pm_H} {q : Nat} {z : Nat × Nat} (hz : h.2.2[q]? = some z) : (pm_ws aC adr h)[q]? = some (adr q, pm_cell aC adr h q z) := by
  have hl : q < h.2.2.length := (List.getElem?_eq_some_iff.mp hz).1
  unfold pm_ws
  rw [List.getElem?_map, List.getElem?_range hl, Option.map_some, List.getD_eq_getElem?_getD, hz]
  rfl
theorem pm_ws_len {aC : Nat → ClassId} {adr : Nat → Nat} {h : pm_H} : (pm_ws aC adr h).length = h.2.2.length := by
  unfold pm_ws
  rw [List.length_map, List.length_range]
theorem pm_ws_set {aC : Nat → ClassId} {adr : Nat → Nat} {h h' : pm_H} {q : Nat} {z : Nat × Nat} {x : va_E} (hz : h.2.2[q]? = some z) (hT : h'.2.2 = h.2.2) (hx : pm_cell aC adr h' q z = x) (ho : ∀ p y, p ≠ q → pm_cell aC adr h' p y = pm_cell aC adr h p y) : (pm_ws aC adr h).set q (adr q, x) = pm_ws aC adr h' := by
  apply List.ext_getElem?
  intro p
  by_cases hp : p < h.2.2.length
  · obtain ⟨y, hy⟩ : ∃ y, h.2.2[p]? = some y := ⟨_, List.getElem?_eq_getElem hp⟩
    rw [pm_ws_get (h := h') (z := y) (by rw [hT]; exact hy)]
    by_cases e : p = q
    · subst e
      cases hy.symm.trans hz
      rw [List.getElem?_set_self (by rw [pm_ws_len]; exact hp), hx]
    · rw [List.getElem?_set_ne (Ne.symm e), pm_ws_get hy, ho p y e]
  · rw [List.getElem?_eq_none (by rw [List.length_set, pm_ws_len]; omega), List.getElem?_eq_none (by rw [pm_ws_len, hT]; omega)]
theorem pm_ws_push {aC : Nat → ClassId} {adr adr' : Nat → Nat} {h h' : pm_H} {z : Nat × Nat} {x : va_E} {a : Nat} (hT : h'.2.2 = h.2.2 ++ [z]) (ha : adr' h.2.2.length = a) (hx : pm_cell aC adr' h' h.2.2.length z = x) (ho : ∀ p y, p < h.2.2.length → adr' p = adr p ∧ pm_cell aC adr' h' p y = pm_cell aC adr h p y) : pm_ws aC adr h ++ [(a, x)] = pm_ws aC adr' h' := by
  apply List.ext_getElem?
  intro p
  by_cases hp : p < h.2.2.length
  · obtain ⟨y, hy⟩ : ∃ y, h.2.2[p]? = some y := ⟨_, List.getElem?_eq_getElem hp⟩
    rw [pm_ws_get (h := h') (z := y) (by rw [hT, List.getElem?_append_left hp]; exact hy), List.getElem?_append_left (by rw [pm_ws_len]; exact hp), pm_ws_get hy, (ho p y hp).1, (ho p y hp).2]
  · by_cases e : p = h.2.2.length
    · subst e
      rw [pm_ws_get (h := h') (z := z) (by rw [hT, List.getElem?_append_right (Nat.le_refl _), Nat.sub_self]; rfl), List.getElem?_append_right (by rw [pm_ws_len]; exact Nat.le_refl _), pm_ws_len, Nat.sub_self, ha, hx]
      rfl
    · rw [List.getElem?_eq_none (by rw [List.length_append, pm_ws_len, List.length_singleton]; omega), List.getElem?_eq_none (by rw [pm_ws_len, hT, List.length_append, List.length_singleton]; omega)]
/-- a heap as it may be -/
def pm_rg (kd : Nat) (x : Int) : Prop := (kd = 0 → pm_I32 x) ∧ (kd = 1 → x = 0 ∨ x = 1) ∧ (kd = 2 → pm_I64 x)
def pm_GH (h : pm_H) : Prop := (∀ (q t n : Nat), h.2.2[q]? = some (t, n) → (t < 13 ∧ n = pm_nf t) ∨ (20 ≤ t ∧ t ≤ 25 ∧ n ≤ 4000)) ∧ (∀ (q t n k : Nat), h.2.2[q]? = some (t, n) → pm_rg (pm_kd t k) (h.1 q k)) ∧ ∀ (q k p : Nat), h.2.1 q k = some p → p < h.2.2.length
theorem pm_cell_eq {aC : Nat → ClassId} {adr adr' : Nat → Nat} {h h' : pm_H} {q : Nat} (z : Nat × Nat) (h1 : ∀ k, h'.1 q k = h.1 q k) (h2 : ∀ k, (h'.2.1 q k).map adr' = (h.2.1 q k).map adr) : pm_cell aC adr' h' q z = pm_cell aC adr h q z := by
  have e1 : ∀ kd k, pm_fv adr' h' q kd k = pm_fv adr h q kd k := by
    intro kd k
    unfold pm_fv
    rw [h1 k, h2 k]
  unfold pm_cell
  simp only [e1, h1, h2]
/-! the tables are right -/
def pm_hw (k : Nat) (w : Cond) : Bool := decide (lw_tbl[k]? = some w)
theorem pm_hw_W {k : Nat} {w : Cond} (h : pm_hw k w = true) (g : goodWord w = true) : w ∈ pm_W := List.mem_filter.mpr ⟨List.mem_of_getElem? (of_decide_eq_true h), g⟩
theorem pm_hw_N {k : Nat} {w : Cond} (h : pm_hw k w = true) (g : pm_isN w = true) : w ∈ pm_NW := List.mem_filter.mpr ⟨List.mem_of_getElem? (of_decide_eq_true h), g⟩
def pm_okF (e : (Nat × Nat) × (Nat × Nat × List Nat × Bool × Bool × Nat × Nat × String × Nat)) : Bool := match e with
  | ((own, idx), (k, kd, al, fin, nest, pf, wi, rf, sm)) => al.all fun t => decide (t < 13) && decide (k < pm_nf t) && decide (pm_kd t k = kd) && decide ((pm_T t k).2.2.2 = fin) && decide (kd < 4) &&
      (decide ((pm_T t k).1 = rf) || pm_hw sm (.sameField rf (pm_T t k).1 (pm_T t k).2.1 (pm_T t k).2.2.1)) &&
      pm_hw wi (if nest then .fieldLinkNest (pm_cn own) idx rf (pm_T t k).2.1 (pm_T t k).2.2.1 "LoomShed" else .fieldLink (pm_cn own) idx rf (pm_T t k).2.1 (pm_T t k).2.2.1) &&
      (decide (pf ≠ 0) || decide (fin = false)) && (decide (pf ≠ 1) || (decide (fin = true) && decide ((pm_T t k).1 = pm_cn own) && decide (nest = false)))
set_option maxRecDepth 100000 in
theorem pm_okFT : pm_FT.all pm_okF = true := by decide +kernel
def pm_kty : Nat → Option FieldType → Bool
  | 0, some .int => true
  | 1, some .boolean => true
  | 2, some .long => true
  | 3, some (.object _) => true
  | 3, some (.array _) => true
  | _, _ => false
def pm_ty (t : Nat) : Nat → FieldType := fun k => (parseFieldDescriptor (pm_T t k).2.2.1).getD .int
def pm_okT (t : Nat) : Bool := decide (∀ a, a < pm_nf t → ∀ b, b < pm_nf t → a ≠ b → (pm_T t a).2.1 ≠ (pm_T t b).2.1) && (List.range (pm_nf t)).all fun k => pm_kty (pm_kd t k) (parseFieldDescriptor (pm_T t k).2.2.1) && decide (u_lay (pm_cn t) (pm_T t) k ∈ lw_tbl) && goodWord (u_lay (pm_cn t) (pm_T t) k)
set_option maxRecDepth 100000 in
theorem pm_okTT : (List.range 13).all pm_okT = true := by decide +kernel
def pm_okN (i : Nat) : Bool := plainName (pm_y i).cls && decide (pm_mL i ≤ 41) && decide ((pm_y i).cls ≠ "java/lang/invoke/MethodHandle") && decide ((pm_y i).cls ≠ "java/lang/invoke/VarHandle") && decide (pm_cn (pm_ow i) = (pm_y i).cls)
set_option maxRecDepth 100000 in
theorem pm_okNT : (List.range 172).all pm_okN = true := by decide +kernel
set_option maxRecDepth 100000 in
set_option maxHeartbeats 4000000 in
theorem pm_codes : pm_MT.map (fun e => lw_tbl[e.2.2.2.2]?) = pm_MT.map (fun e => some (Cond.code e.1 e.2.1 e.2.2.1 e.2.2.2.1)) := by rfl
theorem pm_code {i : Nat} (hi : i < 172) : Cond.code (pm_y i) (pm_b i) (pm_mL i) (pm_rt i) ∈ pm_W := by
  have hl : i < pm_MT.length := hi
  have h := congrArg (fun l => l[i]?) pm_codes
  simp only [List.getElem?_map] at h
  have e : pm_MT[i]? = some (pm_me i) := by
    unfold pm_me
    rw [List.getD_eq_getElem?_getD, List.getElem?_eq_getElem hl]
    rfl
  rw [e] at h
  simp only [Option.map_some, Option.some.injEq] at h
  exact List.mem_filter.mpr ⟨List.mem_of_getElem? h, rfl⟩
/-- the word of a link -/
def pm_lw (nest : Bool) (own : Nat) (idx : Nat) (y : MethodName) : Cond := if nest then .methodLinkNest (pm_cn own) idx y "LoomShed" else .methodLink (pm_cn own) idx y
def pm_np (i na : Nat) : Bool := decide ((parseMethodDescriptor (pm_y i).desc).map (fun d => d.parameters.length) = some na)
def pm_ok3 (x : MethodName) (na : Nat) : List (Nat × Nat) → List Nat → Bool
  | [], _ => true
  | (t, j) :: cs, a :: b :: c :: ws => decide (t < 13) && decide (j < 172) && pm_hw a (.selects (pm_cn t) x (pm_y j)) && pm_hw b (.instanceMethod (pm_y j)) && pm_hw c (.initialized (pm_y j).cls) && pm_np j na && pm_ok3 x na cs ws
  | _, _ => false
def pm_okM (e : (Nat × Nat) × (Nat × Nat × List (Nat × Nat) × Bool × List Nat)) : Bool := match e with
  | ((own, idx), (0, na, [(_, j)], nest, [a, b, c])) => decide (j < 172) && pm_hw a (pm_lw nest own idx (pm_y j)) && pm_hw b (.static (pm_y j)) && pm_hw c (.initialized (pm_y j).cls) && pm_np j na
  | ((own, idx), (1, na, [(_, j)], nest, [a, b, c])) => decide (j < 172) && pm_hw a (pm_lw nest own idx (pm_y j)) && pm_hw b (.instanceMethod (pm_y j)) && pm_hw c (.initialized (pm_y j).cls) && pm_np j na && decide ((pm_y j).name = "<init>") && decide (pm_rt j = none)
  | ((own, idx), (2, na, [(t, j)], nest, [a, b, c, d])) => decide (j < 172) && decide (t < 13) && decide (pm_cn t = (pm_y j).cls) && pm_hw a (pm_lw nest own idx (pm_y j)) && pm_hw b (.instanceMethod (pm_y j)) && pm_hw c (.selects (pm_cn t) (pm_y j) (pm_y j)) && pm_hw d (.initialized (pm_y j).cls) && pm_np j na
  | ((own, idx), (3, na, cs, nest, a :: b :: c :: x :: ws)) => decide (nest = false) && decide (x < 172) && pm_hw a (.methodLink (pm_cn own) idx (pm_y x)) && pm_hw b (.sameMethod (pm_y x).cls (pm_y x).cls (pm_y x).name (pm_y x).desc) && pm_hw c (.instanceMethod (pm_y x)) && pm_np x na && pm_ok3 (pm_y x) na cs ws
  | ((own, idx), (10, 2, [], nest, [a, b, c, d])) => decide (nest = false) && pm_hw a (.methodLink (pm_cn own) idx Lib.Math.max.name) && pm_hw b (.static Lib.Math.max.name) && pm_hw c (.initialized "java/lang/Math") && pm_hw d (.code Lib.Math.max.name Lib.Math.max.code 2 (some .int))
  | ((own, idx), (11, 2, [], nest, [a, b, c, d])) => decide (nest = false) && pm_hw a (.methodLink (pm_cn own) idx Lib.Math.min.name) && pm_hw b (.static Lib.Math.min.name) && pm_hw c (.initialized "java/lang/Math") && pm_hw d (.code Lib.Math.min.name Lib.Math.min.code 2 (some .int))
  | ((own, idx), (9, _, [], nest, [a, b, c])) => decide (nest = false) && pm_hw a (.methodLink (pm_cn own) idx objectInit) && pm_hw b (.instanceMethod objectInit) && pm_hw c (.code objectInit ⟨#[0xb1]⟩ 1 none)
  | _ => false
set_option maxRecDepth 100000 in
theorem pm_okMT : pm_MLT.all pm_okM = true := by decide +kernel
def pm_okC (e : (Nat × Nat) × (String × Nat)) : Bool := pm_hw e.2.2 (.classLink (pm_cn e.1.1) e.1.2 e.2.1)
set_option maxRecDepth 100000 in
theorem pm_okCT : pm_CT.all pm_okC = true := by decide +kernel
def pm_okK (e : (Nat × Nat) × (Int × Nat)) : Bool := pm_hw e.2.2 (.constant (pm_cn e.1.1) e.1.2 (Int32.ofInt e.2.1)) && decide (-2147483648 ≤ e.2.1 ∧ e.2.1 ≤ 2147483647)
set_option maxRecDepth 100000 in
theorem pm_okKT : pm_KT.all pm_okK = true := by decide +kernel
def pm_okI (t : Nat) : Bool := decide (Cond.instantiable (pm_cn t) (pm_nf t) ∈ lw_tbl) && goodWord (Cond.instantiable (pm_cn t) (pm_nf t)) && decide (Cond.initialized (pm_cn t) ∈ lw_tbl) && goodWord (Cond.initialized (pm_cn t))
set_option maxRecDepth 100000 in
theorem pm_okIT : (List.range 13).all pm_okI = true := by decide +kernel
theorem pm_lookup {α β : Type} [BEq α] [LawfulBEq α] {l : List (α × β)} {a : α} {b : β} {f : α × β → Bool} (h : l.all f = true) (g : l.lookup a = some b) : f (a, b) = true := by
  induction l with
  | nil => cases g
  | cons x t ih =>
    obtain ⟨c, y⟩ := x
    rw [List.all_cons, Bool.and_eq_true] at h
    rw [List.lookup_cons] at g
    by_cases e : a == c
    · rw [e] at g
      cases g
      rw [eq_of_beq e]
      exact h.1
    · have e' : (a == c) = false := by simpa using e
      rw [e'] at g
      exact ih h.2 g
