/-! WHAT TIES THE PURE MACHINE TO THE STATEMENT'S: worlds, words, numbers -/
def pm_W : List Cond := lw_tbl.filter goodWord
def pm_isN : Cond → Bool
  | .fieldLinkNest .. => true
  | .methodLinkNest .. => true
  | .castable .. => true
  | _ => false
def pm_NW : List Cond := lw_tbl.filter pm_isN
def pm_tys (aC : Nat → ClassId) : List (ClassId × FieldType) := [(aC 20, .int), (aC 21, .long), (aC 22, .boolean), (aC 23, .array .int), (aC 24, .object "LoomShed$Piece"), (aC 25, .object "LoomShed$Shed")]
def pm_ncs : List (String × String) := [("LoomShed$Barred", "LoomShed$Split"), ("LoomShed$Free", "LoomShed$Split"), ("LoomShed$Piece", "LoomShed$Split"), ("LoomShed$Tight", "LoomShed$Split"), ("LoomShed$Split", "LoomShed$Barred"), ("LoomShed$Free", "LoomShed$Barred"), ("LoomShed$Piece", "LoomShed$Barred"), ("LoomShed$Tight", "LoomShed$Barred")]
theorem va_AOA.moved {t : FieldType} {u U : State} (hvm : u.vm.Alike U.vm) (h : va_AOA t u) : va_AOA t U := over_moved hvm h
def pm_KK (D : va_G) (aC : Nat → ClassId) (U : State) : Prop := va_K D pm_cl (pm_tys aC) U ∧ (∀ w ∈ pm_NW, va_Nw w U) ∧ (∀ q ∈ pm_ncs, va_Nc q.1 q.2 U) ∧ va_AO "LoomShed$Piece" U ∧ va_AO "LoomShed$Shed" U ∧ va_AOA .int U
theorem pm_Nw_warm {w : Cond} (hw : pm_isN w = true) {s U : State} (hW : s.WarmedH U.vm) (h : va_Nw w s) : va_Nw w U := by
  cases w <;> first | exact va_Nw.warmF hW h | exact va_Nw.warmM hW h | exact va_Nw.warmC hW h | (cases hw; done)
theorem pm_KK.warm {D : va_G} {aC : Nat → ClassId} {s U : State} (hW : s.WarmedH U.vm) (h : pm_KK D aC s) : pm_KK D aC U := by
  obtain ⟨h1, h2, h3, h4, h5, h6⟩ := h
  exact ⟨va_K.moved hW.alike h1, fun w hw => pm_Nw_warm (List.mem_filter.mp hw).2 hW (h2 w hw), fun q hq => (h3 q hq).moved hW.alike, h4.moved hW.alike, h5.moved hW.alike, h6.moved hW.alike⟩
theorem pm_Nw_same {w : Cond} (hw : pm_isN w = true) {s U : State} (e : s.vm = U.vm) (h : va_Nw w s) : va_Nw w U := by
  cases w <;> first | exact va_Nw.same rfl e h | (cases hw; done)
theorem pm_KK.call {D : va_G} {aC : Nat → ClassId} {U : State} {g : JFrame} {mk : MethodId} {a : Array Value} (h : pm_KK D aC U) : pm_KK D aC (U.calling g mk a) := by
  obtain ⟨h1, h2, h3, h4, h5, h6⟩ := h
  exact ⟨va_K.moved (u := U) (U := U.calling g mk a) (Vm.Alike.refl U.vm) h1, fun w hw => pm_Nw_same (s := U) (U := U.calling g mk a) (List.mem_filter.mp hw).2 rfl (h2 w hw), fun q hq => va_Nc.moved (u := U) (U := U.calling g mk a) (Vm.Alike.refl U.vm) (h3 q hq), va_AO.moved (u := U) (U := U.calling g mk a) (Vm.Alike.refl U.vm) h4, va_AO.moved (u := U) (U := U.calling g mk a) (Vm.Alike.refl U.vm) h5, va_AOA.moved (u := U) (U := U.calling g mk a) (Vm.Alike.refl U.vm) h6⟩
-- numbers
theorem pm_t32 {x : Int} (h : pm_I32 x) : (Int32.ofInt x).toInt = x := Int32.toInt_ofInt_of_le (by have := h.1; omega) (by have := h.2; omega)
theorem pm_t64 {x : Int} (h : pm_I64 x) : (Int64.ofInt x).toInt = x := Int64.toInt_ofInt_of_le (by have := h.1; omega) (by have := h.2; omega)
theorem pm_cl32 {x : Int} (h : pm_I32 x) : (Int32.ofInt x).toNatClampNeg = x.toNat := by
  rw [← Int32.toNat_toInt, pm_t32 h]
theorem pm_eq32 {x y : Int} (hx : pm_I32 x) (hy : pm_I32 y) : Int32.ofInt x = Int32.ofInt y ↔ x = y := by
  rw [← Int32.toInt_inj, pm_t32 hx, pm_t32 hy]
theorem pm_lt32 {x y : Int} (hx : pm_I32 x) (hy : pm_I32 y) : Int32.ofInt x < Int32.ofInt y ↔ x < y := by
  rw [Int32.lt_iff_toInt_lt, pm_t32 hx, pm_t32 hy]
theorem pm_le32 {x y : Int} (hx : pm_I32 x) (hy : pm_I32 y) : Int32.ofInt x ≤ Int32.ofInt y ↔ x ≤ y := by
  rw [Int32.le_iff_toInt_le, pm_t32 hx, pm_t32 hy]
theorem pm_eq64 {x y : Int} (hx : pm_I64 x) (hy : pm_I64 y) : Int64.ofInt x = Int64.ofInt y ↔ x = y := by
  rw [← Int64.toInt_inj, pm_t64 hx, pm_t64 hy]
theorem pm_lt64 {x y : Int} (hx : pm_I64 x) (hy : pm_I64 y) : Int64.ofInt x < Int64.ofInt y ↔ x < y := by
  rw [Int64.lt_iff_toInt_lt, pm_t64 hx, pm_t64 hy]
theorem pm_0 : (0 : Int32) = Int32.ofInt 0 := rfl
theorem pm_00 : pm_I32 0 := by unfold pm_I32; decide
theorem pm_i64 {x : Int} (h : pm_I32 x) : pm_I64 x := by unfold pm_I32 at h; unfold pm_I64; omega
theorem pm_nI {x : Int} (h : 0 ≤ x) : Int32.ofInt x = nI x.toNat := by
  obtain ⟨n, rfl⟩ := Int.eq_ofNat_of_zero_le h
  rw [Int.toNat_natCast]
  exact Int32.ofInt_eq_ofNat
theorem pm_lN {x : Int} (h : 0 ≤ x) : Int64.ofInt x = lN x.toNat := by
  obtain ⟨n, rfl⟩ := Int.eq_ofNat_of_zero_le h
  rw [Int.toNat_natCast]
  exact Int64.ofInt_eq_ofNat
theorem pm_div32 {x y : Int} (hx : pm_I32 x) (hy : pm_I32 y) (h0 : 0 ≤ x) (h1 : 0 < y) : Int32.ofInt x / Int32.ofInt y = Int32.ofInt (x / y) := by
  have e : x / y = ((x.toNat / y.toNat : Nat) : Int) := by
    rw [Int.natCast_ediv, Int.toNat_of_nonneg h0, Int.toNat_of_nonneg (by omega)]
  rw [pm_nI h0, pm_nI (by omega : (0 : Int) ≤ y), e, pm_nI (Int.natCast_nonneg _), Int.toNat_natCast]
  exact pk_div (by unfold pm_I32 at hx; omega) (by omega) (by unfold pm_I32 at hy; omega)
theorem pm_rem32 {x y : Int} (hx : pm_I32 x) (hy : pm_I32 y) (h0 : 0 ≤ x) (h1 : 0 < y) : Int32.ofInt x - Int32.ofInt x / Int32.ofInt y * Int32.ofInt y = Int32.ofInt (x % y) := by
  have e : x % y = ((x.toNat % y.toNat : Nat) : Int) := by
    rw [Int.natCast_emod, Int.toNat_of_nonneg h0, Int.toNat_of_nonneg (by omega)]
  rw [pm_nI h0, pm_nI (by omega : (0 : Int) ≤ y), e, pm_nI (Int.natCast_nonneg _), Int.toNat_natCast]
  exact pk_rem (by unfold pm_I32 at hx; omega) (by omega) (by unfold pm_I32 at hy; omega)
theorem pm_div64 {x y : Int} (hx : pm_I64 x) (hy : pm_I64 y) (h0 : 0 ≤ x) (h1 : 0 < y) : Int64.ofInt x / Int64.ofInt y = Int64.ofInt (x / y) := by
  have e : x / y = ((x.toNat / y.toNat : Nat) : Int) := by
    rw [Int.natCast_ediv, Int.toNat_of_nonneg h0, Int.toNat_of_nonneg (by omega)]
  rw [pm_lN h0, pm_lN (by omega : (0 : Int) ≤ y), e, pm_lN (Int.natCast_nonneg _), Int.toNat_natCast]
  exact pk_lDiv (by unfold pm_I64 at hx; omega) (by omega) (by unfold pm_I64 at hy; omega)
theorem pm_rem64 {x y : Int} (hx : pm_I64 x) (hy : pm_I64 y) (h0 : 0 ≤ x) (h1 : 0 < y) : Int64.ofInt x - Int64.ofInt x / Int64.ofInt y * Int64.ofInt y = Int64.ofInt (x % y) := by
  have e : x % y = ((x.toNat % y.toNat : Nat) : Int) := by
    rw [Int.natCast_emod, Int.toNat_of_nonneg h0, Int.toNat_of_nonneg (by omega)]
  rw [pm_lN h0, pm_lN (by omega : (0 : Int) ≤ y), e, pm_lN (Int.natCast_nonneg _), Int.toNat_natCast]
  exact pk_lRem (by unfold pm_I64 at hx; omega) (by omega) (by unfold pm_I64 at hy; omega)
theorem pm_shs : ∀ n, n < 32 → ((nI n &&& 31).toBitVec.smod 32).toNat = n := by decide
theorem pm_shu : ∀ n, n < 32 → (((nI n).toUInt32 &&& Int32.toUInt32 31).toBitVec % 32).toNat = n := by decide
theorem pm_shl32 {x y : Int} (hy : 0 ≤ y) (hy2 : y < 32) (hx : 0 ≤ x) (h : x * 2 ^ y.toNat ≤ 2147483647) : Int32.ofInt x <<< (Int32.ofInt y &&& 31) = Int32.ofInt (x * 2 ^ y.toNat) := by
  have e : x * 2 ^ y.toNat = ((x.toNat * 2 ^ y.toNat : Nat) : Int) := by
    rw [Int.natCast_mul, Int.toNat_of_nonneg hx, Int.natCast_pow]; rfl
  have hn : x.toNat * 2 ^ y.toNat < 2 ^ 32 := by omega
  rw [pm_nI hx, pm_nI hy, e, pm_nI (Int.natCast_nonneg _), Int.toNat_natCast]
  exact pk_shlN _ _ (pm_shs y.toNat (by omega)) hn
theorem pm_ushr32 {x y : Int} (hi : pm_I32 x) (hy : 0 ≤ y) (hy2 : y < 32) (hx : 0 ≤ x) : ((Int32.ofInt x).toUInt32 >>> ((Int32.ofInt y).toUInt32 &&& Int32.toUInt32 31)).toInt32 = Int32.ofInt (x / 2 ^ y.toNat) := by
  have e : x / 2 ^ y.toNat = ((x.toNat / 2 ^ y.toNat : Nat) : Int) := by
    rw [Int.natCast_ediv, Int.toNat_of_nonneg hx, Int.natCast_pow]; rfl
  rw [pm_nI hx, pm_nI hy, e, pm_nI (Int.natCast_nonneg _), Int.toNat_natCast]
  exact pk_ushrN (by unfold pm_I32 at hi; omega) _ _ (pm_shu y.toNat (by omega))
theorem pm_and32 {x y : Int} (hy : 0 ≤ y) (hx : 0 ≤ x) : Int32.ofInt x &&& Int32.ofInt y = Int32.ofInt ((x.toNat &&& y.toNat : Nat) : Int) := by
  rw [pm_nI hx, pm_nI hy, pm_nI (by omega), Int.toNat_natCast]
  apply Int32.toBitVec_inj.mp
  simp [nI, Int32.toBitVec_and, BitVec.ofNat_and]
theorem pm_or32 {x y : Int} (hy : 0 ≤ y) (hx : 0 ≤ x) : Int32.ofInt x ||| Int32.ofInt y = Int32.ofInt ((x.toNat ||| y.toNat : Nat) : Int) := by
  rw [pm_nI hx, pm_nI hy, pm_nI (by omega), Int.toNat_natCast]
  apply Int32.toBitVec_inj.mp
  simp [nI, Int32.toBitVec_or, BitVec.ofNat_or]
theorem pm_and64 {x y : Int} (hy : 0 ≤ y) (hx : 0 ≤ x) : Int64.ofInt x &&& Int64.ofInt y = Int64.ofInt ((x.toNat &&& y.toNat : Nat) : Int) := by
  rw [pm_lN hx, pm_lN hy, pm_lN (by omega), Int.toNat_natCast]
  apply Int64.toBitVec_inj.mp
  simp [lN, Int64.toBitVec_and, BitVec.ofNat_and]
theorem pm_or64 {x y : Int} (hy : 0 ≤ y) (hx : 0 ≤ x) : Int64.ofInt x ||| Int64.ofInt y = Int64.ofInt ((x.toNat ||| y.toNat : Nat) : Int) := by
  rw [pm_lN hx, pm_lN hy, pm_lN (by omega), Int.toNat_natCast]
  apply Int64.toBitVec_inj.mp
  simp [lN, Int64.toBitVec_or, BitVec.ofNat_or]
