/-! WHAT TIES THE PURE MACHINE TO THE STATEMENT'S: worlds, words, numbers -/
def pm_W : List Cond := lw_tbl.filter goodWord
def pm_isN : Cond → Bool
  | .fieldLinkNest .. => true
  | .methodLinkNest .. => true
  | .castable .. => true
  | _ => false
def pm_NW : List Cond := lw_tbl.filter pm_isN
def pm_tys (aC : Nat → ClassId) : List (ClassId × FieldType) := [(aC 20, .int), (aC 21, .long), (aC 22, .boolean), (aC 23, .array .int), (aC 24, .object "LoomShed$Piece"), (aC 25, .object "LoomShed$Shed")]
def pm_ncs : List (String × String) := [("LoomShed$Barred", "LoomShed$Split"), ("LoomShed$Free", "LoomShed$Split"), ("LoomShed$Piece", "LoomShed$Split"), ("LoomShed$Tight", "LoomShed$Split"), ("LoomShed$Split", "LoomShed$Barred"), ("LoomShed$Free", "LoomShed$Barred"), ("LoomShed$Piece", "LoomShed$Barred"), ("LoomShed$Tight", "LoomShed$Barred")]
theorem va_AOA.moved {t : FieldType} {u U : State} (hvm : u.vm.Alike U.vm) (h : va_AOA t u) : va_AOA t U := over_moved hvm h
def pm_KK (D : va_G) (aC : Nat → ClassId) (U : State) : Prop := va_K D pm_cl (pm_tys aC) U ∧ (∀ w ∈ pm_NW, va_Nw w U) ∧ (∀ q ∈ pm_ncs, va_Nc q.1 q.2 U) ∧ va_AO "LoomShed$Piece" U ∧ va_AO "LoomShed$Shed" U ∧ va_AOA .int U
theorem pm_Nw_warm {w : Cond} (hw : pm_isN w = true) {s U : State} (hW : s.WarmedH U.vm) (h : va_Nw w s) : va_Nw w U := by
  cases w <;> first | exact va_Nw.warmF hW h | exact va_Nw.warmM hW h | exact va_Nw.warmC hW h | (cases hw; done)
theorem pm_KK.warm {D : va_G} {aC : Nat → ClassId} {s U : State} (hW : s.WarmedH U.vm) (h : pm_KK D aC s) : pm_KK D aC U := by
  obtain ⟨h1, h2, h3, h4, h5, h6⟩ := h
  exact ⟨va_K.moved hW.alike h1, fun w hw => pm_Nw_warm (List.mem_filter.mp hw).2 hW (h2 w hw), fun q hq => (h3 q hq).moved hW.alike, h4.moved hW.alike, h5.moved hW.alike, h6.moved hW.alike⟩
theorem pm_Nw_same {w : Cond} (hw : pm_isN w = true) {s U : State} (e : s.vm = U.vm) (h : va_Nw w s) : va_Nw w U := by
  cases w <;> first | exact va_Nw.same rfl e h | (cases hw; done)
theorem pm_KK.call {D : va_G} {aC : Nat → ClassId} {U : State} {g : JFrame} {mk : MethodId} {a : Array Value} (h : pm_KK D aC U) : pm_KK D aC (U.calling g mk a) := by
  obtain ⟨h1, h2, h3, h4, h5, h6⟩ := h
  exact ⟨va_K.moved (u := U) (U := U.calling g mk a) (Vm.Alike.refl U.vm) h1, fun w hw => pm_Nw_same (s := U) (U := U.calling g mk a) (List.mem_filter.mp hw).2 rfl (h2 w hw), fun q hq => va_Nc.moved (u := U) (U := U.calling g mk a) (Vm.Alike.refl U.vm) (h3 q hq), va_AO.moved (u := U) (U := U.calling g mk a) (Vm.Alike.refl U.vm) h4, va_AO.moved (u := U) (U := U.calling g mk a) (Vm.Alike.refl U.vm) h5, va_AOA.moved (u := U) (U := U.calling g mk a) (Vm.Alike.refl U.vm) h6⟩
-- numbers
theorem pm_t32 {x : Int} (h : pm_I32 x) : (Int32.ofInt x).toInt = x := Int32.toInt_ofInt_of_le (by have := h.1; omega) (by have := h.2; omega)
theorem pm_t64 {x : Int} (h : pm_I64 x) : (Int64.ofInt x).toInt = x := Int64.toInt_ofInt_of_le (by have := h.1; omega) (by have := h.2; omega)
theorem pm_cl32 {x : Int} (h : pm_I32 x) : (Int32.ofInt x).toNatClampNeg = x.toNat := by
  rw [← Int32.toNat_toInt, pm_t32 h]
theorem pm_eq32 {x y : Int} (hx : pm_I32 x) (hy : pm_I32 y) : Int32.ofInt x = Int32.ofInt y ↔ x = y := by
  rw [← Int32.toInt_inj, pm_t32 hx, pm_t32 hy]
theorem pm_lt32 {x y : Int} (hx : pm_I32 x) (hy : pm_I32 y) : Int32.ofInt x < Int32.ofInt y ↔ x < y := by
  rw [Int32.lt_iff_toInt_lt, pm_t32 hx, pm_t32 hy]
theorem pm_le32 {x y : Int} (hx : pm_I32 x) (hy : pm_I32 y) : Int32.ofInt x ≤ Int32.ofInt y ↔ x ≤ y := by
  rw [Int32.le_iff_toInt_le, pm_t32 hx, pm_t32 hy]
theorem pm_eq64 {x y : Int} (hx : pm_I64 x) (hy : pm_I64 y) : Int64.ofInt x = Int64.ofInt y ↔ x = y := by
  rw [← Int64.toInt_inj, pm_t64 hx, pm_t64 hy]
theorem pm_lt64 {x y : Int} (hx : pm_I64 x) (hy : pm_I64 y) : Int64.ofInt x < Int64.ofInt y ↔ x < y := by
  rw [Int64.lt_iff_toInt_lt, pm_t64 hx, pm_t64 hy]
theorem pm_0 : (0 : Int32) = Int32.ofInt 0 := rfl
theorem pm_00 : pm_I32 0 := by unfold pm_I32; decide
theorem pm_i64 {x : Int} (h : pm_I32 x) : pm_I64 x := by unfold pm_I32 at h; unfold pm_I64; omega
theorem pm_nI {x : Int} (h : 0 ≤ x) : Int32.ofInt x = nI x.toNat := by
  obtain ⟨n, rfl⟩ := Int.eq_ofNat_of_zero_le h
  rw [Int.toNat_natCast]
  exact Int32.ofInt_eq_ofNat
theorem pm_lN {x : Int} (h : 0 ≤ x) : Int64.ofInt x = lN x.toNat := by
  obtain ⟨n, rfl⟩ := Int.eq_ofNat_of_zero_le h
  rw [Int.toNat_natCast]
  exact Int64.ofInt_eq_ofNat
theorem pm_div32 {x y : Int} (hx : pm_I32 x) (hy : pm_I32 y) (h0 : 0 ≤ x) (h1 : 0 < y) : Int32.ofInt x / Int32.ofInt y = Int32.ofInt (x / y) := by
  have e : x / y = ((x.toNat / y.toNat : Nat) : Int) := by
    rw [Int.natCast_ediv, Int.toNat_of_nonneg h0, Int.toNat_of_nonneg (by omega)]
  rw [pm_nI h0, pm_nI (by omega : (0 : Int) ≤ y), e, pm_nI (Int.natCast_nonneg _), Int.toNat_natCast]
  exact pk_div (by unfold pm_I32 at hx; omega) (by omega) (by unfold pm_I32 at hy; omega)
theorem pm_rem32 {x y : Int} (hx : pm_I32 x) (hy : pm_I32 y) (h0 : 0 ≤ x) (h1 : 0 < y) : Int32.ofInt x - Int32.ofInt x / Int32.ofInt y * Int32.ofInt y = Int32.ofInt (x % y) := by
  have e : x % y = ((x.toNat % y.toNat : Nat) : Int) := by
    rw [Int.natCast_emod, Int.toNat_of_nonneg h0, Int.toNat_of_nonneg (by omega)]
  rw [pm_nI h0, pm_nI (by omega : (0 : Int) ≤ y), e, pm_nI (Int.natCast_nonneg _), Int.toNat_natCast]
  exact pk_rem (by unfold pm_I32 at hx; omega) (by omega) (by unfold pm_I32 at hy; omega)
theorem pm_div64 {x y : Int} (hx : pm_I64 x) (hy : pm_I64 y) (h0 : 0 ≤ x) (h1 : 0 < y) : Int64.ofInt x / Int64.ofInt y = Int64.ofInt (x / y) := by
  have e : x / y = ((x.toNat / y.toNat : Nat) : Int) := by
    rw [Int.natCast_ediv, Int.toNat_of_nonneg h0, Int.toNat_of_nonneg (by omega)]
  rw [pm_lN h0, pm_lN (by omega : (0 : Int) ≤ y), e, pm_lN (Int.natCast_nonneg _), Int.toNat_natCast]
  exact pk_lDiv (by unfold pm_I64 at hx; omega) (by omega) (by unfold pm_I64 at hy; omega)
theorem pm_rem64 {x y : Int} (hx : pm_I64 x) (hy : pm_I64 y) (h0 : 0 ≤ x) (h1 : 0 < y) : Int64.ofInt x - Int64.ofInt x / Int64.ofInt y * Int64.ofInt y = Int64.ofInt (x % y) := by
  have e : x % y = ((x.toNat % y.toNat : Nat) : Int) := by
    rw [Int.natCast_emod, Int.toNat_of_nonneg h0, Int.toNat_of_nonneg (by omega)]
  rw [pm_lN h0, pm_lN (by omega : (0 : Int) ≤ y), e, pm_lN (Int.natCast_nonneg _), Int.toNat_natCast]
  exact pk_lRem (by unfold pm_I64 at hx; omega) (by omega) (by unfold pm_I64 at hy; omega)
theorem pm_shs : ∀ n, n < 32 → ((nI n &&& 31).toBitVec.smod 32).toNat = n := by decide
theorem pm_shu : ∀ n, n < 32 → (((nI n).toUInt32 &&& Int32.toUInt32 31).toBitVec % 32).toNat = n := by decide
theorem pm_shl32 {x y : Int} (hy : 0 ≤ y) (hy2 : y < 32) (hx : 0 ≤ x) (h : x * 2 ^ y.toNat ≤ 2147483647) : Int32.ofInt x <<< (Int32.ofInt y &&& 31) = Int32.ofInt (x * 2 ^ y.toNat) := by
  have e : x * 2 ^ y.toNat = ((x.toNat * 2 ^ y.toNat : Nat) : Int) := by
    rw [Int.natCast_mul, Int.toNat_of_nonneg hx, Int.natCast_pow]; rfl
  have hn : x.toNat * 2 ^ y.toNat < 2 ^ 32 := by omega
  rw [pm_nI hx, pm_nI hy, e, pm_nI (Int.natCast_nonneg _), Int.toNat_natCast]
  exact pk_shlN _ _ (pm_shs y.toNat (by omega)) hn
theorem pm_ushr32 {x y : Int} (hi : pm_I32 x) (hy : 0 ≤ y) (hy2 : y < 32) (hx : 0 ≤ x) : ((Int32.ofInt x).toUInt32 >>> ((Int32.ofInt y).toUInt32 &&& Int32.toUInt32 31)).toInt32 = Int32.ofInt (x / 2 ^ y.toNat) := by
  have e : x / 2 ^ y.toNat = ((x.toNat / 2 ^ y.toNat : Nat) : Int) := by
    rw [Int.natCast_ediv, Int.toNat_of_nonneg hx, Int.natCast_pow]; rfl
  rw [pm_nI hx, pm_nI hy, e, pm_nI (Int.natCast_nonneg _), Int.toNat_natCast]
  exact pk_ushrN (by unfold pm_I32 at hi; omega) _ _ (pm_shu y.toNat (by omega))
theorem pm_and32 {x y : Int} (hy : 0 ≤ y) (hx : 0 ≤ x) : Int32.ofInt x &&& Int32.ofInt y = Int32.ofInt ((x.toNat &&& y.toNat : Nat) : Int) := by
  rw [pm_nI hx, pm_nI hy, pm_nI (by omega), Int.toNat_natCast]
  apply Int32.toBitVec_inj.mp
  simp [nI, Int32.toBitVec_and, BitVec.ofNat_and]
theorem pm_or32 {x y : Int} (hy : 0 ≤ y) (hx : 0 ≤ x) : Int32.ofInt x ||| Int32.ofInt y = Int32.ofInt ((x.toNat ||| y.toNat : Nat) : Int) := by
  rw [pm_nI hx, pm_nI hy, pm_nI (by omega), Int.toNat_natCast]
  apply Int32.toBitVec_inj.mp
  simp [nI, Int32.toBitVec_or, BitVec.ofNat_or]
theorem pm_and64 {x y : Int} (hy : 0 ≤ y) (hx : 0 ≤ x) : Int64.ofInt x &&& Int64.ofInt y = Int64.ofInt ((x.toNat &&& y.toNat : Nat) : Int) := by
  rw [pm_lN hx, pm_lN hy, pm_lN (by omega), Int.toNat_natCast]
  apply Int64.toBitVec_inj.mp
  simp [lN, Int64.toBitVec_and, BitVec.ofNat_and]
theorem pm_or64 {x y : Int} (hy : 0 ≤ y) (hx : 0 ≤ x) : Int64.ofInt x ||| Int64.ofInt y = Int64.ofInt ((x.toNat ||| y.toNat : Nat) : Int) := by
  rw [pm_lN hx, pm_lN hy, pm_lN (by omega), Int.toNat_natCast]
  apply Int64.toBitVec_inj.mp
  simp [lN, Int64.toBitVec_or, BitVec.ofNat_or]
-- of kit/laws/BITS.to-paste (its family wb_, in part)
theorem wb_tb (n : Nat) : (lN n).toBitVec = BitVec.ofNat 64 n := rfl
theorem wb_inj {a b : Int64} (h : a.toBitVec = b.toBitVec) : a = b := Int64.toBitVec_inj.mp h
theorem wb_tn {n : Nat} (h : n < 2 ^ 64) : (lN n).toBitVec.toNat = n := by rw [wb_tb, BitVec.toNat_ofNat, Nat.mod_eq_of_lt h]
theorem wb_of (x : Int64) : ∃ n, n < 2 ^ 64 ∧ x = lN n := ⟨x.toBitVec.toNat, x.toBitVec.isLt, wb_inj (by rw [wb_tb]; simp)⟩
theorem wb_of32 (x : Int32) : ∃ n, n < 2 ^ 32 ∧ x = nI n := ⟨x.toBitVec.toNat, x.toBitVec.isLt, Int32.toBitVec_inj.mp (by show _ = BitVec.ofNat 32 _; simp)⟩
theorem wb_c : ∀ k, k < 64 → ((nI k).toInt64 &&& 63) = lN k := by decide +kernel
theorem wb_cu : ∀ k, k < 64 → ((nI k).toInt64.toUInt64 &&& Int64.toUInt64 63) = UInt64.ofNat k := by decide +kernel
theorem wb_sm : ∀ k, k < 64 → (BitVec.ofNat 64 k).smod 64 = BitVec.ofNat 64 k := by decide +kernel
theorem wb_mod (n : Nat) : lN n = lN (n % 2 ^ 64) := wb_inj (by rw [wb_tb, wb_tb]; apply BitVec.eq_of_toNat_eq; rw [BitVec.toNat_ofNat, BitVec.toNat_ofNat, Nat.mod_mod])
theorem wb_shr {n k : Nat} (hn : n < 2 ^ 64) (hk : k < 64) : ((lN n).toUInt64 >>> ((nI k).toInt64.toUInt64 &&& Int64.toUInt64 63)).toInt64 = lN (n / 2 ^ k) := by
  rw [wb_cu k hk]
  apply wb_inj
  apply BitVec.eq_of_toNat_eq
  show ((lN n).toUInt64 >>> UInt64.ofNat k).toNat = (BitVec.ofNat 64 _).toNat
  have h1 : (UInt64.ofNat k).toNat = k := by
    show (BitVec.ofNat 64 k).toNat = k
    rw [BitVec.toNat_ofNat, Nat.mod_eq_of_lt (by omega)]
  have h2 : (lN n).toUInt64.toNat = n := wb_tn hn
  rw [UInt64.toNat_shiftRight, h1, h2, Nat.mod_eq_of_lt hk, Nat.shiftRight_eq_div_pow, BitVec.toNat_ofNat, Nat.mod_eq_of_lt (Nat.lt_of_le_of_lt (Nat.div_le_self _ _) hn)]
theorem wb_shl (n : Nat) {k : Nat} (hk : k < 64) : lN n <<< ((nI k).toInt64 &&& 63) = lN (n * 2 ^ k) := by
  rw [wb_c k hk]
  apply wb_inj
  rw [Int64.toBitVec_shiftLeft, wb_tb, wb_tb, wb_tb, wb_sm k hk]
  apply BitVec.eq_of_toNat_eq
  rw [BitVec.shiftLeft_eq', BitVec.toNat_shiftLeft, BitVec.toNat_ofNat, BitVec.toNat_ofNat, BitVec.toNat_ofNat, Nat.mod_eq_of_lt (show k < 2 ^ 64 by omega), Nat.shiftLeft_eq, Nat.mul_mod, Nat.mod_mod, ← Nat.mul_mod]
theorem pm_shl64 {x y : Int} (hy : 0 ≤ y) (hy2 : y < 64) (hx : 0 ≤ x) : Int64.ofInt x <<< ((Int32.ofInt y).toInt64 &&& 63) = Int64.ofInt (x * 2 ^ y.toNat) := by
  have e : x * 2 ^ y.toNat = ((x.toNat * 2 ^ y.toNat : Nat) : Int) := by
    rw [Int.natCast_mul, Int.toNat_of_nonneg hx, Int.natCast_pow]; rfl
  rw [pm_lN hx, pm_nI hy, e, pm_lN (Int.natCast_nonneg _), Int.toNat_natCast]
  exact wb_shl _ (by omega)
theorem pm_ushr64 {x y : Int} (hi : pm_I64 x) (hy : 0 ≤ y) (hy2 : y < 64) (hx : 0 ≤ x) : ((Int64.ofInt x).toUInt64 >>> ((Int32.ofInt y).toInt64.toUInt64 &&& Int64.toUInt64 63)).toInt64 = Int64.ofInt (x / 2 ^ y.toNat) := by
  have e : x / 2 ^ y.toNat = ((x.toNat / 2 ^ y.toNat : Nat) : Int) := by
    rw [Int.natCast_ediv, Int.toNat_of_nonneg hx, Int.natCast_pow]; rfl
  rw [pm_lN hx, pm_nI hy, e, pm_lN (Int.natCast_nonneg _), Int.toNat_natCast]
  exact wb_shr (by unfold pm_I64 at hi; omega) (by omega)
theorem pm_i2l {x : Int} (h : pm_I32 x) : (Int32.ofInt x).toInt64 = Int64.ofInt x := by
  apply Int64.toInt_inj.mp
  rw [Int32.toInt_toInt64, pm_t32 h, pm_t64 (pm_i64 h)]
theorem pm_l2i (x : Int) : (Int64.ofInt x).toInt32 = Int32.ofInt x := by
  first | exact Int64.toInt32_ofInt x | simp
theorem pm_lcmp {x y : Int} (hx : pm_I64 x) (hy : pm_I64 y) : lg_cmp (Int64.ofInt x) (Int64.ofInt y) = Int32.ofInt (pm_lc x y) := by
  unfold lg_cmp pm_lc
  by_cases h1 : y < x
  · rw [if_pos ((pm_lt64 hy hx).mpr h1), if_pos h1]; rfl
  · rw [if_neg (fun g => h1 ((pm_lt64 hy hx).mp g)), if_neg h1]
    by_cases h2 : x = y
    · rw [if_pos ((pm_eq64 hx hy).mpr h2), if_pos h2]; rfl
    · rw [if_neg (fun g => h2 ((pm_eq64 hx hy).mp g)), if_neg h2]; rfl
theorem pm_lc32 (x y : Int) : pm_I32 (pm_lc x y) := by
  unfold pm_lc pm_I32
  split
  · decide
  · split <;> decide
theorem pm_in {x : Int} {n : Nat} (h0 : 0 ≤ x) (h1 : x < (n : Int)) (hn : n ≤ 4000) : vp_in (Int32.ofInt x) n := by
  have hx : pm_I32 x := by unfold pm_I32; omega
  rw [vp_in_iff, pm_t32 hx]
  exact ⟨h0, h1⟩
theorem pm_ix {x : Int} {n : Nat} (h0 : 0 ≤ x) (h1 : x < (n : Int)) (hn : n ≤ 4000) : (Int32.ofInt x).toNatClampNeg = x.toNat := pm_cl32 (by unfold pm_I32; omega)
