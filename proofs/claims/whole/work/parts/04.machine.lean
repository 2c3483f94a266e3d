/-! THE PURE MACHINE: values are Int (tag .inl int, .inr (.inl ..) long, .inr (.inr ..) reference or null), a heap is what the slots hold (numbers, references) and the cells' tags and lengths; a reference is the cell's place -/
abbrev pm_V : Type := Int ⊕ (Int ⊕ Option Nat)
abbrev pm_L : Type := List (Option pm_V)
abbrev pm_H : Type := (Nat → Nat → Int) × (Nat → Nat → Option Nat) × List (Nat × Nat)
abbrev pm_N : Type := Nat × pm_L × List pm_V × pm_H
def pm_I32 (x : Int) : Prop := -2147483648 ≤ x ∧ x ≤ 2147483647
def pm_I64 (x : Int) : Prop := -9223372036854775808 ≤ x ∧ x ≤ 9223372036854775807
def pm_up {α : Type} (f : Nat → Nat → α) (a k : Nat) (x : α) : Nat → Nat → α := fun q j => if q = a then (if j = k then x else f q j) else f q j
noncomputable def pm_if {α : Type} (c : Prop) (z : α) : Option α := @ite _ c (Classical.propDecidable c) (some z) none
noncomputable def pm_br {α : Type} (c : Prop) (a b : α) : Option α := @ite _ c (Classical.propDecidable c) (some a) (some b)
def pm_oi {α : Type} (st : List pm_V) (f : Int → List pm_V → Option α) : Option α := match st with
  | .inl x :: s => f x s
  | _ => none
def pm_ol {α : Type} (st : List pm_V) (f : Int → List pm_V → Option α) : Option α := match st with
  | .inr (.inl x) :: s => f x s
  | _ => none
def pm_oq {α : Type} (st : List pm_V) (f : Option Nat → List pm_V → Option α) : Option α := match st with
  | .inr (.inr r) :: s => f r s
  | _ => none
def pm_or {α : Type} (st : List pm_V) (f : Nat → List pm_V → Option α) : Option α := match st with
  | .inr (.inr (some a)) :: s => f a s
  | _ => none
def pm_ov {α : Type} (st : List pm_V) (f : pm_V → List pm_V → Option α) : Option α := match st with
  | v :: s => f v s
  | _ => none
/-- the same as propositions -/
def pm_i (st : List pm_V) (f : Int → List pm_V → Prop) : Prop := match st with
  | .inl x :: s => f x s
  | _ => False
def pm_l (st : List pm_V) (f : Int → List pm_V → Prop) : Prop := match st with
  | .inr (.inl x) :: s => f x s
  | _ => False
def pm_q (st : List pm_V) (f : Option Nat → List pm_V → Prop) : Prop := match st with
  | .inr (.inr r) :: s => f r s
  | _ => False
def pm_r (st : List pm_V) (f : Nat → List pm_V → Prop) : Prop := match st with
  | .inr (.inr (some a)) :: s => f a s
  | _ => False
def pm_v (st : List pm_V) (f : pm_V → List pm_V → Prop) : Prop := match st with
  | v :: s => f v s
  | _ => False
/-- locals -/
def pm_oli {α : Type} (ls : pm_L) (n : Nat) (f : Int → Option α) : Option α := match ls[n]? with
  | some (some (.inl x)) => f x
  | _ => none
def pm_oll {α : Type} (ls : pm_L) (n : Nat) (f : Int → Option α) : Option α := match ls[n]? with
  | some (some (.inr (.inl x))) => f x
  | _ => none
def pm_olq {α : Type} (ls : pm_L) (n : Nat) (f : Option Nat → Option α) : Option α := match ls[n]? with
  | some (some (.inr (.inr x))) => f x
  | _ => none
def pm_li (ls : pm_L) (n : Nat) (f : Int → Prop) : Prop := match ls[n]? with
  | some (some (.inl x)) => f x
  | _ => False
def pm_ll (ls : pm_L) (n : Nat) (f : Int → Prop) : Prop := match ls[n]? with
  | some (some (.inr (.inl x))) => f x
  | _ => False
def pm_lq (ls : pm_L) (n : Nat) (f : Option Nat → Prop) : Prop := match ls[n]? with
  | some (some (.inr (.inr x))) => f x
  | _ => False
def pm_kl : Option pm_V → Option pm_V
  | some (.inr (.inl _)) => none
  | o => o
def pm_s1 : pm_L → Nat → pm_V → pm_L
  | [], _, _ => []
  | _ :: t, 0, v => some v :: t
  | o :: t, 1, v => pm_kl o :: pm_s1 t 0 v
  | o :: t, n + 2, v => o :: pm_s1 t (n + 1) v
def pm_s2 : pm_L → Nat → pm_V → pm_L
  | [], _, _ => []
  | _ :: [], 0, _ => []
  | _ :: _ :: t, 0, v => some v :: none :: t
  | o :: t, 1, v => pm_kl o :: pm_s2 t 0 v
  | o :: t, n + 2, v => o :: pm_s2 t (n + 1) v
/-- a method's first locals -/
def pm_fl : List pm_V → pm_L
  | [] => []
  | .inr (.inl x) :: t => some (.inr (.inl x)) :: none :: pm_fl t
  | v :: t => some v :: pm_fl t
def pm_ent (i : Nat) (as : List pm_V) : pm_L := pm_fl as ++ List.replicate (pm_mL i - (pm_fl as).length) none
def pm_wt : List pm_V → Nat
  | [] => 0
  | .inr (.inl _) :: t => 2 + pm_wt t
  | _ :: t => 1 + pm_wt t
/-- the heap -/
def pm_tg (h : pm_H) (a t : Nat) : Prop := ∃ n, h.2.2[a]? = some (t, n)
def pm_tgs (h : pm_H) (a : Nat) (al : List Nat) : Prop := ∃ t n, t ∈ al ∧ h.2.2[a]? = some (t, n)
def pm_inb (h : pm_H) (a t : Nat) (x : Int) : Prop := ∃ n : Nat, h.2.2[a]? = some (t, n) ∧ 0 ≤ x ∧ x < (n : Int)
def pm_wI (h : pm_H) (a k : Nat) (x : Int) : pm_H := (pm_up h.1 a k x, h.2)
def pm_wR (h : pm_H) (a k : Nat) (r : Option Nat) : pm_H := (h.1, pm_up h.2.1 a k r, h.2.2)
def pm_nw (h : pm_H) (t n : Nat) : pm_H := (fun q j => if q = h.2.2.length then 0 else h.1 q j, fun q j => if q = h.2.2.length then none else h.2.1 q j, h.2.2 ++ [(t, n)])
def pm_mn (h : pm_H) (N M : Nat) : pm_H := (fun q j => if h.2.2.length ≤ q then 0 else h.1 q j, fun q j => if q = h.2.2.length then (if j < N then some (h.2.2.length + 1 + j) else none) else if h.2.2.length < q then none else h.2.1 q j, h.2.2 ++ (23, N) :: List.replicate N (20, M))
def pm_cmp (c : Jvm.ClassFile.Cond) (x y : Int) : Prop := match c with
  | .eq => x = y
  | .ne => x ≠ y
  | .lt => x < y
  | .ge => y ≤ x
  | .gt => y < x
  | .le => x ≤ y
/-- what a getfield pushes -/
def pm_fg (h : pm_H) (kd a k : Nat) : pm_V := match kd with
  | 0 => .inl (h.1 a k)
  | 1 => .inl (h.1 a k)
  | 2 => .inr (.inl (h.1 a k))
  | _ => .inr (.inr (h.2.1 a k))
def pm_lc (x y : Int) : Int := if y < x then 1 else if x = y then 0 else -1
def pm_ini (i : Nat) : Bool := decide ((pm_y i).name = "<init>")
/-- a plain step: the next place, locals, stack, heap -/
noncomputable def pm_s (i : Nat) (o : Instr) (n pc : Nat) (ls : pm_L) (st : List pm_V) (h : pm_H) : Option pm_N := match o with
  | .iconst v => pm_if (pm_I32 v) (pc + 1, ls, .inl v :: st, h)
  | .bipush v => pm_if (-128 ≤ v ∧ v ≤ 127) (pc + 2, ls, .inl v :: st, h)
  | .sipush v => pm_if (-32768 ≤ v ∧ v ≤ 32767) (pc + 3, ls, .inl v :: st, h)
  | .lconst v => some (pc + 1, ls, .inr (.inl ((v : Nat) : Int)) :: st, h)
  | .aconst_null => some (pc + 1, ls, .inr (.inr none) :: st, h)
  | .ldc k => match pm_KT.lookup (pm_ow i, k) with
    | some (v, _) => some (pc + 2, ls, .inl v :: st, h)
    | none => none
  | .ldc_w k => match pm_KT.lookup (pm_ow i, k) with
    | some (v, _) => some (pc + 3, ls, .inl v :: st, h)
    | none => none
  | .iload_n k => pm_oli ls k fun x => some (pc + 1, ls, .inl x :: st, h)
  | .iload k => pm_oli ls k fun x => some (pc + 2, ls, .inl x :: st, h)
  | .lload_n k => pm_oll ls k fun x => some (pc + 1, ls, .inr (.inl x) :: st, h)
  | .lload k => pm_oll ls k fun x => some (pc + 2, ls, .inr (.inl x) :: st, h)
  | .aload_n k => pm_olq ls k fun x => some (pc + 1, ls, .inr (.inr x) :: st, h)
  | .aload k => pm_olq ls k fun x => some (pc + 2, ls, .inr (.inr x) :: st, h)
  | .istore_n k => pm_oi st fun x s => pm_if ((k : Nat) < pm_mL i) (pc + 1, pm_s1 ls k (.inl x), s, h)
  | .istore k => pm_oi st fun x s => pm_if (k < pm_mL i) (pc + 2, pm_s1 ls k (.inl x), s, h)
  | .lstore_n k => pm_ol st fun x s => pm_if ((k : Nat) + 1 < pm_mL i) (pc + 1, pm_s2 ls k (.inr (.inl x)), s, h)
  | .lstore k => pm_ol st fun x s => pm_if (k + 1 < pm_mL i) (pc + 2, pm_s2 ls k (.inr (.inl x)), s, h)
  | .astore_n k => pm_oq st fun x s => pm_if ((k : Nat) < pm_mL i) (pc + 1, pm_s1 ls k (.inr (.inr x)), s, h)
  | .astore k => pm_oq st fun x s => pm_if (k < pm_mL i) (pc + 2, pm_s1 ls k (.inr (.inr x)), s, h)
  | .iinc k v => pm_oli ls k fun x => pm_if (k < pm_mL i ∧ pm_I32 (x + v)) (pc + 3, pm_s1 ls k (.inl (x + v)), st, h)
  | .iadd => pm_oi st fun y s => pm_oi s fun x s => pm_if (pm_I32 (x + y)) (pc + 1, ls, .inl (x + y) :: s, h)
  | .isub => pm_oi st fun y s => pm_oi s fun x s => pm_if (pm_I32 (x - y)) (pc + 1, ls, .inl (x - y) :: s, h)
  | .imul => pm_oi st fun y s => pm_oi s fun x s => pm_if (pm_I32 (x * y)) (pc + 1, ls, .inl (x * y) :: s, h)
  | .idiv => pm_oi st fun y s => pm_oi s fun x s => pm_if (0 ≤ x ∧ 0 < y) (pc + 1, ls, .inl (x / y) :: s, h)
  | .irem => pm_oi st fun y s => pm_oi s fun x s => pm_if (0 ≤ x ∧ 0 < y) (pc + 1, ls, .inl (x % y) :: s, h)
  | .ineg => pm_oi st fun x s => pm_if (pm_I32 (-x)) (pc + 1, ls, .inl (-x) :: s, h)
  | .ishl => pm_oi st fun y s => pm_oi s fun x s => pm_if (0 ≤ y ∧ y < 32 ∧ 0 ≤ x ∧ x * 2 ^ y.toNat ≤ 2147483647) (pc + 1, ls, .inl (x * 2 ^ y.toNat) :: s, h)
  | .iushr => pm_oi st fun y s => pm_oi s fun x s => pm_if (0 ≤ y ∧ y < 32 ∧ 0 ≤ x) (pc + 1, ls, .inl (x / 2 ^ y.toNat) :: s, h)
  | .iand => pm_oi st fun y s => pm_oi s fun x s => pm_if (0 ≤ y ∧ 0 ≤ x) (pc + 1, ls, .inl ((x.toNat &&& y.toNat : Nat) : Int) :: s, h)
  | .ior => pm_oi st fun y s => pm_oi s fun x s => pm_if (0 ≤ y ∧ 0 ≤ x) (pc + 1, ls, .inl ((x.toNat ||| y.toNat : Nat) : Int) :: s, h)
  | .ladd => pm_ol st fun y s => pm_ol s fun x s => pm_if (pm_I64 (x + y)) (pc + 1, ls, .inr (.inl (x + y)) :: s, h)
  | .lsub => pm_ol st fun y s => pm_ol s fun x s => pm_if (pm_I64 (x - y)) (pc + 1, ls, .inr (.inl (x - y)) :: s, h)
  | .lmul => pm_ol st fun y s => pm_ol s fun x s => pm_if (pm_I64 (x * y)) (pc + 1, ls, .inr (.inl (x * y)) :: s, h)
  | .ldiv => pm_ol st fun y s => pm_ol s fun x s => pm_if (0 ≤ x ∧ 0 < y) (pc + 1, ls, .inr (.inl (x / y)) :: s, h)
  | .lrem => pm_ol st fun y s => pm_ol s fun x s => pm_if (0 ≤ x ∧ 0 < y) (pc + 1, ls, .inr (.inl (x % y)) :: s, h)
  | .lshl => pm_oi st fun y s => pm_ol s fun x s => pm_if (0 ≤ y ∧ y < 64 ∧ 0 ≤ x ∧ x * 2 ^ y.toNat ≤ 9223372036854775807) (pc + 1, ls, .inr (.inl (x * 2 ^ y.toNat)) :: s, h)
  | .lushr => pm_oi st fun y s => pm_ol s fun x s => pm_if (0 ≤ y ∧ y < 64 ∧ 0 ≤ x) (pc + 1, ls, .inr (.inl (x / 2 ^ y.toNat)) :: s, h)
  | .land => pm_ol st fun y s => pm_ol s fun x s => pm_if (0 ≤ y ∧ 0 ≤ x) (pc + 1, ls, .inr (.inl ((x.toNat &&& y.toNat : Nat) : Int)) :: s, h)
  | .lor => pm_ol st fun y s => pm_ol s fun x s => pm_if (0 ≤ y ∧ 0 ≤ x) (pc + 1, ls, .inr (.inl ((x.toNat ||| y.toNat : Nat) : Int)) :: s, h)
  | .i2l => pm_oi st fun x s => some (pc + 1, ls, .inr (.inl x) :: s, h)
  | .l2i => pm_ol st fun x s => pm_if (pm_I32 x) (pc + 1, ls, .inl x :: s, h)
  | .lcmp => pm_ol st fun y s => pm_ol s fun x s => some (pc + 1, ls, .inl (pm_lc x y) :: s, h)
  | .dup => pm_oq st fun x s => some (pc + 1, ls, .inr (.inr x) :: .inr (.inr x) :: s, h)
  | .dup2 => pm_oi st fun y s => pm_oq s fun x s => some (pc + 1, ls, .inl y :: .inr (.inr x) :: .inl y :: .inr (.inr x) :: s, h)
  | .ifCond c off => pm_oi st fun x s => pm_br (pm_cmp c x 0) (((pc : Int) + off).toNat, ls, s, h) (pc + 3, ls, s, h)
  | .if_icmp c off => pm_oi st fun y s => pm_oi s fun x s => pm_br (pm_cmp c x y) (((pc : Int) + off).toNat, ls, s, h) (pc + 3, ls, s, h)
  | .ifnull off => pm_oq st fun x s => pm_br (x = none) (((pc : Int) + off).toNat, ls, s, h) (pc + 3, ls, s, h)
  | .ifnonnull off => pm_oq st fun x s => pm_br (x ≠ none) (((pc : Int) + off).toNat, ls, s, h) (pc + 3, ls, s, h)
  | .goto off => some (((pc : Int) + off).toNat, ls, st, h)
  | .tableswitch df lo hi offs => pm_oi st fun x s => some (((pc : Int) + (if x < lo ∨ hi < x then df else offs.toList.getD (x - lo).toNat 0)).toNat, ls, s, h)
  | .getfield k => match pm_FT.lookup (pm_ow i, k) with
    | some (f, kd, al, _) => pm_or st fun a s => pm_if (pm_tgs h a al) (pc + 3, ls, pm_fg h kd a f :: s, h)
    | none => none
  | .putfield k => match pm_FT.lookup (pm_ow i, k) with
    | some (f, 0, al, _, _, pf, _) => pm_oi st fun x s => pm_or s fun a s => pm_if ((pf = 0 ∨ (pf = 1 ∧ pm_ini i = true)) ∧ pm_tgs h a al) (pc + 3, ls, s, pm_wI h a f x)
    | some (f, 1, al, _, _, pf, _) => pm_oi st fun x s => pm_or s fun a s => pm_if ((pf = 0 ∨ (pf = 1 ∧ pm_ini i = true)) ∧ (x = 0 ∨ x = 1) ∧ pm_tgs h a al) (pc + 3, ls, s, pm_wI h a f x)
    | some (f, 2, al, _, _, pf, _) => pm_ol st fun x s => pm_or s fun a s => pm_if ((pf = 0 ∨ (pf = 1 ∧ pm_ini i = true)) ∧ pm_tgs h a al) (pc + 3, ls, s, pm_wI h a f x)
    | some (f, 3, al, _, _, pf, _) => pm_oq st fun x s => pm_or s fun a s => pm_if ((pf = 0 ∨ (pf = 1 ∧ pm_ini i = true)) ∧ pm_tgs h a al) (pc + 3, ls, s, pm_wR h a f x)
    | _ => none
  | .iaload => pm_oi st fun x s => pm_or s fun a s => pm_if (pm_inb h a 20 x) (pc + 1, ls, .inl (h.1 a x.toNat) :: s, h)
  | .baload => pm_oi st fun x s => pm_or s fun a s => pm_if (pm_inb h a 22 x) (pc + 1, ls, .inl (h.1 a x.toNat) :: s, h)
  | .laload => pm_oi st fun x s => pm_or s fun a s => pm_if (pm_inb h a 21 x) (pc + 1, ls, .inr (.inl (h.1 a x.toNat)) :: s, h)
  | .aaload => pm_oi st fun x s => pm_or s fun a s => pm_if (pm_inb h a 23 x ∨ pm_inb h a 24 x ∨ pm_inb h a 25 x) (pc + 1, ls, .inr (.inr (h.2.1 a x.toNat)) :: s, h)
  | .iastore => pm_oi st fun v s => pm_oi s fun x s => pm_or s fun a s => pm_if (pm_inb h a 20 x) (pc + 1, ls, s, pm_wI h a x.toNat v)
  | .bastore => pm_oi st fun v s => pm_oi s fun x s => pm_or s fun a s => pm_if ((v = 0 ∨ v = 1) ∧ pm_inb h a 22 x) (pc + 1, ls, s, pm_wI h a x.toNat v)
  | .lastore => pm_ol st fun v s => pm_oi s fun x s => pm_or s fun a s => pm_if (pm_inb h a 21 x) (pc + 1, ls, s, pm_wI h a x.toNat v)
  | .aastore => pm_oq st fun v s => pm_oi s fun x s => pm_or s fun a s => pm_if ((pm_inb h a 24 x ∧ ∀ q, v = some q → pm_tgs h q [0, 2, 6, 9, 10]) ∨ (pm_inb h a 25 x ∧ ∀ q, v = some q → pm_tgs h q [8])) (pc + 1, ls, s, pm_wR h a x.toNat v)
  | .arraylength => pm_or st fun a s => match h.2.2[a]? with
    | some (t, n) => pm_if (t = 20) (pc + 1, ls, .inl (n : Int) :: s, h)
    | none => none
  | .new k => match pm_CT.lookup (pm_ow i, k) with
    | some (c, _) => match (List.range 13).find? (fun t => decide (pm_cn t = c)) with
      | some t => some (pc + 3, ls, .inr (.inr (some h.2.2.length)) :: st, pm_nw h t (pm_nf t))
      | none => none
    | none => none
  | .newarray .int => pm_oi st fun x s => pm_if (0 ≤ x ∧ x ≤ 4000) (pc + 2, ls, .inr (.inr (some h.2.2.length)) :: s, pm_nw h 20 x.toNat)
  | .newarray .long => pm_oi st fun x s => pm_if (0 ≤ x ∧ x ≤ 4000) (pc + 2, ls, .inr (.inr (some h.2.2.length)) :: s, pm_nw h 21 x.toNat)
  | .newarray .boolean => pm_oi st fun x s => pm_if (0 ≤ x ∧ x ≤ 4000) (pc + 2, ls, .inr (.inr (some h.2.2.length)) :: s, pm_nw h 22 x.toNat)
  | .anewarray k => match pm_CT.lookup (pm_ow i, k) with
    | some (c, _) => if c = "LoomShed$Piece" then pm_oi st fun x s => pm_if (0 ≤ x ∧ x ≤ 4000) (pc + 3, ls, .inr (.inr (some h.2.2.length)) :: s, pm_nw h 24 x.toNat)
      else if c = "LoomShed$Shed" then pm_oi st fun x s => pm_if (0 ≤ x ∧ x ≤ 4000) (pc + 3, ls, .inr (.inr (some h.2.2.length)) :: s, pm_nw h 25 x.toNat) else none
    | none => none
  | .multianewarray k 2 => match pm_CT.lookup (pm_ow i, k) with
    | some (c, _) => if c = "[[I" then pm_oi st fun y s => pm_oi s fun x s => pm_if (0 ≤ x ∧ x ≤ 4000 ∧ 0 ≤ y ∧ y ≤ 4000) (pc + 4, ls, .inr (.inr (some h.2.2.length)) :: s, pm_mn h x.toNat y.toNat) else none
    | none => none
  | .instanceof k => match pm_CT.lookup (pm_ow i, k) with
    | some (c, _) => pm_oq st fun x s => match x with
      | none => some (pc + 3, ls, .inl 0 :: s, h)
      | some a => match h.2.2[a]? with
        | some (t, _) => pm_if ((c = "LoomShed$Split" ∨ c = "LoomShed$Barred") ∧ t ∈ [0, 2, 6, 9, 10]) (pc + 3, ls, .inl (if pm_cn t = c then 1 else 0) :: s, h)
        | none => none
    | none => none
  | .checkcast k => match pm_CT.lookup (pm_ow i, k) with
    | some (c, _) => pm_or st fun a s => match h.2.2[a]? with
        | some (t, _) => pm_if (t < 13 ∧ pm_cn t = c) (pc + 3, ls, .inr (.inr (some a)) :: s, h)
        | none => none
    | none => none
  | .invokestatic k => match pm_MLT.lookup (pm_ow i, k) with
    | some (10, _) => pm_oi st fun y s => pm_oi s fun x s => pm_if (pm_wt s ≤ 8) (pc + 3, ls, .inl (max x y) :: s, h)
    | some (11, _) => pm_oi st fun y s => pm_oi s fun x s => pm_if (pm_wt s ≤ 8) (pc + 3, ls, .inl (min x y) :: s, h)
    | _ => none
  | .invokespecial k => match pm_MLT.lookup (pm_ow i, k) with
    | some (9, _) => pm_or st fun _ s => pm_if (pm_wt s ≤ 8) (pc + 3, ls, s, h)
    | _ => none
  | _ => none
/-- a call: whom, its arguments, what is left on the stack -/
noncomputable def pm_c (i : Nat) (o : Instr) (st : List pm_V) (h : pm_H) : Option (Nat × List pm_V × List pm_V) := match o with
  | .invokestatic k => match pm_MLT.lookup (pm_ow i, k) with
    | some (0, na, [(_, j)], _) => pm_if (na ≤ st.length ∧ pm_wt (st.drop na) ≤ 8) (j, (st.take na).reverse, st.drop na)
    | _ => none
  | .invokespecial k => match pm_MLT.lookup (pm_ow i, k) with
    | some (1, na, [(_, j)], _) => pm_or (st.drop na) fun a s => pm_if (na ≤ st.length ∧ pm_wt s ≤ 8) (j, .inr (.inr (some a)) :: (st.take na).reverse, s)
    | _ => none
  | .invokevirtual k => match pm_MLT.lookup (pm_ow i, k) with
    | some (2, na, [(t, j)], _) => pm_or (st.drop na) fun a s => pm_if (na ≤ st.length ∧ pm_wt s ≤ 8 ∧ pm_tg h a t) (j, .inr (.inr (some a)) :: (st.take na).reverse, s)
    | some (3, na, cs, _) => pm_or (st.drop na) fun a s => match h.2.2[a]? with
      | some (t, _) => match cs.lookup t with
        | some j => pm_if (na ≤ st.length ∧ pm_wt s ≤ 8) (j, .inr (.inr (some a)) :: (st.take na).reverse, s)
        | none => none
      | none => none
    | _ => none
  | _ => none
/-- a return -/
noncomputable def pm_e (i : Nat) (o : Instr) (st : List pm_V) : Option (Option pm_V) := match o with
  | .ireturn => pm_oi st fun x s => pm_if (s = [] ∧ (pm_rt i = some .int ∨ (pm_rt i = some .boolean ∧ (x = 0 ∨ x = 1)))) (some (.inl x))
  | .lreturn => pm_ol st fun x s => pm_if (s = [] ∧ pm_rt i = some .long) (some (.inr (.inl x)))
  | .areturn => pm_oq st fun x s => pm_if (s = [] ∧ ∃ n, pm_rt i = some (.object n)) (some (.inr (.inr x)))
  | .return_ => pm_if (st = [] ∧ pm_rt i = none) none
  | _ => none
def pm_pu : Option pm_V → List pm_V → List pm_V
  | none, s => s
  | some v, s => v :: s
def pm_ln : Instr → Nat
  | .bipush _ | .ldc _ | .iload _ | .lload _ | .aload _ | .istore _ | .lstore _ | .astore _ | .newarray _ => 2
  | .sipush _ | .ldc_w _ | .iinc _ _ | .ifCond _ _ | .if_icmp _ _ | .ifnull _ | .ifnonnull _ | .goto _ | .getfield _ | .putfield _ | .invokestatic _ | .invokespecial _ | .invokevirtual _ | .new _ | .anewarray _ | .instanceof _ | .checkcast _ => 3
  | .multianewarray _ _ => 4
  | _ => 1
/-- the instruction's length, and its jumps, are as they must be -/
def pm_lk (o : Instr) (k pc : Nat) : Bool := match o with
  | .tableswitch df lo hi offs => decide (0 ≤ (pc : Int) + df) && offs.toList.all (fun x => decide (0 ≤ (pc : Int) + x)) && decide ((offs.toList.length : Int) = hi - lo + 1)
  | .ifCond _ off => k == 3 && decide (0 ≤ (pc : Int) + off)
  | .if_icmp _ off => k == 3 && decide (0 ≤ (pc : Int) + off)
  | .ifnull off => k == 3 && decide (0 ≤ (pc : Int) + off)
  | .ifnonnull off => k == 3 && decide (0 ≤ (pc : Int) + off)
  | .goto off => k == 3 && decide (0 ≤ (pc : Int) + off)
  | o => k == pm_ln o
/-- at most n instructions of the method i, from here, come to r and h' -/
def pm_lp (C : Nat → List pm_V → pm_H → Option pm_V → pm_H → Prop) (i : Nat) : Nat → Nat → pm_L → List pm_V → pm_H → Option pm_V → pm_H → Prop
  | 0, _, _, _, _, _, _ => False
  | n + 1, pc, ls, st, h, r, h' => ∃ o k, decode (pm_b i) pc = .ok (o, k) ∧ pm_lk o k pc = true ∧
      ((∃ nx : pm_N, pm_s i o k pc ls st h = some nx ∧ pm_lp C i n nx.1 nx.2.1 nx.2.2.1 nx.2.2.2 r h') ∨
       (∃ j as s, pm_c i o st h = some (j, as, s) ∧ ∃ r1 h1, C j as h r1 h1 ∧ pm_lp C i n (pc + 3) ls (pm_pu r1 s) h1 r h') ∨
       (pm_e i o st = some r ∧ h = h'))
/-- a method's run: at most d frames deep -/
def pm_ev : Nat → Nat → List pm_V → pm_H → Option pm_V → pm_H → Prop
  | 0, _, _, _, _, _ => False
  | d + 1, i, as, h, r, h' => (pm_fl as).length ≤ pm_mL i ∧ ∃ n, pm_lp (pm_ev d) i n 0 (pm_ent i as) [] h r h'
def pm_w (d i pc : Nat) (ls : pm_L) (st : List pm_V) (h : pm_H) (Q : Option pm_V → pm_H → Prop) : Prop := ∃ n r h', pm_lp (pm_ev d) i n pc ls st h r h' ∧ Q r h'
def pm_ok (d i : Nat) (as : List pm_V) (h : pm_H) (Q : Option pm_V → pm_H → Prop) : Prop := ∃ r h', pm_ev d i as h r h' ∧ Q r h'
