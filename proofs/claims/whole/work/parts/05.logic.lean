/-! THE LOGIC: what has to be shown at an instruction -/
theorem pm_if_iff {α : Type} {c : Prop} {z : α} {P : α → Prop} : (∃ nx, pm_if c z = some nx ∧ P nx) ↔ c ∧ P z := by
  unfold pm_if
  by_cases h : c
  · rw [if_pos h]
    exact ⟨fun ⟨nx, e, p⟩ => ⟨h, by cases e; exact p⟩, fun ⟨_, p⟩ => ⟨z, rfl, p⟩⟩
  · rw [if_neg h]
    exact ⟨fun ⟨nx, e, _⟩ => (by cases e), fun ⟨a, _⟩ => absurd a h⟩
theorem pm_br_iff {α : Type} {c : Prop} {a b : α} {P : α → Prop} : (∃ nx, pm_br c a b = some nx ∧ P nx) ↔ (c → P a) ∧ (¬ c → P b) := by
  unfold pm_br
  by_cases h : c
  · rw [if_pos h]
    exact ⟨fun ⟨nx, e, p⟩ => ⟨fun _ => (by cases e; exact p), fun g => absurd h g⟩, fun ⟨p, _⟩ => ⟨a, rfl, p h⟩⟩
  · rw [if_neg h]
    exact ⟨fun ⟨nx, e, p⟩ => ⟨fun g => absurd g h, fun _ => by cases e; exact p⟩, fun ⟨_, p⟩ => ⟨b, rfl, p h⟩⟩
theorem pm_some_iff {α : Type} {z : α} {P : α → Prop} : (∃ nx, some z = some nx ∧ P nx) ↔ P z := ⟨fun ⟨_, e, p⟩ => (by cases e; exact p), fun p => ⟨z, rfl, p⟩⟩
theorem pm_none_iff {α : Type} {P : α → Prop} : (∃ nx, (none : Option α) = some nx ∧ P nx) ↔ False := ⟨fun ⟨_, e, _⟩ => (by cases e), fun h => h.elim⟩
theorem pm_oi_iff {α : Type} {st : List pm_V} {f : Int → List pm_V → Option α} {P : α → Prop} : (∃ nx, pm_oi st f = some nx ∧ P nx) ↔ pm_i st fun x s => ∃ nx, f x s = some nx ∧ P nx := by
  unfold pm_oi pm_i
  split
  · exact Iff.rfl
  · exact pm_none_iff
theorem pm_i_ex {st : List pm_V} {f : Int → List pm_V → Prop} (h : pm_i st f) : ∃ x s, st = .inl x :: s ∧ f x s := by
  unfold pm_i at h
  split at h
  · exact ⟨_, _, rfl, h⟩
  · exact h.elim
theorem pm_i_c {x : Int} {s : List pm_V} {f : Int → List pm_V → Prop} : pm_i (.inl x :: s) f = f x s := rfl
theorem pm_ol_iff {α : Type} {st : List pm_V} {f : Int → List pm_V → Option α} {P : α → Prop} : (∃ nx, pm_ol st f = some nx ∧ P nx) ↔ pm_l st fun x s => ∃ nx, f x s = some nx ∧ P nx := by
  unfold pm_ol pm_l
  split
  · exact Iff.rfl
  · exact pm_none_iff
theorem pm_l_ex {st : List pm_V} {f : Int → List pm_V → Prop} (h : pm_l st f) : ∃ x s, st = .inr (.inl x) :: s ∧ f x s := by
  unfold pm_l at h
  split at h
  · exact ⟨_, _, rfl, h⟩
  · exact h.elim
theorem pm_l_c {x : Int} {s : List pm_V} {f : Int → List pm_V → Prop} : pm_l (.inr (.inl x) :: s) f = f x s := rfl
theorem pm_oq_iff {α : Type} {st : List pm_V} {f : Option Nat → List pm_V → Option α} {P : α → Prop} : (∃ nx, pm_oq st f = some nx ∧ P nx) ↔ pm_q st fun x s => ∃ nx, f x s = some nx ∧ P nx := by
  unfold pm_oq pm_q
  split
  · exact Iff.rfl
  · exact pm_none_iff
theorem pm_q_ex {st : List pm_V} {f : Option Nat → List pm_V → Prop} (h : pm_q st f) : ∃ x s, st = .inr (.inr x) :: s ∧ f x s := by
  unfold pm_q at h
  split at h
  · exact ⟨_, _, rfl, h⟩
  · exact h.elim
theorem pm_q_c {x : Option Nat} {s : List pm_V} {f : Option Nat → List pm_V → Prop} : pm_q (.inr (.inr x) :: s) f = f x s := rfl
theorem pm_or_iff {α : Type} {st : List pm_V} {f : Nat → List pm_V → Option α} {P : α → Prop} : (∃ nx, pm_or st f = some nx ∧ P nx) ↔ pm_r st fun x s => ∃ nx, f x s = some nx ∧ P nx := by
  unfold pm_or pm_r
  split
  · exact Iff.rfl
  · exact pm_none_iff
theorem pm_r_ex {st : List pm_V} {f : Nat → List pm_V → Prop} (h : pm_r st f) : ∃ x s, st = .inr (.inr (some x)) :: s ∧ f x s := by
  unfold pm_r at h
  split at h
  · exact ⟨_, _, rfl, h⟩
  · exact h.elim
theorem pm_r_c {x : Nat} {s : List pm_V} {f : Nat → List pm_V → Prop} : pm_r (.inr (.inr (some x)) :: s) f = f x s := rfl
theorem pm_ov_iff {α : Type} {st : List pm_V} {f : pm_V → List pm_V → Option α} {P : α → Prop} : (∃ nx, pm_ov st f = some nx ∧ P nx) ↔ pm_v st fun x s => ∃ nx, f x s = some nx ∧ P nx := by
  unfold pm_ov pm_v
  split
  · exact Iff.rfl
  · exact pm_none_iff
theorem pm_v_ex {st : List pm_V} {f : pm_V → List pm_V → Prop} (h : pm_v st f) : ∃ x s, st = x :: s ∧ f x s := by
  unfold pm_v at h
  split at h
  · exact ⟨_, _, rfl, h⟩
  · exact h.elim
theorem pm_v_c {x : pm_V} {s : List pm_V} {f : pm_V → List pm_V → Prop} : pm_v (x :: s) f = f x s := rfl
theorem pm_li_0 {x : Int} {t : pm_L} {f : Int → Prop} : pm_li (some (.inl x) :: t) 0 f = f x := rfl
theorem pm_li_s {v : Option pm_V} {t : pm_L} {n : Nat} {f : Int → Prop} : pm_li (v :: t) (n + 1) f = pm_li t n f := rfl
theorem pm_li_ex {ls : pm_L} {n : Nat} {f : Int → Prop} (h : pm_li ls n f) : ∃ x, ls[n]? = some (some (.inl x)) ∧ f x := by
  unfold pm_li at h
  split at h
  · next e => exact ⟨_, e, h⟩
  · exact h.elim
theorem pm_oli_iff {α : Type} {ls : pm_L} {n : Nat} {f : Int → Option α} {P : α → Prop} : (∃ nx, pm_oli ls n f = some nx ∧ P nx) ↔ pm_li ls n fun x => ∃ nx, f x = some nx ∧ P nx := by
  unfold pm_oli pm_li
  split
  · exact Iff.rfl
  · exact pm_none_iff
theorem pm_ll_0 {x : Int} {t : pm_L} {f : Int → Prop} : pm_ll (some (.inr (.inl x)) :: t) 0 f = f x := rfl
theorem pm_ll_s {v : Option pm_V} {t : pm_L} {n : Nat} {f : Int → Prop} : pm_ll (v :: t) (n + 1) f = pm_ll t n f := rfl
theorem pm_ll_ex {ls : pm_L} {n : Nat} {f : Int → Prop} (h : pm_ll ls n f) : ∃ x, ls[n]? = some (some (.inr (.inl x))) ∧ f x := by
  unfold pm_ll at h
  split at h
  · next e => exact ⟨_, e, h⟩
  · exact h.elim
theorem pm_oll_iff {α : Type} {ls : pm_L} {n : Nat} {f : Int → Option α} {P : α → Prop} : (∃ nx, pm_oll ls n f = some nx ∧ P nx) ↔ pm_ll ls n fun x => ∃ nx, f x = some nx ∧ P nx := by
  unfold pm_oll pm_ll
  split
  · exact Iff.rfl
  · exact pm_none_iff
theorem pm_lq_0 {x : Option Nat} {t : pm_L} {f : Option Nat → Prop} : pm_lq (some (.inr (.inr x)) :: t) 0 f = f x := rfl
theorem pm_lq_s {v : Option pm_V} {t : pm_L} {n : Nat} {f : Option Nat → Prop} : pm_lq (v :: t) (n + 1) f = pm_lq t n f := rfl
theorem pm_lq_ex {ls : pm_L} {n : Nat} {f : Option Nat → Prop} (h : pm_lq ls n f) : ∃ x, ls[n]? = some (some (.inr (.inr x))) ∧ f x := by
  unfold pm_lq at h
  split at h
  · next e => exact ⟨_, e, h⟩
  · exact h.elim
theorem pm_olq_iff {α : Type} {ls : pm_L} {n : Nat} {f : Option Nat → Option α} {P : α → Prop} : (∃ nx, pm_olq ls n f = some nx ∧ P nx) ↔ pm_lq ls n fun x => ∃ nx, f x = some nx ∧ P nx := by
  unfold pm_olq pm_lq
  split
  · exact Iff.rfl
  · exact pm_none_iff
theorem pm_lp_C {C C' : Nat → List pm_V → pm_H → Option pm_V → pm_H → Prop} {i : Nat} (hC : ∀ j as h r h', C j as h r h' → C' j as h r h') : ∀ (n m pc : Nat) (ls : pm_L) (st : List pm_V) (h : pm_H) (r : Option pm_V) (h' : pm_H), n ≤ m → pm_lp C i n pc ls st h r h' → pm_lp C' i m pc ls st h r h'
  | 0, _, _, _, _, _, _, _, _, g => g.elim
  | n + 1, 0, _, _, _, _, _, _, hm, _ => by omega
  | n + 1, m + 1, pc, ls, st, h, r, h', hm, g => by
    obtain ⟨o, k, hd, hk, g⟩ := g
    refine ⟨o, k, hd, hk, ?_⟩
    rcases g with ⟨nx, e, g⟩ | ⟨j, as, s, e, r1, h1, c, g⟩ | g
    · exact Or.inl ⟨nx, e, pm_lp_C hC n m _ _ _ _ _ _ (by omega) g⟩
    · exact Or.inr (Or.inl ⟨j, as, s, e, r1, h1, hC _ _ _ _ _ c, pm_lp_C hC n m _ _ _ _ _ _ (by omega) g⟩)
    · exact Or.inr (Or.inr g)
theorem pm_ev_up : ∀ (d e i : Nat) (as : List pm_V) (h : pm_H) (r : Option pm_V) (h' : pm_H), d ≤ e → pm_ev d i as h r h' → pm_ev e i as h r h'
  | 0, _, _, _, _, _, _, _, g => g.elim
  | d + 1, 0, _, _, _, _, _, hm, _ => by omega
  | d + 1, e + 1, i, as, h, r, h', hm, g => by
    obtain ⟨gl, n, g⟩ := g
    exact ⟨gl, n, pm_lp_C (fun j as h r h' c => pm_ev_up d e j as h r h' (by omega) c) n n _ _ _ _ _ _ (Nat.le_refl n) g⟩
theorem pm_ok_up {d e i : Nat} {as : List pm_V} {h : pm_H} {Q : Option pm_V → pm_H → Prop} (hd : d ≤ e) (g : pm_ok d i as h Q) : pm_ok e i as h Q := by
  obtain ⟨r, h', g, q⟩ := g
  exact ⟨r, h', pm_ev_up d e i as h r h' hd g, q⟩
theorem pm_ok_mono {d i : Nat} {as : List pm_V} {h : pm_H} {Q Q' : Option pm_V → pm_H → Prop} (g : pm_ok d i as h Q) (hq : ∀ r h', Q r h' → Q' r h') : pm_ok d i as h Q' := by
  obtain ⟨r, h', g, q⟩ := g
  exact ⟨r, h', g, hq r h' q⟩
theorem pm_ok_iff {d i : Nat} {as : List pm_V} {h : pm_H} {Q : Option pm_V → pm_H → Prop} : pm_ok (d + 1) i as h Q ↔ (pm_fl as).length ≤ pm_mL i ∧ pm_w d i 0 (pm_ent i as) [] h Q := by
  constructor
  · rintro ⟨r, h', ⟨gl, n, g⟩, q⟩
    exact ⟨gl, n, r, h', g, q⟩
  · rintro ⟨gl, n, r, h', g, q⟩
    exact ⟨r, h', ⟨gl, n, g⟩, q⟩
theorem pm_w_step {d i pc k : Nat} {o : Instr} {ls : pm_L} {st : List pm_V} {h : pm_H} {Q : Option pm_V → pm_H → Prop} (hd : decode (pm_b i) pc = .ok (o, k)) (hk : pm_lk o k pc = true) (hc : pm_c i o st h = none) (he : pm_e i o st = none) :
    pm_w d i pc ls st h Q ↔ ∃ nx : pm_N, pm_s i o k pc ls st h = some nx ∧ pm_w d i nx.1 nx.2.1 nx.2.2.1 nx.2.2.2 Q := by
  constructor
  · rintro ⟨n, r, h', g, q⟩
    cases n with
    | zero => exact g.elim
    | succ n =>
      obtain ⟨o', k', hd', -, g⟩ := g
      cases hd.symm.trans hd'
      rcases g with ⟨nx, e, g⟩ | ⟨j, as, s, e, -⟩ | ⟨e, -⟩
      · exact ⟨nx, e, n, r, h', g, q⟩
      · rw [hc] at e; cases e
      · rw [he] at e; cases e
  · rintro ⟨nx, e, n, r, h', g, q⟩
    exact ⟨n + 1, r, h', ⟨o, k, hd, hk, Or.inl ⟨nx, e, g⟩⟩, q⟩
theorem pm_w_call {d i pc k : Nat} {o : Instr} {ls : pm_L} {st : List pm_V} {h : pm_H} {Q : Option pm_V → pm_H → Prop} (hd : decode (pm_b i) pc = .ok (o, k)) (hk : pm_lk o k pc = true) (hs : pm_s i o k pc ls st h = none) (he : pm_e i o st = none) :
    pm_w d i pc ls st h Q ↔ ∃ z, pm_c i o st h = some z ∧ pm_ok d z.1 z.2.1 h fun r h' => pm_w d i (pc + 3) ls (pm_pu r z.2.2) h' Q := by
  constructor
  · rintro ⟨n, r, h', g, q⟩
    cases n with
    | zero => exact g.elim
    | succ n =>
      obtain ⟨o', k', hd', -, g⟩ := g
      cases hd.symm.trans hd'
      rcases g with ⟨nx, e, g⟩ | ⟨j, as, s, e, r1, h1, c, g⟩ | ⟨e, -⟩
      · rw [hs] at e; cases e
      · exact ⟨(j, as, s), e, r1, h1, c, n, r, h', g, q⟩
      · rw [he] at e; cases e
  · rintro ⟨⟨j, as, s⟩, e, r1, h1, c, n, r, h', g, q⟩
    exact ⟨n + 1, r, h', ⟨o, k, hd, hk, Or.inr (Or.inl ⟨j, as, s, e, r1, h1, c, g⟩)⟩, q⟩
theorem pm_w_ret {d i pc k : Nat} {o : Instr} {ls : pm_L} {st : List pm_V} {h : pm_H} {Q : Option pm_V → pm_H → Prop} (hd : decode (pm_b i) pc = .ok (o, k)) (hk : pm_lk o k pc = true) (hs : pm_s i o k pc ls st h = none) (hc : pm_c i o st h = none) :
    pm_w d i pc ls st h Q ↔ ∃ r, pm_e i o st = some r ∧ Q r h := by
  constructor
  · rintro ⟨n, r, h', g, q⟩
    cases n with
    | zero => exact g.elim
    | succ n =>
      obtain ⟨o', k', hd', -, g⟩ := g
      cases hd.symm.trans hd'
      rcases g with ⟨nx, e, g⟩ | ⟨j, as, s, e, -⟩ | ⟨e, e2⟩
      · rw [hs] at e; cases e
      · rw [hc] at e; cases e
      · subst e2; exact ⟨r, e, q⟩
  · rintro ⟨r, e, q⟩
    exact ⟨1, r, h, ⟨o, k, hd, hk, Or.inr (Or.inr ⟨e, rfl⟩)⟩, q⟩
section
variable {d i pc k : Nat} {ls : pm_L} {st : List pm_V} {h : pm_H} {Q : Option pm_V → pm_H → Prop}
theorem pw_lconst {v : Fin 2} (hd : decode (pm_b i) pc = .ok (.lconst v, 1)) : pm_w d i pc ls st h Q ↔ pm_w d i (pc + 1) ls (.inr (.inl ((v : Nat) : Int)) :: st) h Q := by
  rw [pm_w_step hd rfl rfl rfl]
  simp only [pm_s, pm_oi_iff, pm_ol_iff, pm_oq_iff, pm_or_iff, pm_oli_iff, pm_oll_iff, pm_olq_iff, pm_if_iff, pm_br_iff, pm_some_iff, pm_none_iff]
theorem pw_aconst_null (hd : decode (pm_b i) pc = .ok (.aconst_null, 1)) : pm_w d i pc ls st h Q ↔ pm_w d i (pc + 1) ls (.inr (.inr none) :: st) h Q := by
  rw [pm_w_step hd rfl rfl rfl]
  simp only [pm_s, pm_oi_iff, pm_ol_iff, pm_oq_iff, pm_or_iff, pm_oli_iff, pm_oll_iff, pm_olq_iff, pm_if_iff, pm_br_iff, pm_some_iff, pm_none_iff]
theorem pw_iconst {v : Int} (hd : decode (pm_b i) pc = .ok (.iconst v, 1)) (hv : pm_I32 v) : pm_w d i pc ls st h Q ↔ pm_w d i (pc + 1) ls (.inl v :: st) h Q := by
  rw [pm_w_step hd rfl rfl rfl]
  simp only [pm_s, pm_oi_iff, pm_ol_iff, pm_oq_iff, pm_or_iff, pm_oli_iff, pm_oll_iff, pm_olq_iff, pm_if_iff, pm_br_iff, pm_some_iff, pm_none_iff]
  exact ⟨fun g => g.2, fun g => ⟨hv, g⟩⟩
theorem pw_bipush {v : Int} (hd : decode (pm_b i) pc = .ok (.bipush v, 2)) (hv : -128 ≤ v ∧ v ≤ 127) : pm_w d i pc ls st h Q ↔ pm_w d i (pc + 2) ls (.inl v :: st) h Q := by
  rw [pm_w_step hd rfl rfl rfl]
  simp only [pm_s, pm_oi_iff, pm_ol_iff, pm_oq_iff, pm_or_iff, pm_oli_iff, pm_oll_iff, pm_olq_iff, pm_if_iff, pm_br_iff, pm_some_iff, pm_none_iff]
  exact ⟨fun g => g.2, fun g => ⟨hv, g⟩⟩
theorem pw_sipush {v : Int} (hd : decode (pm_b i) pc = .ok (.sipush v, 3)) (hv : -32768 ≤ v ∧ v ≤ 32767) : pm_w d i pc ls st h Q ↔ pm_w d i (pc + 3) ls (.inl v :: st) h Q := by
  rw [pm_w_step hd rfl rfl rfl]
  simp only [pm_s, pm_oi_iff, pm_ol_iff, pm_oq_iff, pm_or_iff, pm_oli_iff, pm_oll_iff, pm_olq_iff, pm_if_iff, pm_br_iff, pm_some_iff, pm_none_iff]
  exact ⟨fun g => g.2, fun g => ⟨hv, g⟩⟩
theorem pw_ldc {c wi : Nat} {v : Int} (hd : decode (pm_b i) pc = .ok (.ldc c, 2)) (hk : pm_KT.lookup (pm_ow i, c) = some (v, wi)) : pm_w d i pc ls st h Q ↔ pm_w d i (pc + 2) ls (.inl v :: st) h Q := by
  rw [pm_w_step hd rfl rfl rfl]
  simp only [pm_s, pm_oi_iff, pm_ol_iff, pm_oq_iff, pm_or_iff, pm_oli_iff, pm_oll_iff, pm_olq_iff, pm_if_iff, pm_br_iff, pm_some_iff, pm_none_iff, hk]
theorem pw_ldc_w {c wi : Nat} {v : Int} (hd : decode (pm_b i) pc = .ok (.ldc_w c, 3)) (hk : pm_KT.lookup (pm_ow i, c) = some (v, wi)) : pm_w d i pc ls st h Q ↔ pm_w d i (pc + 3) ls (.inl v :: st) h Q := by
  rw [pm_w_step hd rfl rfl rfl]
  simp only [pm_s, pm_oi_iff, pm_ol_iff, pm_oq_iff, pm_or_iff, pm_oli_iff, pm_oll_iff, pm_olq_iff, pm_if_iff, pm_br_iff, pm_some_iff, pm_none_iff, hk]
theorem pw_iload_n {c : Fin 4} (hd : decode (pm_b i) pc = .ok (.iload_n c, 1)) : pm_w d i pc ls st h Q ↔ pm_li ls (c : Nat) fun x => pm_w d i (pc + 1) ls (.inl x :: st) h Q := by
  rw [pm_w_step hd rfl rfl rfl]
  simp only [pm_s, pm_oi_iff, pm_ol_iff, pm_oq_iff, pm_or_iff, pm_oli_iff, pm_oll_iff, pm_olq_iff, pm_if_iff, pm_br_iff, pm_some_iff, pm_none_iff]
theorem pw_iload {c : Nat} (hd : decode (pm_b i) pc = .ok (.iload c, 2)) : pm_w d i pc ls st h Q ↔ pm_li ls c fun x => pm_w d i (pc + 2) ls (.inl x :: st) h Q := by
  rw [pm_w_step hd rfl rfl rfl]
  simp only [pm_s, pm_oi_iff, pm_ol_iff, pm_oq_iff, pm_or_iff, pm_oli_iff, pm_oll_iff, pm_olq_iff, pm_if_iff, pm_br_iff, pm_some_iff, pm_none_iff]
theorem pw_istore_n {c : Fin 4} (hd : decode (pm_b i) pc = .ok (.istore_n c, 1)) (hl : (c : Nat) < pm_mL i) : pm_w d i pc ls st h Q ↔ pm_i st fun x s => pm_w d i (pc + 1) (pm_s1 ls (c : Nat) (.inl x)) s h Q := by
  rw [pm_w_step hd rfl rfl rfl]
  simp only [pm_s, pm_oi_iff, pm_ol_iff, pm_oq_iff, pm_or_iff, pm_oli_iff, pm_oll_iff, pm_olq_iff, pm_if_iff, pm_br_iff, pm_some_iff, pm_none_iff, hl, true_and]
theorem pw_istore {c : Nat} (hd : decode (pm_b i) pc = .ok (.istore c, 2)) (hl : (c : Nat) < pm_mL i) : pm_w d i pc ls st h Q ↔ pm_i st fun x s => pm_w d i (pc + 2) (pm_s1 ls (c : Nat) (.inl x)) s h Q := by
  rw [pm_w_step hd rfl rfl rfl]
  simp only [pm_s, pm_oi_iff, pm_ol_iff, pm_oq_iff, pm_or_iff, pm_oli_iff, pm_oll_iff, pm_olq_iff, pm_if_iff, pm_br_iff, pm_some_iff, pm_none_iff, hl, true_and]
theorem pw_lload_n {c : Fin 4} (hd : decode (pm_b i) pc = .ok (.lload_n c, 1)) : pm_w d i pc ls st h Q ↔ pm_ll ls (c : Nat) fun x => pm_w d i (pc + 1) ls (.inr (.inl x) :: st) h Q := by
  rw [pm_w_step hd rfl rfl rfl]
  simp only [pm_s, pm_oi_iff, pm_ol_iff, pm_oq_iff, pm_or_iff, pm_oli_iff, pm_oll_iff, pm_olq_iff, pm_if_iff, pm_br_iff, pm_some_iff, pm_none_iff]
theorem pw_lload {c : Nat} (hd : decode (pm_b i) pc = .ok (.lload c, 2)) : pm_w d i pc ls st h Q ↔ pm_ll ls c fun x => pm_w d i (pc + 2) ls (.inr (.inl x) :: st) h Q := by
  rw [pm_w_step hd rfl rfl rfl]
  simp only [pm_s, pm_oi_iff, pm_ol_iff, pm_oq_iff, pm_or_iff, pm_oli_iff, pm_oll_iff, pm_olq_iff, pm_if_iff, pm_br_iff, pm_some_iff, pm_none_iff]
theorem pw_lstore_n {c : Fin 4} (hd : decode (pm_b i) pc = .ok (.lstore_n c, 1)) (hl : (c : Nat) + 1 < pm_mL i) : pm_w d i pc ls st h Q ↔ pm_l st fun x s => pm_w d i (pc + 1) (pm_s2 ls (c : Nat) (.inr (.inl x))) s h Q := by
  rw [pm_w_step hd rfl rfl rfl]
  simp only [pm_s, pm_oi_iff, pm_ol_iff, pm_oq_iff, pm_or_iff, pm_oli_iff, pm_oll_iff, pm_olq_iff, pm_if_iff, pm_br_iff, pm_some_iff, pm_none_iff, hl, true_and]
theorem pw_lstore {c : Nat} (hd : decode (pm_b i) pc = .ok (.lstore c, 2)) (hl : (c : Nat) + 1 < pm_mL i) : pm_w d i pc ls st h Q ↔ pm_l st fun x s => pm_w d i (pc + 2) (pm_s2 ls (c : Nat) (.inr (.inl x))) s h Q := by
  rw [pm_w_step hd rfl rfl rfl]
  simp only [pm_s, pm_oi_iff, pm_ol_iff, pm_oq_iff, pm_or_iff, pm_oli_iff, pm_oll_iff, pm_olq_iff, pm_if_iff, pm_br_iff, pm_some_iff, pm_none_iff, hl, true_and]
theorem pw_aload_n {c : Fin 4} (hd : decode (pm_b i) pc = .ok (.aload_n c, 1)) : pm_w d i pc ls st h Q ↔ pm_lq ls (c : Nat) fun x => pm_w d i (pc + 1) ls (.inr (.inr x) :: st) h Q := by
  rw [pm_w_step hd rfl rfl rfl]
  simp only [pm_s, pm_oi_iff, pm_ol_iff, pm_oq_iff, pm_or_iff, pm_oli_iff, pm_oll_iff, pm_olq_iff, pm_if_iff, pm_br_iff, pm_some_iff, pm_none_iff]
theorem pw_aload {c : Nat} (hd : decode (pm_b i) pc = .ok (.aload c, 2)) : pm_w d i pc ls st h Q ↔ pm_lq ls c fun x => pm_w d i (pc + 2) ls (.inr (.inr x) :: st) h Q := by
  rw [pm_w_step hd rfl rfl rfl]
  simp only [pm_s, pm_oi_iff, pm_ol_iff, pm_oq_iff, pm_or_iff, pm_oli_iff, pm_oll_iff, pm_olq_iff, pm_if_iff, pm_br_iff, pm_some_iff, pm_none_iff]
theorem pw_astore_n {c : Fin 4} (hd : decode (pm_b i) pc = .ok (.astore_n c, 1)) (hl : (c : Nat) < pm_mL i) : pm_w d i pc ls st h Q ↔ pm_q st fun x s => pm_w d i (pc + 1) (pm_s1 ls (c : Nat) (.inr (.inr x))) s h Q := by
  rw [pm_w_step hd rfl rfl rfl]
  simp only [pm_s, pm_oi_iff, pm_ol_iff, pm_oq_iff, pm_or_iff, pm_oli_iff, pm_oll_iff, pm_olq_iff, pm_if_iff, pm_br_iff, pm_some_iff, pm_none_iff, hl, true_and]
theorem pw_astore {c : Nat} (hd : decode (pm_b i) pc = .ok (.astore c, 2)) (hl : (c : Nat) < pm_mL i) : pm_w d i pc ls st h Q ↔ pm_q st fun x s => pm_w d i (pc + 2) (pm_s1 ls (c : Nat) (.inr (.inr x))) s h Q := by
  rw [pm_w_step hd rfl rfl rfl]
  simp only [pm_s, pm_oi_iff, pm_ol_iff, pm_oq_iff, pm_or_iff, pm_oli_iff, pm_oll_iff, pm_olq_iff, pm_if_iff, pm_br_iff, pm_some_iff, pm_none_iff, hl, true_and]
theorem pw_iinc {c : Nat} {v : Int} (hd : decode (pm_b i) pc = .ok (.iinc c v, 3)) (hl : c < pm_mL i) : pm_w d i pc ls st h Q ↔ pm_li ls c fun x => pm_I32 (x + v) ∧ pm_w d i (pc + 3) (pm_s1 ls c (.inl (x + v))) st h Q := by
  rw [pm_w_step hd rfl rfl rfl]
  simp only [pm_s, pm_oi_iff, pm_ol_iff, pm_oq_iff, pm_or_iff, pm_oli_iff, pm_oll_iff, pm_olq_iff, pm_if_iff, pm_br_iff, pm_some_iff, pm_none_iff, hl, true_and]
theorem pw_iadd (hd : decode (pm_b i) pc = .ok (.iadd, 1)) : pm_w d i pc ls st h Q ↔ pm_i st fun y s => pm_i s fun x s => pm_I32 (x + y) ∧ pm_w d i (pc + 1) ls (.inl (x + y) :: s) h Q := by
  rw [pm_w_step hd rfl rfl rfl]
  simp only [pm_s, pm_oi_iff, pm_ol_iff, pm_oq_iff, pm_or_iff, pm_oli_iff, pm_oll_iff, pm_olq_iff, pm_if_iff, pm_br_iff, pm_some_iff, pm_none_iff]
theorem pw_isub (hd : decode (pm_b i) pc = .ok (.isub, 1)) : pm_w d i pc ls st h Q ↔ pm_i st fun y s => pm_i s fun x s => pm_I32 (x - y) ∧ pm_w d i (pc + 1) ls (.inl (x - y) :: s) h Q := by
  rw [pm_w_step hd rfl rfl rfl]
  simp only [pm_s, pm_oi_iff, pm_ol_iff, pm_oq_iff, pm_or_iff, pm_oli_iff, pm_oll_iff, pm_olq_iff, pm_if_iff, pm_br_iff, pm_some_iff, pm_none_iff]
theorem pw_imul (hd : decode (pm_b i) pc = .ok (.imul, 1)) : pm_w d i pc ls st h Q ↔ pm_i st fun y s => pm_i s fun x s => pm_I32 (x * y) ∧ pm_w d i (pc + 1) ls (.inl (x * y) :: s) h Q := by
  rw [pm_w_step hd rfl rfl rfl]
  simp only [pm_s, pm_oi_iff, pm_ol_iff, pm_oq_iff, pm_or_iff, pm_oli_iff, pm_oll_iff, pm_olq_iff, pm_if_iff, pm_br_iff, pm_some_iff, pm_none_iff]
theorem pw_ladd (hd : decode (pm_b i) pc = .ok (.ladd, 1)) : pm_w d i pc ls st h Q ↔ pm_l st fun y s => pm_l s fun x s => pm_I64 (x + y) ∧ pm_w d i (pc + 1) ls (.inr (.inl (x + y)) :: s) h Q := by
  rw [pm_w_step hd rfl rfl rfl]
  simp only [pm_s, pm_oi_iff, pm_ol_iff, pm_oq_iff, pm_or_iff, pm_oli_iff, pm_oll_iff, pm_olq_iff, pm_if_iff, pm_br_iff, pm_some_iff, pm_none_iff]
theorem pw_lsub (hd : decode (pm_b i) pc = .ok (.lsub, 1)) : pm_w d i pc ls st h Q ↔ pm_l st fun y s => pm_l s fun x s => pm_I64 (x - y) ∧ pm_w d i (pc + 1) ls (.inr (.inl (x - y)) :: s) h Q := by
  rw [pm_w_step hd rfl rfl rfl]
  simp only [pm_s, pm_oi_iff, pm_ol_iff, pm_oq_iff, pm_or_iff, pm_oli_iff, pm_oll_iff, pm_olq_iff, pm_if_iff, pm_br_iff, pm_some_iff, pm_none_iff]
theorem pw_lmul (hd : decode (pm_b i) pc = .ok (.lmul, 1)) : pm_w d i pc ls st h Q ↔ pm_l st fun y s => pm_l s fun x s => pm_I64 (x * y) ∧ pm_w d i (pc + 1) ls (.inr (.inl (x * y)) :: s) h Q := by
  rw [pm_w_step hd rfl rfl rfl]
  simp only [pm_s, pm_oi_iff, pm_ol_iff, pm_oq_iff, pm_or_iff, pm_oli_iff, pm_oll_iff, pm_olq_iff, pm_if_iff, pm_br_iff, pm_some_iff, pm_none_iff]
theorem pw_idiv (hd : decode (pm_b i) pc = .ok (.idiv, 1)) : pm_w d i pc ls st h Q ↔ pm_i st fun y s => pm_i s fun x s => (0 ≤ x ∧ 0 < y) ∧ pm_w d i (pc + 1) ls (.inl (x / y) :: s) h Q := by
  rw [pm_w_step hd rfl rfl rfl]
  simp only [pm_s, pm_oi_iff, pm_ol_iff, pm_oq_iff, pm_or_iff, pm_oli_iff, pm_oll_iff, pm_olq_iff, pm_if_iff, pm_br_iff, pm_some_iff, pm_none_iff]
theorem pw_irem (hd : decode (pm_b i) pc = .ok (.irem, 1)) : pm_w d i pc ls st h Q ↔ pm_i st fun y s => pm_i s fun x s => (0 ≤ x ∧ 0 < y) ∧ pm_w d i (pc + 1) ls (.inl (x % y) :: s) h Q := by
  rw [pm_w_step hd rfl rfl rfl]
  simp only [pm_s, pm_oi_iff, pm_ol_iff, pm_oq_iff, pm_or_iff, pm_oli_iff, pm_oll_iff, pm_olq_iff, pm_if_iff, pm_br_iff, pm_some_iff, pm_none_iff]
theorem pw_ldiv (hd : decode (pm_b i) pc = .ok (.ldiv, 1)) : pm_w d i pc ls st h Q ↔ pm_l st fun y s => pm_l s fun x s => (0 ≤ x ∧ 0 < y) ∧ pm_w d i (pc + 1) ls (.inr (.inl (x / y)) :: s) h Q := by
  rw [pm_w_step hd rfl rfl rfl]
  simp only [pm_s, pm_oi_iff, pm_ol_iff, pm_oq_iff, pm_or_iff, pm_oli_iff, pm_oll_iff, pm_olq_iff, pm_if_iff, pm_br_iff, pm_some_iff, pm_none_iff]
theorem pw_lrem (hd : decode (pm_b i) pc = .ok (.lrem, 1)) : pm_w d i pc ls st h Q ↔ pm_l st fun y s => pm_l s fun x s => (0 ≤ x ∧ 0 < y) ∧ pm_w d i (pc + 1) ls (.inr (.inl (x % y)) :: s) h Q := by
  rw [pm_w_step hd rfl rfl rfl]
  simp only [pm_s, pm_oi_iff, pm_ol_iff, pm_oq_iff, pm_or_iff, pm_oli_iff, pm_oll_iff, pm_olq_iff, pm_if_iff, pm_br_iff, pm_some_iff, pm_none_iff]
theorem pw_ineg (hd : decode (pm_b i) pc = .ok (.ineg, 1)) : pm_w d i pc ls st h Q ↔ pm_i st fun x s => pm_I32 (-x) ∧ pm_w d i (pc + 1) ls (.inl (-x) :: s) h Q := by
  rw [pm_w_step hd rfl rfl rfl]
  simp only [pm_s, pm_oi_iff, pm_ol_iff, pm_oq_iff, pm_or_iff, pm_oli_iff, pm_oll_iff, pm_olq_iff, pm_if_iff, pm_br_iff, pm_some_iff, pm_none_iff]
theorem pw_ishl (hd : decode (pm_b i) pc = .ok (.ishl, 1)) : pm_w d i pc ls st h Q ↔ pm_i st fun y s => pm_i s fun x s => (0 ≤ y ∧ y < 32 ∧ 0 ≤ x ∧ x * 2 ^ y.toNat ≤ 2147483647) ∧ pm_w d i (pc + 1) ls (.inl (x * 2 ^ y.toNat) :: s) h Q := by
  rw [pm_w_step hd rfl rfl rfl]
  simp only [pm_s, pm_oi_iff, pm_ol_iff, pm_oq_iff, pm_or_iff, pm_oli_iff, pm_oll_iff, pm_olq_iff, pm_if_iff, pm_br_iff, pm_some_iff, pm_none_iff]
theorem pw_iushr (hd : decode (pm_b i) pc = .ok (.iushr, 1)) : pm_w d i pc ls st h Q ↔ pm_i st fun y s => pm_i s fun x s => (0 ≤ y ∧ y < 32 ∧ 0 ≤ x) ∧ pm_w d i (pc + 1) ls (.inl (x / 2 ^ y.toNat) :: s) h Q := by
  rw [pm_w_step hd rfl rfl rfl]
  simp only [pm_s, pm_oi_iff, pm_ol_iff, pm_oq_iff, pm_or_iff, pm_oli_iff, pm_oll_iff, pm_olq_iff, pm_if_iff, pm_br_iff, pm_some_iff, pm_none_iff]
theorem pw_lshl (hd : decode (pm_b i) pc = .ok (.lshl, 1)) : pm_w d i pc ls st h Q ↔ pm_i st fun y s => pm_l s fun x s => (0 ≤ y ∧ y < 64 ∧ 0 ≤ x ∧ x * 2 ^ y.toNat ≤ 9223372036854775807) ∧ pm_w d i (pc + 1) ls (.inr (.inl (x * 2 ^ y.toNat)) :: s) h Q := by
  rw [pm_w_step hd rfl rfl rfl]
  simp only [pm_s, pm_oi_iff, pm_ol_iff, pm_oq_iff, pm_or_iff, pm_oli_iff, pm_oll_iff, pm_olq_iff, pm_if_iff, pm_br_iff, pm_some_iff, pm_none_iff]
theorem pw_lushr (hd : decode (pm_b i) pc = .ok (.lushr, 1)) : pm_w d i pc ls st h Q ↔ pm_i st fun y s => pm_l s fun x s => (0 ≤ y ∧ y < 64 ∧ 0 ≤ x) ∧ pm_w d i (pc + 1) ls (.inr (.inl (x / 2 ^ y.toNat)) :: s) h Q := by
  rw [pm_w_step hd rfl rfl rfl]
  simp only [pm_s, pm_oi_iff, pm_ol_iff, pm_oq_iff, pm_or_iff, pm_oli_iff, pm_oll_iff, pm_olq_iff, pm_if_iff, pm_br_iff, pm_some_iff, pm_none_iff]
theorem pw_iand (hd : decode (pm_b i) pc = .ok (.iand, 1)) : pm_w d i pc ls st h Q ↔ pm_i st fun y s => pm_i s fun x s => (0 ≤ y ∧ 0 ≤ x) ∧ pm_w d i (pc + 1) ls (.inl ((x.toNat &&& y.toNat : Nat) : Int) :: s) h Q := by
  rw [pm_w_step hd rfl rfl rfl]
  simp only [pm_s, pm_oi_iff, pm_ol_iff, pm_oq_iff, pm_or_iff, pm_oli_iff, pm_oll_iff, pm_olq_iff, pm_if_iff, pm_br_iff, pm_some_iff, pm_none_iff]
theorem pw_ior (hd : decode (pm_b i) pc = .ok (.ior, 1)) : pm_w d i pc ls st h Q ↔ pm_i st fun y s => pm_i s fun x s => (0 ≤ y ∧ 0 ≤ x) ∧ pm_w d i (pc + 1) ls (.inl ((x.toNat ||| y.toNat : Nat) : Int) :: s) h Q := by
  rw [pm_w_step hd rfl rfl rfl]
  simp only [pm_s, pm_oi_iff, pm_ol_iff, pm_oq_iff, pm_or_iff, pm_oli_iff, pm_oll_iff, pm_olq_iff, pm_if_iff, pm_br_iff, pm_some_iff, pm_none_iff]
theorem pw_land (hd : decode (pm_b i) pc = .ok (.land, 1)) : pm_w d i pc ls st h Q ↔ pm_l st fun y s => pm_l s fun x s => (0 ≤ y ∧ 0 ≤ x) ∧ pm_w d i (pc + 1) ls (.inr (.inl ((x.toNat &&& y.toNat : Nat) : Int)) :: s) h Q := by
  rw [pm_w_step hd rfl rfl rfl]
  simp only [pm_s, pm_oi_iff, pm_ol_iff, pm_oq_iff, pm_or_iff, pm_oli_iff, pm_oll_iff, pm_olq_iff, pm_if_iff, pm_br_iff, pm_some_iff, pm_none_iff]
theorem pw_lor (hd : decode (pm_b i) pc = .ok (.lor, 1)) : pm_w d i pc ls st h Q ↔ pm_l st fun y s => pm_l s fun x s => (0 ≤ y ∧ 0 ≤ x) ∧ pm_w d i (pc + 1) ls (.inr (.inl ((x.toNat ||| y.toNat : Nat) : Int)) :: s) h Q := by
  rw [pm_w_step hd rfl rfl rfl]
  simp only [pm_s, pm_oi_iff, pm_ol_iff, pm_oq_iff, pm_or_iff, pm_oli_iff, pm_oll_iff, pm_olq_iff, pm_if_iff, pm_br_iff, pm_some_iff, pm_none_iff]
theorem pw_i2l (hd : decode (pm_b i) pc = .ok (.i2l, 1)) : pm_w d i pc ls st h Q ↔ pm_i st fun x s => pm_w d i (pc + 1) ls (.inr (.inl x) :: s) h Q := by
  rw [pm_w_step hd rfl rfl rfl]
  simp only [pm_s, pm_oi_iff, pm_ol_iff, pm_oq_iff, pm_or_iff, pm_oli_iff, pm_oll_iff, pm_olq_iff, pm_if_iff, pm_br_iff, pm_some_iff, pm_none_iff]
theorem pw_l2i (hd : decode (pm_b i) pc = .ok (.l2i, 1)) : pm_w d i pc ls st h Q ↔ pm_l st fun x s => pm_I32 x ∧ pm_w d i (pc + 1) ls (.inl x :: s) h Q := by
  rw [pm_w_step hd rfl rfl rfl]
  simp only [pm_s, pm_oi_iff, pm_ol_iff, pm_oq_iff, pm_or_iff, pm_oli_iff, pm_oll_iff, pm_olq_iff, pm_if_iff, pm_br_iff, pm_some_iff, pm_none_iff]
theorem pw_lcmp (hd : decode (pm_b i) pc = .ok (.lcmp, 1)) : pm_w d i pc ls st h Q ↔ pm_l st fun y s => pm_l s fun x s => pm_w d i (pc + 1) ls (.inl (pm_lc x y) :: s) h Q := by
  rw [pm_w_step hd rfl rfl rfl]
  simp only [pm_s, pm_oi_iff, pm_ol_iff, pm_oq_iff, pm_or_iff, pm_oli_iff, pm_oll_iff, pm_olq_iff, pm_if_iff, pm_br_iff, pm_some_iff, pm_none_iff]
theorem pw_dup (hd : decode (pm_b i) pc = .ok (.dup, 1)) : pm_w d i pc ls st h Q ↔ pm_q st fun x s => pm_w d i (pc + 1) ls (.inr (.inr x) :: .inr (.inr x) :: s) h Q := by
  rw [pm_w_step hd rfl rfl rfl]
  simp only [pm_s, pm_oi_iff, pm_ol_iff, pm_oq_iff, pm_or_iff, pm_oli_iff, pm_oll_iff, pm_olq_iff, pm_if_iff, pm_br_iff, pm_some_iff, pm_none_iff]
theorem pw_dup2 (hd : decode (pm_b i) pc = .ok (.dup2, 1)) : pm_w d i pc ls st h Q ↔ pm_i st fun y s => pm_q s fun x s => pm_w d i (pc + 1) ls (.inl y :: .inr (.inr x) :: .inl y :: .inr (.inr x) :: s) h Q := by
  rw [pm_w_step hd rfl rfl rfl]
  simp only [pm_s, pm_oi_iff, pm_ol_iff, pm_oq_iff, pm_or_iff, pm_oli_iff, pm_oll_iff, pm_olq_iff, pm_if_iff, pm_br_iff, pm_some_iff, pm_none_iff]
theorem pw_if_eq {off : Int} {t : Nat} (hd : decode (pm_b i) pc = .ok (.ifCond .eq off, 3)) (ht : (pc : Int) + off = (t : Int)) : pm_w d i pc ls st h Q ↔ pm_i st fun x s => ((x = 0) → pm_w d i t ls s h Q) ∧ (¬ (x = 0) → pm_w d i (pc + 3) ls s h Q) := by
  rw [pm_w_step hd (by simp [pm_lk, ht]) rfl rfl]
  have ht2 : ((pc : Int) + off).toNat = t := by rw [ht]; exact Int.toNat_natCast t
  simp only [pm_s, pm_oi_iff, pm_ol_iff, pm_oq_iff, pm_or_iff, pm_oli_iff, pm_oll_iff, pm_olq_iff, pm_if_iff, pm_br_iff, pm_some_iff, pm_none_iff, ht2, pm_cmp]
theorem pw_if_ne {off : Int} {t : Nat} (hd : decode (pm_b i) pc = .ok (.ifCond .ne off, 3)) (ht : (pc : Int) + off = (t : Int)) : pm_w d i pc ls st h Q ↔ pm_i st fun x s => ((x ≠ 0) → pm_w d i t ls s h Q) ∧ (¬ (x ≠ 0) → pm_w d i (pc + 3) ls s h Q) := by
  rw [pm_w_step hd (by simp [pm_lk, ht]) rfl rfl]
  have ht2 : ((pc : Int) + off).toNat = t := by rw [ht]; exact Int.toNat_natCast t
  simp only [pm_s, pm_oi_iff, pm_ol_iff, pm_oq_iff, pm_or_iff, pm_oli_iff, pm_oll_iff, pm_olq_iff, pm_if_iff, pm_br_iff, pm_some_iff, pm_none_iff, ht2, pm_cmp]
theorem pw_if_lt {off : Int} {t : Nat} (hd : decode (pm_b i) pc = .ok (.ifCond .lt off, 3)) (ht : (pc : Int) + off = (t : Int)) : pm_w d i pc ls st h Q ↔ pm_i st fun x s => ((x < 0) → pm_w d i t ls s h Q) ∧ (¬ (x < 0) → pm_w d i (pc + 3) ls s h Q) := by
  rw [pm_w_step hd (by simp [pm_lk, ht]) rfl rfl]
  have ht2 : ((pc : Int) + off).toNat = t := by rw [ht]; exact Int.toNat_natCast t
  simp only [pm_s, pm_oi_iff, pm_ol_iff, pm_oq_iff, pm_or_iff, pm_oli_iff, pm_oll_iff, pm_olq_iff, pm_if_iff, pm_br_iff, pm_some_iff, pm_none_iff, ht2, pm_cmp]
theorem pw_if_ge {off : Int} {t : Nat} (hd : decode (pm_b i) pc = .ok (.ifCond .ge off, 3)) (ht : (pc : Int) + off = (t : Int)) : pm_w d i pc ls st h Q ↔ pm_i st fun x s => ((0 ≤ x) → pm_w d i t ls s h Q) ∧ (¬ (0 ≤ x) → pm_w d i (pc + 3) ls s h Q) := by
  rw [pm_w_step hd (by simp [pm_lk, ht]) rfl rfl]
  have ht2 : ((pc : Int) + off).toNat = t := by rw [ht]; exact Int.toNat_natCast t
  simp only [pm_s, pm_oi_iff, pm_ol_iff, pm_oq_iff, pm_or_iff, pm_oli_iff, pm_oll_iff, pm_olq_iff, pm_if_iff, pm_br_iff, pm_some_iff, pm_none_iff, ht2, pm_cmp]
theorem pw_if_gt {off : Int} {t : Nat} (hd : decode (pm_b i) pc = .ok (.ifCond .gt off, 3)) (ht : (pc : Int) + off = (t : Int)) : pm_w d i pc ls st h Q ↔ pm_i st fun x s => ((0 < x) → pm_w d i t ls s h Q) ∧ (¬ (0 < x) → pm_w d i (pc + 3) ls s h Q) := by
  rw [pm_w_step hd (by simp [pm_lk, ht]) rfl rfl]
  have ht2 : ((pc : Int) + off).toNat = t := by rw [ht]; exact Int.toNat_natCast t
  simp only [pm_s, pm_oi_iff, pm_ol_iff, pm_oq_iff, pm_or_iff, pm_oli_iff, pm_oll_iff, pm_olq_iff, pm_if_iff, pm_br_iff, pm_some_iff, pm_none_iff, ht2, pm_cmp]
theorem pw_if_le {off : Int} {t : Nat} (hd : decode (pm_b i) pc = .ok (.ifCond .le off, 3)) (ht : (pc : Int) + off = (t : Int)) : pm_w d i pc ls st h Q ↔ pm_i st fun x s => ((x ≤ 0) → pm_w d i t ls s h Q) ∧ (¬ (x ≤ 0) → pm_w d i (pc + 3) ls s h Q) := by
  rw [pm_w_step hd (by simp [pm_lk, ht]) rfl rfl]
  have ht2 : ((pc : Int) + off).toNat = t := by rw [ht]; exact Int.toNat_natCast t
  simp only [pm_s, pm_oi_iff, pm_ol_iff, pm_oq_iff, pm_or_iff, pm_oli_iff, pm_oll_iff, pm_olq_iff, pm_if_iff, pm_br_iff, pm_some_iff, pm_none_iff, ht2, pm_cmp]
theorem pw_ic_eq {off : Int} {t : Nat} (hd : decode (pm_b i) pc = .ok (.if_icmp .eq off, 3)) (ht : (pc : Int) + off = (t : Int)) : pm_w d i pc ls st h Q ↔ pm_i st fun y s => pm_i s fun x s => ((x = y) → pm_w d i t ls s h Q) ∧ (¬ (x = y) → pm_w d i (pc + 3) ls s h Q) := by
  rw [pm_w_step hd (by simp [pm_lk, ht]) rfl rfl]
  have ht2 : ((pc : Int) + off).toNat = t := by rw [ht]; exact Int.toNat_natCast t
  simp only [pm_s, pm_oi_iff, pm_ol_iff, pm_oq_iff, pm_or_iff, pm_oli_iff, pm_oll_iff, pm_olq_iff, pm_if_iff, pm_br_iff, pm_some_iff, pm_none_iff, ht2, pm_cmp]
theorem pw_ic_ne {off : Int} {t : Nat} (hd : decode (pm_b i) pc = .ok (.if_icmp .ne off, 3)) (ht : (pc : Int) + off = (t : Int)) : pm_w d i pc ls st h Q ↔ pm_i st fun y s => pm_i s fun x s => ((x ≠ y) → pm_w d i t ls s h Q) ∧ (¬ (x ≠ y) → pm_w d i (pc + 3) ls s h Q) := by
  rw [pm_w_step hd (by simp [pm_lk, ht]) rfl rfl]
  have ht2 : ((pc : Int) + off).toNat = t := by rw [ht]; exact Int.toNat_natCast t
  simp only [pm_s, pm_oi_iff, pm_ol_iff, pm_oq_iff, pm_or_iff, pm_oli_iff, pm_oll_iff, pm_olq_iff, pm_if_iff, pm_br_iff, pm_some_iff, pm_none_iff, ht2, pm_cmp]
theorem pw_ic_lt {off : Int} {t : Nat} (hd : decode (pm_b i) pc = .ok (.if_icmp .lt off, 3)) (ht : (pc : Int) + off = (t : Int)) : pm_w d i pc ls st h Q ↔ pm_i st fun y s => pm_i s fun x s => ((x < y) → pm_w d i t ls s h Q) ∧ (¬ (x < y) → pm_w d i (pc + 3) ls s h Q) := by
  rw [pm_w_step hd (by simp [pm_lk, ht]) rfl rfl]
  have ht2 : ((pc : Int) + off).toNat = t := by rw [ht]; exact Int.toNat_natCast t
  simp only [pm_s, pm_oi_iff, pm_ol_iff, pm_oq_iff, pm_or_iff, pm_oli_iff, pm_oll_iff, pm_olq_iff, pm_if_iff, pm_br_iff, pm_some_iff, pm_none_iff, ht2, pm_cmp]
theorem pw_ic_ge {off : Int} {t : Nat} (hd : decode (pm_b i) pc = .ok (.if_icmp .ge off, 3)) (ht : (pc : Int) + off = (t : Int)) : pm_w d i pc ls st h Q ↔ pm_i st fun y s => pm_i s fun x s => ((y ≤ x) → pm_w d i t ls s h Q) ∧ (¬ (y ≤ x) → pm_w d i (pc + 3) ls s h Q) := by
  rw [pm_w_step hd (by simp [pm_lk, ht]) rfl rfl]
  have ht2 : ((pc : Int) + off).toNat = t := by rw [ht]; exact Int.toNat_natCast t
  simp only [pm_s, pm_oi_iff, pm_ol_iff, pm_oq_iff, pm_or_iff, pm_oli_iff, pm_oll_iff, pm_olq_iff, pm_if_iff, pm_br_iff, pm_some_iff, pm_none_iff, ht2, pm_cmp]
theorem pw_ic_gt {off : Int} {t : Nat} (hd : decode (pm_b i) pc = .ok (.if_icmp .gt off, 3)) (ht : (pc : Int) + off = (t : Int)) : pm_w d i pc ls st h Q ↔ pm_i st fun y s => pm_i s fun x s => ((y < x) → pm_w d i t ls s h Q) ∧ (¬ (y < x) → pm_w d i (pc + 3) ls s h Q) := by
  rw [pm_w_step hd (by simp [pm_lk, ht]) rfl rfl]
  have ht2 : ((pc : Int) + off).toNat = t := by rw [ht]; exact Int.toNat_natCast t
  simp only [pm_s, pm_oi_iff, pm_ol_iff, pm_oq_iff, pm_or_iff, pm_oli_iff, pm_oll_iff, pm_olq_iff, pm_if_iff, pm_br_iff, pm_some_iff, pm_none_iff, ht2, pm_cmp]
theorem pw_ic_le {off : Int} {t : Nat} (hd : decode (pm_b i) pc = .ok (.if_icmp .le off, 3)) (ht : (pc : Int) + off = (t : Int)) : pm_w d i pc ls st h Q ↔ pm_i st fun y s => pm_i s fun x s => ((x ≤ y) → pm_w d i t ls s h Q) ∧ (¬ (x ≤ y) → pm_w d i (pc + 3) ls s h Q) := by
  rw [pm_w_step hd (by simp [pm_lk, ht]) rfl rfl]
  have ht2 : ((pc : Int) + off).toNat = t := by rw [ht]; exact Int.toNat_natCast t
  simp only [pm_s, pm_oi_iff, pm_ol_iff, pm_oq_iff, pm_or_iff, pm_oli_iff, pm_oll_iff, pm_olq_iff, pm_if_iff, pm_br_iff, pm_some_iff, pm_none_iff, ht2, pm_cmp]
theorem pw_ifnull {off : Int} {t : Nat} (hd : decode (pm_b i) pc = .ok (.ifnull off, 3)) (ht : (pc : Int) + off = (t : Int)) : pm_w d i pc ls st h Q ↔ pm_q st fun x s => (x = none → pm_w d i t ls s h Q) ∧ (¬ (x = none) → pm_w d i (pc + 3) ls s h Q) := by
  rw [pm_w_step hd (by simp [pm_lk, ht]) rfl rfl]
  have ht2 : ((pc : Int) + off).toNat = t := by rw [ht]; exact Int.toNat_natCast t
  simp only [pm_s, pm_oi_iff, pm_ol_iff, pm_oq_iff, pm_or_iff, pm_oli_iff, pm_oll_iff, pm_olq_iff, pm_if_iff, pm_br_iff, pm_some_iff, pm_none_iff, ht2]
theorem pw_ifnonnull {off : Int} {t : Nat} (hd : decode (pm_b i) pc = .ok (.ifnonnull off, 3)) (ht : (pc : Int) + off = (t : Int)) : pm_w d i pc ls st h Q ↔ pm_q st fun x s => (x ≠ none → pm_w d i t ls s h Q) ∧ (¬ (x ≠ none) → pm_w d i (pc + 3) ls s h Q) := by
  rw [pm_w_step hd (by simp [pm_lk, ht]) rfl rfl]
  have ht2 : ((pc : Int) + off).toNat = t := by rw [ht]; exact Int.toNat_natCast t
  simp only [pm_s, pm_oi_iff, pm_ol_iff, pm_oq_iff, pm_or_iff, pm_oli_iff, pm_oll_iff, pm_olq_iff, pm_if_iff, pm_br_iff, pm_some_iff, pm_none_iff, ht2]
theorem pw_goto {off : Int} {t : Nat} (hd : decode (pm_b i) pc = .ok (.goto off, 3)) (ht : (pc : Int) + off = (t : Int)) : pm_w d i pc ls st h Q ↔ pm_w d i t ls st h Q := by
  rw [pm_w_step hd (by simp [pm_lk, ht]) rfl rfl]
  have ht2 : ((pc : Int) + off).toNat = t := by rw [ht]; exact Int.toNat_natCast t
  simp only [pm_s, pm_oi_iff, pm_ol_iff, pm_oq_iff, pm_or_iff, pm_oli_iff, pm_oll_iff, pm_olq_iff, pm_if_iff, pm_br_iff, pm_some_iff, pm_none_iff, ht2]
theorem pw_tableswitch {df lo hi : Int} {offs : Array Int} (hd : decode (pm_b i) pc = .ok (.tableswitch df lo hi offs, k)) (hk : pm_lk (.tableswitch df lo hi offs) k pc = true) : pm_w d i pc ls st h Q ↔ pm_i st fun x s => pm_w d i (((pc : Int) + (if x < lo ∨ hi < x then df else offs.toList.getD (x - lo).toNat 0)).toNat) ls s h Q := by
  rw [pm_w_step hd hk rfl rfl]
  simp only [pm_s, pm_oi_iff, pm_ol_iff, pm_oq_iff, pm_or_iff, pm_oli_iff, pm_oll_iff, pm_olq_iff, pm_if_iff, pm_br_iff, pm_some_iff, pm_none_iff]
theorem pw_get {c f kd : Nat} {al : List Nat} {e : Bool × Bool × Nat × Nat × String × Nat} (hd : decode (pm_b i) pc = .ok (.getfield c, 3)) (hf : pm_FT.lookup (pm_ow i, c) = some (f, kd, al, e)) : pm_w d i pc ls st h Q ↔ pm_r st fun a s => pm_tgs h a al ∧ pm_w d i (pc + 3) ls (pm_fg h kd a f :: s) h Q := by
  rw [pm_w_step hd rfl rfl rfl]
  simp only [pm_s, pm_oi_iff, pm_ol_iff, pm_oq_iff, pm_or_iff, pm_oli_iff, pm_oll_iff, pm_olq_iff, pm_if_iff, pm_br_iff, pm_some_iff, pm_none_iff, hf]
theorem pw_put0 {c f pf wi sm : Nat} {al : List Nat} {fin nest : Bool} {rf : String} (hd : decode (pm_b i) pc = .ok (.putfield c, 3)) (hf : pm_FT.lookup (pm_ow i, c) = some (f, 0, al, fin, nest, pf, wi, rf, sm)) (hp : pf = 0 ∨ (pf = 1 ∧ pm_ini i = true)) : pm_w d i pc ls st h Q ↔ pm_i st fun x s => pm_r s fun a s => (pm_tgs h a al) ∧ pm_w d i (pc + 3) ls s (pm_wI h a f x) Q := by
  rw [pm_w_step hd rfl rfl rfl]
  simp only [pm_s, pm_oi_iff, pm_ol_iff, pm_oq_iff, pm_or_iff, pm_oli_iff, pm_oll_iff, pm_olq_iff, pm_if_iff, pm_br_iff, pm_some_iff, pm_none_iff, hf, eq_true hp, true_and]
theorem pw_put1 {c f pf wi sm : Nat} {al : List Nat} {fin nest : Bool} {rf : String} (hd : decode (pm_b i) pc = .ok (.putfield c, 3)) (hf : pm_FT.lookup (pm_ow i, c) = some (f, 1, al, fin, nest, pf, wi, rf, sm)) (hp : pf = 0 ∨ (pf = 1 ∧ pm_ini i = true)) : pm_w d i pc ls st h Q ↔ pm_i st fun x s => pm_r s fun a s => ((x = 0 ∨ x = 1) ∧ pm_tgs h a al) ∧ pm_w d i (pc + 3) ls s (pm_wI h a f x) Q := by
  rw [pm_w_step hd rfl rfl rfl]
  simp only [pm_s, pm_oi_iff, pm_ol_iff, pm_oq_iff, pm_or_iff, pm_oli_iff, pm_oll_iff, pm_olq_iff, pm_if_iff, pm_br_iff, pm_some_iff, pm_none_iff, hf, eq_true hp, true_and]
theorem pw_put2 {c f pf wi sm : Nat} {al : List Nat} {fin nest : Bool} {rf : String} (hd : decode (pm_b i) pc = .ok (.putfield c, 3)) (hf : pm_FT.lookup (pm_ow i, c) = some (f, 2, al, fin, nest, pf, wi, rf, sm)) (hp : pf = 0 ∨ (pf = 1 ∧ pm_ini i = true)) : pm_w d i pc ls st h Q ↔ pm_l st fun x s => pm_r s fun a s => (pm_tgs h a al) ∧ pm_w d i (pc + 3) ls s (pm_wI h a f x) Q := by
  rw [pm_w_step hd rfl rfl rfl]
  simp only [pm_s, pm_oi_iff, pm_ol_iff, pm_oq_iff, pm_or_iff, pm_oli_iff, pm_oll_iff, pm_olq_iff, pm_if_iff, pm_br_iff, pm_some_iff, pm_none_iff, hf, eq_true hp, true_and]
theorem pw_put3 {c f pf wi sm : Nat} {al : List Nat} {fin nest : Bool} {rf : String} (hd : decode (pm_b i) pc = .ok (.putfield c, 3)) (hf : pm_FT.lookup (pm_ow i, c) = some (f, 3, al, fin, nest, pf, wi, rf, sm)) (hp : pf = 0 ∨ (pf = 1 ∧ pm_ini i = true)) : pm_w d i pc ls st h Q ↔ pm_q st fun x s => pm_r s fun a s => (pm_tgs h a al) ∧ pm_w d i (pc + 3) ls s (pm_wR h a f x) Q := by
  rw [pm_w_step hd rfl rfl rfl]
  simp only [pm_s, pm_oi_iff, pm_ol_iff, pm_oq_iff, pm_or_iff, pm_oli_iff, pm_oll_iff, pm_olq_iff, pm_if_iff, pm_br_iff, pm_some_iff, pm_none_iff, hf, eq_true hp, true_and]
theorem pw_iaload (hd : decode (pm_b i) pc = .ok (.iaload, 1)) : pm_w d i pc ls st h Q ↔ pm_i st fun x s => pm_r s fun a s => pm_inb h a 20 x ∧ pm_w d i (pc + 1) ls (.inl (h.1 a x.toNat) :: s) h Q := by
  rw [pm_w_step hd rfl rfl rfl]
  simp only [pm_s, pm_oi_iff, pm_ol_iff, pm_oq_iff, pm_or_iff, pm_oli_iff, pm_oll_iff, pm_olq_iff, pm_if_iff, pm_br_iff, pm_some_iff, pm_none_iff]
theorem pw_baload (hd : decode (pm_b i) pc = .ok (.baload, 1)) : pm_w d i pc ls st h Q ↔ pm_i st fun x s => pm_r s fun a s => pm_inb h a 22 x ∧ pm_w d i (pc + 1) ls (.inl (h.1 a x.toNat) :: s) h Q := by
  rw [pm_w_step hd rfl rfl rfl]
  simp only [pm_s, pm_oi_iff, pm_ol_iff, pm_oq_iff, pm_or_iff, pm_oli_iff, pm_oll_iff, pm_olq_iff, pm_if_iff, pm_br_iff, pm_some_iff, pm_none_iff]
theorem pw_laload (hd : decode (pm_b i) pc = .ok (.laload, 1)) : pm_w d i pc ls st h Q ↔ pm_i st fun x s => pm_r s fun a s => pm_inb h a 21 x ∧ pm_w d i (pc + 1) ls (.inr (.inl (h.1 a x.toNat)) :: s) h Q := by
  rw [pm_w_step hd rfl rfl rfl]
  simp only [pm_s, pm_oi_iff, pm_ol_iff, pm_oq_iff, pm_or_iff, pm_oli_iff, pm_oll_iff, pm_olq_iff, pm_if_iff, pm_br_iff, pm_some_iff, pm_none_iff]
theorem pw_aaload (hd : decode (pm_b i) pc = .ok (.aaload, 1)) : pm_w d i pc ls st h Q ↔ pm_i st fun x s => pm_r s fun a s => (pm_inb h a 23 x ∨ pm_inb h a 24 x ∨ pm_inb h a 25 x) ∧ pm_w d i (pc + 1) ls (.inr (.inr (h.2.1 a x.toNat)) :: s) h Q := by
  rw [pm_w_step hd rfl rfl rfl]
  simp only [pm_s, pm_oi_iff, pm_ol_iff, pm_oq_iff, pm_or_iff, pm_oli_iff, pm_oll_iff, pm_olq_iff, pm_if_iff, pm_br_iff, pm_some_iff, pm_none_iff]
theorem pw_iastore (hd : decode (pm_b i) pc = .ok (.iastore, 1)) : pm_w d i pc ls st h Q ↔ pm_i st fun v s => pm_i s fun x s => pm_r s fun a s => pm_inb h a 20 x ∧ pm_w d i (pc + 1) ls s (pm_wI h a x.toNat v) Q := by
  rw [pm_w_step hd rfl rfl rfl]
  simp only [pm_s, pm_oi_iff, pm_ol_iff, pm_oq_iff, pm_or_iff, pm_oli_iff, pm_oll_iff, pm_olq_iff, pm_if_iff, pm_br_iff, pm_some_iff, pm_none_iff]
theorem pw_bastore (hd : decode (pm_b i) pc = .ok (.bastore, 1)) : pm_w d i pc ls st h Q ↔ pm_i st fun v s => pm_i s fun x s => pm_r s fun a s => ((v = 0 ∨ v = 1) ∧ pm_inb h a 22 x) ∧ pm_w d i (pc + 1) ls s (pm_wI h a x.toNat v) Q := by
  rw [pm_w_step hd rfl rfl rfl]
  simp only [pm_s, pm_oi_iff, pm_ol_iff, pm_oq_iff, pm_or_iff, pm_oli_iff, pm_oll_iff, pm_olq_iff, pm_if_iff, pm_br_iff, pm_some_iff, pm_none_iff]
theorem pw_lastore (hd : decode (pm_b i) pc = .ok (.lastore, 1)) : pm_w d i pc ls st h Q ↔ pm_l st fun v s => pm_i s fun x s => pm_r s fun a s => pm_inb h a 21 x ∧ pm_w d i (pc + 1) ls s (pm_wI h a x.toNat v) Q := by
  rw [pm_w_step hd rfl rfl rfl]
  simp only [pm_s, pm_oi_iff, pm_ol_iff, pm_oq_iff, pm_or_iff, pm_oli_iff, pm_oll_iff, pm_olq_iff, pm_if_iff, pm_br_iff, pm_some_iff, pm_none_iff]
theorem pw_aastore (hd : decode (pm_b i) pc = .ok (.aastore, 1)) : pm_w d i pc ls st h Q ↔ pm_q st fun v s => pm_i s fun x s => pm_r s fun a s => ((pm_inb h a 24 x ∧ ∀ q, v = some q → pm_tgs h q [0, 2, 6, 9, 10]) ∨ (pm_inb h a 25 x ∧ ∀ q, v = some q → pm_tgs h q [8])) ∧ pm_w d i (pc + 1) ls s (pm_wR h a x.toNat v) Q := by
  rw [pm_w_step hd rfl rfl rfl]
  simp only [pm_s, pm_oi_iff, pm_ol_iff, pm_oq_iff, pm_or_iff, pm_oli_iff, pm_oll_iff, pm_olq_iff, pm_if_iff, pm_br_iff, pm_some_iff, pm_none_iff]
theorem pw_arraylength (hd : decode (pm_b i) pc = .ok (.arraylength, 1)) : pm_w d i pc ls st h Q ↔ pm_r st fun a s => ∃ n, h.2.2[a]? = some (20, n) ∧ pm_w d i (pc + 1) ls (.inl (n : Int) :: s) h Q := by
  rw [pm_w_step hd rfl rfl rfl]
  simp only [pm_s, pm_or_iff]
  refine iff_of_eq (congrArg (pm_r st) (funext fun a => funext fun s => propext ?_))
  cases g : h.2.2[a]? with
  | none => exact ⟨fun ⟨_, e, _⟩ => (by cases e), fun ⟨_, e, _⟩ => (by cases e)⟩
  | some z =>
    obtain ⟨t, n⟩ := z
    refine pm_if_iff.trans ⟨fun ⟨e, p⟩ => ⟨n, by rw [e], p⟩, fun ⟨m, e, p⟩ => ?_⟩
    cases e
    exact ⟨rfl, p⟩
theorem pw_new {c wi t : Nat} {s : String} (hd : decode (pm_b i) pc = .ok (.new c, 3)) (hc : pm_CT.lookup (pm_ow i, c) = some (s, wi)) (ht : (List.range 13).find? (fun t => decide (pm_cn t = s)) = some t) : pm_w d i pc ls st h Q ↔ pm_w d i (pc + 3) ls (.inr (.inr (some h.2.2.length)) :: st) (pm_nw h t (pm_nf t)) Q := by
  rw [pm_w_step hd rfl rfl rfl]
  simp only [pm_s, hc, ht, pm_some_iff]
theorem pw_newarray_int (hd : decode (pm_b i) pc = .ok (.newarray .int, 2)) : pm_w d i pc ls st h Q ↔ pm_i st fun x s => (0 ≤ x ∧ x ≤ 4000) ∧ pm_w d i (pc + 2) ls (.inr (.inr (some h.2.2.length)) :: s) (pm_nw h 20 x.toNat) Q := by
  rw [pm_w_step hd rfl rfl rfl]
  simp only [pm_s, pm_oi_iff, pm_ol_iff, pm_oq_iff, pm_or_iff, pm_oli_iff, pm_oll_iff, pm_olq_iff, pm_if_iff, pm_br_iff, pm_some_iff, pm_none_iff]
theorem pw_newarray_long (hd : decode (pm_b i) pc = .ok (.newarray .long, 2)) : pm_w d i pc ls st h Q ↔ pm_i st fun x s => (0 ≤ x ∧ x ≤ 4000) ∧ pm_w d i (pc + 2) ls (.inr (.inr (some h.2.2.length)) :: s) (pm_nw h 21 x.toNat) Q := by
  rw [pm_w_step hd rfl rfl rfl]
  simp only [pm_s, pm_oi_iff, pm_ol_iff, pm_oq_iff, pm_or_iff, pm_oli_iff, pm_oll_iff, pm_olq_iff, pm_if_iff, pm_br_iff, pm_some_iff, pm_none_iff]
theorem pw_newarray_boolean (hd : decode (pm_b i) pc = .ok (.newarray .boolean, 2)) : pm_w d i pc ls st h Q ↔ pm_i st fun x s => (0 ≤ x ∧ x ≤ 4000) ∧ pm_w d i (pc + 2) ls (.inr (.inr (some h.2.2.length)) :: s) (pm_nw h 22 x.toNat) Q := by
  rw [pm_w_step hd rfl rfl rfl]
  simp only [pm_s, pm_oi_iff, pm_ol_iff, pm_oq_iff, pm_or_iff, pm_oli_iff, pm_oll_iff, pm_olq_iff, pm_if_iff, pm_br_iff, pm_some_iff, pm_none_iff]
theorem pw_anewP {c wi : Nat} (hd : decode (pm_b i) pc = .ok (.anewarray c, 3)) (hc : pm_CT.lookup (pm_ow i, c) = some ("LoomShed$Piece", wi)) : pm_w d i pc ls st h Q ↔ pm_i st fun x s => (0 ≤ x ∧ x ≤ 4000) ∧ pm_w d i (pc + 3) ls (.inr (.inr (some h.2.2.length)) :: s) (pm_nw h 24 x.toNat) Q := by
  rw [pm_w_step hd rfl rfl rfl]
  have e : pm_s i (.anewarray c) 3 pc ls st h = pm_oi st fun x s => pm_if (0 ≤ x ∧ x ≤ 4000) (pc + 3, ls, .inr (.inr (some h.2.2.length)) :: s, pm_nw h 24 x.toNat) := by simp [pm_s, hc]
  rw [e]
  simp only [pm_oi_iff, pm_ol_iff, pm_oq_iff, pm_or_iff, pm_oli_iff, pm_oll_iff, pm_olq_iff, pm_if_iff, pm_br_iff, pm_some_iff, pm_none_iff]
theorem pw_anewS {c wi : Nat} (hd : decode (pm_b i) pc = .ok (.anewarray c, 3)) (hc : pm_CT.lookup (pm_ow i, c) = some ("LoomShed$Shed", wi)) : pm_w d i pc ls st h Q ↔ pm_i st fun x s => (0 ≤ x ∧ x ≤ 4000) ∧ pm_w d i (pc + 3) ls (.inr (.inr (some h.2.2.length)) :: s) (pm_nw h 25 x.toNat) Q := by
  rw [pm_w_step hd rfl rfl rfl]
  have e : pm_s i (.anewarray c) 3 pc ls st h = pm_oi st fun x s => pm_if (0 ≤ x ∧ x ≤ 4000) (pc + 3, ls, .inr (.inr (some h.2.2.length)) :: s, pm_nw h 25 x.toNat) := by simp [pm_s, hc]
  rw [e]
  simp only [pm_oi_iff, pm_ol_iff, pm_oq_iff, pm_or_iff, pm_oli_iff, pm_oll_iff, pm_olq_iff, pm_if_iff, pm_br_iff, pm_some_iff, pm_none_iff]
theorem pw_mnew {c wi : Nat} (hd : decode (pm_b i) pc = .ok (.multianewarray c 2, 4)) (hc : pm_CT.lookup (pm_ow i, c) = some ("[[I", wi)) : pm_w d i pc ls st h Q ↔ pm_i st fun y s => pm_i s fun x s => (0 ≤ x ∧ x ≤ 4000 ∧ 0 ≤ y ∧ y ≤ 4000) ∧ pm_w d i (pc + 4) ls (.inr (.inr (some h.2.2.length)) :: s) (pm_mn h x.toNat y.toNat) Q := by
  rw [pm_w_step hd rfl rfl rfl]
  have e : pm_s i (.multianewarray c 2) 4 pc ls st h = pm_oi st fun y s => pm_oi s fun x s => pm_if (0 ≤ x ∧ x ≤ 4000 ∧ 0 ≤ y ∧ y ≤ 4000) (pc + 4, ls, .inr (.inr (some h.2.2.length)) :: s, pm_mn h x.toNat y.toNat) := by simp [pm_s, hc]
  rw [e]
  simp only [pm_oi_iff, pm_ol_iff, pm_oq_iff, pm_or_iff, pm_oli_iff, pm_oll_iff, pm_olq_iff, pm_if_iff, pm_br_iff, pm_some_iff, pm_none_iff]
theorem pw_max {c : Nat} {e : Nat × List (Nat × Nat) × Bool × List Nat} (hd : decode (pm_b i) pc = .ok (.invokestatic c, 3)) (hm : pm_MLT.lookup (pm_ow i, c) = some (10, e)) : pm_w d i pc ls st h Q ↔ pm_i st fun y s => pm_i s fun x s => pm_wt s ≤ 8 ∧ pm_w d i (pc + 3) ls (.inl (max x y) :: s) h Q := by
  obtain ⟨na, cs, b, ws⟩ := e
  rw [pm_w_step hd rfl (by simp only [pm_c, hm]) rfl]
  simp only [pm_s, hm, pm_oi_iff, pm_if_iff]
theorem pw_min {c : Nat} {e : Nat × List (Nat × Nat) × Bool × List Nat} (hd : decode (pm_b i) pc = .ok (.invokestatic c, 3)) (hm : pm_MLT.lookup (pm_ow i, c) = some (11, e)) : pm_w d i pc ls st h Q ↔ pm_i st fun y s => pm_i s fun x s => pm_wt s ≤ 8 ∧ pm_w d i (pc + 3) ls (.inl (min x y) :: s) h Q := by
  obtain ⟨na, cs, b, ws⟩ := e
  rw [pm_w_step hd rfl (by simp only [pm_c, hm]) rfl]
  simp only [pm_s, hm, pm_oi_iff, pm_if_iff]
theorem pw_objInit {c : Nat} {e : Nat × List (Nat × Nat) × Bool × List Nat} (hd : decode (pm_b i) pc = .ok (.invokespecial c, 3)) (hm : pm_MLT.lookup (pm_ow i, c) = some (9, e)) : pm_w d i pc ls st h Q ↔ pm_r st fun _ s => pm_wt s ≤ 8 ∧ pm_w d i (pc + 3) ls s h Q := by
  obtain ⟨na, cs, b, ws⟩ := e
  rw [pm_w_step hd rfl (by simp only [pm_c, hm]) rfl]
  simp only [pm_s, hm, pm_or_iff, pm_if_iff]
theorem pw_instanceof {c wi : Nat} {z : String} (hd : decode (pm_b i) pc = .ok (.instanceof c, 3)) (hc : pm_CT.lookup (pm_ow i, c) = some (z, wi)) (hz : z = "LoomShed$Split" ∨ z = "LoomShed$Barred") : pm_w d i pc ls st h Q ↔ pm_q st fun x s => (x = none → pm_w d i (pc + 3) ls (.inl 0 :: s) h Q) ∧ (∀ a, x = some a → ∃ t n, h.2.2[a]? = some (t, n) ∧ t ∈ [0, 2, 6, 9, 10] ∧ pm_w d i (pc + 3) ls (.inl (if pm_cn t = z then 1 else 0) :: s) h Q) := by
  rw [pm_w_step hd rfl rfl rfl]
  simp only [pm_s, hc, pm_oq_iff]
  refine iff_of_eq (congrArg (pm_q st) (funext fun x => funext fun s => propext ?_))
  cases x with
  | none => exact pm_some_iff.trans ⟨fun p => ⟨fun _ => p, fun a e => by cases e⟩, fun p => p.1 rfl⟩
  | some a =>
    dsimp only
    cases g : h.2.2[a]? with
    | none => exact ⟨fun ⟨_, e, _⟩ => (by cases e), fun p => by obtain ⟨t, n, e, -⟩ := p.2 a rfl; rw [g] at e; cases e⟩
    | some y =>
      obtain ⟨t, n⟩ := y
      refine pm_if_iff.trans ⟨fun p => ⟨fun e => (by cases e), fun b e => ?_⟩, fun p => ?_⟩
      · cases e; exact ⟨t, n, g, p.1.2, p.2⟩
      · obtain ⟨t', n', e, m, q⟩ := p.2 a rfl
        rw [g] at e; cases e
        exact ⟨⟨hz, m⟩, q⟩
theorem pw_checkcast {c wi : Nat} {z : String} (hd : decode (pm_b i) pc = .ok (.checkcast c, 3)) (hc : pm_CT.lookup (pm_ow i, c) = some (z, wi)) : pm_w d i pc ls st h Q ↔ pm_r st fun a s => ∃ t n, h.2.2[a]? = some (t, n) ∧ (t < 13 ∧ pm_cn t = z) ∧ pm_w d i (pc + 3) ls (.inr (.inr (some a)) :: s) h Q := by
  rw [pm_w_step hd rfl rfl rfl]
  simp only [pm_s, hc, pm_or_iff]
  refine iff_of_eq (congrArg (pm_r st) (funext fun a => funext fun s => propext ?_))
  cases g : h.2.2[a]? with
  | none => exact ⟨fun ⟨_, e, _⟩ => (by cases e), fun ⟨_, _, e, _⟩ => (by cases e)⟩
  | some y =>
    obtain ⟨t, n⟩ := y
    refine pm_if_iff.trans ⟨fun p => ⟨t, n, rfl, p.1, p.2⟩, fun ⟨t', n', e, m, q⟩ => ?_⟩
    cases e
    exact ⟨m, q⟩
theorem pw_static {c na t j : Nat} {e : Bool × List Nat} (hd : decode (pm_b i) pc = .ok (.invokestatic c, 3)) (hm : pm_MLT.lookup (pm_ow i, c) = some (0, na, [(t, j)], e)) : pm_w d i pc ls st h Q ↔ (na ≤ st.length ∧ pm_wt (st.drop na) ≤ 8) ∧ pm_ok d j (st.take na).reverse h fun r h' => pm_w d i (pc + 3) ls (pm_pu r (st.drop na)) h' Q := by
  rw [pm_w_call hd rfl (by simp only [pm_s, hm]) rfl]
  simp only [pm_c, hm, pm_if_iff]
theorem pw_special {c na t j : Nat} {e : Bool × List Nat} (hd : decode (pm_b i) pc = .ok (.invokespecial c, 3)) (hm : pm_MLT.lookup (pm_ow i, c) = some (1, na, [(t, j)], e)) : pm_w d i pc ls st h Q ↔ pm_r (st.drop na) fun a s => (na ≤ st.length ∧ pm_wt s ≤ 8) ∧ pm_ok d j (.inr (.inr (some a)) :: (st.take na).reverse) h fun r h' => pm_w d i (pc + 3) ls (pm_pu r s) h' Q := by
  rw [pm_w_call hd rfl (by simp only [pm_s, hm]) rfl]
  simp only [pm_c, hm, pm_or_iff, pm_if_iff]
theorem pw_virt {c na t j : Nat} {e : Bool × List Nat} (hd : decode (pm_b i) pc = .ok (.invokevirtual c, 3)) (hm : pm_MLT.lookup (pm_ow i, c) = some (2, na, [(t, j)], e)) : pm_w d i pc ls st h Q ↔ pm_r (st.drop na) fun a s => (na ≤ st.length ∧ pm_wt s ≤ 8 ∧ pm_tg h a t) ∧ pm_ok d j (.inr (.inr (some a)) :: (st.take na).reverse) h fun r h' => pm_w d i (pc + 3) ls (pm_pu r s) h' Q := by
  rw [pm_w_call hd rfl rfl rfl]
  simp only [pm_c, hm, pm_or_iff, pm_if_iff]
theorem pw_virt3 {c na : Nat} {cs : List (Nat × Nat)} {e : Bool × List Nat} (hd : decode (pm_b i) pc = .ok (.invokevirtual c, 3)) (hm : pm_MLT.lookup (pm_ow i, c) = some (3, na, cs, e)) : pm_w d i pc ls st h Q ↔ pm_r (st.drop na) fun a s => ∃ t n j, h.2.2[a]? = some (t, n) ∧ cs.lookup t = some j ∧ (na ≤ st.length ∧ pm_wt s ≤ 8) ∧ pm_ok d j (.inr (.inr (some a)) :: (st.take na).reverse) h fun r h' => pm_w d i (pc + 3) ls (pm_pu r s) h' Q := by
  rw [pm_w_call hd rfl rfl rfl]
  simp only [pm_c, hm, pm_or_iff]
  refine iff_of_eq (congrArg (pm_r (st.drop na)) (funext fun a => funext fun s => propext ?_))
  cases g : h.2.2[a]? with
  | none => exact ⟨fun ⟨_, e, _⟩ => (by cases e), fun ⟨_, _, _, e, _⟩ => (by cases e)⟩
  | some y =>
    obtain ⟨t, n⟩ := y
    dsimp only
    cases g2 : cs.lookup t with
    | none => exact ⟨fun ⟨_, e, _⟩ => (by cases e), fun ⟨t', n', j, e, e2, _⟩ => by cases e; rw [g2] at e2; cases e2⟩
    | some j =>
      refine pm_if_iff.trans ⟨fun p => ⟨t, n, j, rfl, g2, p.1, p.2⟩, fun ⟨t', n', j', e, e2, m, q⟩ => ?_⟩
      cases e
      rw [g2] at e2; cases e2
      exact ⟨m, q⟩
theorem pw_ireturn (hd : decode (pm_b i) pc = .ok (.ireturn, 1)) (hr : pm_rt i = some .int) : pm_w d i pc ls st h Q ↔ pm_i st fun x s => s = [] ∧ Q (some (.inl x)) h := by
  rw [pm_w_ret hd rfl rfl rfl]
  simp only [pm_e, pm_oi_iff, pm_if_iff, hr, true_or, and_true]
theorem pw_zreturn (hd : decode (pm_b i) pc = .ok (.ireturn, 1)) (hr : pm_rt i = some .boolean) : pm_w d i pc ls st h Q ↔ pm_i st fun x s => (s = [] ∧ (x = 0 ∨ x = 1)) ∧ Q (some (.inl x)) h := by
  rw [pm_w_ret hd rfl rfl rfl]
  have e : (some FieldType.boolean = some FieldType.int) = False := by simp
  simp only [pm_e, pm_oi_iff, pm_if_iff, hr, e, false_or, true_and]
theorem pw_lreturn (hd : decode (pm_b i) pc = .ok (.lreturn, 1)) (hr : pm_rt i = some .long) : pm_w d i pc ls st h Q ↔ pm_l st fun x s => s = [] ∧ Q (some (.inr (.inl x))) h := by
  rw [pm_w_ret hd rfl rfl rfl]
  simp only [pm_e, pm_ol_iff, pm_if_iff, hr, and_true]
theorem pw_areturn {n : String} (hd : decode (pm_b i) pc = .ok (.areturn, 1)) (hr : pm_rt i = some (.object n)) : pm_w d i pc ls st h Q ↔ pm_q st fun x s => s = [] ∧ Q (some (.inr (.inr x))) h := by
  rw [pm_w_ret hd rfl rfl rfl]
  have e : ∃ n, pm_rt i = some (.object n) := ⟨n, hr⟩
  simp only [pm_e, pm_oq_iff, pm_if_iff, eq_true e, and_true]
theorem pw_return (hd : decode (pm_b i) pc = .ok (.return_, 1)) (hr : pm_rt i = none) : pm_w d i pc ls st h Q ↔ st = [] ∧ Q none h := by
  rw [pm_w_ret hd rfl rfl rfl]
  simp only [pm_e, pm_if_iff, hr, and_true]
end
