/-! the heap's steps -/
theorem pm_cl_get {t : Nat} (ht : t < 13) : pm_cl[t]? = some (pm_cn t, pm_T t, pm_nf t) := by
  unfold pm_cl
  rw [List.getElem?_map, List.getElem?_range ht]
  rfl
theorem pm_okT_at {t : Nat} (ht : t < 13) : pm_okT t = true := List.all_eq_true.mp pm_okTT t (List.mem_range.mpr ht)
theorem pm_nm {t : Nat} (ht : t < 13) : ∀ a, a < pm_nf t → ∀ b, b < pm_nf t → a ≠ b → (pm_T t a).2.1 ≠ (pm_T t b).2.1 := by
  have h := pm_okT_at ht
  unfold pm_okT at h
  rw [Bool.and_eq_true] at h
  exact of_decide_eq_true h.1
theorem pm_okT_k {t k : Nat} (ht : t < 13) (hk : k < pm_nf t) : pm_kty (pm_kd t k) (parseFieldDescriptor (pm_T t k).2.2.1) = true ∧ u_lay (pm_cn t) (pm_T t) k ∈ pm_W := by
  have h := pm_okT_at ht
  unfold pm_okT at h
  rw [Bool.and_eq_true] at h
  have h2 := List.all_eq_true.mp h.2 k (List.mem_range.mpr hk)
  simp only [Bool.and_eq_true, decide_eq_true_eq] at h2
  exact ⟨h2.1.1, List.mem_filter.mpr ⟨h2.1.2, h2.2⟩⟩
theorem pm_uws {t : Nat} (ht : t < 13) : ∀ w ∈ u_ws (pm_cn t) (pm_T t) (pm_nf t), w ∈ pm_W := by
  intro w hw
  obtain ⟨k, hk, rfl⟩ := List.mem_map.mp hw
  exact (pm_okT_k ht (List.mem_range.mp hk)).2
theorem pm_kty_ty {kd : Nat} {ty : Option FieldType} (h : pm_kty kd ty = true) : ∃ y, ty = some y ∧ ((kd = 0 ∧ y = .int) ∨ (kd = 1 ∧ y = .boolean) ∨ (kd = 2 ∧ y = .long) ∨ (kd = 3 ∧ ((∃ n, y = .object n) ∨ ∃ z, y = .array z))) := by
  unfold pm_kty at h
  split at h
  · exact ⟨_, rfl, Or.inl ⟨rfl, rfl⟩⟩
  · exact ⟨_, rfl, Or.inr (Or.inl ⟨rfl, rfl⟩)⟩
  · exact ⟨_, rfl, Or.inr (Or.inr (Or.inl ⟨rfl, rfl⟩))⟩
  · exact ⟨_, rfl, Or.inr (Or.inr (Or.inr ⟨rfl, Or.inl ⟨_, rfl⟩⟩))⟩
  · exact ⟨_, rfl, Or.inr (Or.inr (Or.inr ⟨rfl, Or.inr ⟨_, rfl⟩⟩))⟩
  · cases h
theorem pm_tyk {t k : Nat} (ht : t < 13) (hk : k < pm_nf t) : parseFieldDescriptor (pm_T t k).2.2.1 = some (pm_ty t k) ∧ ((pm_kd t k = 0 ∧ pm_ty t k = .int) ∨ (pm_kd t k = 1 ∧ pm_ty t k = .boolean) ∨ (pm_kd t k = 2 ∧ pm_ty t k = .long) ∨ (pm_kd t k = 3 ∧ ((∃ n, pm_ty t k = .object n) ∨ ∃ z, pm_ty t k = .array z))) := by
  obtain ⟨y, h1, h2⟩ := pm_kty_ty (pm_okT_k ht hk).1
  have e : pm_ty t k = y := by unfold pm_ty; rw [h1]; rfl
  rw [e]
  exact ⟨h1, h2⟩
theorem pm_cell_ob {aC : Nat → ClassId} {adr : Nat → Nat} {h : pm_H} {q t n : Nat} (ht : t < 13) : pm_cell aC adr h q (t, n) = .inr (t, (List.range n).map fun k => pm_fv adr h q (pm_kd t k) k) := by
  unfold pm_cell
  rw [if_pos ht]
theorem pm_cell_i {aC : Nat → ClassId} {adr : Nat → Nat} {h : pm_H} {q n : Nat} : pm_cell aC adr h q (20, n) = .inl (aC 20, n, .inl fun j => Int32.ofInt (h.1 q j)) := rfl
theorem pm_cell_z {aC : Nat → ClassId} {adr : Nat → Nat} {h : pm_H} {q n : Nat} : pm_cell aC adr h q (22, n) = .inl (aC 22, n, .inl fun j => Int32.ofInt (h.1 q j)) := rfl
theorem pm_cell_l {aC : Nat → ClassId} {adr : Nat → Nat} {h : pm_H} {q n : Nat} : pm_cell aC adr h q (21, n) = .inl (aC 21, n, .inr (.inl fun j => Int64.ofInt (h.1 q j))) := rfl
theorem pm_cell_r {aC : Nat → ClassId} {adr : Nat → Nat} {h : pm_H} {q t n : Nat} (h1 : 23 ≤ t) : pm_cell aC adr h q (t, n) = .inl (aC t, n, .inr (.inr (.inr (.inr fun j => (h.2.1 q j).map adr)))) := by
  unfold pm_cell
  rw [if_neg (by show ¬ t < 13; omega), if_neg (by show ¬ (t = 20 ∨ t = 22); omega), if_neg (by show ¬ t = 21; omega)]
theorem pm_fields {adr : Nat → Nat} {h : pm_H} {q t n k : Nat} (hk : k < n) : ((List.range n).map fun k => pm_fv adr h q (pm_kd t k) k)[k]? = some (pm_fv adr h q (pm_kd t k) k) := by
  rw [List.getElem?_map, List.getElem?_range hk]
  rfl
theorem pm_up_ne {α : Type} {f : Nat → Nat → α} {a k q j : Nat} {x : α} (h : ¬ (q = a ∧ j = k)) : pm_up f a k x q j = f q j := by
  unfold pm_up
  by_cases e : q = a
  · rw [if_pos e, if_neg (fun z => h ⟨e, z⟩)]
  · rw [if_neg e]
theorem pm_up_eq {α : Type} {f : Nat → Nat → α} {a k : Nat} {x : α} : pm_up f a k x a k = x := by
  unfold pm_up
  rw [if_pos rfl, if_pos rfl]
theorem pm_ws_put {aC : Nat → ClassId} {adr : Nat → Nat} {h h' : pm_H} {a t n k : Nat} {v : Value} (hz : h.2.2[a]? = some (t, n)) (ht : t < 13) (hk : k < n) (hT : h'.2.2 = h.2.2) (h1 : ∀ q j, ¬ (q = a ∧ j = k) → h'.1 q j = h.1 q j) (h2 : ∀ q j, ¬ (q = a ∧ j = k) → h'.2.1 q j = h.2.1 q j) (hv : pm_fv adr h' a (pm_kd t k) k = v) :
    (pm_ws aC adr h).set a (adr a, .inr (t, ((List.range n).map fun k => pm_fv adr h a (pm_kd t k) k).set k v)) = pm_ws aC adr h' := by
  refine pm_ws_set hz hT ?_ (fun p y hp => pm_cell_eq y (fun j => h1 p j (fun z => hp z.1)) (fun j => by rw [h2 p j (fun z => hp z.1)]))
  rw [pm_cell_ob ht]
  congr 2
  apply List.ext_getElem?
  intro j
  by_cases hj : j < n
  · rw [pm_fields hj]
    by_cases e : j = k
    · subst e
      rw [List.getElem?_set_self (by rw [List.length_map, List.length_range]; exact hj), hv]
    · rw [List.getElem?_set_ne (Ne.symm e), pm_fields hj]
      congr 1
      unfold pm_fv
      rw [h1 a j (fun z => e z.2), h2 a j (fun z => e z.2)]
  · rw [List.getElem?_eq_none (by rw [List.length_map, List.length_range]; omega), List.getElem?_eq_none (by rw [List.length_set, List.length_map, List.length_range]; omega)]
theorem pm_GH_wI {h : pm_H} {a k t n : Nat} {x : Int} (hG : pm_GH h) (hz : h.2.2[a]? = some (t, n)) (hr : pm_rg (pm_kd t k) x) : pm_GH (pm_wI h a k x) := by
  refine ⟨hG.1, fun q t2 n2 j hq => ?_, hG.2.2⟩
  show pm_rg _ (pm_up h.1 a k x q j)
  by_cases e : q = a ∧ j = k
  · obtain ⟨rfl, rfl⟩ := e
    rw [pm_up_eq]
    cases hz.symm.trans hq
    exact hr
  · rw [pm_up_ne e]
    exact hG.2.1 q t2 n2 j hq
theorem pm_GH_wR {h : pm_H} {a k : Nat} {r : Option Nat} (hG : pm_GH h) (hr : ∀ p, r = some p → p < h.2.2.length) : pm_GH (pm_wR h a k r) := by
  refine ⟨hG.1, hG.2.1, fun q j p hq => ?_⟩
  have hq : pm_up h.2.1 a k r q j = some p := hq
  by_cases e : q = a ∧ j = k
  · obtain ⟨rfl, rfl⟩ := e
    rw [pm_up_eq] at hq
    exact hr p hq
  · rw [pm_up_ne e] at hq
    exact hG.2.2 q j p hq
theorem pm_fg_tv {adr : Nat → Nat} {h : pm_H} {kd a k : Nat} : pm_tv adr (pm_fg h kd a k) = pm_fv adr h a kd k := by
  match kd with
  | 0 => rfl
  | 1 => rfl
  | 2 => rfl
  | _ + 3 => rfl
theorem pm_01 {x : Int} (h : x = 0 ∨ x = 1) : pm_I32 x := by unfold pm_I32; omega
theorem pm_fg_gv {h : pm_H} {a t n k : Nat} (hG : pm_GH h) (hz : h.2.2[a]? = some (t, n)) : pm_gv h.2.2.length (pm_fg h (pm_kd t k) a k) := by
  have hg := hG.2.1 a t n k hz
  generalize pm_kd t k = kd at hg ⊢
  unfold pm_fg
  split
  · exact hg.1 rfl
  · exact pm_01 (hg.2.1 rfl)
  · exact hg.2.2 rfl
  · cases e : h.2.1 a k with
    | none => trivial
    | some p => exact hG.2.2 a k p e
theorem pm_HI.wr {s : State} {D : va_G} {aC : Nat → ClassId} {a0 : Nat → Nat} {h0 : pm_H} {adr : Nat → Nat} {h h' : pm_H} {H H1 : Heap} {locs locs1 : List Loc} {cells slots : Nat} (hH : pm_HI s D aC a0 h0 adr h H locs cells slots) (hT : h'.2.2 = h.2.2) (hG : pm_GH h') (hP : va_P D pm_cl (pm_ws aC adr h') H1) (hD : va_D (pm_A s aC a0 h0) (pm_ws aC adr h')) (hS : va_S (pm_A s aC a0 h0) s.heap H1 locs1) : pm_HI s D aC a0 h0 adr h' H1 locs1 cells slots :=
  ⟨hP, hD, hS, hG, hH.2.2.2.2.1, by rw [hT]; exact hH.2.2.2.2.2.1, by unfold pm_tot; rw [hT]; exact hH.2.2.2.2.2.2⟩
theorem pm_okF_at {own idx f kd pf wi sm t : Nat} {al : List Nat} {fin nest : Bool} {rf : String} (hL : pm_FT.lookup (own, idx) = some (f, kd, al, fin, nest, pf, wi, rf, sm)) (hal : t ∈ al) :
    t < 13 ∧ f < pm_nf t ∧ pm_kd t f = kd ∧ (pm_T t f).2.2.2 = fin ∧ ((pm_T t f).1 = rf ∨ Cond.sameField rf (pm_T t f).1 (pm_T t f).2.1 (pm_T t f).2.2.1 ∈ pm_W) ∧ ((nest = true ∧ Cond.fieldLinkNest (pm_cn own) idx rf (pm_T t f).2.1 (pm_T t f).2.2.1 "LoomShed" ∈ pm_NW) ∨ (nest = false ∧ Cond.fieldLink (pm_cn own) idx rf (pm_T t f).2.1 (pm_T t f).2.2.1 ∈ pm_W)) ∧ (pf = 0 → fin = false) ∧ (pf = 1 → fin = true ∧ (pm_T t f).1 = pm_cn own ∧ nest = false) := by
  have ok := pm_lookup pm_okFT hL
  have ok := List.all_eq_true.mp ok t hal
  simp only [Bool.and_eq_true, Bool.or_eq_true, decide_eq_true_eq] at ok
  obtain ⟨⟨⟨⟨⟨⟨⟨⟨h1, h2⟩, h3⟩, h4⟩, h5⟩, h6⟩, h7⟩, h8⟩, h9⟩ := ok
  refine ⟨h1, h2, h3, h4, ?_, ?_, fun e => ?_, fun e => ?_⟩
  · rcases h6 with h6 | h6
    · exact Or.inl h6
    · exact Or.inr (pm_hw_W h6 rfl)
  · cases nest with
    | true => exact Or.inl ⟨rfl, pm_hw_N (by simpa using h7) rfl⟩
    | false => exact Or.inr ⟨rfl, pm_hw_W (by simpa using h7) rfl⟩
  · rcases h8 with h8 | h8
    · exact absurd e h8
    · exact h8
  · rcases h9 with h9 | h9
    · exact absurd e h9
    · exact ⟨h9.1.1, h9.1.2, h9.2⟩
section
variable {p : Program} {l : Launch} {e : Env} {R : Room} {s : State} {m : MethodId} {args : Array Value} {below : List Frame} {meth : Method} {c : Code} {D : va_G} {aC : Nat → ClassId} {i d : Nat} {h0 h9 : pm_H} {a0 : Nat → Nat} {r9 : Option pm_V} {n pc k : Nat} {ls : pm_L} {st : List pm_V} {h : pm_H} {adr : Nat → Nat} {H : Heap} {locs : List Loc} {lsM : Array Slot} {cells slots : Nat}
theorem pm_same {rf : String} {t f : Nat} (hts : ∀ w ∈ pm_W, w.before args s = true) (h : (pm_T t f).1 = rf ∨ Cond.sameField rf (pm_T t f).1 (pm_T t f).2.1 (pm_T t f).2.2.1 ∈ pm_W) : ∀ x, s.fieldFound? (pm_T t f).1 (pm_T t f).2.1 (pm_T t f).2.2.1 = some x → s.fieldFound? rf (pm_T t f).2.1 (pm_T t f).2.2.1 = some x := by
  rcases h with h | h
  · subst h; exact fun _ z => z
  · exact fun x z => u_same (hts _ h) x z
theorem pz_getfield {z : Nat} (X : pm_Cx p s m args meth c R D aC i d h0 h9) (ih : pm_Go p l e R s m args below meth c D aC i d h0 h9 a0 r9 n) (hH : pm_HI s D aC a0 h0 adr h H locs cells slots) (hF : pm_FI i adr h.2.2.length ls lsM st) (hd : decode (pm_b i) pc = .ok (.getfield z, k)) (hk : pm_lk (.getfield z) k pc = true) (q : ∃ nx : pm_N, pm_s i (.getfield z) k pc ls st h = some nx ∧ pm_lp (pm_ev d) i n nx.1 nx.2.1 nx.2.2.1 nx.2.2.2 r9 h9) : pm_Wg p l e R s m args below meth c D aC h0 h9 a0 r9 pc adr H locs lsM st cells slots := by
  obtain ⟨hx, hb, hml, hr, hown, hts, hKK, hlk, hnm, hR, hi⟩ := X
  have ek : k = 3 := by simpa [pm_lk, pm_ln] using hk
  subst ek
  simp only [pm_s] at q
  cases hL : pm_FT.lookup (pm_ow i, z) with
  | none => rw [hL] at q; obtain ⟨_, q, _⟩ := q; cases q
  | some y =>
    obtain ⟨f, kd, al, fin, nest, pf, wi, rf, sm⟩ := y
    rw [hL] at q
    have q1 := pm_or_iff.mp q
    clear q
    obtain ⟨a, s1, rfl, q2⟩ := pm_r_ex q1
    obtain ⟨⟨t, N, hal, hT⟩, g⟩ := pm_if_iff.mp q2
    obtain ⟨ht, hf, hkd, hfin, hsm, hln, -, -⟩ := pm_okF_at hL hal
    have hN : N = pm_nf t := by rcases hH.2.2.2.1.1 a t N hT with z | z
                                · exact z.2
                                · omega
    subst hN
    subst hkd
    have he := pm_ws_get (aC := aC) (adr := adr) hT
    rw [pm_cell_ob ht] at he
    have hgo : pm_Wg p l e R s m args below meth c D aC h0 h9 a0 r9 (pc + 3) adr H locs lsM (pm_fg h (pm_kd t f) a f :: s1) cells slots := ih _ _ _ _ _ _ _ _ _ _ g hH (hF.tail.push (pm_fg_gv hH.2.2.2.1 hT))
    unfold pm_Wg at hgo
    rw [List.map_cons, pm_fg_tv] at hgo
    rcases hln with ⟨-, hln⟩ | ⟨-, hln⟩
    · exact va_getN (D := D) (ci := t) (v := pm_fv adr h a (pm_kd t f) f) (C := pm_cn t) (T := pm_T t) (N := pm_nf t) hx hb hts (pm_uws ht) hown hKK.1 hH.1 a he (pm_cl_get ht) f hf (va_Nw.use rfl (hKK.2.1 _ hln)) (pm_same hts hsm) (pm_fields hf) hd hgo
    · exact va_get (D := D) (ci := t) (v := pm_fv adr h a (pm_kd t f) f) (C := pm_cn t) (T := pm_T t) (N := pm_nf t) hx hb hts (pm_uws ht) hown hKK.1 hH.1 a he (pm_cl_get ht) f hf (hts _ hln) (pm_same hts hsm) (pm_fields hf) hd hgo
/-- any put, of any kind -/
theorem pm_put {z f pf t N : Nat} {nest fin : Bool} {rf : String} {h' : pm_H} {a : Nat} {v : Value} {s1 : List pm_V} (X : pm_Cx p s m args meth c R D aC i d h0 h9) (ih : pm_Go p l e R s m args below meth c D aC i d h0 h9 a0 r9 n) (hH : pm_HI s D aC a0 h0 adr h H locs cells slots) (hF : pm_FI i adr h.2.2.length ls lsM s1) (hd : decode (pm_b i) pc = .ok (.putfield z, 3))
    (hT : h.2.2[a]? = some (t, N)) (ht : t < 13) (hf : f < pm_nf t) (hfin : (pm_T t f).2.2.2 = fin) (hsm : (pm_T t f).1 = rf ∨ Cond.sameField rf (pm_T t f).1 (pm_T t f).2.1 (pm_T t f).2.2.1 ∈ pm_W) (hln : (nest = true ∧ Cond.fieldLinkNest (pm_cn (pm_ow i)) z rf (pm_T t f).2.1 (pm_T t f).2.2.1 "LoomShed" ∈ pm_NW) ∨ (nest = false ∧ Cond.fieldLink (pm_cn (pm_ow i)) z rf (pm_T t f).2.1 (pm_T t f).2.2.1 ∈ pm_W)) (hp0 : pf = 0 → fin = false) (hp1 : pf = 1 → fin = true ∧ (pm_T t f).1 = pm_cn (pm_ow i) ∧ nest = false) (hpf : pf = 0 ∨ (pf = 1 ∧ pm_ini i = true))
    (hT2 : h'.2.2 = h.2.2) (h1 : ∀ q j, ¬ (q = a ∧ j = f) → h'.1 q j = h.1 q j) (h2 : ∀ q j, ¬ (q = a ∧ j = f) → h'.2.1 q j = h.2.1 q j) (hG : pm_GH h') (hv : pm_fv adr h' a (pm_kd t f) f = v) (hnar : narrow (pm_ty t f) v = v) (hfit : fits (pm_ty t f) v = true) (g : pm_lp (pm_ev d) i n (pc + 3) ls s1 h' r9 h9) :
    W p l e R s m args below meth c H locs cells slots (MQ below (pm_Qc D aC a0 h0 r9 h9 (pm_A s aC a0 h0)) args s (h9.2.2.length - h0.2.2.length) (pm_tot h9 - pm_tot h0) (pm_A s aC a0 h0)) (F0 m pc lsM (v :: .ref (adr a) :: s1.map (pm_tv adr))) := by
  obtain ⟨hx, hb, hml, hr, hown, hts, hKK, hlk, hnm, hR, hi⟩ := X
  have hN : N = pm_nf t := by rcases hH.2.2.2.1.1 a t N hT with z | z
                              · exact z.2
                              · omega
  subst hN
  have he := pm_ws_get (aC := aC) (adr := adr) hT
  rw [pm_cell_ob ht] at he
  have hgo : ∀ (H1 : Heap) (locs1 : List Loc), va_P D pm_cl ((pm_ws aC adr h).set a (adr a, .inr (t, ((List.range (pm_nf t)).map fun k => pm_fv adr h a (pm_kd t k) k).set f v))) H1 → va_D (pm_A s aC a0 h0) ((pm_ws aC adr h).set a (adr a, .inr (t, ((List.range (pm_nf t)).map fun k => pm_fv adr h a (pm_kd t k) k).set f v))) → va_S (pm_A s aC a0 h0) s.heap H1 locs1 → pm_Wg p l e R s m args below meth c D aC h0 h9 a0 r9 (pc + 3) adr H1 locs1 lsM s1 cells slots := by
    intro H1 locs1 hP hD hS
    rw [pm_ws_put hT ht hf hT2 h1 h2 hv] at hP hD
    exact ih _ _ _ _ _ _ _ _ _ _ g (hH.wr hT2 hG hP hD hS) (by rw [hT2]; exact hF)
  have hty := (pm_tyk ht hf).1
  rcases hpf with hpf | ⟨hpf, hini⟩
  · rcases hln with ⟨-, hln⟩ | ⟨-, hln⟩
    · exact va_putN (D := D) (ci := t) (v := v) (ty := pm_ty t f) (C := pm_cn t) (T := pm_T t) (N := pm_nf t) hx hb hts (pm_uws ht) (pm_ty t) (fun k hk => (pm_tyk ht hk).1) (pm_nm ht) hown hKK.1 hH.1 hH.2.1 hH.2.2.1 a he (pm_cl_get ht) f hf (va_Nw.use rfl (hKK.2.1 _ hln)) (pm_same hts hsm) (hfin.trans (hp0 hpf)) hty hnar hfit (by rw [List.length_map, List.length_range]; exact hf) hd hgo
    · exact va_put (D := D) (ci := t) (v := v) (ty := pm_ty t f) (C := pm_cn t) (T := pm_T t) (N := pm_nf t) hx hb hts (pm_uws ht) (pm_ty t) (fun k hk => (pm_tyk ht hk).1) (pm_nm ht) hown hKK.1 hH.1 hH.2.1 hH.2.2.1 a he (pm_cl_get ht) f hf (hts _ hln) (pm_same hts hsm) (hfin.trans (hp0 hpf)) hty hnar hfit (by rw [List.length_map, List.length_range]; exact hf) hd hgo
  · obtain ⟨q1, q2, q3⟩ := hp1 hpf
    rcases hln with ⟨hz, -⟩ | ⟨-, hln⟩
    · rw [q3] at hz; cases hz
    · exact va_putF (D := D) (ci := t) (v := v) (ty := pm_ty t f) (C := pm_cn t) (T := pm_T t) (N := pm_nf t) hx hb hts (pm_uws ht) (pm_ty t) (fun k hk => (pm_tyk ht hk).1) (pm_nm ht) hown hKK.1 hH.1 hH.2.1 hH.2.2.1 a he (pm_cl_get ht) f hf (hts _ hln) (pm_same hts hsm) (hfin.trans q1) (hnm.trans (of_decide_eq_true hini)) q2 hty hnar hfit (by rw [List.length_map, List.length_range]; exact hf) hd hgo
theorem pm_nar01 {x : Int} (h : x = 0 ∨ x = 1) : narrow .boolean (.int (Int32.ofInt x)) = .int (Int32.ofInt x) ∧ fits .boolean (.int (Int32.ofInt x)) = true := by
  rcases h with rfl | rfl <;> exact ⟨by decide, by decide⟩
theorem pm_narR {y : FieldType} {r : Option Nat} (h : (∃ n, y = .object n) ∨ ∃ z, y = .array z) : narrow y (va_rf r) = va_rf r ∧ fits y (va_rf r) = true := by
  rcases h with ⟨n, rfl⟩ | ⟨z, rfl⟩ <;> cases r <;> exact ⟨rfl, rfl⟩
theorem pz_putfield {z : Nat} (X : pm_Cx p s m args meth c R D aC i d h0 h9) (ih : pm_Go p l e R s m args below meth c D aC i d h0 h9 a0 r9 n) (hH : pm_HI s D aC a0 h0 adr h H locs cells slots) (hF : pm_FI i adr h.2.2.length ls lsM st) (hd : decode (pm_b i) pc = .ok (.putfield z, k)) (hk : pm_lk (.putfield z) k pc = true) (q : ∃ nx : pm_N, pm_s i (.putfield z) k pc ls st h = some nx ∧ pm_lp (pm_ev d) i n nx.1 nx.2.1 nx.2.2.1 nx.2.2.2 r9 h9) : pm_Wg p l e R s m args below meth c D aC h0 h9 a0 r9 pc adr H locs lsM st cells slots := by
  obtain ⟨hx, hb, hml, hr, hown, hts, hKK, hlk, hnm, hR, hi⟩ := X
  have ek : k = 3 := by simpa [pm_lk, pm_ln] using hk
  subst ek
  simp only [pm_s] at q
  cases hL : pm_FT.lookup (pm_ow i, z) with
  | none => rw [hL] at q; obtain ⟨_, q, _⟩ := q; cases q
  | some y =>
    obtain ⟨f, kd, al, fin, nest, pf, wi, rf, sm⟩ := y
    rw [hL] at q
    by_cases e0 : kd = 0
    · subst e0
      have q1 := pm_oi_iff.mp q
      clear q
      obtain ⟨x, s0, rfl, q2⟩ := pm_i_ex q1
      have q3 := pm_or_iff.mp q2
      obtain ⟨a, s1, rfl, q4⟩ := pm_r_ex q3
      obtain ⟨hcnd, g⟩ := pm_if_iff.mp q4
      obtain ⟨hpf, t, N, hal, hT⟩ := hcnd
      obtain ⟨ht, hf, hkd, hfin, hsm, hln, hp0, hp1⟩ := pm_okF_at hL hal
      have hty := (pm_tyk ht hf).2
      rw [hkd] at hty
      have ety : pm_ty t f = .int := by rcases hty with z | z | z | z <;> first | exact z.2 | (have := z.1; omega)
      refine pm_put (v := .int (Int32.ofInt x)) (h' := pm_wI h a f x) ⟨hx, hb, hml, hr, hown, hts, hKK, hlk, hnm, hR, hi⟩ ih hH hF.tail.tail hd hT ht hf hfin hsm hln hp0 hp1 hpf rfl (fun q j hq => pm_up_ne hq) (fun q j _ => rfl) (pm_GH_wI hH.2.2.2.1 hT (by rw [hkd]; exact ⟨fun _ => hF.head, fun z => (by cases z), fun z => (by cases z)⟩)) ?_ (by rw [ety]; rfl) (by rw [ety]; rfl) g
      rw [hkd]
      show Value.int (Int32.ofInt (pm_up h.1 a f x a f)) = _
      rw [pm_up_eq]
    by_cases e1 : kd = 1
    · subst e1
      have q1 := pm_oi_iff.mp q
      clear q
      obtain ⟨x, s0, rfl, q2⟩ := pm_i_ex q1
      have q3 := pm_or_iff.mp q2
      obtain ⟨a, s1, rfl, q4⟩ := pm_r_ex q3
      obtain ⟨hcnd, g⟩ := pm_if_iff.mp q4
      obtain ⟨hpf, h01, t, N, hal, hT⟩ := hcnd
      obtain ⟨ht, hf, hkd, hfin, hsm, hln, hp0, hp1⟩ := pm_okF_at hL hal
      have hty := (pm_tyk ht hf).2
      rw [hkd] at hty
      have ety : pm_ty t f = .boolean := by rcases hty with z | z | z | z <;> first | exact z.2 | (have := z.1; omega)
      refine pm_put (v := .int (Int32.ofInt x)) (h' := pm_wI h a f x) ⟨hx, hb, hml, hr, hown, hts, hKK, hlk, hnm, hR, hi⟩ ih hH hF.tail.tail hd hT ht hf hfin hsm hln hp0 hp1 hpf rfl (fun q j hq => pm_up_ne hq) (fun q j _ => rfl) (pm_GH_wI hH.2.2.2.1 hT (by rw [hkd]; exact ⟨fun z => (by cases z), fun _ => h01, fun z => (by cases z)⟩)) ?_ (by rw [ety]; exact (pm_nar01 h01).1) (by rw [ety]; exact (pm_nar01 h01).2) g
      rw [hkd]
      show Value.int (Int32.ofInt (pm_up h.1 a f x a f)) = _
      rw [pm_up_eq]
    by_cases e2 : kd = 2
    · subst e2
      have q1 := pm_ol_iff.mp q
      clear q
      obtain ⟨x, s0, rfl, q2⟩ := pm_l_ex q1
      have q3 := pm_or_iff.mp q2
      obtain ⟨a, s1, rfl, q4⟩ := pm_r_ex q3
      obtain ⟨hcnd, g⟩ := pm_if_iff.mp q4
      obtain ⟨hpf, t, N, hal, hT⟩ := hcnd
      obtain ⟨ht, hf, hkd, hfin, hsm, hln, hp0, hp1⟩ := pm_okF_at hL hal
      have hty := (pm_tyk ht hf).2
      rw [hkd] at hty
      have ety : pm_ty t f = .long := by rcases hty with z | z | z | z <;> first | exact z.2 | (have := z.1; omega)
      refine pm_put (v := .long (Int64.ofInt x)) (h' := pm_wI h a f x) ⟨hx, hb, hml, hr, hown, hts, hKK, hlk, hnm, hR, hi⟩ ih hH hF.tail.tail hd hT ht hf hfin hsm hln hp0 hp1 hpf rfl (fun q j hq => pm_up_ne hq) (fun q j _ => rfl) (pm_GH_wI hH.2.2.2.1 hT (by rw [hkd]; exact ⟨fun z => (by cases z), fun z => (by cases z), fun _ => hF.head⟩)) ?_ (by rw [ety]; rfl) (by rw [ety]; rfl) g
      rw [hkd]
      show Value.long (Int64.ofInt (pm_up h.1 a f x a f)) = _
      rw [pm_up_eq]
    by_cases e3 : kd = 3
    · subst e3
      have q1 := pm_oq_iff.mp q
      clear q
      obtain ⟨x, s0, rfl, q2⟩ := pm_q_ex q1
      have q3 := pm_or_iff.mp q2
      obtain ⟨a, s1, rfl, q4⟩ := pm_r_ex q3
      obtain ⟨hcnd, g⟩ := pm_if_iff.mp q4
      obtain ⟨hpf, t, N, hal, hT⟩ := hcnd
      obtain ⟨ht, hf, hkd, hfin, hsm, hln, hp0, hp1⟩ := pm_okF_at hL hal
      have hty := (pm_tyk ht hf).2
      rw [hkd] at hty
      have ety : (∃ n, pm_ty t f = .object n) ∨ ∃ z, pm_ty t f = .array z := by rcases hty with z | z | z | z <;> first | exact z.2 | (have := z.1; omega)
      refine pm_put (v := va_rf (x.map adr)) (h' := pm_wR h a f x) ⟨hx, hb, hml, hr, hown, hts, hKK, hlk, hnm, hR, hi⟩ ih hH hF.tail.tail hd hT ht hf hfin hsm hln hp0 hp1 hpf rfl (fun q j _ => rfl) (fun q j hq => pm_up_ne hq) (pm_GH_wR hH.2.2.2.1 (fun w hw => by have hhd : pm_gv h.2.2.length (.inr (.inr x)) := hF.head; rw [hw] at hhd; exact hhd)) ?_ (pm_narR ety).1 (pm_narR ety).2 g
      rw [hkd]
      show va_rf ((pm_up h.2.1 a f x a f).map adr) = _
      rw [pm_up_eq]
    have hnone : ∀ y : Nat × Nat × List Nat × Bool × Bool × Nat × Nat × String × Nat, y = (f, kd, al, fin, nest, pf, wi, rf, sm) → False := by
      intro y hy
      subst hy
      revert q
      split <;> first | (intro q; obtain ⟨_, q, _⟩ := q; cases q; done) | (next hh => cases hh; omega)
    exact (hnone _ rfl).elim
end
