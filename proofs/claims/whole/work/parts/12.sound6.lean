/-! new cells -/
theorem pm_RA_eq {U : State} {c1 c2 : ClassId} {ty : FieldType} (h1 : va_RA U c1 ty) (h2 : va_RA U c2 ty) : c1 = c2 := by
  cases ty with
  | object C =>
    obtain ⟨_, _, _, _, _, e1⟩ := h1
    obtain ⟨_, _, _, _, _, e2⟩ := h2
    exact Option.some.inj (e1.symm.trans e2)
  | _ => exact Option.some.inj (Eq.trans (Eq.symm h1) h2)
theorem pm_last {D : va_G} {cl : List vw_C} {tys : List (ClassId × FieldType)} {U : State} {cA : ClassId} {ty : FieldType} (h : va_K D cl (tys ++ [(cA, ty)]) U) : va_RA U cA ty :=
  (h.2 tys.length (cA, ty) (by rw [List.getElem?_append_right (Nat.le_refl _), Nat.sub_self]; rfl)).2
def pm_ad (adr : Nat → Nat) (n a : Nat) : Nat → Nat := fun q => if q = n then a else adr q
theorem pm_ad_lt {adr : Nat → Nat} {n a q : Nat} (h : q < n) : pm_ad adr n a q = adr q := if_neg (by omega)
theorem pm_ad_eq {adr : Nat → Nat} {n a : Nat} : pm_ad adr n a n = a := if_pos rfl
theorem pm_map_lt {adr adr' : Nat → Nat} {n : Nat} (ha : ∀ q, q < n → adr' q = adr q) {r : Option Nat} (hr : ∀ w, r = some w → w < n) : r.map adr' = r.map adr := by
  cases r with
  | none => rfl
  | some w => show some (adr' w) = some (adr w); rw [ha w (hr w rfl)]
theorem pm_GH_new {h : pm_H} {t n : Nat} (hG : pm_GH h) (ht : (t < 13 ∧ n = pm_nf t) ∨ (20 ≤ t ∧ t ≤ 25 ∧ n ≤ 4000)) : pm_GH (pm_nw h t n) := by
  have hT : (pm_nw h t n).2.2 = h.2.2 ++ [(t, n)] := rfl
  have key : ∀ (q t2 n2 : Nat), (pm_nw h t n).2.2[q]? = some (t2, n2) → (q < h.2.2.length ∧ h.2.2[q]? = some (t2, n2)) ∨ (q = h.2.2.length ∧ t2 = t ∧ n2 = n) := by
    intro q t2 n2 hq
    rw [hT] at hq
    by_cases hl : q < h.2.2.length
    · rw [List.getElem?_append_left hl] at hq
      exact Or.inl ⟨hl, hq⟩
    · rw [List.getElem?_append_right (by omega)] at hq
      have hz : q - h.2.2.length < 1 := (List.getElem?_eq_some_iff.mp hq).1
      rw [show q - h.2.2.length = 0 by omega] at hq
      cases hq
      exact Or.inr ⟨by omega, rfl, rfl⟩
  refine ⟨fun q t2 n2 hq => ?_, fun q t2 n2 k hq => ?_, fun q k w hq => ?_⟩
  · rcases key q t2 n2 hq with ⟨-, hq⟩ | ⟨-, rfl, rfl⟩
    · exact hG.1 q t2 n2 hq
    · exact ht
  · show pm_rg _ (if q = h.2.2.length then 0 else h.1 q k)
    rcases key q t2 n2 hq with ⟨hl, hq⟩ | ⟨e, -, -⟩
    · rw [if_neg (by omega)]
      exact hG.2.1 q t2 n2 k hq
    · rw [if_pos e]
      exact ⟨fun _ => pm_00, fun _ => Or.inl rfl, fun _ => (by unfold pm_I64; decide)⟩
  · have hq : (if q = h.2.2.length then none else h.2.1 q k) = some w := hq
    rw [hT, List.length_append, List.length_singleton]
    by_cases e : q = h.2.2.length
    · rw [if_pos e] at hq; cases hq
    · rw [if_neg e] at hq
      have := hG.2.2 q k w hq
      omega
theorem pm_HI.new {s : State} {D : va_G} {aC : Nat → ClassId} {a0 : Nat → Nat} {h0 : pm_H} {adr : Nat → Nat} {h : pm_H} {H H1 : Heap} {locs : List Loc} {cells slots t n a : Nat} {x : va_E} (hH : pm_HI s D aC a0 h0 adr h H locs cells slots) (ht : (t < 13 ∧ n = pm_nf t) ∨ (20 ≤ t ∧ t ≤ 25 ∧ n ≤ 4000)) (hx : pm_cell aC (pm_ad adr h.2.2.length a) (pm_nw h t n) h.2.2.length (t, n) = x) (hP : va_P D pm_cl (pm_ws aC adr h ++ [(a, x)]) H1) (hD : va_D (pm_A s aC a0 h0) (pm_ws aC adr h ++ [(a, x)])) (hS : va_S (pm_A s aC a0 h0) s.heap H1 locs) : pm_HI s D aC a0 h0 (pm_ad adr h.2.2.length a) (pm_nw h t n) H1 locs (cells + 1) (slots + n) := by
  have e : pm_ws aC adr h ++ [(a, x)] = pm_ws aC (pm_ad adr h.2.2.length a) (pm_nw h t n) := by
    refine pm_ws_push rfl pm_ad_eq hx (fun w y hw => ⟨pm_ad_lt hw, pm_cell_eq y (fun j => ?_) (fun j => ?_)⟩)
    · show (if w = h.2.2.length then 0 else h.1 w j) = _
      rw [if_neg (by omega)]
    · show (if w = h.2.2.length then none else h.2.1 w j).map _ = _
      rw [if_neg (by omega)]
      exact pm_map_lt (fun q hq => pm_ad_lt hq) (fun z hz => hH.2.2.2.1.2.2 w j z hz)
  rw [e] at hP hD
  have h5 := hH.2.2.2.2.1
  have h6 := hH.2.2.2.2.2.1
  have h7 := hH.2.2.2.2.2.2
  refine ⟨hP, hD, hS, pm_GH_new hH.2.2.2.1 ht, fun q hq => ?_, ?_, ?_⟩
  · rw [pm_ad_lt (by omega)]
    exact h5 q hq
  · show _ = (h.2.2 ++ [(t, n)]).length
    rw [List.length_append, List.length_singleton]
    omega
  · show _ = ((h.2.2 ++ [(t, n)]).map fun z => z.2).sum
    rw [List.map_append, List.sum_append]
    show _ = pm_tot h + (n + 0)
    omega
theorem pm_FI.new {i : Nat} {adr : Nat → Nat} {h : pm_H} {ls : pm_L} {lsM : Array Slot} {st : List pm_V} {t n a : Nat} (hF : pm_FI i adr h.2.2.length ls lsM st) : pm_FI i (pm_ad adr h.2.2.length a) (pm_nw h t n).2.2.length ls lsM (.inr (.inr (some h.2.2.length)) :: st) := by
  have hl : (pm_nw h t n).2.2.length = h.2.2.length + 1 := by show (h.2.2 ++ [(t, n)]).length = _; rw [List.length_append, List.length_singleton]
  refine (hF.ext (by omega) (fun q hq => pm_ad_lt hq)).push ?_
  show h.2.2.length < _
  omega
theorem pm_tv_new {adr : Nat → Nat} {h : pm_H} {st : List pm_V} {a : Nat} (hv : ∀ v ∈ st, pm_gv h.2.2.length v) : (.inr (.inr (some h.2.2.length)) :: st : List pm_V).map (pm_tv (pm_ad adr h.2.2.length a)) = .ref a :: st.map (pm_tv adr) := by
  rw [List.map_cons, pm_map_ext (adr := adr) (fun q hq => pm_ad_lt hq) hv]
  congr 1
  show va_rf (some (pm_ad adr h.2.2.length a h.2.2.length)) = _
  rw [pm_ad_eq]
  rfl
/-- the cells of a run only grow -/
theorem pm_s_pre {i k pc : Nat} {o : Instr} {ls : pm_L} {st : List pm_V} {h : pm_H} {nx : pm_N} (e : pm_s i o k pc ls st h = some nx) : h.2.2 <+: nx.2.2.2.2.2 := by
  have key : ∀ {P : Prop}, (∃ nx : pm_N, pm_s i o k pc ls st h = some nx ∧ ¬ (h.2.2 <+: nx.2.2.2.2.2)) → P := by
    intro P q
    have pr : h.2.2 <+: h.2.2 := List.prefix_refl _
    have pn : ∀ t n, h.2.2 <+: (pm_nw h t n).2.2 := fun t n => List.prefix_append _ _
    have pm : ∀ t n, h.2.2 <+: (pm_mn h t n).2.2 := fun t n => List.prefix_append _ _
    have wi : ∀ a k x, (pm_wI h a k x).2.2 = h.2.2 := fun _ _ _ => rfl
    have wr : ∀ a k x, (pm_wR h a k x).2.2 = h.2.2 := fun _ _ _ => rfl
    exfalso
    obtain ⟨nx, e, ne⟩ := q
    apply ne
    clear ne
    unfold pm_s at e
    split at e
    all_goals (try (cases e; done))
    all_goals (try simp only [pm_oi, pm_ol, pm_oq, pm_or, pm_oli, pm_oll, pm_olq, pm_if, pm_br] at e)
    all_goals (repeat' (split at e))
    all_goals (first | (cases e; done) | (cases e; first | exact pr | exact pn _ _ | exact pm _ _ | (rw [wi]; exact pr) | (rw [wr]; exact pr)))
  exact Classical.byContradiction fun ne => key ⟨nx, e, ne⟩
theorem pm_lp_pre {C : Nat → List pm_V → pm_H → Option pm_V → pm_H → Prop} {i : Nat} (hC : ∀ j as h r h', C j as h r h' → h.2.2 <+: h'.2.2) : ∀ (n pc : Nat) (ls : pm_L) (st : List pm_V) (h : pm_H) (r : Option pm_V) (h' : pm_H), pm_lp C i n pc ls st h r h' → h.2.2 <+: h'.2.2
  | 0, _, _, _, _, _, _, g => g.elim
  | n + 1, pc, ls, st, h, r, h', g => by
    obtain ⟨o, k, hd, hk, g⟩ := g
    rcases g with ⟨nx, e, g⟩ | ⟨j, as, s, e, r1, h1, c, g⟩ | ⟨e, rfl⟩
    · exact (pm_s_pre e).trans (pm_lp_pre hC n _ _ _ _ _ _ g)
    · exact (hC _ _ _ _ _ c).trans (pm_lp_pre hC n _ _ _ _ _ _ g)
    · exact List.prefix_refl _
theorem pm_ev_pre : ∀ (d i : Nat) (as : List pm_V) (h : pm_H) (r : Option pm_V) (h' : pm_H), pm_ev d i as h r h' → h.2.2 <+: h'.2.2
  | 0, _, _, _, _, _, g => g.elim
  | d + 1, i, as, h, r, h', g => by
    obtain ⟨-, n, g⟩ := g
    exact pm_lp_pre (fun j as h r h' c => pm_ev_pre d j as h r h' c) n _ _ _ _ _ _ g
theorem pm_pre_le {h h' : pm_H} (p : h.2.2 <+: h'.2.2) : h.2.2.length ≤ h'.2.2.length ∧ pm_tot h ≤ pm_tot h' := by
  obtain ⟨t, e⟩ := p
  unfold pm_tot
  rw [← e, List.length_append, List.map_append, List.sum_append]
  omega
theorem pm_lp_le {d i n pc : Nat} {ls : pm_L} {st : List pm_V} {h h' : pm_H} {r : Option pm_V} (g : pm_lp (pm_ev d) i n pc ls st h r h') : h.2.2.length ≤ h'.2.2.length ∧ pm_tot h ≤ pm_tot h' :=
  pm_pre_le (pm_lp_pre (fun j as h r h' c => pm_ev_pre d j as h r h' c) n _ _ _ _ _ _ g)
section
variable {p : Program} {l : Launch} {e : Env} {R : Room} {s : State} {m : MethodId} {args : Array Value} {below : List Frame} {meth : Method} {c : Code} {D : va_G} {aC : Nat → ClassId} {i d : Nat} {h0 h9 : pm_H} {a0 : Nat → Nat} {r9 : Option pm_V} {n pc k : Nat} {ls : pm_L} {st : List pm_V} {h : pm_H} {adr : Nat → Nat} {H : Heap} {locs : List Loc} {lsM : Array Slot} {cells slots : Nat}
theorem pm_room {t n2 pc2 : Nat} {ls2 : pm_L} {st2 : List pm_V} (hR : R = pm_rm (d + 1) h0 h9) (hH : pm_HI s D aC a0 h0 adr h H locs cells slots) (g : pm_lp (pm_ev d) i n pc2 ls2 st2 (pm_nw h t n2) r9 h9) : cells + 1 ≤ R.cells ∧ slots + n2 ≤ R.slots := by
  have h1 := pm_lp_le g
  have h6 := hH.2.2.2.2.2.1
  have h7 := hH.2.2.2.2.2.2
  have e1 : (pm_nw h t n2).2.2.length = h.2.2.length + 1 := by show (h.2.2 ++ [(t, n2)]).length = _; rw [List.length_append, List.length_singleton]
  have e2 : pm_tot (pm_nw h t n2) = pm_tot h + n2 := by show ((h.2.2 ++ [(t, n2)]).map fun z => z.2).sum = _; rw [List.map_append, List.sum_append]; show pm_tot h + (n2 + 0) = _; omega
  rw [hR]
  show cells + 1 ≤ h9.2.2.length - h0.2.2.length ∧ slots + n2 ≤ pm_tot h9 - pm_tot h0
  omega
theorem pz_new {z : Nat} (X : pm_Cx p s m args meth c R D aC i d h0 h9) (ih : pm_Go p l e R s m args below meth c D aC i d h0 h9 a0 r9 n) (hH : pm_HI s D aC a0 h0 adr h H locs cells slots) (hF : pm_FI i adr h.2.2.length ls lsM st) (hd : decode (pm_b i) pc = .ok (.new z, k)) (hk : pm_lk (.new z) k pc = true) (q : ∃ nx : pm_N, pm_s i (.new z) k pc ls st h = some nx ∧ pm_lp (pm_ev d) i n nx.1 nx.2.1 nx.2.2.1 nx.2.2.2 r9 h9) : pm_Wg p l e R s m args below meth c D aC h0 h9 a0 r9 pc adr H locs lsM st cells slots := by
  obtain ⟨hx, hb, hml, hr, hown, hts, hKK, hlk, hnm, hR, hi⟩ := X
  have ek : k = 3 := by simpa [pm_lk, pm_ln] using hk
  subst ek
  simp only [pm_s] at q
  cases hL : pm_CT.lookup (pm_ow i, z) with
  | none => rw [hL] at q; obtain ⟨_, q, _⟩ := q; cases q
  | some y =>
    obtain ⟨cn, wi⟩ := y
    rw [hL] at q
    dsimp only at q
    cases hf : (List.range 13).find? (fun t => decide (pm_cn t = cn)) with
    | none => rw [hf] at q; obtain ⟨_, q, _⟩ := q; cases q
    | some t =>
      rw [hf] at q
      have g := pm_some_iff.mp q
      clear q
      dsimp only at g
      have ht : t < 13 := List.mem_range.mp (List.mem_of_find?_eq_some hf)
      have hcn : pm_cn t = cn := by simpa using List.find?_some hf
      subst hcn
      have ok := pm_lookup pm_okCT hL
      have oki := List.all_eq_true.mp pm_okIT t (List.mem_range.mpr ht)
      unfold pm_okI at oki
      simp only [Bool.and_eq_true, decide_eq_true_eq] at oki
      have hrm := pm_room hR hH g
      have hfs : ∀ j, j < pm_nf t → defaultValue (pm_ty t j) = vp_V ((List.range (pm_nf t)).map fun k => pm_fv adr (pm_nw h t (pm_nf t)) h.2.2.length (pm_kd t k) k) j := by
        intro j hj
        unfold vp_V
        rw [List.getD_eq_getElem?_getD, pm_fields hj, Option.getD_some]
        have hz1 : (pm_nw h t (pm_nf t)).1 h.2.2.length j = 0 := if_pos rfl
        have hz2 : (pm_nw h t (pm_nf t)).2.1 h.2.2.length j = none := if_pos rfl
        unfold pm_fv
        rw [hz1, hz2]
        rcases (pm_tyk ht hj).2 with ⟨e1, e2⟩ | ⟨e1, e2⟩ | ⟨e1, e2⟩ | ⟨e1, e2⟩
        · rw [e1, e2]; rfl
        · rw [e1, e2]; rfl
        · rw [e1, e2]; rfl
        · rw [e1]
          rcases e2 with ⟨w, e2⟩ | ⟨w, e2⟩ <;> rw [e2] <;> rfl
      refine va_new (ci := t) (fs := (List.range (pm_nf t)).map fun k => pm_fv adr (pm_nw h t (pm_nf t)) h.2.2.length (pm_kd t k) k) (C := pm_cn t) (T := pm_T t) (N := pm_nf t) hx hb hts (pm_uws ht) (pm_ty t) (fun k hk => (pm_tyk ht hk).1) hown (hts _ (pm_hw_W ok rfl)) (hts _ (List.mem_filter.mpr ⟨oki.1.1.1, oki.1.1.2⟩)) (hts _ (List.mem_filter.mpr ⟨oki.1.2, oki.2⟩)) hKK.1 hH.1 hH.2.1 hH.2.2.1 (fun w hw => Or.inr hw) (pm_cl_get ht) hfs hrm.1 hrm.2 hd (fun a H1 hP hD hS => ?_)
      have hH2 := pm_HI.new (t := t) (n := pm_nf t) (a := a) hH (Or.inl ⟨ht, rfl⟩) (by
        rw [pm_cell_ob ht]
        congr 2
        apply List.map_congr_left
        intro k hk
        have hz2 : (pm_nw h t (pm_nf t)).2.1 h.2.2.length k = none := if_pos rfl
        unfold pm_fv
        rw [hz2]
        rfl) hP hD hS
      have hgo := ih _ _ _ _ _ _ _ _ _ _ g hH2 hF.new
      unfold pm_Wg at hgo
      rw [pm_tv_new hF.2.2.2] at hgo
      exact hgo
theorem pz_newarray_int (X : pm_Cx p s m args meth c R D aC i d h0 h9) (ih : pm_Go p l e R s m args below meth c D aC i d h0 h9 a0 r9 n) (hH : pm_HI s D aC a0 h0 adr h H locs cells slots) (hF : pm_FI i adr h.2.2.length ls lsM st) (hd : decode (pm_b i) pc = .ok (.newarray .int, k)) (hk : pm_lk (.newarray .int) k pc = true) (q : ∃ nx : pm_N, pm_s i (.newarray .int) k pc ls st h = some nx ∧ pm_lp (pm_ev d) i n nx.1 nx.2.1 nx.2.2.1 nx.2.2.2 r9 h9) : pm_Wg p l e R s m args below meth c D aC h0 h9 a0 r9 pc adr H locs lsM st cells slots := by
  obtain ⟨hx, hb, hml, hr, hown, hts, hKK, hlk, hnm, hR, hi⟩ := X
  have ek : k = 2 := by simpa [pm_lk, pm_ln] using hk
  subst ek
  simp only [pm_s, pm_oi_iff, pm_ol_iff, pm_oq_iff, pm_or_iff, pm_oli_iff, pm_oll_iff, pm_olq_iff, pm_if_iff, pm_br_iff, pm_some_iff] at q
  obtain ⟨x, s1, rfl, ⟨hx0, hx1⟩, g⟩ := pm_i_ex q
  have hrm := pm_room hR hH g
  have hI : pm_I32 x := hF.head
  have harr : Cond.arrayClass .int ∈ pm_W := List.mem_filter.mpr ⟨by decide +kernel, rfl⟩
  have hc8 : componentBytes .int ≤ 8 := by decide
  have hby : x.toNat * componentBytes .int ≤ 536870912 := Nat.le_trans (Nat.mul_le_mul (show x.toNat ≤ 4000 by omega) hc8) (by decide)
  refine va_newa (D := D) (cl := pm_cl) (tys := pm_tys aC) (atype := .int) (ty := .int) (a0 := ((x.toNat, .inl fun _ => (0 : Int32)) : vp_A)) hx hb (hts _ harr) rfl hKK.1 hH.1 hH.2.1 hH.2.2.1 (fun w hw => Or.inr hw) (fun cA => rfl) (fun w => by have := (pm_lt0' hI).mp w; omega) (pm_cl32 hI) hby hrm.1 hrm.2 hd (fun a cA H1 hK2 hP hD hS => ?_)
  have ec : cA = aC 20 := pm_RA_eq (pm_last hK2) (hKK.1.2 0 _ rfl).2
  subst ec
  have hH2 := pm_HI.new (t := 20) (n := x.toNat) (a := a) hH (Or.inr ⟨by decide, by decide, by omega⟩) (by
    rw [pm_cell_i]
    have hz1 : ∀ j, (pm_nw h 20 x.toNat).1 h.2.2.length j = 0 := fun j => if_pos rfl
    simp only [hz1]
    rfl) hP hD hS
  have hgo := ih _ _ _ _ _ _ _ _ _ _ g hH2 hF.tail.new
  unfold pm_Wg at hgo
  rw [pm_tv_new hF.tail.2.2.2] at hgo
  exact hgo
theorem pz_newarray_long (X : pm_Cx p s m args meth c R D aC i d h0 h9) (ih : pm_Go p l e R s m args below meth c D aC i d h0 h9 a0 r9 n) (hH : pm_HI s D aC a0 h0 adr h H locs cells slots) (hF : pm_FI i adr h.2.2.length ls lsM st) (hd : decode (pm_b i) pc = .ok (.newarray .long, k)) (hk : pm_lk (.newarray .long) k pc = true) (q : ∃ nx : pm_N, pm_s i (.newarray .long) k pc ls st h = some nx ∧ pm_lp (pm_ev d) i n nx.1 nx.2.1 nx.2.2.1 nx.2.2.2 r9 h9) : pm_Wg p l e R s m args below meth c D aC h0 h9 a0 r9 pc adr H locs lsM st cells slots := by
  obtain ⟨hx, hb, hml, hr, hown, hts, hKK, hlk, hnm, hR, hi⟩ := X
  have ek : k = 2 := by simpa [pm_lk, pm_ln] using hk
  subst ek
  simp only [pm_s, pm_oi_iff, pm_ol_iff, pm_oq_iff, pm_or_iff, pm_oli_iff, pm_oll_iff, pm_olq_iff, pm_if_iff, pm_br_iff, pm_some_iff] at q
  obtain ⟨x, s1, rfl, ⟨hx0, hx1⟩, g⟩ := pm_i_ex q
  have hrm := pm_room hR hH g
  have hI : pm_I32 x := hF.head
  have harr : Cond.arrayClass .long ∈ pm_W := List.mem_filter.mpr ⟨by decide +kernel, rfl⟩
  have hc8 : componentBytes .long ≤ 8 := by decide
  have hby : x.toNat * componentBytes .long ≤ 536870912 := Nat.le_trans (Nat.mul_le_mul (show x.toNat ≤ 4000 by omega) hc8) (by decide)
  refine va_newa (D := D) (cl := pm_cl) (tys := pm_tys aC) (atype := .long) (ty := .long) (a0 := ((x.toNat, .inr (.inl fun _ => (0 : Int64))) : vp_A)) hx hb (hts _ harr) rfl hKK.1 hH.1 hH.2.1 hH.2.2.1 (fun w hw => Or.inr hw) (fun cA => rfl) (fun w => by have := (pm_lt0' hI).mp w; omega) (pm_cl32 hI) hby hrm.1 hrm.2 hd (fun a cA H1 hK2 hP hD hS => ?_)
  have ec : cA = aC 21 := pm_RA_eq (pm_last hK2) (hKK.1.2 1 _ rfl).2
  subst ec
  have hH2 := pm_HI.new (t := 21) (n := x.toNat) (a := a) hH (Or.inr ⟨by decide, by decide, by omega⟩) (by
    rw [pm_cell_l]
    have hz1 : ∀ j, (pm_nw h 21 x.toNat).1 h.2.2.length j = 0 := fun j => if_pos rfl
    simp only [hz1]
    rfl) hP hD hS
  have hgo := ih _ _ _ _ _ _ _ _ _ _ g hH2 hF.tail.new
  unfold pm_Wg at hgo
  rw [pm_tv_new hF.tail.2.2.2] at hgo
  exact hgo
theorem pz_newarray_boolean (X : pm_Cx p s m args meth c R D aC i d h0 h9) (ih : pm_Go p l e R s m args below meth c D aC i d h0 h9 a0 r9 n) (hH : pm_HI s D aC a0 h0 adr h H locs cells slots) (hF : pm_FI i adr h.2.2.length ls lsM st) (hd : decode (pm_b i) pc = .ok (.newarray .boolean, k)) (hk : pm_lk (.newarray .boolean) k pc = true) (q : ∃ nx : pm_N, pm_s i (.newarray .boolean) k pc ls st h = some nx ∧ pm_lp (pm_ev d) i n nx.1 nx.2.1 nx.2.2.1 nx.2.2.2 r9 h9) : pm_Wg p l e R s m args below meth c D aC h0 h9 a0 r9 pc adr H locs lsM st cells slots := by
  obtain ⟨hx, hb, hml, hr, hown, hts, hKK, hlk, hnm, hR, hi⟩ := X
  have ek : k = 2 := by simpa [pm_lk, pm_ln] using hk
  subst ek
  simp only [pm_s, pm_oi_iff, pm_ol_iff, pm_oq_iff, pm_or_iff, pm_oli_iff, pm_oll_iff, pm_olq_iff, pm_if_iff, pm_br_iff, pm_some_iff] at q
  obtain ⟨x, s1, rfl, ⟨hx0, hx1⟩, g⟩ := pm_i_ex q
  have hrm := pm_room hR hH g
  have hI : pm_I32 x := hF.head
  have harr : Cond.arrayClass .boolean ∈ pm_W := List.mem_filter.mpr ⟨by decide +kernel, rfl⟩
  have hc8 : componentBytes .boolean ≤ 8 := by decide
  have hby : x.toNat * componentBytes .boolean ≤ 536870912 := Nat.le_trans (Nat.mul_le_mul (show x.toNat ≤ 4000 by omega) hc8) (by decide)
  refine va_newa (D := D) (cl := pm_cl) (tys := pm_tys aC) (atype := .boolean) (ty := .boolean) (a0 := ((x.toNat, .inl fun _ => (0 : Int32)) : vp_A)) hx hb (hts _ harr) rfl hKK.1 hH.1 hH.2.1 hH.2.2.1 (fun w hw => Or.inr hw) (fun cA => rfl) (fun w => by have := (pm_lt0' hI).mp w; omega) (pm_cl32 hI) hby hrm.1 hrm.2 hd (fun a cA H1 hK2 hP hD hS => ?_)
  have ec : cA = aC 22 := pm_RA_eq (pm_last hK2) (hKK.1.2 2 _ rfl).2
  subst ec
  have hH2 := pm_HI.new (t := 22) (n := x.toNat) (a := a) hH (Or.inr ⟨by decide, by decide, by omega⟩) (by
    rw [pm_cell_z]
    have hz1 : ∀ j, (pm_nw h 22 x.toNat).1 h.2.2.length j = 0 := fun j => if_pos rfl
    simp only [hz1]
    rfl) hP hD hS
  have hgo := ih _ _ _ _ _ _ _ _ _ _ g hH2 hF.tail.new
  unfold pm_Wg at hgo
  rw [pm_tv_new hF.tail.2.2.2] at hgo
  exact hgo
theorem pz_anewarray {z : Nat} (X : pm_Cx p s m args meth c R D aC i d h0 h9) (ih : pm_Go p l e R s m args below meth c D aC i d h0 h9 a0 r9 n) (hH : pm_HI s D aC a0 h0 adr h H locs cells slots) (hF : pm_FI i adr h.2.2.length ls lsM st) (hd : decode (pm_b i) pc = .ok (.anewarray z, k)) (hk : pm_lk (.anewarray z) k pc = true) (q : ∃ nx : pm_N, pm_s i (.anewarray z) k pc ls st h = some nx ∧ pm_lp (pm_ev d) i n nx.1 nx.2.1 nx.2.2.1 nx.2.2.2 r9 h9) : pm_Wg p l e R s m args below meth c D aC h0 h9 a0 r9 pc adr H locs lsM st cells slots := by
  obtain ⟨hx, hb, hml, hr, hown, hts, hKK, hlk, hnm, hR, hi⟩ := X
  have ek : k = 3 := by simpa [pm_lk, pm_ln] using hk
  subst ek
  simp only [pm_s] at q
  cases hL : pm_CT.lookup (pm_ow i, z) with
  | none => rw [hL] at q; obtain ⟨_, q, _⟩ := q; cases q
  | some y =>
    obtain ⟨cn, wi⟩ := y
    rw [hL] at q
    dsimp only at q
    have ok := pm_lookup pm_okCT hL
    by_cases ec0 : cn = "LoomShed$Piece"
    · subst ec0
      rw [if_pos rfl] at q
      have q0 := pm_oi_iff.mp q
      clear q
      obtain ⟨x, s1, rfl, q1⟩ := pm_i_ex q0
      obtain ⟨⟨hx0, hx1⟩, g⟩ := pm_if_iff.mp q1
      dsimp only at g
      have hrm := pm_room hR hH g
      have hI : pm_I32 x := hF.head
      refine va_newq (D := D) (cl := pm_cl) (tys := pm_tys aC) (C := "LoomShed$Piece") hx hb hown (hts _ (pm_hw_W ok rfl)) (hKK.2.2.2.1) hKK.1 hH.1 hH.2.1 hH.2.2.1 (fun w hw => Or.inr hw) (fun w => by have := (pm_lt0' hI).mp w; omega) (pm_cl32 hI) (by omega) hrm.1 hrm.2 hd (fun a cA H1 hK2 hP hD hS => ?_)
      have ec : cA = aC 24 := pm_RA_eq (pm_last hK2) (hKK.1.2 4 _ rfl).2
      subst ec
      have hH2 := pm_HI.new (t := 24) (n := x.toNat) (a := a) hH (Or.inr ⟨by decide, by decide, by omega⟩) (by
        rw [pm_cell_r (by decide)]
        have hz1 : ∀ j, (pm_nw h 24 x.toNat).2.1 h.2.2.length j = none := fun j => if_pos rfl
        simp only [hz1]
        rfl) hP hD hS
      have hgo := ih _ _ _ _ _ _ _ _ _ _ g hH2 hF.tail.new
      unfold pm_Wg at hgo
      rw [pm_tv_new hF.tail.2.2.2] at hgo
      exact hgo
    by_cases ec1 : cn = "LoomShed$Shed"
    · subst ec1
      rw [if_neg (by decide), if_pos rfl] at q
      have q0 := pm_oi_iff.mp q
      clear q
      obtain ⟨x, s1, rfl, q1⟩ := pm_i_ex q0
      obtain ⟨⟨hx0, hx1⟩, g⟩ := pm_if_iff.mp q1
      dsimp only at g
      have hrm := pm_room hR hH g
      have hI : pm_I32 x := hF.head
      refine va_newq (D := D) (cl := pm_cl) (tys := pm_tys aC) (C := "LoomShed$Shed") hx hb hown (hts _ (pm_hw_W ok rfl)) (hKK.2.2.2.2.1) hKK.1 hH.1 hH.2.1 hH.2.2.1 (fun w hw => Or.inr hw) (fun w => by have := (pm_lt0' hI).mp w; omega) (pm_cl32 hI) (by omega) hrm.1 hrm.2 hd (fun a cA H1 hK2 hP hD hS => ?_)
      have ec : cA = aC 25 := pm_RA_eq (pm_last hK2) (hKK.1.2 5 _ rfl).2
      subst ec
      have hH2 := pm_HI.new (t := 25) (n := x.toNat) (a := a) hH (Or.inr ⟨by decide, by decide, by omega⟩) (by
        rw [pm_cell_r (by decide)]
        have hz1 : ∀ j, (pm_nw h 25 x.toNat).2.1 h.2.2.length j = none := fun j => if_pos rfl
        simp only [hz1]
        rfl) hP hD hS
      have hgo := ih _ _ _ _ _ _ _ _ _ _ g hH2 hF.tail.new
      unfold pm_Wg at hgo
      rw [pm_tv_new hF.tail.2.2.2] at hgo
      exact hgo
    rw [if_neg ec0, if_neg ec1] at q
    obtain ⟨_, q, _⟩ := q
    cases q
end
