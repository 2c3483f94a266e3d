/-! arrays, new cells, casts -/
theorem pm_ws_arr {aC : Nat → ClassId} {adr : Nat → Nat} {h h' : pm_H} {a : Nat} {z : Nat × Nat} {x : va_E} (hz : h.2.2[a]? = some z) (hT : h'.2.2 = h.2.2) (h1 : ∀ q j, q ≠ a → h'.1 q j = h.1 q j) (h2 : ∀ q j, q ≠ a → h'.2.1 q j = h.2.1 q j) (hx : pm_cell aC adr h' a z = x) : (pm_ws aC adr h).set a (adr a, x) = pm_ws aC adr h' :=
  pm_ws_set hz hT hx (fun p y hp => pm_cell_eq y (fun j => h1 p j hp) (fun j => by rw [h2 p j hp]))
theorem pm_up_i {h : pm_H} {a : Nat} {x : Int} {v : Int} : (fun j => Int32.ofInt ((pm_wI h a x.toNat v).1 a j)) = upd (fun j => Int32.ofInt (h.1 a j)) x.toNat (Int32.ofInt v) := by
  funext j
  show Int32.ofInt (pm_up h.1 a x.toNat v a j) = _
  unfold pm_up upd
  rw [if_pos rfl]
  by_cases e : j = x.toNat <;> simp [e]
theorem pm_up_l {h : pm_H} {a : Nat} {x : Int} {v : Int} : (fun j => Int64.ofInt ((pm_wI h a x.toNat v).1 a j)) = vp_updL (fun j => Int64.ofInt (h.1 a j)) x.toNat (Int64.ofInt v) := by
  funext j
  show Int64.ofInt (pm_up h.1 a x.toNat v a j) = _
  unfold pm_up vp_updL
  rw [if_pos rfl]
  by_cases e : j = x.toNat <;> simp [e]
theorem pm_up_r {h : pm_H} {adr : Nat → Nat} {a : Nat} {x : Int} {v : Option Nat} : (fun j => ((pm_wR h a x.toNat v).2.1 a j).map adr) = va_up (fun j => (h.2.1 a j).map adr) x.toNat (v.map adr) := by
  funext j
  show (pm_up h.2.1 a x.toNat v a j).map adr = _
  unfold pm_up va_up
  rw [if_pos rfl]
  by_cases e : j = x.toNat <;> simp [e]
theorem pm_len {h : pm_H} {a t n : Nat} (hG : pm_GH h) (hz : h.2.2[a]? = some (t, n)) (ht : 20 ≤ t) : n ≤ 4000 := by
  rcases hG.1 a t n hz with z | z
  · omega
  · exact z.2.2
theorem pm_nar_z {v : Int} (h : v = 0 ∨ v = 1) : vp_nar .boolean (Int32.ofInt v) = Int32.ofInt v := by
  rcases h with rfl | rfl <;> decide
section
variable {p : Program} {l : Launch} {e : Env} {R : Room} {s : State} {m : MethodId} {args : Array Value} {below : List Frame} {meth : Method} {c : Code} {D : va_G} {aC : Nat → ClassId} {i d : Nat} {h0 h9 : pm_H} {a0 : Nat → Nat} {r9 : Option pm_V} {n pc k : Nat} {ls : pm_L} {st : List pm_V} {h : pm_H} {adr : Nat → Nat} {H : Heap} {locs : List Loc} {lsM : Array Slot} {cells slots : Nat}
theorem pz_iaload (X : pm_Cx p s m args meth c R D aC i d h0 h9) (ih : pm_Go p l e R s m args below meth c D aC i d h0 h9 a0 r9 n) (hH : pm_HI s D aC a0 h0 adr h H locs cells slots) (hF : pm_FI i adr h.2.2.length ls lsM st) (hd : decode (pm_b i) pc = .ok (.iaload, k)) (hk : pm_lk (.iaload) k pc = true) (q : ∃ nx : pm_N, pm_s i (.iaload) k pc ls st h = some nx ∧ pm_lp (pm_ev d) i n nx.1 nx.2.1 nx.2.2.1 nx.2.2.2 r9 h9) : pm_Wg p l e R s m args below meth c D aC h0 h9 a0 r9 pc adr H locs lsM st cells slots := by
  obtain ⟨hx, hb, hml, hr, hown, hts, hKK, hlk, hnm, hR, hi⟩ := X
  have ek : k = 1 := by simpa [pm_lk, pm_ln] using hk
  subst ek
  simp only [pm_s, pm_oi_iff, pm_ol_iff, pm_oq_iff, pm_or_iff, pm_oli_iff, pm_oll_iff, pm_olq_iff, pm_if_iff, pm_br_iff, pm_some_iff] at q
  obtain ⟨x, s0, rfl, q1⟩ := pm_i_ex q
  obtain ⟨a, s1, rfl, ⟨N, hT, hx0, hx1⟩, g⟩ := pm_r_ex q1
  have hN := pm_len hH.2.2.2.1 hT (by decide)
  have he := pm_ws_get (aC := aC) (adr := adr) hT
  rw [pm_cell_i] at he
  refine va_iald (D := D) (cl := pm_cl) hx hb hKK.1 hH.1 a 0 he rfl (pm_in hx0 hx1 hN) hd ?_
  rw [pm_ix hx0 hx1 hN]
  exact ih _ _ _ _ _ _ _ _ _ _ g hH (hF.tail.tail.push (v := .inl (h.1 a x.toNat)) ((hH.2.2.2.1.2.1 a 20 N x.toNat hT).1 rfl))
theorem pz_baload (X : pm_Cx p s m args meth c R D aC i d h0 h9) (ih : pm_Go p l e R s m args below meth c D aC i d h0 h9 a0 r9 n) (hH : pm_HI s D aC a0 h0 adr h H locs cells slots) (hF : pm_FI i adr h.2.2.length ls lsM st) (hd : decode (pm_b i) pc = .ok (.baload, k)) (hk : pm_lk (.baload) k pc = true) (q : ∃ nx : pm_N, pm_s i (.baload) k pc ls st h = some nx ∧ pm_lp (pm_ev d) i n nx.1 nx.2.1 nx.2.2.1 nx.2.2.2 r9 h9) : pm_Wg p l e R s m args below meth c D aC h0 h9 a0 r9 pc adr H locs lsM st cells slots := by
  obtain ⟨hx, hb, hml, hr, hown, hts, hKK, hlk, hnm, hR, hi⟩ := X
  have ek : k = 1 := by simpa [pm_lk, pm_ln] using hk
  subst ek
  simp only [pm_s, pm_oi_iff, pm_ol_iff, pm_oq_iff, pm_or_iff, pm_oli_iff, pm_oll_iff, pm_olq_iff, pm_if_iff, pm_br_iff, pm_some_iff] at q
  obtain ⟨x, s0, rfl, q1⟩ := pm_i_ex q
  obtain ⟨a, s1, rfl, ⟨N, hT, hx0, hx1⟩, g⟩ := pm_r_ex q1
  have hN := pm_len hH.2.2.2.1 hT (by decide)
  have he := pm_ws_get (aC := aC) (adr := adr) hT
  rw [pm_cell_z] at he
  refine va_zald (D := D) (cl := pm_cl) hx hb hKK.1 hH.1 a 2 he rfl (pm_in hx0 hx1 hN) hd ?_
  rw [pm_ix hx0 hx1 hN]
  exact ih _ _ _ _ _ _ _ _ _ _ g hH (hF.tail.tail.push (v := .inl (h.1 a x.toNat)) (pm_01 ((hH.2.2.2.1.2.1 a 22 N x.toNat hT).2.1 rfl)))
theorem pz_laload (X : pm_Cx p s m args meth c R D aC i d h0 h9) (ih : pm_Go p l e R s m args below meth c D aC i d h0 h9 a0 r9 n) (hH : pm_HI s D aC a0 h0 adr h H locs cells slots) (hF : pm_FI i adr h.2.2.length ls lsM st) (hd : decode (pm_b i) pc = .ok (.laload, k)) (hk : pm_lk (.laload) k pc = true) (q : ∃ nx : pm_N, pm_s i (.laload) k pc ls st h = some nx ∧ pm_lp (pm_ev d) i n nx.1 nx.2.1 nx.2.2.1 nx.2.2.2 r9 h9) : pm_Wg p l e R s m args below meth c D aC h0 h9 a0 r9 pc adr H locs lsM st cells slots := by
  obtain ⟨hx, hb, hml, hr, hown, hts, hKK, hlk, hnm, hR, hi⟩ := X
  have ek : k = 1 := by simpa [pm_lk, pm_ln] using hk
  subst ek
  simp only [pm_s, pm_oi_iff, pm_ol_iff, pm_oq_iff, pm_or_iff, pm_oli_iff, pm_oll_iff, pm_olq_iff, pm_if_iff, pm_br_iff, pm_some_iff] at q
  obtain ⟨x, s0, rfl, q1⟩ := pm_i_ex q
  obtain ⟨a, s1, rfl, ⟨N, hT, hx0, hx1⟩, g⟩ := pm_r_ex q1
  have hN := pm_len hH.2.2.2.1 hT (by decide)
  have he := pm_ws_get (aC := aC) (adr := adr) hT
  rw [pm_cell_l] at he
  refine va_lald (D := D) (cl := pm_cl) hx hb hKK.1 hH.1 a 1 he rfl (pm_in hx0 hx1 hN) hd ?_
  rw [pm_ix hx0 hx1 hN]
  exact ih _ _ _ _ _ _ _ _ _ _ g hH (hF.tail.tail.push (v := .inr (.inl (h.1 a x.toNat))) ((hH.2.2.2.1.2.1 a 21 N x.toNat hT).2.2 rfl))
theorem pz_aaload (X : pm_Cx p s m args meth c R D aC i d h0 h9) (ih : pm_Go p l e R s m args below meth c D aC i d h0 h9 a0 r9 n) (hH : pm_HI s D aC a0 h0 adr h H locs cells slots) (hF : pm_FI i adr h.2.2.length ls lsM st) (hd : decode (pm_b i) pc = .ok (.aaload, k)) (hk : pm_lk (.aaload) k pc = true) (q : ∃ nx : pm_N, pm_s i (.aaload) k pc ls st h = some nx ∧ pm_lp (pm_ev d) i n nx.1 nx.2.1 nx.2.2.1 nx.2.2.2 r9 h9) : pm_Wg p l e R s m args below meth c D aC h0 h9 a0 r9 pc adr H locs lsM st cells slots := by
  obtain ⟨hx, hb, hml, hr, hown, hts, hKK, hlk, hnm, hR, hi⟩ := X
  have ek : k = 1 := by simpa [pm_lk, pm_ln] using hk
  subst ek
  simp only [pm_s, pm_oi_iff, pm_ol_iff, pm_oq_iff, pm_or_iff, pm_oli_iff, pm_oll_iff, pm_olq_iff, pm_if_iff, pm_br_iff, pm_some_iff] at q
  obtain ⟨x, s0, rfl, q1⟩ := pm_i_ex q
  obtain ⟨a, s1, rfl, hT3, g⟩ := pm_r_ex q1
  have hgv : pm_gv h.2.2.length (.inr (.inr (h.2.1 a x.toNat))) := by
    cases e : h.2.1 a x.toNat with
    | none => trivial
    | some w => exact hH.2.2.2.1.2.2 a x.toNat w e
  rcases hT3 with ⟨N, hT, hx0, hx1⟩ | ⟨N, hT, hx0, hx1⟩ | ⟨N, hT, hx0, hx1⟩
  · have hN := pm_len hH.2.2.2.1 hT (by decide)
    have he := pm_ws_get (aC := aC) (adr := adr) hT
    rw [pm_cell_r (by decide)] at he
    have hin := pm_in hx0 hx1 hN
    have hlt : (Int32.ofInt x).toNatClampNeg < N := Nat.not_le.mp fun z => hin (Or.inr z)
    have harr := (hKK.1.2 3 (aC 23, .array .int) rfl).1
    refine W.aald (v := va_rf ((h.2.1 a x.toNat).map adr)) (ty := .array .int) hx hb (hH.1 a _ he) (harr N (fun j => va_rf ((h.2.1 a j).map adr))) rfl (fun z => by cases z) (by show ¬ (Int32.ofInt x < 0 ∨ (arrV _ _ _).slots.size ≤ _); rw [arrV_size]; exact hin) (by show (arrV _ _ _).slots[_]? = _; rw [arrV_read _ _ hlt, pm_ix hx0 hx1 hN]) rfl rfl hd ?_
    exact ih _ _ _ _ _ _ _ _ _ _ g hH (hF.tail.tail.push hgv)
  · have hN := pm_len hH.2.2.2.1 hT (by decide)
    have he := pm_ws_get (aC := aC) (adr := adr) hT
    rw [pm_cell_r (by decide)] at he
    refine va_aldq (D := D) (cl := pm_cl) hx hb hKK.1 hH.1 a 4 he rfl (pm_in hx0 hx1 hN) hd ?_
    rw [pm_ix hx0 hx1 hN]
    exact ih _ _ _ _ _ _ _ _ _ _ g hH (hF.tail.tail.push hgv)
  · have hN := pm_len hH.2.2.2.1 hT (by decide)
    have he := pm_ws_get (aC := aC) (adr := adr) hT
    rw [pm_cell_r (by decide)] at he
    refine va_aldq (D := D) (cl := pm_cl) hx hb hKK.1 hH.1 a 5 he rfl (pm_in hx0 hx1 hN) hd ?_
    rw [pm_ix hx0 hx1 hN]
    exact ih _ _ _ _ _ _ _ _ _ _ g hH (hF.tail.tail.push hgv)
theorem pz_iastore (X : pm_Cx p s m args meth c R D aC i d h0 h9) (ih : pm_Go p l e R s m args below meth c D aC i d h0 h9 a0 r9 n) (hH : pm_HI s D aC a0 h0 adr h H locs cells slots) (hF : pm_FI i adr h.2.2.length ls lsM st) (hd : decode (pm_b i) pc = .ok (.iastore, k)) (hk : pm_lk (.iastore) k pc = true) (q : ∃ nx : pm_N, pm_s i (.iastore) k pc ls st h = some nx ∧ pm_lp (pm_ev d) i n nx.1 nx.2.1 nx.2.2.1 nx.2.2.2 r9 h9) : pm_Wg p l e R s m args below meth c D aC h0 h9 a0 r9 pc adr H locs lsM st cells slots := by
  obtain ⟨hx, hb, hml, hr, hown, hts, hKK, hlk, hnm, hR, hi⟩ := X
  have ek : k = 1 := by simpa [pm_lk, pm_ln] using hk
  subst ek
  simp only [pm_s, pm_oi_iff, pm_ol_iff, pm_oq_iff, pm_or_iff, pm_oli_iff, pm_oll_iff, pm_olq_iff, pm_if_iff, pm_br_iff, pm_some_iff] at q
  obtain ⟨v, s2, rfl, q1⟩ := pm_i_ex q
  obtain ⟨x, s0, rfl, q2⟩ := pm_i_ex q1
  obtain ⟨a, s1, rfl, ⟨N, hT, hx0, hx1⟩, g⟩ := pm_r_ex q2
  have hN := pm_len hH.2.2.2.1 hT (by decide)
  have he := pm_ws_get (aC := aC) (adr := adr) hT
  rw [pm_cell_i] at he
  refine va_iast (D := D) (cl := pm_cl) hx hb hKK.1 hH.1 hH.2.1 hH.2.2.1 a 0 he rfl (pm_in hx0 hx1 hN) hd (fun H1 locs1 hP hD hS => ?_)
  rw [pm_ix hx0 hx1 hN, pm_ws_arr (h' := pm_wI h a x.toNat v) hT rfl (fun w j hw => pm_up_ne (fun z => hw z.1)) (fun _ _ _ => rfl) (by rw [pm_cell_i, pm_up_i])] at hP hD
  exact ih _ _ _ _ _ _ _ _ _ _ g (hH.wr rfl (pm_GH_wI hH.2.2.2.1 hT ⟨fun _ => hF.head, fun z => (by cases z), fun z => (by cases z)⟩) hP hD hS) hF.tail.tail.tail
theorem pz_lastore (X : pm_Cx p s m args meth c R D aC i d h0 h9) (ih : pm_Go p l e R s m args below meth c D aC i d h0 h9 a0 r9 n) (hH : pm_HI s D aC a0 h0 adr h H locs cells slots) (hF : pm_FI i adr h.2.2.length ls lsM st) (hd : decode (pm_b i) pc = .ok (.lastore, k)) (hk : pm_lk (.lastore) k pc = true) (q : ∃ nx : pm_N, pm_s i (.lastore) k pc ls st h = some nx ∧ pm_lp (pm_ev d) i n nx.1 nx.2.1 nx.2.2.1 nx.2.2.2 r9 h9) : pm_Wg p l e R s m args below meth c D aC h0 h9 a0 r9 pc adr H locs lsM st cells slots := by
  obtain ⟨hx, hb, hml, hr, hown, hts, hKK, hlk, hnm, hR, hi⟩ := X
  have ek : k = 1 := by simpa [pm_lk, pm_ln] using hk
  subst ek
  simp only [pm_s, pm_oi_iff, pm_ol_iff, pm_oq_iff, pm_or_iff, pm_oli_iff, pm_oll_iff, pm_olq_iff, pm_if_iff, pm_br_iff, pm_some_iff] at q
  obtain ⟨v, s2, rfl, q1⟩ := pm_l_ex q
  obtain ⟨x, s0, rfl, q2⟩ := pm_i_ex q1
  obtain ⟨a, s1, rfl, ⟨N, hT, hx0, hx1⟩, g⟩ := pm_r_ex q2
  have hN := pm_len hH.2.2.2.1 hT (by decide)
  have he := pm_ws_get (aC := aC) (adr := adr) hT
  rw [pm_cell_l] at he
  refine va_last (D := D) (cl := pm_cl) hx hb hKK.1 hH.1 hH.2.1 hH.2.2.1 a 1 he rfl (pm_in hx0 hx1 hN) hd (fun H1 locs1 hP hD hS => ?_)
  rw [pm_ix hx0 hx1 hN, pm_ws_arr (h' := pm_wI h a x.toNat v) hT rfl (fun w j hw => pm_up_ne (fun z => hw z.1)) (fun _ _ _ => rfl) (by rw [pm_cell_l, pm_up_l])] at hP hD
  exact ih _ _ _ _ _ _ _ _ _ _ g (hH.wr rfl (pm_GH_wI hH.2.2.2.1 hT ⟨fun z => (by cases z), fun z => (by cases z), fun _ => hF.head⟩) hP hD hS) hF.tail.tail.tail
theorem pz_bastore (X : pm_Cx p s m args meth c R D aC i d h0 h9) (ih : pm_Go p l e R s m args below meth c D aC i d h0 h9 a0 r9 n) (hH : pm_HI s D aC a0 h0 adr h H locs cells slots) (hF : pm_FI i adr h.2.2.length ls lsM st) (hd : decode (pm_b i) pc = .ok (.bastore, k)) (hk : pm_lk (.bastore) k pc = true) (q : ∃ nx : pm_N, pm_s i (.bastore) k pc ls st h = some nx ∧ pm_lp (pm_ev d) i n nx.1 nx.2.1 nx.2.2.1 nx.2.2.2 r9 h9) : pm_Wg p l e R s m args below meth c D aC h0 h9 a0 r9 pc adr H locs lsM st cells slots := by
  obtain ⟨hx, hb, hml, hr, hown, hts, hKK, hlk, hnm, hR, hi⟩ := X
  have ek : k = 1 := by simpa [pm_lk, pm_ln] using hk
  subst ek
  simp only [pm_s, pm_oi_iff, pm_ol_iff, pm_oq_iff, pm_or_iff, pm_oli_iff, pm_oll_iff, pm_olq_iff, pm_if_iff, pm_br_iff, pm_some_iff] at q
  obtain ⟨v, s2, rfl, q1⟩ := pm_i_ex q
  obtain ⟨x, s0, rfl, q2⟩ := pm_i_ex q1
  obtain ⟨a, s1, rfl, ⟨h01, N, hT, hx0, hx1⟩, g⟩ := pm_r_ex q2
  have hN := pm_len hH.2.2.2.1 hT (by decide)
  have he := pm_ws_get (aC := aC) (adr := adr) hT
  rw [pm_cell_z] at he
  refine va_zast (D := D) (cl := pm_cl) hx hb hKK.1 hH.1 hH.2.1 hH.2.2.1 a 2 he rfl (pm_in hx0 hx1 hN) hd (fun H1 locs1 hP hD hS => ?_)
  rw [pm_nar_z h01, pm_ix hx0 hx1 hN, pm_ws_arr (h' := pm_wI h a x.toNat v) hT rfl (fun w j hw => pm_up_ne (fun z => hw z.1)) (fun _ _ _ => rfl) (by rw [pm_cell_z, pm_up_i])] at hP hD
  exact ih _ _ _ _ _ _ _ _ _ _ g (hH.wr rfl (pm_GH_wI hH.2.2.2.1 hT ⟨fun z => (by cases z), fun _ => h01, fun z => (by cases z)⟩) hP hD hS) hF.tail.tail.tail
theorem pm_cast {t : Nat} (hKK : pm_KK D aC s) (ht : t ∈ [0, 2, 9, 10]) : va_Nw (.castable (pm_cn t) "LoomShed$Piece") s := by
  refine hKK.2.1 _ (List.mem_filter.mpr ⟨?_, rfl⟩)
  simp only [List.mem_cons, List.not_mem_nil, or_false] at ht
  rcases ht with rfl | rfl | rfl | rfl <;> decide +kernel
theorem pz_aastore (X : pm_Cx p s m args meth c R D aC i d h0 h9) (ih : pm_Go p l e R s m args below meth c D aC i d h0 h9 a0 r9 n) (hH : pm_HI s D aC a0 h0 adr h H locs cells slots) (hF : pm_FI i adr h.2.2.length ls lsM st) (hd : decode (pm_b i) pc = .ok (.aastore, k)) (hk : pm_lk (.aastore) k pc = true) (q : ∃ nx : pm_N, pm_s i (.aastore) k pc ls st h = some nx ∧ pm_lp (pm_ev d) i n nx.1 nx.2.1 nx.2.2.1 nx.2.2.2 r9 h9) : pm_Wg p l e R s m args below meth c D aC h0 h9 a0 r9 pc adr H locs lsM st cells slots := by
  obtain ⟨hx, hb, hml, hr, hown, hts, hKK, hlk, hnm, hR, hi⟩ := X
  have ek : k = 1 := by simpa [pm_lk, pm_ln] using hk
  subst ek
  simp only [pm_s, pm_oi_iff, pm_ol_iff, pm_oq_iff, pm_or_iff, pm_oli_iff, pm_oll_iff, pm_olq_iff, pm_if_iff, pm_br_iff, pm_some_iff] at q
  obtain ⟨v, s2, rfl, q1⟩ := pm_q_ex q
  obtain ⟨x, s0, rfl, q2⟩ := pm_i_ex q1
  obtain ⟨a, s1, rfl, hcs, g⟩ := pm_r_ex q2
  have hr2 : ∀ w, v = some w → w < h.2.2.length := fun w hw => by have hhd : pm_gv h.2.2.length (.inr (.inr v)) := hF.head; rw [hw] at hhd; exact hhd
  rcases hcs with ⟨⟨N, hT, hx0, hx1⟩, hv⟩ | ⟨⟨N, hT, hx0, hx1⟩, hv⟩
  · have hN := pm_len hH.2.2.2.1 hT (by decide)
    have he := pm_ws_get (aC := aC) (adr := adr) hT
    rw [pm_cell_r (by decide)] at he
    have hgo : ∀ (H1 : Heap) (locs1 : List Loc), va_P D pm_cl ((pm_ws aC adr h).set a (adr a, .inl (aC 24, N, .inr (.inr (.inr (.inr (va_up (fun j => (h.2.1 a j).map adr) (Int32.ofInt x).toNatClampNeg (v.map adr)))))))) H1 → va_D (pm_A s aC a0 h0) ((pm_ws aC adr h).set a (adr a, .inl (aC 24, N, .inr (.inr (.inr (.inr (va_up (fun j => (h.2.1 a j).map adr) (Int32.ofInt x).toNatClampNeg (v.map adr)))))))) → va_S (pm_A s aC a0 h0) s.heap H1 locs1 → pm_Wg p l e R s m args below meth c D aC h0 h9 a0 r9 (pc + 1) adr H1 locs1 lsM s1 cells slots := by
      intro H1 locs1 hP hD hS
      rw [pm_ix hx0 hx1 hN, pm_ws_arr (h' := pm_wR h a x.toNat v) hT rfl (fun _ _ _ => rfl) (fun w j hw => pm_up_ne (fun z => hw z.1)) (by rw [pm_cell_r (by decide), pm_up_r])] at hP hD
      exact ih _ _ _ _ _ _ _ _ _ _ g (hH.wr rfl (pm_GH_wR hH.2.2.2.1 hr2) hP hD hS) hF.tail.tail.tail
    cases v with
    | none => exact va_astqN (D := D) (cl := pm_cl) hx hb hKK.1 hH.1 hH.2.1 hH.2.2.1 a 4 he rfl (pm_in hx0 hx1 hN) hd hgo
    | some w =>
      obtain ⟨t, N2, ht, hT2⟩ := hv w rfl
      have ht13 : t < 13 := by simp at ht; omega
      have he2 := pm_ws_get (aC := aC) (adr := adr) hT2
      rw [pm_cell_ob ht13] at he2
      by_cases e6 : t = 6
      · subst e6
        exact va_astq (D := D) (cl := pm_cl) (r := (pm_cn 6, pm_T 6, pm_nf 6)) hx hb hKK.1 hH.1 hH.2.1 hH.2.2.1 a 4 w 6 he rfl he2 (pm_cl_get (by decide)) (pm_in hx0 hx1 hN) hd hgo
      · exact va_astqO (D := D) (cl := pm_cl) (r := (pm_cn t, pm_T t, pm_nf t)) (E := "LoomShed$Piece") hx hb hKK.1 hH.1 hH.2.1 hH.2.2.1 a 4 w t he rfl (pm_cast hKK (by simp at ht ⊢; omega)) he2 (pm_cl_get ht13) (pm_in hx0 hx1 hN) hd hgo
  · have hN := pm_len hH.2.2.2.1 hT (by decide)
    have he := pm_ws_get (aC := aC) (adr := adr) hT
    rw [pm_cell_r (by decide)] at he
    have hgo : ∀ (H1 : Heap) (locs1 : List Loc), va_P D pm_cl ((pm_ws aC adr h).set a (adr a, .inl (aC 25, N, .inr (.inr (.inr (.inr (va_up (fun j => (h.2.1 a j).map adr) (Int32.ofInt x).toNatClampNeg (v.map adr)))))))) H1 → va_D (pm_A s aC a0 h0) ((pm_ws aC adr h).set a (adr a, .inl (aC 25, N, .inr (.inr (.inr (.inr (va_up (fun j => (h.2.1 a j).map adr) (Int32.ofInt x).toNatClampNeg (v.map adr)))))))) → va_S (pm_A s aC a0 h0) s.heap H1 locs1 → pm_Wg p l e R s m args below meth c D aC h0 h9 a0 r9 (pc + 1) adr H1 locs1 lsM s1 cells slots := by
      intro H1 locs1 hP hD hS
      rw [pm_ix hx0 hx1 hN, pm_ws_arr (h' := pm_wR h a x.toNat v) hT rfl (fun _ _ _ => rfl) (fun w j hw => pm_up_ne (fun z => hw z.1)) (by rw [pm_cell_r (by decide), pm_up_r])] at hP hD
      exact ih _ _ _ _ _ _ _ _ _ _ g (hH.wr rfl (pm_GH_wR hH.2.2.2.1 hr2) hP hD hS) hF.tail.tail.tail
    cases v with
    | none => exact va_astqN (D := D) (cl := pm_cl) hx hb hKK.1 hH.1 hH.2.1 hH.2.2.1 a 5 he rfl (pm_in hx0 hx1 hN) hd hgo
    | some w =>
      obtain ⟨t, N2, ht, hT2⟩ := hv w rfl
      have ht13 : t < 13 := by simp at ht; omega
      have he2 := pm_ws_get (aC := aC) (adr := adr) hT2
      rw [pm_cell_ob ht13] at he2
      have e8 : t = 8 := by simpa using ht
      subst e8
      exact va_astq (D := D) (cl := pm_cl) (r := (pm_cn 8, pm_T 8, pm_nf 8)) hx hb hKK.1 hH.1 hH.2.1 hH.2.2.1 a 5 w 8 he rfl he2 (pm_cl_get (by decide)) (pm_in hx0 hx1 hN) hd hgo
theorem pz_arraylength (X : pm_Cx p s m args meth c R D aC i d h0 h9) (ih : pm_Go p l e R s m args below meth c D aC i d h0 h9 a0 r9 n) (hH : pm_HI s D aC a0 h0 adr h H locs cells slots) (hF : pm_FI i adr h.2.2.length ls lsM st) (hd : decode (pm_b i) pc = .ok (.arraylength, k)) (hk : pm_lk (.arraylength) k pc = true) (q : ∃ nx : pm_N, pm_s i (.arraylength) k pc ls st h = some nx ∧ pm_lp (pm_ev d) i n nx.1 nx.2.1 nx.2.2.1 nx.2.2.2 r9 h9) : pm_Wg p l e R s m args below meth c D aC h0 h9 a0 r9 pc adr H locs lsM st cells slots := by
  obtain ⟨hx, hb, hml, hr, hown, hts, hKK, hlk, hnm, hR, hi⟩ := X
  have ek : k = 1 := by simpa [pm_lk, pm_ln] using hk
  subst ek
  simp only [pm_s] at q
  have q0 := pm_or_iff.mp q
  clear q
  obtain ⟨a, s1, rfl, q1⟩ := pm_r_ex q0
  cases hT : h.2.2[a]? with
  | none => rw [hT] at q1; obtain ⟨_, q1, _⟩ := q1; cases q1
  | some y =>
    obtain ⟨t, N⟩ := y
    rw [hT] at q1
    obtain ⟨ht, g⟩ := pm_if_iff.mp q1
    subst ht
    have hN := pm_len hH.2.2.2.1 hT (by decide)
    have he := pm_ws_get (aC := aC) (adr := adr) hT
    rw [pm_cell_i] at he
    refine va_alen (D := D) (cl := pm_cl) hx hb hKK.1 hH.1 a 0 he rfl (v := Int32.ofInt (N : Int)) Int32.ofInt_eq_ofNat.symm hd ?_
    exact ih _ _ _ _ _ _ _ _ _ _ g hH (hF.tail.push (v := .inl (N : Int)) (show pm_I32 _ by unfold pm_I32; omega))
theorem pz_checkcast {z : Nat} (X : pm_Cx p s m args meth c R D aC i d h0 h9) (ih : pm_Go p l e R s m args below meth c D aC i d h0 h9 a0 r9 n) (hH : pm_HI s D aC a0 h0 adr h H locs cells slots) (hF : pm_FI i adr h.2.2.length ls lsM st) (hd : decode (pm_b i) pc = .ok (.checkcast z, k)) (hk : pm_lk (.checkcast z) k pc = true) (q : ∃ nx : pm_N, pm_s i (.checkcast z) k pc ls st h = some nx ∧ pm_lp (pm_ev d) i n nx.1 nx.2.1 nx.2.2.1 nx.2.2.2 r9 h9) : pm_Wg p l e R s m args below meth c D aC h0 h9 a0 r9 pc adr H locs lsM st cells slots := by
  obtain ⟨hx, hb, hml, hr, hown, hts, hKK, hlk, hnm, hR, hi⟩ := X
  have ek : k = 3 := by simpa [pm_lk, pm_ln] using hk
  subst ek
  simp only [pm_s] at q
  cases hL : pm_CT.lookup (pm_ow i, z) with
  | none => rw [hL] at q; obtain ⟨_, q, _⟩ := q; cases q
  | some y =>
    obtain ⟨cn, wi⟩ := y
    rw [hL] at q
    have q0 := pm_or_iff.mp q
    clear q
    obtain ⟨a, s1, rfl, q1⟩ := pm_r_ex q0
    cases hT : h.2.2[a]? with
    | none => rw [hT] at q1; obtain ⟨_, q1, _⟩ := q1; cases q1
    | some y =>
      obtain ⟨t, N⟩ := y
      rw [hT] at q1
      obtain ⟨⟨ht, hcn⟩, g⟩ := pm_if_iff.mp q1
      subst hcn
      have ok := pm_lookup pm_okCT hL
      have he := pm_ws_get (aC := aC) (adr := adr) hT
      rw [pm_cell_ob ht] at he
      refine va_castS hx hb hown (hts _ (pm_hw_W ok rfl)) (hKK.1.1 t _ (pm_cl_get ht)).2 (va_recv hKK.1 hH.1 (pm_cl_get ht) he) hd ?_
      exact ih _ _ _ _ _ _ _ _ _ _ g hH hF
theorem pz_instanceof {z : Nat} (X : pm_Cx p s m args meth c R D aC i d h0 h9) (ih : pm_Go p l e R s m args below meth c D aC i d h0 h9 a0 r9 n) (hH : pm_HI s D aC a0 h0 adr h H locs cells slots) (hF : pm_FI i adr h.2.2.length ls lsM st) (hd : decode (pm_b i) pc = .ok (.instanceof z, k)) (hk : pm_lk (.instanceof z) k pc = true) (q : ∃ nx : pm_N, pm_s i (.instanceof z) k pc ls st h = some nx ∧ pm_lp (pm_ev d) i n nx.1 nx.2.1 nx.2.2.1 nx.2.2.2 r9 h9) : pm_Wg p l e R s m args below meth c D aC h0 h9 a0 r9 pc adr H locs lsM st cells slots := by
  obtain ⟨hx, hb, hml, hr, hown, hts, hKK, hlk, hnm, hR, hi⟩ := X
  have ek : k = 3 := by simpa [pm_lk, pm_ln] using hk
  subst ek
  simp only [pm_s] at q
  cases hL : pm_CT.lookup (pm_ow i, z) with
  | none => rw [hL] at q; obtain ⟨_, q, _⟩ := q; cases q
  | some y =>
    obtain ⟨cn, wi⟩ := y
    rw [hL] at q
    have q0 := pm_oq_iff.mp q
    clear q
    have ok := pm_lookup pm_okCT hL
    obtain ⟨x, s1, rfl, q1⟩ := pm_q_ex q0
    cases x with
    | none =>
      have g := pm_some_iff.mp q1
      refine lv_instN hx hb hd ?_
      exact ih _ _ _ _ _ _ _ _ _ _ g hH (hF.tail.push (v := .inl 0) pm_00)
    | some a =>
      dsimp only at q1
      cases hT : h.2.2[a]? with
      | none => rw [hT] at q1; obtain ⟨_, q1, _⟩ := q1; cases q1
      | some y =>
        obtain ⟨t, N⟩ := y
        rw [hT] at q1
        obtain ⟨⟨hcn, ht⟩, g⟩ := pm_if_iff.mp q1
        have ht13 : t < 13 := by simp at ht; omega
        have he := pm_ws_get (aC := aC) (adr := adr) hT
        rw [pm_cell_ob ht13] at he
        have hrc := va_recv hKK.1 hH.1 (pm_cl_get ht13) he
        by_cases e1 : pm_cn t = cn
        · rw [if_pos e1] at g
          subst e1
          refine va_instS hx hb hown (hts _ (pm_hw_W ok rfl)) (hKK.1.1 t _ (pm_cl_get ht13)).2 hrc hd ?_
          exact ih _ _ _ _ _ _ _ _ _ _ g hH (hF.tail.push (v := .inl 1) (show pm_I32 1 by unfold pm_I32; decide))
        · rw [if_neg e1] at g
          have hnc : (pm_cn t, cn) ∈ pm_ncs := by
            simp only [List.mem_cons, List.not_mem_nil, or_false] at ht
            rcases hcn with rfl | rfl <;> rcases ht with rfl | rfl | rfl | rfl | rfl <;> first | decide | exact absurd rfl e1
          refine va_instNo hx hb hown (hts _ (pm_hw_W ok rfl)) (hKK.2.2.1 _ hnc) hrc hd ?_
          exact ih _ _ _ _ _ _ _ _ _ _ g hH (hF.tail.push (v := .inl 0) pm_00)
theorem pm_wt_cat {adr : Nat → Nat} : ∀ (st : List pm_V), ((st.map (pm_tv adr)).map fun v => v.category).sum = pm_wt st
  | [] => rfl
  | .inl x :: t => by
    rw [List.map_cons, List.map_cons, List.sum_cons, pm_wt_cat t]
    rfl
  | .inr (.inl x) :: t => by
    rw [List.map_cons, List.map_cons, List.sum_cons, pm_wt_cat t]
    rfl
  | .inr (.inr r) :: t => by
    rw [List.map_cons, List.map_cons, List.sum_cons, pm_wt_cat t]
    cases r <;> rfl
theorem pm_okM_at {own idx : Nat} {y : Nat × Nat × List (Nat × Nat) × Bool × List Nat} (hL : pm_MLT.lookup (own, idx) = some y) : pm_okM ((own, idx), y) = true := pm_lookup pm_okMT hL
theorem pz_special9 {z : Nat} (X : pm_Cx p s m args meth c R D aC i d h0 h9) (ih : pm_Go p l e R s m args below meth c D aC i d h0 h9 a0 r9 n) (hH : pm_HI s D aC a0 h0 adr h H locs cells slots) (hF : pm_FI i adr h.2.2.length ls lsM st) (hd : decode (pm_b i) pc = .ok (.invokespecial z, k)) (hk : pm_lk (.invokespecial z) k pc = true) (q : ∃ nx : pm_N, pm_s i (.invokespecial z) k pc ls st h = some nx ∧ pm_lp (pm_ev d) i n nx.1 nx.2.1 nx.2.2.1 nx.2.2.2 r9 h9) : pm_Wg p l e R s m args below meth c D aC h0 h9 a0 r9 pc adr H locs lsM st cells slots := by
  obtain ⟨hx, hb, hml, hr, hown, hts, hKK, hlk, hnm, hR, hi⟩ := X
  have ek : k = 3 := by simpa [pm_lk, pm_ln] using hk
  subst ek
  simp only [pm_s] at q
  cases hL : pm_MLT.lookup (pm_ow i, z) with
  | none => rw [hL] at q; obtain ⟨_, q, _⟩ := q; cases q
  | some y =>
    obtain ⟨mode, na, cs, nest, ws⟩ := y
    rw [hL] at q
    by_cases e9 : mode = 9
    · subst e9
      have q0 := pm_or_iff.mp q
      clear q
      obtain ⟨a, s1, rfl, q1⟩ := pm_r_ex q0
      obtain ⟨hw, g⟩ := pm_if_iff.mp q1
      have ok := pm_okM_at hL
      unfold pm_okM at ok
      split at ok <;> first | (next hh => cases hh; done) | (cases ok; done) | skip
      next hh =>
      cases hh
      simp only [Bool.and_eq_true, decide_eq_true_eq] at ok
      refine W.objInit hx hb hown (hts _ (pm_hw_W ok.1.1.2 rfl)) (hts _ (pm_hw_W ok.1.2 rfl)) (hts _ (pm_hw_W ok.2 rfl)) rfl (by rw [hml]; exact hF.1) rfl hd (by rw [hR]; show 1 ≤ d + 1; omega) (by rw [pm_wt_cat, hR]; show 2 * 0 + pm_wt s1 + 12 ≤ 60 * (d + 1); omega) ?_
      exact ih _ _ _ _ _ _ _ _ _ _ g hH hF.tail
    · exfalso
      revert q
      split <;> first | (next hh => cases hh; exact absurd rfl e9) | (intro q; obtain ⟨_, q, _⟩ := q; cases q)
theorem pz_static10 {z : Nat} (hroom : cells ≤ h9.2.2.length - h0.2.2.length ∧ slots ≤ pm_tot h9 - pm_tot h0) (X : pm_Cx p s m args meth c R D aC i d h0 h9) (ih : pm_Go p l e R s m args below meth c D aC i d h0 h9 a0 r9 n) (hH : pm_HI s D aC a0 h0 adr h H locs cells slots) (hF : pm_FI i adr h.2.2.length ls lsM st) (hd : decode (pm_b i) pc = .ok (.invokestatic z, k)) (hk : pm_lk (.invokestatic z) k pc = true) (q : ∃ nx : pm_N, pm_s i (.invokestatic z) k pc ls st h = some nx ∧ pm_lp (pm_ev d) i n nx.1 nx.2.1 nx.2.2.1 nx.2.2.2 r9 h9) : pm_Wg p l e R s m args below meth c D aC h0 h9 a0 r9 pc adr H locs lsM st cells slots := by
  obtain ⟨hx, hb, hml, hr, hown, hts, hKK, hlk, hnm, hR, hi⟩ := X
  have ek : k = 3 := by simpa [pm_lk, pm_ln] using hk
  subst ek
  simp only [pm_s] at q
  cases hL : pm_MLT.lookup (pm_ow i, z) with
  | none => rw [hL] at q; obtain ⟨_, q, _⟩ := q; cases q
  | some y =>
    obtain ⟨mode, na, cs, nest, ws⟩ := y
    rw [hL] at q
    have ok := pm_okM_at hL
    by_cases e10 : mode = 10
    · subst e10
      have q0 := pm_oi_iff.mp q
      clear q
      obtain ⟨y, s0, rfl, q1⟩ := pm_i_ex q0
      have q2 := pm_oi_iff.mp q1
      obtain ⟨x, s1, rfl, q3⟩ := pm_i_ex q2
      obtain ⟨hw, g⟩ := pm_if_iff.mp q3
      unfold pm_okM at ok
      split at ok <;> first | (next hh => cases hh; done) | (cases ok; done) | skip
      next hh =>
      cases hh
      simp only [Bool.and_eq_true, decide_eq_true_eq] at ok
      have hY : pm_I32 y := hF.head
      have hX : pm_I32 x := hF.tail.head
      refine va_mmax hx hb (by rw [hml]; exact hF.1.symm) hown (hts _ (pm_hw_W ok.1.1.1.2 rfl)) (hts _ (pm_hw_W ok.1.1.2 rfl)) (hts _ (pm_hw_W ok.1.2 rfl)) (hts _ (pm_hw_W ok.2 rfl)) (by rw [hR]; show 1 ≤ d + 1; omega) (by rw [pm_wt_cat, hR]; show pm_wt s1 + 13 ≤ 60 * (d + 1); omega) (by rw [hR]; show cells ≤ h9.2.2.length - h0.2.2.length; exact hroom.1) (by rw [hR]; show slots ≤ pm_tot h9 - pm_tot h0; exact hroom.2) hd ?_
      have e2 : (if Int32.ofInt x < Int32.ofInt y then Int32.ofInt y else Int32.ofInt x) = Int32.ofInt (max x y) := by
        by_cases hc : x < y
        · rw [if_pos ((pm_lt32 hX hY).mpr hc), show max x y = y by omega]
        · rw [if_neg (fun w => hc ((pm_lt32 hX hY).mp w)), show max x y = x by omega]
      rw [e2]
      exact ih _ _ _ _ _ _ _ _ _ _ g hH (hF.tail.tail.push (v := .inl (max x y)) (show pm_I32 _ by unfold pm_I32 at hX hY ⊢; omega))
    · by_cases e11 : mode = 11
      · subst e11
        have q0 := pm_oi_iff.mp q
        clear q
        obtain ⟨y, s0, rfl, q1⟩ := pm_i_ex q0
        have q2 := pm_oi_iff.mp q1
        obtain ⟨x, s1, rfl, q3⟩ := pm_i_ex q2
        obtain ⟨hw, g⟩ := pm_if_iff.mp q3
        unfold pm_okM at ok
        split at ok <;> first | (next hh => cases hh; done) | (cases ok; done) | skip
        next hh =>
        cases hh
        simp only [Bool.and_eq_true, decide_eq_true_eq] at ok
        have hY : pm_I32 y := hF.head
        have hX : pm_I32 x := hF.tail.head
        refine va_mmin hx hb (by rw [hml]; exact hF.1.symm) hown (hts _ (pm_hw_W ok.1.1.1.2 rfl)) (hts _ (pm_hw_W ok.1.1.2 rfl)) (hts _ (pm_hw_W ok.1.2 rfl)) (hts _ (pm_hw_W ok.2 rfl)) (by rw [hR]; show 1 ≤ d + 1; omega) (by rw [pm_wt_cat, hR]; show pm_wt s1 + 13 ≤ 60 * (d + 1); omega) (by rw [hR]; show cells ≤ h9.2.2.length - h0.2.2.length; exact hroom.1) (by rw [hR]; show slots ≤ pm_tot h9 - pm_tot h0; exact hroom.2) hd ?_
        have e2 : (if Int32.ofInt y < Int32.ofInt x then Int32.ofInt y else Int32.ofInt x) = Int32.ofInt (min x y) := by
          by_cases hc : y < x
          · rw [if_pos ((pm_lt32 hY hX).mpr hc), show min x y = y by omega]
          · rw [if_neg (fun w => hc ((pm_lt32 hY hX).mp w)), show min x y = x by omega]
        rw [e2]
        exact ih _ _ _ _ _ _ _ _ _ _ g hH (hF.tail.tail.push (v := .inl (min x y)) (show pm_I32 _ by unfold pm_I32 at hX hY ⊢; omega))
      · exfalso
        revert q
        split <;> first | (next hh => cases hh; first | exact absurd rfl e10 | exact absurd rfl e11) | (intro q; obtain ⟨_, q, _⟩ := q; cases q)
end
