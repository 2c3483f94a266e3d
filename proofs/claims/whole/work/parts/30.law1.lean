/-! THE LAW over the pure machine: its calls, its pushes -/
theorem pm_wsub : ∀ w ∈ pm_W, w ∈ lw_tbl := fun _ h => (List.mem_filter.mp h).1
def lw_HI (s : State) (D : va_G) (aC : Nat → ClassId) (adr : Nat → Nat) (h : pm_H) (H : Heap) (locs : List Loc) : Prop := va_P D pm_cl (pm_ws aC adr h) H ∧ va_D (fun q : Nat => s.heap.size ≤ q) (pm_ws aC adr h) ∧ va_S (fun q : Nat => s.heap.size ≤ q) s.heap H locs ∧ pm_GH h
def lw_bd (h : pm_H) : Prop := h.2.2.length ≤ 600000 ∧ pm_tot h ≤ 7302250
section
variable {p : Program} {l : Launch} {e : Env} {s : State} {m : MethodId} {args : Array Value} {below : List Frame} {meth : Method} {c : Code} {D : va_G} {aC : Nat → ClassId} {pc : Nat} {ls : Array Slot} {h : pm_H} {adr : Nat → Nat} {H : Heap} {locs : List Loc} {Q : State → Prop}
theorem lw_after {j : Nat} {as : List pm_V} {rest : List Value} {r1 : Option pm_V} {h1 : pm_H} {a : Array Value} {st0 : List Value} (hI : lw_HI s D aC adr h H locs) (hc : pm_ev 40 j as h r1 h1)
    (hr : va_Run p l e room_1 s m args below meth c H locs h.2.2.length (pm_tot h) (h1.2.2.length - h.2.2.length) (pm_tot h1 - pm_tot h) (F0 m pc ls st0) rest (pm_Qc D aC adr h r1 h1 (va_A (pm_ws aC adr h) H.size) a) (va_A (pm_ws aC adr h) H.size))
    (kk : ∀ (adr1 : Nat → Nat) (H1 : Heap) (locs1 : List Loc), (∀ q, q < h.2.2.length → adr1 q = adr q) → lw_HI s D aC adr1 h1 H1 locs1 → (∀ v, r1 = some v → pm_gv h1.2.2.length v) → W p l e room_1 s m args below meth c H1 locs1 h1.2.2.length (pm_tot h1) Q (F0 m (pc + 3) ls ((r1.map (pm_tv adr1)).toList ++ rest))) :
    W p l e room_1 s m args below meth c H locs h.2.2.length (pm_tot h) Q (F0 m pc ls st0) := by
  intro T hT X
  obtain ⟨v, st₀, t, T', L, e0, X', hL, e1, e2, ⟨⟨adr1, hadr, hv, hP1, hD1, hG1, hg1⟩, hz, hk⟩, hst⟩ := hr T hT X
  obtain ⟨hP, hD, hS, hG⟩ := hI
  rw [e0] at hz hk
  have hle := pm_pre_le (pm_ev_pre 40 j as h r1 h1 hc)
  have hsz : s.heap.size ≤ H.size := hS.1
  have hAA : ∀ q, va_A (pm_ws aC adr h) H.size q → s.heap.size ≤ q := by
    intro q hq
    rcases hq with ⟨k, x, hq⟩ | hq
    · exact hD.2 k (q, x) hq
    · omega
  have hv2 : v = r1.map (pm_tv adr1) := by cases hv; rfl
  subst hv2
  have hS2 : va_S (fun q : Nat => s.heap.size ≤ q) s.heap T'.heap (locs ++ L) := by
    refine ⟨by rw [e1]; omega, fun q h1 h2 => ?_, fun q hq => ?_⟩
    · rw [e1, hk q (Nat.lt_of_lt_of_le h1 hsz) (fun z => h2 (hAA q z))]
      exact hS.2.1 q h1 h2
    · rcases List.mem_append.mp hq with hq | hq
      · exact hS.2.2 q hq
      · exact hAA _ (hL q hq)
  have hgo := kk adr1 T'.heap (locs ++ L) hadr ⟨by rw [e1]; exact hP1, hD1.weaken (fun _ q _ hq => hAA q.1 hq), hS2, hG1⟩ hg1
  have c1 : h.2.2.length + (h1.2.2.length - h.2.2.length) = h1.2.2.length := by omega
  have c2 : pm_tot h + (pm_tot h1 - pm_tot h) = pm_tot h1 := by omega
  rw [c1, c2] at X'
  obtain ⟨t2, a1, b1⟩ := hgo T' rfl X'
  exact ⟨t2, hst t2 a1, b1⟩
theorem lw_pc {as : List pm_V} (hKK : pm_KK D aC s) (hI : lw_HI s D aC adr h H locs) : ∀ U : State, U.heap = H → s.WarmedH U.vm → va_Pc (as.map (pm_tv adr)) (fun U => U.heap.size = H.size ∧ va_P D pm_cl (pm_ws aC adr h) U.heap ∧ pm_KK D aC U ∧ va_D (fun _ => True) (pm_ws aC adr h)) (as.map (pm_tv adr)).toArray U := by
  intro U hU hW
  refine ⟨rfl, by rw [hU], by rw [hU]; exact hI.1, hKK.warm hW, hI.2.1.weaken (fun _ _ _ _ => trivial)⟩
theorem lw_rooms {j : Nat} {h1 : pm_H} (hj : j < 172) : (pm_rm 40 h h1).frames + 1 ≤ room_1.frames ∧ 8 + (pm_mL j + 11) + (pm_rm 40 h h1).locals ≤ room_1.locals := by
  have := (pm_okN_at hj).2.1
  show 40 + 1 ≤ 2048 ∧ 8 + (pm_mL j + 11) + 60 * 40 ≤ 84000
  omega
theorem lw_cr {h1 : pm_H} (hb : lw_bd h1) (hle : h.2.2.length ≤ h1.2.2.length ∧ pm_tot h ≤ pm_tot h1) : h.2.2.length + (h1.2.2.length - h.2.2.length) ≤ room_1.cells ∧ pm_tot h + (pm_tot h1 - pm_tot h) ≤ room_1.slots := by
  have h1 := hb.1
  have h2 := hb.2
  show _ ≤ 600000 ∧ _ ≤ 7302250
  omega
/-- x.method(..): an int comes -/
theorem lw_virt {z na t j q N : Nat} {ws : List Nat} {vs : List pm_V} {rest : List Value} {v : Int} {h1 : pm_H} {nL ra : Nat} (hra : adr q = ra) (hx : p.tables.exec = Jvm.exec) (hb : c.code = code) (hml : c.maxLocals = nL) (hsz : ls.size = nL) (hown : s.vm.findClass (pm_cn 13) = some m.cls) (hts : ∀ w ∈ pm_W, w.before args s = true) (hKK : pm_KK D aC s) (hI : lw_HI s D aC adr h H locs)
    (hL : pm_MLT.lookup (13, z) = some (2, na, [(t, j)], false, ws)) (hT : h.2.2[q]? = some (t, N)) (hlen : vs.length = na) (hvs : ∀ v ∈ vs, pm_gv h.2.2.length v) (hw : 2 * 0 + (rest.map fun v => v.category).sum ≤ 8) (hd : decode code pc = .ok (.invokevirtual z, 3)) (hc : pm_ev 40 j (.inr (.inr (some q)) :: vs) h (some (.inl v)) h1) (hbd : lw_bd h1)
    (kk : ∀ (adr1 : Nat → Nat) (H1 : Heap) (locs1 : List Loc), (∀ q, q < h.2.2.length → adr1 q = adr q) → lw_HI s D aC adr1 h1 H1 locs1 → pm_I32 v → W p l e room_1 s m args below meth c H1 locs1 h1.2.2.length (pm_tot h1) Q (F0 m (pc + 3) ls (.int (Int32.ofInt v) :: rest))) :
    W p l e room_1 s m args below meth c H locs h.2.2.length (pm_tot h) Q (F0 m pc ls ((vs.map (pm_tv adr)).reverse ++ .ref ra :: rest)) := by
  subst hra
  have ok := pm_okM_at hL
  unfold pm_okM at ok
  split at ok <;> first | (next hh => cases hh; done) | (cases ok; done) | skip
  next hh =>
  cases hh
  simp only [Bool.and_eq_true, decide_eq_true_eq] at ok
  obtain ⟨⟨⟨⟨⟨⟨⟨hj, ht⟩, hcn⟩, hw1⟩, hw2⟩, hw3⟩, hw4⟩, hnp⟩ := ok
  have hN := pm_okN_at hj
  have hq : q < h.2.2.length := (List.getElem?_eq_some_iff.mp hT).1
  have hM := pm_snd l D aC 40 j _ h _ h1 hj hc hI.2.2.2 (fun v hv => by
    rcases List.mem_cons.mp hv with rfl | hv
    · exact hq
    · exact hvs v hv) adr H.size
  have he := pm_ws_get (aC := aC) (adr := adr) hT
  rw [pm_cell_ob ht] at he
  have hrc := va_recv hKK.1 hI.1 (pm_cl_get ht) he
  have hw1 : pm_hw _ (.methodLink (pm_cn 13) z (pm_y j)) = true := hw1
  refine lw_after (a := (Value.ref (adr q) :: vs.map (pm_tv adr)).toArray) hI hc (va_runV (C := pm_cn t) (b := adr q) (As := vs.map (pm_tv adr)) (n := na) ⟨hx, hb, hml, hown, hts⟩ hM (cwV na hts (pm_goodIn (fun w hw => ?_)) rfl rfl rfl ⟨hcn.symm, hN.2.2.1, hN.2.2.2.1, pm_np_at hnp⟩ (lw_rooms hj)) ⟨pm_blind, hrc, lw_pc hKK hI⟩ rfl (by rw [List.length_map]; exact hlen) hsz rfl hw hd (lw_cr hbd (pm_pre_le (pm_ev_pre 40 j _ h _ h1 hc)))) (fun adr1 H1 locs1 ha hI1 hg => kk adr1 H1 locs1 ha hI1 (hg _ rfl))
  rcases List.mem_append.mp hw with hw | hw
  · simp only [List.mem_cons, List.not_mem_nil, or_false] at hw
    rcases hw with rfl | rfl | rfl | rfl
    · exact pm_hw_W hw1 rfl
    · exact pm_hw_W hw2 rfl
    · exact pm_hw_W hw3 rfl
    · rw [hcn]; exact pm_hw_W hw4 rfl
  · exact pm_ws_in hj w hw
/-- new X(): void -/
theorem lw_init {z t j q : Nat} {nest : Bool} {ws : List Nat} {rest : List Value} {h1 : pm_H} {nL ra : Nat} (hra : adr q = ra) (hx : p.tables.exec = Jvm.exec) (hb : c.code = code) (hml : c.maxLocals = nL) (hsz : ls.size = nL) (hown : s.vm.findClass (pm_cn 13) = some m.cls) (hts : ∀ w ∈ pm_W, w.before args s = true) (hKK : pm_KK D aC s) (hI : lw_HI s D aC adr h H locs)
    (hL : pm_MLT.lookup (13, z) = some (1, 0, [(t, j)], false, ws)) (hq : q < h.2.2.length) (hw : 2 * 0 + (rest.map fun v => v.category).sum ≤ 8) (hd : decode code pc = .ok (.invokespecial z, 3)) (hc : pm_ev 40 j [.inr (.inr (some q))] h none h1) (hbd : lw_bd h1)
    (kk : ∀ (adr1 : Nat → Nat) (H1 : Heap) (locs1 : List Loc), (∀ q, q < h.2.2.length → adr1 q = adr q) → lw_HI s D aC adr1 h1 H1 locs1 → W p l e room_1 s m args below meth c H1 locs1 h1.2.2.length (pm_tot h1) Q (F0 m (pc + 3) ls rest)) :
    W p l e room_1 s m args below meth c H locs h.2.2.length (pm_tot h) Q (F0 m pc ls (.ref ra :: rest)) := by
  subst hra
  have ok := pm_okM_at hL
  unfold pm_okM at ok
  split at ok <;> first | (next hh => cases hh; done) | (cases ok; done) | skip
  next hh =>
  cases hh
  simp only [Bool.and_eq_true, decide_eq_true_eq] at ok
  obtain ⟨⟨⟨⟨⟨⟨hj, hw1⟩, hw2⟩, hw3⟩, hnp⟩, hin⟩, hrt⟩ := ok
  have hN := pm_okN_at hj
  have hM := pm_snd l D aC 40 j _ h _ h1 hj hc hI.2.2.2 (fun v hv => by
    rcases List.mem_cons.mp hv with rfl | hv
    · exact hq
    · cases hv) adr H.size
  unfold pm_Met at hM
  rw [hrt] at hM
  have hcode := pm_code hj
  rw [hrt] at hcode
  have hin2 : ∀ w ∈ (Cond.code (pm_y j) (pm_b j) (pm_mL j) none :: pm_W), w ∈ pm_W := fun w hw => by
    rcases List.mem_cons.mp hw with rfl | hw
    · exact hcode
    · exact hw
  have hw1 : pm_hw _ (.methodLink (pm_cn 13) z (pm_y j)) = true := hw1
  exact lw_after (a := (Value.ref (adr q) :: ([] : List Value)).toArray) hI hc (va_runI (b := adr q) (As := []) (n := 0) ⟨hx, hb, hml, hown, hts⟩ hM (cwI 0 hts (pm_goodIn hin2) rfl rfl rfl (hts _ (pm_hw_W hw3 rfl)) (hts _ (pm_hw_W hw1 rfl)) (hts _ (pm_hw_W hw2 rfl)) hin ⟨hN.2.2.1, hN.2.2.2.1, pm_np_at hnp⟩ (lw_rooms hj)) ⟨pm_blind, lw_pc (as := [.inr (.inr (some q))]) hKK hI⟩ rfl rfl hsz rfl hw hd (lw_cr hbd (pm_pre_le (pm_ev_pre 40 j _ h _ h1 hc)))) (fun adr1 H1 locs1 ha hI1 hg => kk adr1 H1 locs1 ha hI1)
end
