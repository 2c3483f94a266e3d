/-! THE LAW'S ENTRY -/
section
variable {p : Program} {l : Launch} {e : Env} {s : State} {m : MethodId} {args : Array Value} {below : List Frame} {meth : Method} {c : Code} {D : va_G} {aC : Nat → ClassId} {pc : Nat} {ls : Array Slot} {h : pm_H} {adr : Nat → Nat} {H : Heap} {locs : List Loc} {Q : State → Prop}
theorem lw_new {z t wi : Nat} {rest : List Value} (hx : p.tables.exec = Jvm.exec) (hb : c.code = code) (hown : s.vm.findClass (pm_cn 13) = some m.cls) (hts : ∀ w ∈ pm_W, w.before args s = true) (hKK : pm_KK D aC s) (hI : lw_HI s D aC adr h H locs) (hL : pm_CT.lookup (13, z) = some (pm_cn t, wi)) (ht : t < 13) (hd : decode code pc = .ok (.new z, 3)) (hbd : lw_bd (pm_nw h t (pm_nf t)))
    (kk : ∀ (a : Nat) (H1 : Heap), lw_HI s D aC (pm_ad adr h.2.2.length a) (pm_nw h t (pm_nf t)) H1 locs → W p l e room_1 s m args below meth c H1 locs (pm_nw h t (pm_nf t)).2.2.length (pm_tot (pm_nw h t (pm_nf t))) Q (F0 m (pc + 3) ls (.ref a :: rest))) : W p l e room_1 s m args below meth c H locs h.2.2.length (pm_tot h) Q (F0 m pc ls rest) := by
  have e1 : (pm_nw h t (pm_nf t)).2.2.length = h.2.2.length + 1 := by show (h.2.2 ++ [(t, pm_nf t)]).length = _; rw [List.length_append, List.length_singleton]
  have e2 : pm_tot (pm_nw h t (pm_nf t)) = pm_tot h + pm_nf t := by show ((h.2.2 ++ [(t, pm_nf t)]).map fun z : Nat × Nat => z.2).sum = _; rw [List.map_append, List.sum_append]; show pm_tot h + (pm_nf t + 0) = _; omega
  have ok := pm_lookup pm_okCT hL
  have oki := List.all_eq_true.mp pm_okIT t (List.mem_range.mpr ht)
  unfold pm_okI at oki
  simp only [Bool.and_eq_true, decide_eq_true_eq] at oki
  have b1 := hbd.1
  have b2 := hbd.2
  rw [e1] at b1
  rw [e2] at b2
  have hfs : ∀ j, j < pm_nf t → defaultValue (pm_ty t j) = vp_V ((List.range (pm_nf t)).map fun k => pm_fv adr (pm_nw h t (pm_nf t)) h.2.2.length (pm_kd t k) k) j := by
    intro j hj
    unfold vp_V
    rw [List.getD_eq_getElem?_getD, pm_fields hj, Option.getD_some]
    have hz1 : (pm_nw h t (pm_nf t)).1 h.2.2.length j = 0 := if_pos rfl
    have hz2 : (pm_nw h t (pm_nf t)).2.1 h.2.2.length j = none := if_pos rfl
    unfold pm_fv
    rw [hz1, hz2]
    rcases (pm_tyk ht hj).2 with ⟨e1, e2⟩ | ⟨e1, e2⟩ | ⟨e1, e2⟩ | ⟨e1, e2⟩
    · rw [e1, e2]; rfl
    · rw [e1, e2]; rfl
    · rw [e1, e2]; rfl
    · rw [e1]
      rcases e2 with ⟨w, e2⟩ | ⟨w, e2⟩ <;> rw [e2] <;> rfl
  refine va_new (ci := t) (fs := (List.range (pm_nf t)).map fun k => pm_fv adr (pm_nw h t (pm_nf t)) h.2.2.length (pm_kd t k) k) (C := pm_cn t) (T := pm_T t) (N := pm_nf t) hx hb hts (pm_uws ht) (pm_ty t) (fun k hk => (pm_tyk ht hk).1) hown (hts _ (pm_hw_W ok rfl)) (hts _ (List.mem_filter.mpr ⟨oki.1.1.1, oki.1.1.2⟩)) (hts _ (List.mem_filter.mpr ⟨oki.1.2, oki.2⟩)) hKK.1 hI.1 hI.2.1 hI.2.2.1 (fun w hw => hw) (pm_cl_get ht) hfs b1 b2 hd (fun a H1 hP hD hS => ?_)
  have e : pm_ws aC adr h ++ [(a, .inr (t, (List.range (pm_nf t)).map fun k => pm_fv adr (pm_nw h t (pm_nf t)) h.2.2.length (pm_kd t k) k))] = pm_ws aC (pm_ad adr h.2.2.length a) (pm_nw h t (pm_nf t)) := by
    refine pm_ws_push rfl pm_ad_eq ?_ (fun w y hw => ⟨pm_ad_lt hw, pm_cell_eq y (fun j => ?_) (fun j => ?_)⟩)
    · rw [pm_cell_ob ht]
      refine congrArg (fun l => (Sum.inr (t, l) : va_E)) (List.map_congr_left (fun k hk => ?_))
      have hz2 : (pm_nw h t (pm_nf t)).2.1 h.2.2.length k = none := if_pos rfl
      unfold pm_fv
      rw [hz2]
      rfl
    · show (if w = h.2.2.length then 0 else h.1 w j) = _
      rw [if_neg (by omega)]
    · show (if w = h.2.2.length then none else h.2.1 w j).map _ = _
      rw [if_neg (by omega)]
      exact pm_map_lt (fun q hq => pm_ad_lt hq) (fun z hz => hI.2.2.2.2.2 w j z hz)
  rw [e] at hP hD
  have hgo := kk a H1 ⟨hP, hD, hS, pm_GH_new hI.2.2.2 (Or.inl ⟨ht, rfl⟩)⟩
  rw [e1, e2] at hgo
  exact hgo
theorem lw_KK {b L : Nat} {xs : Nat → Int32} (C0 : lw_At p s m meth c b L xs) : ∃ (D : va_G) (aC : Nat → ClassId), pm_KK D aC s := by
  obtain ⟨hx, hb, hr, hml, hown, hts, hX, hbl, hlocks, hgv⟩ := id C0
  have hex : ∀ t : Nat, ∃ x : ClassId × (Nat → Nat), t < 13 → u_Kn s (pm_cn t) (pm_T t) (pm_nf t) x.1 x.2 := by
    intro t
    by_cases ht : t < 13
    · have oki := List.all_eq_true.mp pm_okIT t (List.mem_range.mpr ht)
      unfold pm_okI at oki
      simp only [Bool.and_eq_true, decide_eq_true_eq] at oki
      obtain ⟨c0, i0, h⟩ := u_known (C := pm_cn t) (T := pm_T t) (N := pm_nf t) (n := pm_nf t) hts (fun w hw => pm_wsub w (pm_uws ht w hw)) (hts _ oki.1.1.1)
      exact ⟨(c0, i0), fun _ => h⟩
    · exact ⟨(0, fun _ => 0), fun h => absurd h ht⟩
  obtain ⟨c20, k20, p20, a20, b20, d20⟩ := Cond.arrayClass_spec (hts (.arrayClass .int) (by decide +kernel))
  obtain ⟨c21, k21, p21, a21, b21, d21⟩ := Cond.arrayClass_spec (hts (.arrayClass .long) (by decide +kernel))
  obtain ⟨c22, k22, p22, a22, b22, d22⟩ := Cond.arrayClass_spec (hts (.arrayClass .boolean) (by decide +kernel))
  have h23 := hts (.arrayOver (.array .int)) (by decide +kernel)
  have h24 := hts (.arrayOver (.object "LoomShed$Piece")) (by decide +kernel)
  have h25 := hts (.arrayOver (.object "LoomShed$Shed")) (by decide +kernel)
  obtain ⟨p23, c23, k23, f23, g23, b23, d23, a23⟩ := arrayOverA_spec h23
  obtain ⟨p24, c24, k24, f24, g24, b24, d24, a24⟩ := Cond.arrayOver_spec h24
  obtain ⟨p25, c25, k25, f25, g25, b25, d25, a25⟩ := Cond.arrayOver_spec h25
  refine ⟨(fun t => (Classical.choose (hex t)).1, fun t => (Classical.choose (hex t)).2), fun t => if t = 20 then c20 else if t = 21 then c21 else if t = 22 then c22 else if t = 23 then c23 else if t = 24 then c24 else c25, ⟨fun t q hq => ?_, fun k q hq => ?_⟩, fun w hw => ?_, fun q hq => ?_, h24, h25, h23⟩
  · have ht : t < 13 := by
      have := (List.getElem?_eq_some_iff.mp hq).1
      unfold pm_cl at this
      rw [List.length_map, List.length_range] at this
      exact this
    rw [pm_cl_get ht] at hq
    cases hq
    exact Classical.choose_spec (hex t) ht
  · unfold pm_tys at hq
    match k, hq with
    | 0, hq => cases hq; exact ⟨fun N z => ⟨(fun q hq => by cases hq), k20, b20, p20, d20⟩, a20⟩
    | 1, hq => cases hq; exact ⟨fun N z => ⟨(fun q hq => by cases hq), k21, b21, p21, d21⟩, a21⟩
    | 2, hq => cases hq; exact ⟨fun N z => ⟨(fun q hq => by cases hq), k22, b22, p22, d22⟩, a22⟩
    | 3, hq => cases hq; exact ⟨fun N z => ⟨(fun q hq => by cases hq), k23, b23, p23, d23⟩, a23⟩
    | 4, hq => cases hq; exact ⟨fun N z => ⟨(fun q hq => by cases hq), k24, b24, p24, d24⟩, k24, p24, b24, d24, f24, a24⟩
    | 5, hq => cases hq; exact ⟨fun N z => ⟨(fun q hq => by cases hq), k25, b25, p25, d25⟩, k25, p25, b25, d25, f25, a25⟩
    | k + 6, hq => simp at hq
  · obtain ⟨h1, h2⟩ := List.mem_filter.mp hw
    have h3 := hts w h1
    cases w <;> first | (cases h2; done) | exact va_Nw.of rfl h3
  · have hs := flat_of_before _ hgv
    simp only [pm_ncs, List.mem_cons, List.not_mem_nil, or_false] at hq
    rcases hq with rfl | rfl | rfl | rfl | rfl | rfl | rfl | rfl
    · exact va_Nc.of (hs (.not (.castable "LoomShed$Barred" "LoomShed$Split")) (by decide +kernel))
    · exact va_Nc.of (hs (.not (.castable "LoomShed$Free" "LoomShed$Split")) (by decide +kernel))
    · exact va_Nc.of (hs (.not (.castable "LoomShed$Piece" "LoomShed$Split")) (by decide +kernel))
    · exact va_Nc.of (hs (.not (.castable "LoomShed$Tight" "LoomShed$Split")) (by decide +kernel))
    · exact va_Nc.of (hs (.not (.castable "LoomShed$Split" "LoomShed$Barred")) (by decide +kernel))
    · exact va_Nc.of (hs (.not (.castable "LoomShed$Free" "LoomShed$Barred")) (by decide +kernel))
    · exact va_Nc.of (hs (.not (.castable "LoomShed$Piece" "LoomShed$Barred")) (by decide +kernel))
    · exact va_Nc.of (hs (.not (.castable "LoomShed$Tight" "LoomShed$Barred")) (by decide +kernel))
end
set_option maxHeartbeats 4000000 in
theorem lw_start {Inv : Nat → pm_H → Prop} {mq : Nat} (hbeg : lw_begin Inv mq) (hstep : lw_step Inv mq) {p : Program} {e : Env} {s : State} {m : MethodId} {below : List Frame} {meth : Method} {c : Code} (l : Launch) {b L : Nat} {xs : Nat → Int32} (hL : L ≤ 2560) (C0 : lw_At p s m meth c b L xs) : W p l e room_1 s m #[Value.ref b] below meth c s.heap [] 0 0 (lw_Z below #[Value.ref b] s) (entryFrame m ([Value.ref b] : List Value).toArray 4) := by
  obtain ⟨D, aC, hKK⟩ := lw_KK C0
  obtain ⟨hx, hb, hr, hml, hown, hts0, hX, hbl, hlocks, hgv⟩ := id C0
  have hts : ∀ w ∈ pm_W, w.before #[Value.ref b] s = true := fun w hw => hts0 w (pm_wsub w hw)
  obtain ⟨h1, h2, hc1, hb1, hlen1, hc2, hb2, hInv⟩ := hbeg
  have hle1 := pm_pre_le (pm_ev_pre 40 _ _ _ _ _ hc1)
  have hle2 := pm_pre_le (pm_ev_pre 40 _ _ _ _ _ hc2)
  have hG0 : pm_GH lw_h0 := ⟨fun q t n hq => (by cases hq), fun q t n k hq => (by cases hq), fun q k w hq => (by cases hq)⟩
  have hI0 : lw_HI s D aC (fun _ => 0) lw_h0 s.heap [] := ⟨fun k q hq => (by simp [pm_ws, lw_h0] at hq), ⟨fun i j q r hq => (by simp [pm_ws, lw_h0] at hq), fun k q hq => (by simp [pm_ws, lw_h0] at hq)⟩, va_S.rf, hG0⟩
  have hl := lv_entry ([.ref b]) (n := 4) (Nat.le_of_ble_eq_true rfl)
  rw [lg_entry_eq]
  generalize (lg_sl ([.ref b]) ++ List.replicate (4 - (lg_sl ([.ref b])).length) Slot.unset).toArray = ls at hl ⊢
  have hl : lv_has ls 4 [(0, .ref b)] := hl
  refine lw_new (h := lw_h0) (t := 11) hx hb hown hts hKK hI0 cx_13_7 (by decide) (show decode code 0 = .ok (.new 7, 3) by decide +kernel) ⟨Nat.le_trans hle1.1 hb1.1, Nat.le_trans hle1.2 hb1.2⟩ (fun a H1 hI1 => ?_)
  refine lv_dup hx hb (show decode code 3 = .ok (.dup, 1) by decide +kernel) rfl ?_
  refine lw_init (nest := false) (q := 0) (rest := [.ref a]) (ra := a) pm_ad_eq hx hb hml hl.1 hown hts hKK hI1 mx_13_9 (by decide) (Nat.le_of_ble_eq_true rfl) (show decode code 4 = .ok (.invokespecial 9, 3) by decide +kernel) hc1 hb1 (fun adr1 H2 locs2 ha1 hI2 => ?_)
  have hadr0 : adr1 0 = a := (ha1 0 (by decide)).trans pm_ad_eq
  refine lv_astore_n (lv' := [(1, .ref a), (0, .ref b)]) hx hb (show decode code 7 = .ok (.astore_n 1, 1) by decide +kernel) rfl hl (by decide) rfl (fun ls hl => ?_)
  refine lw_new (t := 12) hx hb hown hts hKK hI2 cx_13_10 (by decide) (show decode code 8 = .ok (.new 10, 3) by decide +kernel) ⟨Nat.le_trans hle2.1 hb2.1, Nat.le_trans hle2.2 hb2.2⟩ (fun a2 H3 hI3 => ?_)
  refine lv_dup hx hb (show decode code 11 = .ok (.dup, 1) by decide +kernel) rfl ?_
  have hl1 : 0 < h1.2.2.length := Nat.lt_of_lt_of_le (by decide) hle1.1
  have hnl : (pm_nw h1 12 (pm_nf 12)).2.2.length = h1.2.2.length + 1 := by show (h1.2.2 ++ [(12, pm_nf 12)]).length = _; rw [List.length_append, List.length_singleton]
  refine lw_init (nest := false) (q := mq) (rest := [.ref a2]) (ra := a2) (by rw [← hlen1]; exact pm_ad_eq) hx hb hml hl.1 hown hts hKK hI3 mx_13_12 (by rw [hnl]; omega) (Nat.le_of_ble_eq_true rfl) (show decode code 12 = .ok (.invokespecial 12, 3) by decide +kernel) hc2 hb2 (fun adr3 H4 locs4 ha3 hI4 => ?_)
  refine lv_astore_n (lv' := [(2, .ref a2), (1, .ref a), (0, .ref b)]) hx hb (show decode code 15 = .ok (.astore_n 2, 1) by decide +kernel) rfl hl (by decide) rfl (fun ls hl => ?_)
  refine lv_iconst (v := nI 0) hx hb (show decode code 16 = .ok (.iconst 0, 1) by decide +kernel) rfl ?_
  refine lv_istore_n (lv' := [(3, .int (nI 0)), (2, .ref a2), (1, .ref a), (0, .ref b)]) hx hb (show decode code 17 = .ok (.istore_n 3, 1) by decide +kernel) rfl hl (by decide) rfl (fun ls hl => ?_)
  refine lw_loop (qx := a) (qm := a2) hstep hL C0 hKK (L + 1) 0 (nI 0) h2 adr3 H4 locs4 ls (by omega) (by omega) rfl hInv hI4 ?_ ?_ (lv_sub hl [0, 2, 1, 3] rfl)
  · rw [ha3 0 (by rw [hnl]; omega), pm_ad_lt hl1]
    exact hadr0
  · rw [ha3 mq (by rw [hnl]; omega), ← hlen1]
    exact pm_ad_eq
