/-! THE LAW'S CASES, printed by wip/gen/genlaw.py -/
section
variable {p : Program} {l : Launch} {e : Env} {s : State} {m : MethodId} {below : List Frame} {meth : Method} {c : Code} {D : va_G} {aC : Nat → ClassId} {ls : Array Slot} {h h1 h2 : pm_H} {adr : Nat → Nat} {H : Heap} {locs : List Loc} {Q : State → Prop} {b L i mq qx qm : Nat} {x3 : Int32} {xs : Nat → Int32} {v : Int}
/-- script[i + k] is pushed -/
theorem lw_push {pc k cells slots : Nat} {rest : List Value} (C0 : lw_At p s m meth c b L xs) (hS : va_S (fun q : Nat => s.heap.size ≤ q) s.heap H locs) (hl : lv_has ls 4 [(3, .int x3), (1, .ref qx), (2, .ref qm), (0, .ref b)]) (e3 : x3 = nI i) (hk : k ≤ 4) (hi : i + 5 ≤ L) (hL : L ≤ 2560) (d0 : decode code pc = .ok (.aload_n 0, 1)) (d1 : decode code (pc + 1) = .ok (.iload_n 3, 1)) (d2 : decode code (pc + 2) = .ok (.iconst (k : Int), 1)) (d3 : decode code (pc + 3) = .ok (.iadd, 1)) (d4 : decode code (pc + 4) = .ok (.iaload, 1))
    (kk : W p l e room_1 s m #[Value.ref b] below meth c H locs cells slots Q (F0 m (pc + 5) ls (.int (Int32.ofInt (xs (i + k)).toInt) :: rest))) : W p l e room_1 s m #[Value.ref b] below meth c H locs cells slots Q (F0 m pc ls rest) := by
  obtain ⟨hx, hb, hr, hml, hown, hts, hX, hbl, hlocks, hgv⟩ := id C0
  refine lv_aload_n hx hb d0 rfl (lv_at hl 3 rfl) ?_
  refine lv_iload_n hx hb d1 rfl (lv_at hl 0 rfl) ?_
  refine lv_iconst (v := nI k) hx hb d2 Int32.ofInt_eq_ofNat ?_
  refine lv_iadd hx hb d3 ?_
  rw [e3, nI_add]
  refine va_sld hx hb hX hbl (Nat.not_le.mpr hbl) hS (vp_in_nI (show i + k < L by omega) (by omega)) d4 ?_
  rw [nI_clamp (by omega), ← Int32.ofInt_toInt (xs (i + k))]
  exact kk
theorem lw_I32 (x : Int32) : pm_I32 x.toInt := by
  have h1 := Int32.le_toInt x
  have h2 := Int32.toInt_lt x
  unfold pm_I32
  omega
theorem lw_case_0 (C0 : lw_At p s m meth c b L xs) (hL : L ≤ 2560) (hKK : pm_KK D aC s) (hI : lw_HI s D aC adr h H locs) (hl : lv_has ls 4 [(3, .int x3), (1, .ref qx), (2, .ref qm), (0, .ref b)]) (e3 : x3 = nI i) (hi : i + 5 ≤ L) (hqx : adr 0 = qx) (hqm : adr mq = qm) (hT0 : h.2.2[0]? = some (11, 13)) (hTm : h.2.2[mq]? = some (12, 25)) (hc1 : pm_ev 40 7 (.inr (.inr (some 0)) :: [.inl (xs (i + 1)).toInt]) h (some (.inl v)) h1) (hb1 : lw_bd h1) (hc2 : pm_ev 40 120 (.inr (.inr (some mq)) :: [.inl (xs (i + 1)).toInt]) h1 (some (.inl v)) h2) (hb2 : lw_bd h2)
    (kk : ∀ (adr2 : Nat → Nat) (H2 : Heap) (locs2 : List Loc), lw_HI s D aC adr2 h2 H2 locs2 → adr2 0 = qx → adr2 mq = qm → W p l e room_1 s m #[Value.ref b] below meth c H2 locs2 h2.2.2.length (pm_tot h2) Q (F0 m 665 ls [])) : W p l e room_1 s m #[Value.ref b] below meth c H locs h.2.2.length (pm_tot h) Q (F0 m 132 ls []) := by
  obtain ⟨hx, hb, hr, hml, hown, hts0, hX, hbl, hlocks, hgv⟩ := id C0
  have hts : ∀ w ∈ pm_W, w.before #[Value.ref b] s = true := fun w hw => hts0 w (pm_wsub w hw)
  have hl0 : 0 < h.2.2.length := (List.getElem?_eq_some_iff.mp hT0).1
  have hlm : mq < h.2.2.length := (List.getElem?_eq_some_iff.mp hTm).1
  have hp1 := pm_ev_pre 40 _ _ _ _ _ hc1
  have hp2 := pm_ev_pre 40 _ _ _ _ _ hc2
  refine lv_aload_n hx hb (show decode code 132 = .ok (.aload_n 1, 1) by decide +kernel) rfl (lv_at hl 1 rfl) ?_
  refine lw_push (k := 1) C0 hI.2.2.1 hl e3 (by decide) hi hL (show decode code 133 = .ok (.aload_n 0, 1) by decide +kernel) (show decode code 134 = .ok (.iload_n 3, 1) by decide +kernel) (show decode code 135 = .ok (.iconst 1, 1) by decide +kernel) (show decode code 136 = .ok (.iadd, 1) by decide +kernel) (show decode code 137 = .ok (.iaload, 1) by decide +kernel) ?_
  refine lw_virt (vs := [.inl (xs (i + 1)).toInt]) (rest := []) hqx hx hb hml hl.1 hown hts hKK hI mx_13_13 hT0 rfl (fun w hw => by simp only [List.mem_cons, List.not_mem_nil, or_false] at hw; subst hw; exact lw_I32 _) (by decide) (show decode code 138 = .ok (.invokevirtual 13, 3) by decide +kernel) hc1 hb1 (fun adr1 H1 locs1 ha1 hI1 hv => ?_)
  refine lv_aload_n hx hb (show decode code 141 = .ok (.aload_n 2, 1) by decide +kernel) rfl (lv_at hl 2 rfl) ?_
  refine lw_push (k := 1) C0 hI1.2.2.1 hl e3 (by decide) hi hL (show decode code 142 = .ok (.aload_n 0, 1) by decide +kernel) (show decode code 143 = .ok (.iload_n 3, 1) by decide +kernel) (show decode code 144 = .ok (.iconst 1, 1) by decide +kernel) (show decode code 145 = .ok (.iadd, 1) by decide +kernel) (show decode code 146 = .ok (.iaload, 1) by decide +kernel) ?_
  have hTm1 : h1.2.2[mq]? = some (12, 25) := by
    obtain ⟨t, et⟩ := hp1
    rw [← et, List.getElem?_append_left hlm]
    exact hTm
  have hle1 := (pm_pre_le hp1).1
  refine lw_virt (vs := [.inl (xs (i + 1)).toInt]) (rest := [.int (Int32.ofInt v)]) ((ha1 mq hlm).trans hqm) hx hb hml hl.1 hown hts hKK hI1 mx_13_17 hTm1 rfl (fun w hw => by simp only [List.mem_cons, List.not_mem_nil, or_false] at hw; subst hw; exact lw_I32 _) (Nat.le_of_ble_eq_true rfl) (show decode code 147 = .ok (.invokevirtual 17, 3) by decide +kernel) hc2 hb2 (fun adr2 H2 locs2 ha2 hI2 hv2 => ?_)
  refine lv_icmp_eq (tgt := 665) hx hb (show decode code 150 = .ok (.if_icmp .eq 515, 3) by decide +kernel) (by decide) (fun _ => ?_) (fun z => absurd rfl z)
  exact kk adr2 H2 locs2 hI2 ((ha2 0 (by omega)).trans ((ha1 0 hl0).trans hqx)) ((ha2 mq (by omega)).trans ((ha1 mq hlm).trans hqm))
theorem lw_case_1 (C0 : lw_At p s m meth c b L xs) (hL : L ≤ 2560) (hKK : pm_KK D aC s) (hI : lw_HI s D aC adr h H locs) (hl : lv_has ls 4 [(3, .int x3), (1, .ref qx), (2, .ref qm), (0, .ref b)]) (e3 : x3 = nI i) (hi : i + 5 ≤ L) (hqx : adr 0 = qx) (hqm : adr mq = qm) (hT0 : h.2.2[0]? = some (11, 13)) (hTm : h.2.2[mq]? = some (12, 25)) (hc1 : pm_ev 40 12 (.inr (.inr (some 0)) :: [.inl (xs (i + 1)).toInt]) h (some (.inl v)) h1) (hb1 : lw_bd h1) (hc2 : pm_ev 40 123 (.inr (.inr (some mq)) :: [.inl (xs (i + 1)).toInt]) h1 (some (.inl v)) h2) (hb2 : lw_bd h2)
    (kk : ∀ (adr2 : Nat → Nat) (H2 : Heap) (locs2 : List Loc), lw_HI s D aC adr2 h2 H2 locs2 → adr2 0 = qx → adr2 mq = qm → W p l e room_1 s m #[Value.ref b] below meth c H2 locs2 h2.2.2.length (pm_tot h2) Q (F0 m 665 ls [])) : W p l e room_1 s m #[Value.ref b] below meth c H locs h.2.2.length (pm_tot h) Q (F0 m 155 ls []) := by
  obtain ⟨hx, hb, hr, hml, hown, hts0, hX, hbl, hlocks, hgv⟩ := id C0
  have hts : ∀ w ∈ pm_W, w.before #[Value.ref b] s = true := fun w hw => hts0 w (pm_wsub w hw)
  have hl0 : 0 < h.2.2.length := (List.getElem?_eq_some_iff.mp hT0).1
  have hlm : mq < h.2.2.length := (List.getElem?_eq_some_iff.mp hTm).1
  have hp1 := pm_ev_pre 40 _ _ _ _ _ hc1
  have hp2 := pm_ev_pre 40 _ _ _ _ _ hc2
  refine lv_aload_n hx hb (show decode code 155 = .ok (.aload_n 1, 1) by decide +kernel) rfl (lv_at hl 1 rfl) ?_
  refine lw_push (k := 1) C0 hI.2.2.1 hl e3 (by decide) hi hL (show decode code 156 = .ok (.aload_n 0, 1) by decide +kernel) (show decode code 157 = .ok (.iload_n 3, 1) by decide +kernel) (show decode code 158 = .ok (.iconst 1, 1) by decide +kernel) (show decode code 159 = .ok (.iadd, 1) by decide +kernel) (show decode code 160 = .ok (.iaload, 1) by decide +kernel) ?_
  refine lw_virt (vs := [.inl (xs (i + 1)).toInt]) (rest := []) hqx hx hb hml hl.1 hown hts hKK hI mx_13_18 hT0 rfl (fun w hw => by simp only [List.mem_cons, List.not_mem_nil, or_false] at hw; subst hw; exact lw_I32 _) (by decide) (show decode code 161 = .ok (.invokevirtual 18, 3) by decide +kernel) hc1 hb1 (fun adr1 H1 locs1 ha1 hI1 hv => ?_)
  refine lv_aload_n hx hb (show decode code 164 = .ok (.aload_n 2, 1) by decide +kernel) rfl (lv_at hl 2 rfl) ?_
  refine lw_push (k := 1) C0 hI1.2.2.1 hl e3 (by decide) hi hL (show decode code 165 = .ok (.aload_n 0, 1) by decide +kernel) (show decode code 166 = .ok (.iload_n 3, 1) by decide +kernel) (show decode code 167 = .ok (.iconst 1, 1) by decide +kernel) (show decode code 168 = .ok (.iadd, 1) by decide +kernel) (show decode code 169 = .ok (.iaload, 1) by decide +kernel) ?_
  have hTm1 : h1.2.2[mq]? = some (12, 25) := by
    obtain ⟨t, et⟩ := hp1
    rw [← et, List.getElem?_append_left hlm]
    exact hTm
  have hle1 := (pm_pre_le hp1).1
  refine lw_virt (vs := [.inl (xs (i + 1)).toInt]) (rest := [.int (Int32.ofInt v)]) ((ha1 mq hlm).trans hqm) hx hb hml hl.1 hown hts hKK hI1 mx_13_21 hTm1 rfl (fun w hw => by simp only [List.mem_cons, List.not_mem_nil, or_false] at hw; subst hw; exact lw_I32 _) (Nat.le_of_ble_eq_true rfl) (show decode code 170 = .ok (.invokevirtual 21, 3) by decide +kernel) hc2 hb2 (fun adr2 H2 locs2 ha2 hI2 hv2 => ?_)
  refine lv_icmp_eq (tgt := 665) hx hb (show decode code 173 = .ok (.if_icmp .eq 492, 3) by decide +kernel) (by decide) (fun _ => ?_) (fun z => absurd rfl z)
  exact kk adr2 H2 locs2 hI2 ((ha2 0 (by omega)).trans ((ha1 0 hl0).trans hqx)) ((ha2 mq (by omega)).trans ((ha1 mq hlm).trans hqm))
theorem lw_case_2 (C0 : lw_At p s m meth c b L xs) (hL : L ≤ 2560) (hKK : pm_KK D aC s) (hI : lw_HI s D aC adr h H locs) (hl : lv_has ls 4 [(3, .int x3), (1, .ref qx), (2, .ref qm), (0, .ref b)]) (e3 : x3 = nI i) (hi : i + 5 ≤ L) (hqx : adr 0 = qx) (hqm : adr mq = qm) (hT0 : h.2.2[0]? = some (11, 13)) (hTm : h.2.2[mq]? = some (12, 25)) (hc1 : pm_ev 40 13 (.inr (.inr (some 0)) :: [.inl (xs (i + 1)).toInt, .inl (xs (i + 2)).toInt, .inl (xs (i + 3)).toInt, .inl (xs (i + 4)).toInt]) h (some (.inl v)) h1) (hb1 : lw_bd h1) (hc2 : pm_ev 40 124 (.inr (.inr (some mq)) :: [.inl (xs (i + 1)).toInt, .inl (xs (i + 2)).toInt, .inl (xs (i + 3)).toInt, .inl (xs (i + 4)).toInt]) h1 (some (.inl v)) h2) (hb2 : lw_bd h2)
    (kk : ∀ (adr2 : Nat → Nat) (H2 : Heap) (locs2 : List Loc), lw_HI s D aC adr2 h2 H2 locs2 → adr2 0 = qx → adr2 mq = qm → W p l e room_1 s m #[Value.ref b] below meth c H2 locs2 h2.2.2.length (pm_tot h2) Q (F0 m 665 ls [])) : W p l e room_1 s m #[Value.ref b] below meth c H locs h.2.2.length (pm_tot h) Q (F0 m 178 ls []) := by
  obtain ⟨hx, hb, hr, hml, hown, hts0, hX, hbl, hlocks, hgv⟩ := id C0
  have hts : ∀ w ∈ pm_W, w.before #[Value.ref b] s = true := fun w hw => hts0 w (pm_wsub w hw)
  have hl0 : 0 < h.2.2.length := (List.getElem?_eq_some_iff.mp hT0).1
  have hlm : mq < h.2.2.length := (List.getElem?_eq_some_iff.mp hTm).1
  have hp1 := pm_ev_pre 40 _ _ _ _ _ hc1
  have hp2 := pm_ev_pre 40 _ _ _ _ _ hc2
  refine lv_aload_n hx hb (show decode code 178 = .ok (.aload_n 1, 1) by decide +kernel) rfl (lv_at hl 1 rfl) ?_
  refine lw_push (k := 1) C0 hI.2.2.1 hl e3 (by decide) hi hL (show decode code 179 = .ok (.aload_n 0, 1) by decide +kernel) (show decode code 180 = .ok (.iload_n 3, 1) by decide +kernel) (show decode code 181 = .ok (.iconst 1, 1) by decide +kernel) (show decode code 182 = .ok (.iadd, 1) by decide +kernel) (show decode code 183 = .ok (.iaload, 1) by decide +kernel) ?_
  refine lw_push (k := 2) C0 hI.2.2.1 hl e3 (by decide) hi hL (show decode code 184 = .ok (.aload_n 0, 1) by decide +kernel) (show decode code 185 = .ok (.iload_n 3, 1) by decide +kernel) (show decode code 186 = .ok (.iconst 2, 1) by decide +kernel) (show decode code 187 = .ok (.iadd, 1) by decide +kernel) (show decode code 188 = .ok (.iaload, 1) by decide +kernel) ?_
  refine lw_push (k := 3) C0 hI.2.2.1 hl e3 (by decide) hi hL (show decode code 189 = .ok (.aload_n 0, 1) by decide +kernel) (show decode code 190 = .ok (.iload_n 3, 1) by decide +kernel) (show decode code 191 = .ok (.iconst 3, 1) by decide +kernel) (show decode code 192 = .ok (.iadd, 1) by decide +kernel) (show decode code 193 = .ok (.iaload, 1) by decide +kernel) ?_
  refine lw_push (k := 4) C0 hI.2.2.1 hl e3 (by decide) hi hL (show decode code 194 = .ok (.aload_n 0, 1) by decide +kernel) (show decode code 195 = .ok (.iload_n 3, 1) by decide +kernel) (show decode code 196 = .ok (.iconst 4, 1) by decide +kernel) (show decode code 197 = .ok (.iadd, 1) by decide +kernel) (show decode code 198 = .ok (.iaload, 1) by decide +kernel) ?_
  refine lw_virt (vs := [.inl (xs (i + 1)).toInt, .inl (xs (i + 2)).toInt, .inl (xs (i + 3)).toInt, .inl (xs (i + 4)).toInt]) (rest := []) hqx hx hb hml hl.1 hown hts hKK hI mx_13_22 hT0 rfl (fun w hw => by simp only [List.mem_cons, List.not_mem_nil, or_false] at hw; rcases hw with rfl | rfl | rfl | rfl <;> exact lw_I32 _) (by decide) (show decode code 199 = .ok (.invokevirtual 22, 3) by decide +kernel) hc1 hb1 (fun adr1 H1 locs1 ha1 hI1 hv => ?_)
  refine lv_aload_n hx hb (show decode code 202 = .ok (.aload_n 2, 1) by decide +kernel) rfl (lv_at hl 2 rfl) ?_
  refine lw_push (k := 1) C0 hI1.2.2.1 hl e3 (by decide) hi hL (show decode code 203 = .ok (.aload_n 0, 1) by decide +kernel) (show decode code 204 = .ok (.iload_n 3, 1) by decide +kernel) (show decode code 205 = .ok (.iconst 1, 1) by decide +kernel) (show decode code 206 = .ok (.iadd, 1) by decide +kernel) (show decode code 207 = .ok (.iaload, 1) by decide +kernel) ?_
  refine lw_push (k := 2) C0 hI1.2.2.1 hl e3 (by decide) hi hL (show decode code 208 = .ok (.aload_n 0, 1) by decide +kernel) (show decode code 209 = .ok (.iload_n 3, 1) by decide +kernel) (show decode code 210 = .ok (.iconst 2, 1) by decide +kernel) (show decode code 211 = .ok (.iadd, 1) by decide +kernel) (show decode code 212 = .ok (.iaload, 1) by decide +kernel) ?_
  refine lw_push (k := 3) C0 hI1.2.2.1 hl e3 (by decide) hi hL (show decode code 213 = .ok (.aload_n 0, 1) by decide +kernel) (show decode code 214 = .ok (.iload_n 3, 1) by decide +kernel) (show decode code 215 = .ok (.iconst 3, 1) by decide +kernel) (show decode code 216 = .ok (.iadd, 1) by decide +kernel) (show decode code 217 = .ok (.iaload, 1) by decide +kernel) ?_
  refine lw_push (k := 4) C0 hI1.2.2.1 hl e3 (by decide) hi hL (show decode code 218 = .ok (.aload_n 0, 1) by decide +kernel) (show decode code 219 = .ok (.iload_n 3, 1) by decide +kernel) (show decode code 220 = .ok (.iconst 4, 1) by decide +kernel) (show decode code 221 = .ok (.iadd, 1) by decide +kernel) (show decode code 222 = .ok (.iaload, 1) by decide +kernel) ?_
  have hTm1 : h1.2.2[mq]? = some (12, 25) := by
    obtain ⟨t, et⟩ := hp1
    rw [← et, List.getElem?_append_left hlm]
    exact hTm
  have hle1 := (pm_pre_le hp1).1
  refine lw_virt (vs := [.inl (xs (i + 1)).toInt, .inl (xs (i + 2)).toInt, .inl (xs (i + 3)).toInt, .inl (xs (i + 4)).toInt]) (rest := [.int (Int32.ofInt v)]) ((ha1 mq hlm).trans hqm) hx hb hml hl.1 hown hts hKK hI1 mx_13_26 hTm1 rfl (fun w hw => by simp only [List.mem_cons, List.not_mem_nil, or_false] at hw; rcases hw with rfl | rfl | rfl | rfl <;> exact lw_I32 _) (Nat.le_of_ble_eq_true rfl) (show decode code 223 = .ok (.invokevirtual 26, 3) by decide +kernel) hc2 hb2 (fun adr2 H2 locs2 ha2 hI2 hv2 => ?_)
  refine lv_icmp_eq (tgt := 665) hx hb (show decode code 226 = .ok (.if_icmp .eq 439, 3) by decide +kernel) (by decide) (fun _ => ?_) (fun z => absurd rfl z)
  exact kk adr2 H2 locs2 hI2 ((ha2 0 (by omega)).trans ((ha1 0 hl0).trans hqx)) ((ha2 mq (by omega)).trans ((ha1 mq hlm).trans hqm))
theorem lw_case_3 (C0 : lw_At p s m meth c b L xs) (hL : L ≤ 2560) (hKK : pm_KK D aC s) (hI : lw_HI s D aC adr h H locs) (hl : lv_has ls 4 [(3, .int x3), (1, .ref qx), (2, .ref qm), (0, .ref b)]) (e3 : x3 = nI i) (hi : i + 5 ≤ L) (hqx : adr 0 = qx) (hqm : adr mq = qm) (hT0 : h.2.2[0]? = some (11, 13)) (hTm : h.2.2[mq]? = some (12, 25)) (hc1 : pm_ev 40 23 (.inr (.inr (some 0)) :: [.inl (xs (i + 1)).toInt, .inl (xs (i + 2)).toInt]) h (some (.inl v)) h1) (hb1 : lw_bd h1) (hc2 : pm_ev 40 125 (.inr (.inr (some mq)) :: [.inl (xs (i + 1)).toInt, .inl (xs (i + 2)).toInt]) h1 (some (.inl v)) h2) (hb2 : lw_bd h2)
    (kk : ∀ (adr2 : Nat → Nat) (H2 : Heap) (locs2 : List Loc), lw_HI s D aC adr2 h2 H2 locs2 → adr2 0 = qx → adr2 mq = qm → W p l e room_1 s m #[Value.ref b] below meth c H2 locs2 h2.2.2.length (pm_tot h2) Q (F0 m 665 ls [])) : W p l e room_1 s m #[Value.ref b] below meth c H locs h.2.2.length (pm_tot h) Q (F0 m 231 ls []) := by
  obtain ⟨hx, hb, hr, hml, hown, hts0, hX, hbl, hlocks, hgv⟩ := id C0
  have hts : ∀ w ∈ pm_W, w.before #[Value.ref b] s = true := fun w hw => hts0 w (pm_wsub w hw)
  have hl0 : 0 < h.2.2.length := (List.getElem?_eq_some_iff.mp hT0).1
  have hlm : mq < h.2.2.length := (List.getElem?_eq_some_iff.mp hTm).1
  have hp1 := pm_ev_pre 40 _ _ _ _ _ hc1
  have hp2 := pm_ev_pre 40 _ _ _ _ _ hc2
  refine lv_aload_n hx hb (show decode code 231 = .ok (.aload_n 1, 1) by decide +kernel) rfl (lv_at hl 1 rfl) ?_
  refine lw_push (k := 1) C0 hI.2.2.1 hl e3 (by decide) hi hL (show decode code 232 = .ok (.aload_n 0, 1) by decide +kernel) (show decode code 233 = .ok (.iload_n 3, 1) by decide +kernel) (show decode code 234 = .ok (.iconst 1, 1) by decide +kernel) (show decode code 235 = .ok (.iadd, 1) by decide +kernel) (show decode code 236 = .ok (.iaload, 1) by decide +kernel) ?_
  refine lw_push (k := 2) C0 hI.2.2.1 hl e3 (by decide) hi hL (show decode code 237 = .ok (.aload_n 0, 1) by decide +kernel) (show decode code 238 = .ok (.iload_n 3, 1) by decide +kernel) (show decode code 239 = .ok (.iconst 2, 1) by decide +kernel) (show decode code 240 = .ok (.iadd, 1) by decide +kernel) (show decode code 241 = .ok (.iaload, 1) by decide +kernel) ?_
  refine lw_virt (vs := [.inl (xs (i + 1)).toInt, .inl (xs (i + 2)).toInt]) (rest := []) hqx hx hb hml hl.1 hown hts hKK hI mx_13_27 hT0 rfl (fun w hw => by simp only [List.mem_cons, List.not_mem_nil, or_false] at hw; rcases hw with rfl | rfl <;> exact lw_I32 _) (by decide) (show decode code 242 = .ok (.invokevirtual 27, 3) by decide +kernel) hc1 hb1 (fun adr1 H1 locs1 ha1 hI1 hv => ?_)
  refine lv_aload_n hx hb (show decode code 245 = .ok (.aload_n 2, 1) by decide +kernel) rfl (lv_at hl 2 rfl) ?_
  refine lw_push (k := 1) C0 hI1.2.2.1 hl e3 (by decide) hi hL (show decode code 246 = .ok (.aload_n 0, 1) by decide +kernel) (show decode code 247 = .ok (.iload_n 3, 1) by decide +kernel) (show decode code 248 = .ok (.iconst 1, 1) by decide +kernel) (show decode code 249 = .ok (.iadd, 1) by decide +kernel) (show decode code 250 = .ok (.iaload, 1) by decide +kernel) ?_
  refine lw_push (k := 2) C0 hI1.2.2.1 hl e3 (by decide) hi hL (show decode code 251 = .ok (.aload_n 0, 1) by decide +kernel) (show decode code 252 = .ok (.iload_n 3, 1) by decide +kernel) (show decode code 253 = .ok (.iconst 2, 1) by decide +kernel) (show decode code 254 = .ok (.iadd, 1) by decide +kernel) (show decode code 255 = .ok (.iaload, 1) by decide +kernel) ?_
  have hTm1 : h1.2.2[mq]? = some (12, 25) := by
    obtain ⟨t, et⟩ := hp1
    rw [← et, List.getElem?_append_left hlm]
    exact hTm
  have hle1 := (pm_pre_le hp1).1
  refine lw_virt (vs := [.inl (xs (i + 1)).toInt, .inl (xs (i + 2)).toInt]) (rest := [.int (Int32.ofInt v)]) ((ha1 mq hlm).trans hqm) hx hb hml hl.1 hown hts hKK hI1 mx_13_31 hTm1 rfl (fun w hw => by simp only [List.mem_cons, List.not_mem_nil, or_false] at hw; rcases hw with rfl | rfl <;> exact lw_I32 _) (Nat.le_of_ble_eq_true rfl) (show decode code 256 = .ok (.invokevirtual 31, 3) by decide +kernel) hc2 hb2 (fun adr2 H2 locs2 ha2 hI2 hv2 => ?_)
  refine lv_icmp_eq (tgt := 665) hx hb (show decode code 259 = .ok (.if_icmp .eq 406, 3) by decide +kernel) (by decide) (fun _ => ?_) (fun z => absurd rfl z)
  exact kk adr2 H2 locs2 hI2 ((ha2 0 (by omega)).trans ((ha1 0 hl0).trans hqx)) ((ha2 mq (by omega)).trans ((ha1 mq hlm).trans hqm))
theorem lw_case_4 (C0 : lw_At p s m meth c b L xs) (hL : L ≤ 2560) (hKK : pm_KK D aC s) (hI : lw_HI s D aC adr h H locs) (hl : lv_has ls 4 [(3, .int x3), (1, .ref qx), (2, .ref qm), (0, .ref b)]) (e3 : x3 = nI i) (hi : i + 5 ≤ L) (hqx : adr 0 = qx) (hqm : adr mq = qm) (hT0 : h.2.2[0]? = some (11, 13)) (hTm : h.2.2[mq]? = some (12, 25)) (hc1 : pm_ev 40 27 (.inr (.inr (some 0)) :: [.inl (xs (i + 1)).toInt, .inl (xs (i + 2)).toInt, .inl (xs (i + 3)).toInt]) h (some (.inl v)) h1) (hb1 : lw_bd h1) (hc2 : pm_ev 40 127 (.inr (.inr (some mq)) :: [.inl (xs (i + 1)).toInt, .inl (xs (i + 2)).toInt, .inl (xs (i + 3)).toInt]) h1 (some (.inl v)) h2) (hb2 : lw_bd h2)
    (kk : ∀ (adr2 : Nat → Nat) (H2 : Heap) (locs2 : List Loc), lw_HI s D aC adr2 h2 H2 locs2 → adr2 0 = qx → adr2 mq = qm → W p l e room_1 s m #[Value.ref b] below meth c H2 locs2 h2.2.2.length (pm_tot h2) Q (F0 m 665 ls [])) : W p l e room_1 s m #[Value.ref b] below meth c H locs h.2.2.length (pm_tot h) Q (F0 m 264 ls []) := by
  obtain ⟨hx, hb, hr, hml, hown, hts0, hX, hbl, hlocks, hgv⟩ := id C0
  have hts : ∀ w ∈ pm_W, w.before #[Value.ref b] s = true := fun w hw => hts0 w (pm_wsub w hw)
  have hl0 : 0 < h.2.2.length := (List.getElem?_eq_some_iff.mp hT0).1
  have hlm : mq < h.2.2.length := (List.getElem?_eq_some_iff.mp hTm).1
  have hp1 := pm_ev_pre 40 _ _ _ _ _ hc1
  have hp2 := pm_ev_pre 40 _ _ _ _ _ hc2
  refine lv_aload_n hx hb (show decode code 264 = .ok (.aload_n 1, 1) by decide +kernel) rfl (lv_at hl 1 rfl) ?_
  refine lw_push (k := 1) C0 hI.2.2.1 hl e3 (by decide) hi hL (show decode code 265 = .ok (.aload_n 0, 1) by decide +kernel) (show decode code 266 = .ok (.iload_n 3, 1) by decide +kernel) (show decode code 267 = .ok (.iconst 1, 1) by decide +kernel) (show decode code 268 = .ok (.iadd, 1) by decide +kernel) (show decode code 269 = .ok (.iaload, 1) by decide +kernel) ?_
  refine lw_push (k := 2) C0 hI.2.2.1 hl e3 (by decide) hi hL (show decode code 270 = .ok (.aload_n 0, 1) by decide +kernel) (show decode code 271 = .ok (.iload_n 3, 1) by decide +kernel) (show decode code 272 = .ok (.iconst 2, 1) by decide +kernel) (show decode code 273 = .ok (.iadd, 1) by decide +kernel) (show decode code 274 = .ok (.iaload, 1) by decide +kernel) ?_
  refine lw_push (k := 3) C0 hI.2.2.1 hl e3 (by decide) hi hL (show decode code 275 = .ok (.aload_n 0, 1) by decide +kernel) (show decode code 276 = .ok (.iload_n 3, 1) by decide +kernel) (show decode code 277 = .ok (.iconst 3, 1) by decide +kernel) (show decode code 278 = .ok (.iadd, 1) by decide +kernel) (show decode code 279 = .ok (.iaload, 1) by decide +kernel) ?_
  refine lw_virt (vs := [.inl (xs (i + 1)).toInt, .inl (xs (i + 2)).toInt, .inl (xs (i + 3)).toInt]) (rest := []) hqx hx hb hml hl.1 hown hts hKK hI mx_13_32 hT0 rfl (fun w hw => by simp only [List.mem_cons, List.not_mem_nil, or_false] at hw; rcases hw with rfl | rfl | rfl <;> exact lw_I32 _) (by decide) (show decode code 280 = .ok (.invokevirtual 32, 3) by decide +kernel) hc1 hb1 (fun adr1 H1 locs1 ha1 hI1 hv => ?_)
  refine lv_aload_n hx hb (show decode code 283 = .ok (.aload_n 2, 1) by decide +kernel) rfl (lv_at hl 2 rfl) ?_
  refine lw_push (k := 1) C0 hI1.2.2.1 hl e3 (by decide) hi hL (show decode code 284 = .ok (.aload_n 0, 1) by decide +kernel) (show decode code 285 = .ok (.iload_n 3, 1) by decide +kernel) (show decode code 286 = .ok (.iconst 1, 1) by decide +kernel) (show decode code 287 = .ok (.iadd, 1) by decide +kernel) (show decode code 288 = .ok (.iaload, 1) by decide +kernel) ?_
  refine lw_push (k := 2) C0 hI1.2.2.1 hl e3 (by decide) hi hL (show decode code 289 = .ok (.aload_n 0, 1) by decide +kernel) (show decode code 290 = .ok (.iload_n 3, 1) by decide +kernel) (show decode code 291 = .ok (.iconst 2, 1) by decide +kernel) (show decode code 292 = .ok (.iadd, 1) by decide +kernel) (show decode code 293 = .ok (.iaload, 1) by decide +kernel) ?_
  refine lw_push (k := 3) C0 hI1.2.2.1 hl e3 (by decide) hi hL (show decode code 294 = .ok (.aload_n 0, 1) by decide +kernel) (show decode code 295 = .ok (.iload_n 3, 1) by decide +kernel) (show decode code 296 = .ok (.iconst 3, 1) by decide +kernel) (show decode code 297 = .ok (.iadd, 1) by decide +kernel) (show decode code 298 = .ok (.iaload, 1) by decide +kernel) ?_
  have hTm1 : h1.2.2[mq]? = some (12, 25) := by
    obtain ⟨t, et⟩ := hp1
    rw [← et, List.getElem?_append_left hlm]
    exact hTm
  have hle1 := (pm_pre_le hp1).1
  refine lw_virt (vs := [.inl (xs (i + 1)).toInt, .inl (xs (i + 2)).toInt, .inl (xs (i + 3)).toInt]) (rest := [.int (Int32.ofInt v)]) ((ha1 mq hlm).trans hqm) hx hb hml hl.1 hown hts hKK hI1 mx_13_36 hTm1 rfl (fun w hw => by simp only [List.mem_cons, List.not_mem_nil, or_false] at hw; rcases hw with rfl | rfl | rfl <;> exact lw_I32 _) (Nat.le_of_ble_eq_true rfl) (show decode code 299 = .ok (.invokevirtual 36, 3) by decide +kernel) hc2 hb2 (fun adr2 H2 locs2 ha2 hI2 hv2 => ?_)
  refine lv_icmp_eq (tgt := 665) hx hb (show decode code 302 = .ok (.if_icmp .eq 363, 3) by decide +kernel) (by decide) (fun _ => ?_) (fun z => absurd rfl z)
  exact kk adr2 H2 locs2 hI2 ((ha2 0 (by omega)).trans ((ha1 0 hl0).trans hqx)) ((ha2 mq (by omega)).trans ((ha1 mq hlm).trans hqm))
theorem lw_case_5 (C0 : lw_At p s m meth c b L xs) (hL : L ≤ 2560) (hKK : pm_KK D aC s) (hI : lw_HI s D aC adr h H locs) (hl : lv_has ls 4 [(3, .int x3), (1, .ref qx), (2, .ref qm), (0, .ref b)]) (e3 : x3 = nI i) (hi : i + 5 ≤ L) (hqx : adr 0 = qx) (hqm : adr mq = qm) (hT0 : h.2.2[0]? = some (11, 13)) (hTm : h.2.2[mq]? = some (12, 25)) (hc1 : pm_ev 40 28 (.inr (.inr (some 0)) :: [.inl (xs (i + 1)).toInt]) h (some (.inl v)) h1) (hb1 : lw_bd h1) (hc2 : pm_ev 40 128 (.inr (.inr (some mq)) :: [.inl (xs (i + 1)).toInt]) h1 (some (.inl v)) h2) (hb2 : lw_bd h2)
    (kk : ∀ (adr2 : Nat → Nat) (H2 : Heap) (locs2 : List Loc), lw_HI s D aC adr2 h2 H2 locs2 → adr2 0 = qx → adr2 mq = qm → W p l e room_1 s m #[Value.ref b] below meth c H2 locs2 h2.2.2.length (pm_tot h2) Q (F0 m 665 ls [])) : W p l e room_1 s m #[Value.ref b] below meth c H locs h.2.2.length (pm_tot h) Q (F0 m 307 ls []) := by
  obtain ⟨hx, hb, hr, hml, hown, hts0, hX, hbl, hlocks, hgv⟩ := id C0
  have hts : ∀ w ∈ pm_W, w.before #[Value.ref b] s = true := fun w hw => hts0 w (pm_wsub w hw)
  have hl0 : 0 < h.2.2.length := (List.getElem?_eq_some_iff.mp hT0).1
  have hlm : mq < h.2.2.length := (List.getElem?_eq_some_iff.mp hTm).1
  have hp1 := pm_ev_pre 40 _ _ _ _ _ hc1
  have hp2 := pm_ev_pre 40 _ _ _ _ _ hc2
  refine lv_aload_n hx hb (show decode code 307 = .ok (.aload_n 1, 1) by decide +kernel) rfl (lv_at hl 1 rfl) ?_
  refine lw_push (k := 1) C0 hI.2.2.1 hl e3 (by decide) hi hL (show decode code 308 = .ok (.aload_n 0, 1) by decide +kernel) (show decode code 309 = .ok (.iload_n 3, 1) by decide +kernel) (show decode code 310 = .ok (.iconst 1, 1) by decide +kernel) (show decode code 311 = .ok (.iadd, 1) by decide +kernel) (show decode code 312 = .ok (.iaload, 1) by decide +kernel) ?_
  refine lw_virt (vs := [.inl (xs (i + 1)).toInt]) (rest := []) hqx hx hb hml hl.1 hown hts hKK hI mx_13_37 hT0 rfl (fun w hw => by simp only [List.mem_cons, List.not_mem_nil, or_false] at hw; subst hw; exact lw_I32 _) (by decide) (show decode code 313 = .ok (.invokevirtual 37, 3) by decide +kernel) hc1 hb1 (fun adr1 H1 locs1 ha1 hI1 hv => ?_)
  refine lv_aload_n hx hb (show decode code 316 = .ok (.aload_n 2, 1) by decide +kernel) rfl (lv_at hl 2 rfl) ?_
  refine lw_push (k := 1) C0 hI1.2.2.1 hl e3 (by decide) hi hL (show decode code 317 = .ok (.aload_n 0, 1) by decide +kernel) (show decode code 318 = .ok (.iload_n 3, 1) by decide +kernel) (show decode code 319 = .ok (.iconst 1, 1) by decide +kernel) (show decode code 320 = .ok (.iadd, 1) by decide +kernel) (show decode code 321 = .ok (.iaload, 1) by decide +kernel) ?_
  have hTm1 : h1.2.2[mq]? = some (12, 25) := by
    obtain ⟨t, et⟩ := hp1
    rw [← et, List.getElem?_append_left hlm]
    exact hTm
  have hle1 := (pm_pre_le hp1).1
  refine lw_virt (vs := [.inl (xs (i + 1)).toInt]) (rest := [.int (Int32.ofInt v)]) ((ha1 mq hlm).trans hqm) hx hb hml hl.1 hown hts hKK hI1 mx_13_40 hTm1 rfl (fun w hw => by simp only [List.mem_cons, List.not_mem_nil, or_false] at hw; subst hw; exact lw_I32 _) (Nat.le_of_ble_eq_true rfl) (show decode code 322 = .ok (.invokevirtual 40, 3) by decide +kernel) hc2 hb2 (fun adr2 H2 locs2 ha2 hI2 hv2 => ?_)
  refine lv_icmp_eq (tgt := 665) hx hb (show decode code 325 = .ok (.if_icmp .eq 340, 3) by decide +kernel) (by decide) (fun _ => ?_) (fun z => absurd rfl z)
  exact kk adr2 H2 locs2 hI2 ((ha2 0 (by omega)).trans ((ha1 0 hl0).trans hqx)) ((ha2 mq (by omega)).trans ((ha1 mq hlm).trans hqm))
theorem lw_case_6 (C0 : lw_At p s m meth c b L xs) (hL : L ≤ 2560) (hKK : pm_KK D aC s) (hI : lw_HI s D aC adr h H locs) (hl : lv_has ls 4 [(3, .int x3), (1, .ref qx), (2, .ref qm), (0, .ref b)]) (e3 : x3 = nI i) (hi : i + 5 ≤ L) (hqx : adr 0 = qx) (hqm : adr mq = qm) (hT0 : h.2.2[0]? = some (11, 13)) (hTm : h.2.2[mq]? = some (12, 25)) (hc1 : pm_ev 40 30 (.inr (.inr (some 0)) :: [.inl (xs (i + 1)).toInt, .inl (xs (i + 2)).toInt]) h (some (.inl v)) h1) (hb1 : lw_bd h1) (hc2 : pm_ev 40 129 (.inr (.inr (some mq)) :: [.inl (xs (i + 1)).toInt, .inl (xs (i + 2)).toInt]) h1 (some (.inl v)) h2) (hb2 : lw_bd h2)
    (kk : ∀ (adr2 : Nat → Nat) (H2 : Heap) (locs2 : List Loc), lw_HI s D aC adr2 h2 H2 locs2 → adr2 0 = qx → adr2 mq = qm → W p l e room_1 s m #[Value.ref b] below meth c H2 locs2 h2.2.2.length (pm_tot h2) Q (F0 m 665 ls [])) : W p l e room_1 s m #[Value.ref b] below meth c H locs h.2.2.length (pm_tot h) Q (F0 m 330 ls []) := by
  obtain ⟨hx, hb, hr, hml, hown, hts0, hX, hbl, hlocks, hgv⟩ := id C0
  have hts : ∀ w ∈ pm_W, w.before #[Value.ref b] s = true := fun w hw => hts0 w (pm_wsub w hw)
  have hl0 : 0 < h.2.2.length := (List.getElem?_eq_some_iff.mp hT0).1
  have hlm : mq < h.2.2.length := (List.getElem?_eq_some_iff.mp hTm).1
  have hp1 := pm_ev_pre 40 _ _ _ _ _ hc1
  have hp2 := pm_ev_pre 40 _ _ _ _ _ hc2
  refine lv_aload_n hx hb (show decode code 330 = .ok (.aload_n 1, 1) by decide +kernel) rfl (lv_at hl 1 rfl) ?_
  refine lw_push (k := 1) C0 hI.2.2.1 hl e3 (by decide) hi hL (show decode code 331 = .ok (.aload_n 0, 1) by decide +kernel) (show decode code 332 = .ok (.iload_n 3, 1) by decide +kernel) (show decode code 333 = .ok (.iconst 1, 1) by decide +kernel) (show decode code 334 = .ok (.iadd, 1) by decide +kernel) (show decode code 335 = .ok (.iaload, 1) by decide +kernel) ?_
  refine lw_push (k := 2) C0 hI.2.2.1 hl e3 (by decide) hi hL (show decode code 336 = .ok (.aload_n 0, 1) by decide +kernel) (show decode code 337 = .ok (.iload_n 3, 1) by decide +kernel) (show decode code 338 = .ok (.iconst 2, 1) by decide +kernel) (show decode code 339 = .ok (.iadd, 1) by decide +kernel) (show decode code 340 = .ok (.iaload, 1) by decide +kernel) ?_
  refine lw_virt (vs := [.inl (xs (i + 1)).toInt, .inl (xs (i + 2)).toInt]) (rest := []) hqx hx hb hml hl.1 hown hts hKK hI mx_13_41 hT0 rfl (fun w hw => by simp only [List.mem_cons, List.not_mem_nil, or_false] at hw; rcases hw with rfl | rfl <;> exact lw_I32 _) (by decide) (show decode code 341 = .ok (.invokevirtual 41, 3) by decide +kernel) hc1 hb1 (fun adr1 H1 locs1 ha1 hI1 hv => ?_)
  refine lv_aload_n hx hb (show decode code 344 = .ok (.aload_n 2, 1) by decide +kernel) rfl (lv_at hl 2 rfl) ?_
  refine lw_push (k := 1) C0 hI1.2.2.1 hl e3 (by decide) hi hL (show decode code 345 = .ok (.aload_n 0, 1) by decide +kernel) (show decode code 346 = .ok (.iload_n 3, 1) by decide +kernel) (show decode code 347 = .ok (.iconst 1, 1) by decide +kernel) (show decode code 348 = .ok (.iadd, 1) by decide +kernel) (show decode code 349 = .ok (.iaload, 1) by decide +kernel) ?_
  refine lw_push (k := 2) C0 hI1.2.2.1 hl e3 (by decide) hi hL (show decode code 350 = .ok (.aload_n 0, 1) by decide +kernel) (show decode code 351 = .ok (.iload_n 3, 1) by decide +kernel) (show decode code 352 = .ok (.iconst 2, 1) by decide +kernel) (show decode code 353 = .ok (.iadd, 1) by decide +kernel) (show decode code 354 = .ok (.iaload, 1) by decide +kernel) ?_
  have hTm1 : h1.2.2[mq]? = some (12, 25) := by
    obtain ⟨t, et⟩ := hp1
    rw [← et, List.getElem?_append_left hlm]
    exact hTm
  have hle1 := (pm_pre_le hp1).1
  refine lw_virt (vs := [.inl (xs (i + 1)).toInt, .inl (xs (i + 2)).toInt]) (rest := [.int (Int32.ofInt v)]) ((ha1 mq hlm).trans hqm) hx hb hml hl.1 hown hts hKK hI1 mx_13_44 hTm1 rfl (fun w hw => by simp only [List.mem_cons, List.not_mem_nil, or_false] at hw; rcases hw with rfl | rfl <;> exact lw_I32 _) (Nat.le_of_ble_eq_true rfl) (show decode code 355 = .ok (.invokevirtual 44, 3) by decide +kernel) hc2 hb2 (fun adr2 H2 locs2 ha2 hI2 hv2 => ?_)
  refine lv_icmp_eq (tgt := 665) hx hb (show decode code 358 = .ok (.if_icmp .eq 307, 3) by decide +kernel) (by decide) (fun _ => ?_) (fun z => absurd rfl z)
  exact kk adr2 H2 locs2 hI2 ((ha2 0 (by omega)).trans ((ha1 0 hl0).trans hqx)) ((ha2 mq (by omega)).trans ((ha1 mq hlm).trans hqm))
theorem lw_case_7 (C0 : lw_At p s m meth c b L xs) (hL : L ≤ 2560) (hKK : pm_KK D aC s) (hI : lw_HI s D aC adr h H locs) (hl : lv_has ls 4 [(3, .int x3), (1, .ref qx), (2, .ref qm), (0, .ref b)]) (e3 : x3 = nI i) (hi : i + 5 ≤ L) (hqx : adr 0 = qx) (hqm : adr mq = qm) (hT0 : h.2.2[0]? = some (11, 13)) (hTm : h.2.2[mq]? = some (12, 25)) (hc1 : pm_ev 40 44 (.inr (.inr (some 0)) :: []) h (some (.inl v)) h1) (hb1 : lw_bd h1) (hc2 : pm_ev 40 119 (.inr (.inr (some mq)) :: []) h1 (some (.inl v)) h2) (hb2 : lw_bd h2)
    (kk : ∀ (adr2 : Nat → Nat) (H2 : Heap) (locs2 : List Loc), lw_HI s D aC adr2 h2 H2 locs2 → adr2 0 = qx → adr2 mq = qm → W p l e room_1 s m #[Value.ref b] below meth c H2 locs2 h2.2.2.length (pm_tot h2) Q (F0 m 665 ls [])) : W p l e room_1 s m #[Value.ref b] below meth c H locs h.2.2.length (pm_tot h) Q (F0 m 363 ls []) := by
  obtain ⟨hx, hb, hr, hml, hown, hts0, hX, hbl, hlocks, hgv⟩ := id C0
  have hts : ∀ w ∈ pm_W, w.before #[Value.ref b] s = true := fun w hw => hts0 w (pm_wsub w hw)
  have hl0 : 0 < h.2.2.length := (List.getElem?_eq_some_iff.mp hT0).1
  have hlm : mq < h.2.2.length := (List.getElem?_eq_some_iff.mp hTm).1
  have hp1 := pm_ev_pre 40 _ _ _ _ _ hc1
  have hp2 := pm_ev_pre 40 _ _ _ _ _ hc2
  refine lv_aload_n hx hb (show decode code 363 = .ok (.aload_n 1, 1) by decide +kernel) rfl (lv_at hl 1 rfl) ?_
  refine lw_virt (vs := []) (rest := []) hqx hx hb hml hl.1 hown hts hKK hI mx_13_45 hT0 rfl (fun w hw => by cases hw) (by decide) (show decode code 364 = .ok (.invokevirtual 45, 3) by decide +kernel) hc1 hb1 (fun adr1 H1 locs1 ha1 hI1 hv => ?_)
  refine lv_aload_n hx hb (show decode code 367 = .ok (.aload_n 2, 1) by decide +kernel) rfl (lv_at hl 2 rfl) ?_
  have hTm1 : h1.2.2[mq]? = some (12, 25) := by
    obtain ⟨t, et⟩ := hp1
    rw [← et, List.getElem?_append_left hlm]
    exact hTm
  have hle1 := (pm_pre_le hp1).1
  refine lw_virt (vs := []) (rest := [.int (Int32.ofInt v)]) ((ha1 mq hlm).trans hqm) hx hb hml hl.1 hown hts hKK hI1 mx_13_49 hTm1 rfl (fun w hw => by cases hw) (Nat.le_of_ble_eq_true rfl) (show decode code 368 = .ok (.invokevirtual 49, 3) by decide +kernel) hc2 hb2 (fun adr2 H2 locs2 ha2 hI2 hv2 => ?_)
  refine lv_icmp_eq (tgt := 665) hx hb (show decode code 371 = .ok (.if_icmp .eq 294, 3) by decide +kernel) (by decide) (fun _ => ?_) (fun z => absurd rfl z)
  exact kk adr2 H2 locs2 hI2 ((ha2 0 (by omega)).trans ((ha1 0 hl0).trans hqx)) ((ha2 mq (by omega)).trans ((ha1 mq hlm).trans hqm))
theorem lw_case_8 (C0 : lw_At p s m meth c b L xs) (hL : L ≤ 2560) (hKK : pm_KK D aC s) (hI : lw_HI s D aC adr h H locs) (hl : lv_has ls 4 [(3, .int x3), (1, .ref qx), (2, .ref qm), (0, .ref b)]) (e3 : x3 = nI i) (hi : i + 5 ≤ L) (hqx : adr 0 = qx) (hqm : adr mq = qm) (hT0 : h.2.2[0]? = some (11, 13)) (hTm : h.2.2[mq]? = some (12, 25)) (hc1 : pm_ev 40 46 (.inr (.inr (some 0)) :: [.inl (xs (i + 1)).toInt]) h (some (.inl v)) h1) (hb1 : lw_bd h1) (hc2 : pm_ev 40 131 (.inr (.inr (some mq)) :: [.inl (xs (i + 1)).toInt]) h1 (some (.inl v)) h2) (hb2 : lw_bd h2)
    (kk : ∀ (adr2 : Nat → Nat) (H2 : Heap) (locs2 : List Loc), lw_HI s D aC adr2 h2 H2 locs2 → adr2 0 = qx → adr2 mq = qm → W p l e room_1 s m #[Value.ref b] below meth c H2 locs2 h2.2.2.length (pm_tot h2) Q (F0 m 665 ls [])) : W p l e room_1 s m #[Value.ref b] below meth c H locs h.2.2.length (pm_tot h) Q (F0 m 376 ls []) := by
  obtain ⟨hx, hb, hr, hml, hown, hts0, hX, hbl, hlocks, hgv⟩ := id C0
  have hts : ∀ w ∈ pm_W, w.before #[Value.ref b] s = true := fun w hw => hts0 w (pm_wsub w hw)
  have hl0 : 0 < h.2.2.length := (List.getElem?_eq_some_iff.mp hT0).1
  have hlm : mq < h.2.2.length := (List.getElem?_eq_some_iff.mp hTm).1
  have hp1 := pm_ev_pre 40 _ _ _ _ _ hc1
  have hp2 := pm_ev_pre 40 _ _ _ _ _ hc2
  refine lv_aload_n hx hb (show decode code 376 = .ok (.aload_n 1, 1) by decide +kernel) rfl (lv_at hl 1 rfl) ?_
  refine lw_push (k := 1) C0 hI.2.2.1 hl e3 (by decide) hi hL (show decode code 377 = .ok (.aload_n 0, 1) by decide +kernel) (show decode code 378 = .ok (.iload_n 3, 1) by decide +kernel) (show decode code 379 = .ok (.iconst 1, 1) by decide +kernel) (show decode code 380 = .ok (.iadd, 1) by decide +kernel) (show decode code 381 = .ok (.iaload, 1) by decide +kernel) ?_
  refine lw_virt (vs := [.inl (xs (i + 1)).toInt]) (rest := []) hqx hx hb hml hl.1 hown hts hKK hI mx_13_50 hT0 rfl (fun w hw => by simp only [List.mem_cons, List.not_mem_nil, or_false] at hw; subst hw; exact lw_I32 _) (by decide) (show decode code 382 = .ok (.invokevirtual 50, 3) by decide +kernel) hc1 hb1 (fun adr1 H1 locs1 ha1 hI1 hv => ?_)
  refine lv_aload_n hx hb (show decode code 385 = .ok (.aload_n 2, 1) by decide +kernel) rfl (lv_at hl 2 rfl) ?_
  refine lw_push (k := 1) C0 hI1.2.2.1 hl e3 (by decide) hi hL (show decode code 386 = .ok (.aload_n 0, 1) by decide +kernel) (show decode code 387 = .ok (.iload_n 3, 1) by decide +kernel) (show decode code 388 = .ok (.iconst 1, 1) by decide +kernel) (show decode code 389 = .ok (.iadd, 1) by decide +kernel) (show decode code 390 = .ok (.iaload, 1) by decide +kernel) ?_
  have hTm1 : h1.2.2[mq]? = some (12, 25) := by
    obtain ⟨t, et⟩ := hp1
    rw [← et, List.getElem?_append_left hlm]
    exact hTm
  have hle1 := (pm_pre_le hp1).1
  refine lw_virt (vs := [.inl (xs (i + 1)).toInt]) (rest := [.int (Int32.ofInt v)]) ((ha1 mq hlm).trans hqm) hx hb hml hl.1 hown hts hKK hI1 mx_13_53 hTm1 rfl (fun w hw => by simp only [List.mem_cons, List.not_mem_nil, or_false] at hw; subst hw; exact lw_I32 _) (Nat.le_of_ble_eq_true rfl) (show decode code 391 = .ok (.invokevirtual 53, 3) by decide +kernel) hc2 hb2 (fun adr2 H2 locs2 ha2 hI2 hv2 => ?_)
  refine lv_icmp_eq (tgt := 665) hx hb (show decode code 394 = .ok (.if_icmp .eq 271, 3) by decide +kernel) (by decide) (fun _ => ?_) (fun z => absurd rfl z)
  exact kk adr2 H2 locs2 hI2 ((ha2 0 (by omega)).trans ((ha1 0 hl0).trans hqx)) ((ha2 mq (by omega)).trans ((ha1 mq hlm).trans hqm))
theorem lw_case_9 (C0 : lw_At p s m meth c b L xs) (hL : L ≤ 2560) (hKK : pm_KK D aC s) (hI : lw_HI s D aC adr h H locs) (hl : lv_has ls 4 [(3, .int x3), (1, .ref qx), (2, .ref qm), (0, .ref b)]) (e3 : x3 = nI i) (hi : i + 5 ≤ L) (hqx : adr 0 = qx) (hqm : adr mq = qm) (hT0 : h.2.2[0]? = some (11, 13)) (hTm : h.2.2[mq]? = some (12, 25)) (hc1 : pm_ev 40 56 (.inr (.inr (some 0)) :: [.inl (xs (i + 1)).toInt]) h (some (.inl v)) h1) (hb1 : lw_bd h1) (hc2 : pm_ev 40 137 (.inr (.inr (some mq)) :: [.inl (xs (i + 1)).toInt]) h1 (some (.inl v)) h2) (hb2 : lw_bd h2)
    (kk : ∀ (adr2 : Nat → Nat) (H2 : Heap) (locs2 : List Loc), lw_HI s D aC adr2 h2 H2 locs2 → adr2 0 = qx → adr2 mq = qm → W p l e room_1 s m #[Value.ref b] below meth c H2 locs2 h2.2.2.length (pm_tot h2) Q (F0 m 665 ls [])) : W p l e room_1 s m #[Value.ref b] below meth c H locs h.2.2.length (pm_tot h) Q (F0 m 399 ls []) := by
  obtain ⟨hx, hb, hr, hml, hown, hts0, hX, hbl, hlocks, hgv⟩ := id C0
  have hts : ∀ w ∈ pm_W, w.before #[Value.ref b] s = true := fun w hw => hts0 w (pm_wsub w hw)
  have hl0 : 0 < h.2.2.length := (List.getElem?_eq_some_iff.mp hT0).1
  have hlm : mq < h.2.2.length := (List.getElem?_eq_some_iff.mp hTm).1
  have hp1 := pm_ev_pre 40 _ _ _ _ _ hc1
  have hp2 := pm_ev_pre 40 _ _ _ _ _ hc2
  refine lv_aload_n hx hb (show decode code 399 = .ok (.aload_n 1, 1) by decide +kernel) rfl (lv_at hl 1 rfl) ?_
  refine lw_push (k := 1) C0 hI.2.2.1 hl e3 (by decide) hi hL (show decode code 400 = .ok (.aload_n 0, 1) by decide +kernel) (show decode code 401 = .ok (.iload_n 3, 1) by decide +kernel) (show decode code 402 = .ok (.iconst 1, 1) by decide +kernel) (show decode code 403 = .ok (.iadd, 1) by decide +kernel) (show decode code 404 = .ok (.iaload, 1) by decide +kernel) ?_
  refine lw_virt (vs := [.inl (xs (i + 1)).toInt]) (rest := []) hqx hx hb hml hl.1 hown hts hKK hI mx_13_54 hT0 rfl (fun w hw => by simp only [List.mem_cons, List.not_mem_nil, or_false] at hw; subst hw; exact lw_I32 _) (by decide) (show decode code 405 = .ok (.invokevirtual 54, 3) by decide +kernel) hc1 hb1 (fun adr1 H1 locs1 ha1 hI1 hv => ?_)
  refine lv_aload_n hx hb (show decode code 408 = .ok (.aload_n 2, 1) by decide +kernel) rfl (lv_at hl 2 rfl) ?_
  refine lw_push (k := 1) C0 hI1.2.2.1 hl e3 (by decide) hi hL (show decode code 409 = .ok (.aload_n 0, 1) by decide +kernel) (show decode code 410 = .ok (.iload_n 3, 1) by decide +kernel) (show decode code 411 = .ok (.iconst 1, 1) by decide +kernel) (show decode code 412 = .ok (.iadd, 1) by decide +kernel) (show decode code 413 = .ok (.iaload, 1) by decide +kernel) ?_
  have hTm1 : h1.2.2[mq]? = some (12, 25) := by
    obtain ⟨t, et⟩ := hp1
    rw [← et, List.getElem?_append_left hlm]
    exact hTm
  have hle1 := (pm_pre_le hp1).1
  refine lw_virt (vs := [.inl (xs (i + 1)).toInt]) (rest := [.int (Int32.ofInt v)]) ((ha1 mq hlm).trans hqm) hx hb hml hl.1 hown hts hKK hI1 mx_13_57 hTm1 rfl (fun w hw => by simp only [List.mem_cons, List.not_mem_nil, or_false] at hw; subst hw; exact lw_I32 _) (Nat.le_of_ble_eq_true rfl) (show decode code 414 = .ok (.invokevirtual 57, 3) by decide +kernel) hc2 hb2 (fun adr2 H2 locs2 ha2 hI2 hv2 => ?_)
  refine lv_icmp_eq (tgt := 665) hx hb (show decode code 417 = .ok (.if_icmp .eq 248, 3) by decide +kernel) (by decide) (fun _ => ?_) (fun z => absurd rfl z)
  exact kk adr2 H2 locs2 hI2 ((ha2 0 (by omega)).trans ((ha1 0 hl0).trans hqx)) ((ha2 mq (by omega)).trans ((ha1 mq hlm).trans hqm))
theorem lw_case_10 (C0 : lw_At p s m meth c b L xs) (hL : L ≤ 2560) (hKK : pm_KK D aC s) (hI : lw_HI s D aC adr h H locs) (hl : lv_has ls 4 [(3, .int x3), (1, .ref qx), (2, .ref qm), (0, .ref b)]) (e3 : x3 = nI i) (hi : i + 5 ≤ L) (hqx : adr 0 = qx) (hqm : adr mq = qm) (hT0 : h.2.2[0]? = some (11, 13)) (hTm : h.2.2[mq]? = some (12, 25)) (hc1 : pm_ev 40 57 (.inr (.inr (some 0)) :: []) h (some (.inl v)) h1) (hb1 : lw_bd h1) (hc2 : pm_ev 40 138 (.inr (.inr (some mq)) :: []) h1 (some (.inl v)) h2) (hb2 : lw_bd h2)
    (kk : ∀ (adr2 : Nat → Nat) (H2 : Heap) (locs2 : List Loc), lw_HI s D aC adr2 h2 H2 locs2 → adr2 0 = qx → adr2 mq = qm → W p l e room_1 s m #[Value.ref b] below meth c H2 locs2 h2.2.2.length (pm_tot h2) Q (F0 m 665 ls [])) : W p l e room_1 s m #[Value.ref b] below meth c H locs h.2.2.length (pm_tot h) Q (F0 m 422 ls []) := by
  obtain ⟨hx, hb, hr, hml, hown, hts0, hX, hbl, hlocks, hgv⟩ := id C0
  have hts : ∀ w ∈ pm_W, w.before #[Value.ref b] s = true := fun w hw => hts0 w (pm_wsub w hw)
  have hl0 : 0 < h.2.2.length := (List.getElem?_eq_some_iff.mp hT0).1
  have hlm : mq < h.2.2.length := (List.getElem?_eq_some_iff.mp hTm).1
  have hp1 := pm_ev_pre 40 _ _ _ _ _ hc1
  have hp2 := pm_ev_pre 40 _ _ _ _ _ hc2
  refine lv_aload_n hx hb (show decode code 422 = .ok (.aload_n 1, 1) by decide +kernel) rfl (lv_at hl 1 rfl) ?_
  refine lw_virt (vs := []) (rest := []) hqx hx hb hml hl.1 hown hts hKK hI mx_13_58 hT0 rfl (fun w hw => by cases hw) (by decide) (show decode code 423 = .ok (.invokevirtual 58, 3) by decide +kernel) hc1 hb1 (fun adr1 H1 locs1 ha1 hI1 hv => ?_)
  refine lv_aload_n hx hb (show decode code 426 = .ok (.aload_n 2, 1) by decide +kernel) rfl (lv_at hl 2 rfl) ?_
  have hTm1 : h1.2.2[mq]? = some (12, 25) := by
    obtain ⟨t, et⟩ := hp1
    rw [← et, List.getElem?_append_left hlm]
    exact hTm
  have hle1 := (pm_pre_le hp1).1
  refine lw_virt (vs := []) (rest := [.int (Int32.ofInt v)]) ((ha1 mq hlm).trans hqm) hx hb hml hl.1 hown hts hKK hI1 mx_13_61 hTm1 rfl (fun w hw => by cases hw) (Nat.le_of_ble_eq_true rfl) (show decode code 427 = .ok (.invokevirtual 61, 3) by decide +kernel) hc2 hb2 (fun adr2 H2 locs2 ha2 hI2 hv2 => ?_)
  refine lv_icmp_eq (tgt := 665) hx hb (show decode code 430 = .ok (.if_icmp .eq 235, 3) by decide +kernel) (by decide) (fun _ => ?_) (fun z => absurd rfl z)
  exact kk adr2 H2 locs2 hI2 ((ha2 0 (by omega)).trans ((ha1 0 hl0).trans hqx)) ((ha2 mq (by omega)).trans ((ha1 mq hlm).trans hqm))
theorem lw_case_11 (C0 : lw_At p s m meth c b L xs) (hL : L ≤ 2560) (hKK : pm_KK D aC s) (hI : lw_HI s D aC adr h H locs) (hl : lv_has ls 4 [(3, .int x3), (1, .ref qx), (2, .ref qm), (0, .ref b)]) (e3 : x3 = nI i) (hi : i + 5 ≤ L) (hqx : adr 0 = qx) (hqm : adr mq = qm) (hT0 : h.2.2[0]? = some (11, 13)) (hTm : h.2.2[mq]? = some (12, 25)) (hc1 : pm_ev 40 75 (.inr (.inr (some 0)) :: []) h (some (.inl v)) h1) (hb1 : lw_bd h1) (hc2 : pm_ev 40 147 (.inr (.inr (some mq)) :: []) h1 (some (.inl v)) h2) (hb2 : lw_bd h2)
    (kk : ∀ (adr2 : Nat → Nat) (H2 : Heap) (locs2 : List Loc), lw_HI s D aC adr2 h2 H2 locs2 → adr2 0 = qx → adr2 mq = qm → W p l e room_1 s m #[Value.ref b] below meth c H2 locs2 h2.2.2.length (pm_tot h2) Q (F0 m 665 ls [])) : W p l e room_1 s m #[Value.ref b] below meth c H locs h.2.2.length (pm_tot h) Q (F0 m 435 ls []) := by
  obtain ⟨hx, hb, hr, hml, hown, hts0, hX, hbl, hlocks, hgv⟩ := id C0
  have hts : ∀ w ∈ pm_W, w.before #[Value.ref b] s = true := fun w hw => hts0 w (pm_wsub w hw)
  have hl0 : 0 < h.2.2.length := (List.getElem?_eq_some_iff.mp hT0).1
  have hlm : mq < h.2.2.length := (List.getElem?_eq_some_iff.mp hTm).1
  have hp1 := pm_ev_pre 40 _ _ _ _ _ hc1
  have hp2 := pm_ev_pre 40 _ _ _ _ _ hc2
  refine lv_aload_n hx hb (show decode code 435 = .ok (.aload_n 1, 1) by decide +kernel) rfl (lv_at hl 1 rfl) ?_
  refine lw_virt (vs := []) (rest := []) hqx hx hb hml hl.1 hown hts hKK hI mx_13_62 hT0 rfl (fun w hw => by cases hw) (by decide) (show decode code 436 = .ok (.invokevirtual 62, 3) by decide +kernel) hc1 hb1 (fun adr1 H1 locs1 ha1 hI1 hv => ?_)
  refine lv_aload_n hx hb (show decode code 439 = .ok (.aload_n 2, 1) by decide +kernel) rfl (lv_at hl 2 rfl) ?_
  have hTm1 : h1.2.2[mq]? = some (12, 25) := by
    obtain ⟨t, et⟩ := hp1
    rw [← et, List.getElem?_append_left hlm]
    exact hTm
  have hle1 := (pm_pre_le hp1).1
  refine lw_virt (vs := []) (rest := [.int (Int32.ofInt v)]) ((ha1 mq hlm).trans hqm) hx hb hml hl.1 hown hts hKK hI1 mx_13_65 hTm1 rfl (fun w hw => by cases hw) (Nat.le_of_ble_eq_true rfl) (show decode code 440 = .ok (.invokevirtual 65, 3) by decide +kernel) hc2 hb2 (fun adr2 H2 locs2 ha2 hI2 hv2 => ?_)
  refine lv_icmp_eq (tgt := 665) hx hb (show decode code 443 = .ok (.if_icmp .eq 222, 3) by decide +kernel) (by decide) (fun _ => ?_) (fun z => absurd rfl z)
  exact kk adr2 H2 locs2 hI2 ((ha2 0 (by omega)).trans ((ha1 0 hl0).trans hqx)) ((ha2 mq (by omega)).trans ((ha1 mq hlm).trans hqm))
theorem lw_case_12 (C0 : lw_At p s m meth c b L xs) (hL : L ≤ 2560) (hKK : pm_KK D aC s) (hI : lw_HI s D aC adr h H locs) (hl : lv_has ls 4 [(3, .int x3), (1, .ref qx), (2, .ref qm), (0, .ref b)]) (e3 : x3 = nI i) (hi : i + 5 ≤ L) (hqx : adr 0 = qx) (hqm : adr mq = qm) (hT0 : h.2.2[0]? = some (11, 13)) (hTm : h.2.2[mq]? = some (12, 25)) (hc1 : pm_ev 40 77 (.inr (.inr (some 0)) :: [.inl (xs (i + 1)).toInt, .inl (xs (i + 2)).toInt]) h (some (.inl v)) h1) (hb1 : lw_bd h1) (hc2 : pm_ev 40 149 (.inr (.inr (some mq)) :: [.inl (xs (i + 1)).toInt, .inl (xs (i + 2)).toInt]) h1 (some (.inl v)) h2) (hb2 : lw_bd h2)
    (kk : ∀ (adr2 : Nat → Nat) (H2 : Heap) (locs2 : List Loc), lw_HI s D aC adr2 h2 H2 locs2 → adr2 0 = qx → adr2 mq = qm → W p l e room_1 s m #[Value.ref b] below meth c H2 locs2 h2.2.2.length (pm_tot h2) Q (F0 m 665 ls [])) : W p l e room_1 s m #[Value.ref b] below meth c H locs h.2.2.length (pm_tot h) Q (F0 m 448 ls []) := by
  obtain ⟨hx, hb, hr, hml, hown, hts0, hX, hbl, hlocks, hgv⟩ := id C0
  have hts : ∀ w ∈ pm_W, w.before #[Value.ref b] s = true := fun w hw => hts0 w (pm_wsub w hw)
  have hl0 : 0 < h.2.2.length := (List.getElem?_eq_some_iff.mp hT0).1
  have hlm : mq < h.2.2.length := (List.getElem?_eq_some_iff.mp hTm).1
  have hp1 := pm_ev_pre 40 _ _ _ _ _ hc1
  have hp2 := pm_ev_pre 40 _ _ _ _ _ hc2
  refine lv_aload_n hx hb (show decode code 448 = .ok (.aload_n 1, 1) by decide +kernel) rfl (lv_at hl 1 rfl) ?_
  refine lw_push (k := 1) C0 hI.2.2.1 hl e3 (by decide) hi hL (show decode code 449 = .ok (.aload_n 0, 1) by decide +kernel) (show decode code 450 = .ok (.iload_n 3, 1) by decide +kernel) (show decode code 451 = .ok (.iconst 1, 1) by decide +kernel) (show decode code 452 = .ok (.iadd, 1) by decide +kernel) (show decode code 453 = .ok (.iaload, 1) by decide +kernel) ?_
  refine lw_push (k := 2) C0 hI.2.2.1 hl e3 (by decide) hi hL (show decode code 454 = .ok (.aload_n 0, 1) by decide +kernel) (show decode code 455 = .ok (.iload_n 3, 1) by decide +kernel) (show decode code 456 = .ok (.iconst 2, 1) by decide +kernel) (show decode code 457 = .ok (.iadd, 1) by decide +kernel) (show decode code 458 = .ok (.iaload, 1) by decide +kernel) ?_
  refine lw_virt (vs := [.inl (xs (i + 1)).toInt, .inl (xs (i + 2)).toInt]) (rest := []) hqx hx hb hml hl.1 hown hts hKK hI mx_13_66 hT0 rfl (fun w hw => by simp only [List.mem_cons, List.not_mem_nil, or_false] at hw; rcases hw with rfl | rfl <;> exact lw_I32 _) (by decide) (show decode code 459 = .ok (.invokevirtual 66, 3) by decide +kernel) hc1 hb1 (fun adr1 H1 locs1 ha1 hI1 hv => ?_)
  refine lv_aload_n hx hb (show decode code 462 = .ok (.aload_n 2, 1) by decide +kernel) rfl (lv_at hl 2 rfl) ?_
  refine lw_push (k := 1) C0 hI1.2.2.1 hl e3 (by decide) hi hL (show decode code 463 = .ok (.aload_n 0, 1) by decide +kernel) (show decode code 464 = .ok (.iload_n 3, 1) by decide +kernel) (show decode code 465 = .ok (.iconst 1, 1) by decide +kernel) (show decode code 466 = .ok (.iadd, 1) by decide +kernel) (show decode code 467 = .ok (.iaload, 1) by decide +kernel) ?_
  refine lw_push (k := 2) C0 hI1.2.2.1 hl e3 (by decide) hi hL (show decode code 468 = .ok (.aload_n 0, 1) by decide +kernel) (show decode code 469 = .ok (.iload_n 3, 1) by decide +kernel) (show decode code 470 = .ok (.iconst 2, 1) by decide +kernel) (show decode code 471 = .ok (.iadd, 1) by decide +kernel) (show decode code 472 = .ok (.iaload, 1) by decide +kernel) ?_
  have hTm1 : h1.2.2[mq]? = some (12, 25) := by
    obtain ⟨t, et⟩ := hp1
    rw [← et, List.getElem?_append_left hlm]
    exact hTm
  have hle1 := (pm_pre_le hp1).1
  refine lw_virt (vs := [.inl (xs (i + 1)).toInt, .inl (xs (i + 2)).toInt]) (rest := [.int (Int32.ofInt v)]) ((ha1 mq hlm).trans hqm) hx hb hml hl.1 hown hts hKK hI1 mx_13_69 hTm1 rfl (fun w hw => by simp only [List.mem_cons, List.not_mem_nil, or_false] at hw; rcases hw with rfl | rfl <;> exact lw_I32 _) (Nat.le_of_ble_eq_true rfl) (show decode code 473 = .ok (.invokevirtual 69, 3) by decide +kernel) hc2 hb2 (fun adr2 H2 locs2 ha2 hI2 hv2 => ?_)
  refine lv_icmp_eq (tgt := 665) hx hb (show decode code 476 = .ok (.if_icmp .eq 189, 3) by decide +kernel) (by decide) (fun _ => ?_) (fun z => absurd rfl z)
  exact kk adr2 H2 locs2 hI2 ((ha2 0 (by omega)).trans ((ha1 0 hl0).trans hqx)) ((ha2 mq (by omega)).trans ((ha1 mq hlm).trans hqm))
theorem lw_case_13 (C0 : lw_At p s m meth c b L xs) (hL : L ≤ 2560) (hKK : pm_KK D aC s) (hI : lw_HI s D aC adr h H locs) (hl : lv_has ls 4 [(3, .int x3), (1, .ref qx), (2, .ref qm), (0, .ref b)]) (e3 : x3 = nI i) (hi : i + 5 ≤ L) (hqx : adr 0 = qx) (hqm : adr mq = qm) (hT0 : h.2.2[0]? = some (11, 13)) (hTm : h.2.2[mq]? = some (12, 25)) (hc1 : pm_ev 40 83 (.inr (.inr (some 0)) :: [.inl (xs (i + 1)).toInt, .inl (xs (i + 2)).toInt]) h (some (.inl v)) h1) (hb1 : lw_bd h1) (hc2 : pm_ev 40 153 (.inr (.inr (some mq)) :: [.inl (xs (i + 1)).toInt, .inl (xs (i + 2)).toInt]) h1 (some (.inl v)) h2) (hb2 : lw_bd h2)
    (kk : ∀ (adr2 : Nat → Nat) (H2 : Heap) (locs2 : List Loc), lw_HI s D aC adr2 h2 H2 locs2 → adr2 0 = qx → adr2 mq = qm → W p l e room_1 s m #[Value.ref b] below meth c H2 locs2 h2.2.2.length (pm_tot h2) Q (F0 m 665 ls [])) : W p l e room_1 s m #[Value.ref b] below meth c H locs h.2.2.length (pm_tot h) Q (F0 m 481 ls []) := by
  obtain ⟨hx, hb, hr, hml, hown, hts0, hX, hbl, hlocks, hgv⟩ := id C0
  have hts : ∀ w ∈ pm_W, w.before #[Value.ref b] s = true := fun w hw => hts0 w (pm_wsub w hw)
  have hl0 : 0 < h.2.2.length := (List.getElem?_eq_some_iff.mp hT0).1
  have hlm : mq < h.2.2.length := (List.getElem?_eq_some_iff.mp hTm).1
  have hp1 := pm_ev_pre 40 _ _ _ _ _ hc1
  have hp2 := pm_ev_pre 40 _ _ _ _ _ hc2
  refine lv_aload_n hx hb (show decode code 481 = .ok (.aload_n 1, 1) by decide +kernel) rfl (lv_at hl 1 rfl) ?_
  refine lw_push (k := 1) C0 hI.2.2.1 hl e3 (by decide) hi hL (show decode code 482 = .ok (.aload_n 0, 1) by decide +kernel) (show decode code 483 = .ok (.iload_n 3, 1) by decide +kernel) (show decode code 484 = .ok (.iconst 1, 1) by decide +kernel) (show decode code 485 = .ok (.iadd, 1) by decide +kernel) (show decode code 486 = .ok (.iaload, 1) by decide +kernel) ?_
  refine lw_push (k := 2) C0 hI.2.2.1 hl e3 (by decide) hi hL (show decode code 487 = .ok (.aload_n 0, 1) by decide +kernel) (show decode code 488 = .ok (.iload_n 3, 1) by decide +kernel) (show decode code 489 = .ok (.iconst 2, 1) by decide +kernel) (show decode code 490 = .ok (.iadd, 1) by decide +kernel) (show decode code 491 = .ok (.iaload, 1) by decide +kernel) ?_
  refine lw_virt (vs := [.inl (xs (i + 1)).toInt, .inl (xs (i + 2)).toInt]) (rest := []) hqx hx hb hml hl.1 hown hts hKK hI mx_13_70 hT0 rfl (fun w hw => by simp only [List.mem_cons, List.not_mem_nil, or_false] at hw; rcases hw with rfl | rfl <;> exact lw_I32 _) (by decide) (show decode code 492 = .ok (.invokevirtual 70, 3) by decide +kernel) hc1 hb1 (fun adr1 H1 locs1 ha1 hI1 hv => ?_)
  refine lv_aload_n hx hb (show decode code 495 = .ok (.aload_n 2, 1) by decide +kernel) rfl (lv_at hl 2 rfl) ?_
  refine lw_push (k := 1) C0 hI1.2.2.1 hl e3 (by decide) hi hL (show decode code 496 = .ok (.aload_n 0, 1) by decide +kernel) (show decode code 497 = .ok (.iload_n 3, 1) by decide +kernel) (show decode code 498 = .ok (.iconst 1, 1) by decide +kernel) (show decode code 499 = .ok (.iadd, 1) by decide +kernel) (show decode code 500 = .ok (.iaload, 1) by decide +kernel) ?_
  refine lw_push (k := 2) C0 hI1.2.2.1 hl e3 (by decide) hi hL (show decode code 501 = .ok (.aload_n 0, 1) by decide +kernel) (show decode code 502 = .ok (.iload_n 3, 1) by decide +kernel) (show decode code 503 = .ok (.iconst 2, 1) by decide +kernel) (show decode code 504 = .ok (.iadd, 1) by decide +kernel) (show decode code 505 = .ok (.iaload, 1) by decide +kernel) ?_
  have hTm1 : h1.2.2[mq]? = some (12, 25) := by
    obtain ⟨t, et⟩ := hp1
    rw [← et, List.getElem?_append_left hlm]
    exact hTm
  have hle1 := (pm_pre_le hp1).1
  refine lw_virt (vs := [.inl (xs (i + 1)).toInt, .inl (xs (i + 2)).toInt]) (rest := [.int (Int32.ofInt v)]) ((ha1 mq hlm).trans hqm) hx hb hml hl.1 hown hts hKK hI1 mx_13_73 hTm1 rfl (fun w hw => by simp only [List.mem_cons, List.not_mem_nil, or_false] at hw; rcases hw with rfl | rfl <;> exact lw_I32 _) (Nat.le_of_ble_eq_true rfl) (show decode code 506 = .ok (.invokevirtual 73, 3) by decide +kernel) hc2 hb2 (fun adr2 H2 locs2 ha2 hI2 hv2 => ?_)
  refine lv_icmp_eq (tgt := 665) hx hb (show decode code 509 = .ok (.if_icmp .eq 156, 3) by decide +kernel) (by decide) (fun _ => ?_) (fun z => absurd rfl z)
  exact kk adr2 H2 locs2 hI2 ((ha2 0 (by omega)).trans ((ha1 0 hl0).trans hqx)) ((ha2 mq (by omega)).trans ((ha1 mq hlm).trans hqm))
theorem lw_case_14 (C0 : lw_At p s m meth c b L xs) (hL : L ≤ 2560) (hKK : pm_KK D aC s) (hI : lw_HI s D aC adr h H locs) (hl : lv_has ls 4 [(3, .int x3), (1, .ref qx), (2, .ref qm), (0, .ref b)]) (e3 : x3 = nI i) (hi : i + 5 ≤ L) (hqx : adr 0 = qx) (hqm : adr mq = qm) (hT0 : h.2.2[0]? = some (11, 13)) (hTm : h.2.2[mq]? = some (12, 25)) (hc1 : pm_ev 40 87 (.inr (.inr (some 0)) :: []) h (some (.inl v)) h1) (hb1 : lw_bd h1) (hc2 : pm_ev 40 155 (.inr (.inr (some mq)) :: []) h1 (some (.inl v)) h2) (hb2 : lw_bd h2)
    (kk : ∀ (adr2 : Nat → Nat) (H2 : Heap) (locs2 : List Loc), lw_HI s D aC adr2 h2 H2 locs2 → adr2 0 = qx → adr2 mq = qm → W p l e room_1 s m #[Value.ref b] below meth c H2 locs2 h2.2.2.length (pm_tot h2) Q (F0 m 665 ls [])) : W p l e room_1 s m #[Value.ref b] below meth c H locs h.2.2.length (pm_tot h) Q (F0 m 514 ls []) := by
  obtain ⟨hx, hb, hr, hml, hown, hts0, hX, hbl, hlocks, hgv⟩ := id C0
  have hts : ∀ w ∈ pm_W, w.before #[Value.ref b] s = true := fun w hw => hts0 w (pm_wsub w hw)
  have hl0 : 0 < h.2.2.length := (List.getElem?_eq_some_iff.mp hT0).1
  have hlm : mq < h.2.2.length := (List.getElem?_eq_some_iff.mp hTm).1
  have hp1 := pm_ev_pre 40 _ _ _ _ _ hc1
  have hp2 := pm_ev_pre 40 _ _ _ _ _ hc2
  refine lv_aload_n hx hb (show decode code 514 = .ok (.aload_n 1, 1) by decide +kernel) rfl (lv_at hl 1 rfl) ?_
  refine lw_virt (vs := []) (rest := []) hqx hx hb hml hl.1 hown hts hKK hI mx_13_74 hT0 rfl (fun w hw => by cases hw) (by decide) (show decode code 515 = .ok (.invokevirtual 74, 3) by decide +kernel) hc1 hb1 (fun adr1 H1 locs1 ha1 hI1 hv => ?_)
  refine lv_aload_n hx hb (show decode code 518 = .ok (.aload_n 2, 1) by decide +kernel) rfl (lv_at hl 2 rfl) ?_
  have hTm1 : h1.2.2[mq]? = some (12, 25) := by
    obtain ⟨t, et⟩ := hp1
    rw [← et, List.getElem?_append_left hlm]
    exact hTm
  have hle1 := (pm_pre_le hp1).1
  refine lw_virt (vs := []) (rest := [.int (Int32.ofInt v)]) ((ha1 mq hlm).trans hqm) hx hb hml hl.1 hown hts hKK hI1 mx_13_77 hTm1 rfl (fun w hw => by cases hw) (Nat.le_of_ble_eq_true rfl) (show decode code 519 = .ok (.invokevirtual 77, 3) by decide +kernel) hc2 hb2 (fun adr2 H2 locs2 ha2 hI2 hv2 => ?_)
  refine lv_icmp_eq (tgt := 665) hx hb (show decode code 522 = .ok (.if_icmp .eq 143, 3) by decide +kernel) (by decide) (fun _ => ?_) (fun z => absurd rfl z)
  exact kk adr2 H2 locs2 hI2 ((ha2 0 (by omega)).trans ((ha1 0 hl0).trans hqx)) ((ha2 mq (by omega)).trans ((ha1 mq hlm).trans hqm))
theorem lw_case_15 (C0 : lw_At p s m meth c b L xs) (hL : L ≤ 2560) (hKK : pm_KK D aC s) (hI : lw_HI s D aC adr h H locs) (hl : lv_has ls 4 [(3, .int x3), (1, .ref qx), (2, .ref qm), (0, .ref b)]) (e3 : x3 = nI i) (hi : i + 5 ≤ L) (hqx : adr 0 = qx) (hqm : adr mq = qm) (hT0 : h.2.2[0]? = some (11, 13)) (hTm : h.2.2[mq]? = some (12, 25)) (hc1 : pm_ev 40 89 (.inr (.inr (some 0)) :: [.inl (xs (i + 1)).toInt]) h (some (.inl v)) h1) (hb1 : lw_bd h1) (hc2 : pm_ev 40 156 (.inr (.inr (some mq)) :: [.inl (xs (i + 1)).toInt]) h1 (some (.inl v)) h2) (hb2 : lw_bd h2)
    (kk : ∀ (adr2 : Nat → Nat) (H2 : Heap) (locs2 : List Loc), lw_HI s D aC adr2 h2 H2 locs2 → adr2 0 = qx → adr2 mq = qm → W p l e room_1 s m #[Value.ref b] below meth c H2 locs2 h2.2.2.length (pm_tot h2) Q (F0 m 665 ls [])) : W p l e room_1 s m #[Value.ref b] below meth c H locs h.2.2.length (pm_tot h) Q (F0 m 527 ls []) := by
  obtain ⟨hx, hb, hr, hml, hown, hts0, hX, hbl, hlocks, hgv⟩ := id C0
  have hts : ∀ w ∈ pm_W, w.before #[Value.ref b] s = true := fun w hw => hts0 w (pm_wsub w hw)
  have hl0 : 0 < h.2.2.length := (List.getElem?_eq_some_iff.mp hT0).1
  have hlm : mq < h.2.2.length := (List.getElem?_eq_some_iff.mp hTm).1
  have hp1 := pm_ev_pre 40 _ _ _ _ _ hc1
  have hp2 := pm_ev_pre 40 _ _ _ _ _ hc2
  refine lv_aload_n hx hb (show decode code 527 = .ok (.aload_n 1, 1) by decide +kernel) rfl (lv_at hl 1 rfl) ?_
  refine lw_push (k := 1) C0 hI.2.2.1 hl e3 (by decide) hi hL (show decode code 528 = .ok (.aload_n 0, 1) by decide +kernel) (show decode code 529 = .ok (.iload_n 3, 1) by decide +kernel) (show decode code 530 = .ok (.iconst 1, 1) by decide +kernel) (show decode code 531 = .ok (.iadd, 1) by decide +kernel) (show decode code 532 = .ok (.iaload, 1) by decide +kernel) ?_
  refine lw_virt (vs := [.inl (xs (i + 1)).toInt]) (rest := []) hqx hx hb hml hl.1 hown hts hKK hI mx_13_78 hT0 rfl (fun w hw => by simp only [List.mem_cons, List.not_mem_nil, or_false] at hw; subst hw; exact lw_I32 _) (by decide) (show decode code 533 = .ok (.invokevirtual 78, 3) by decide +kernel) hc1 hb1 (fun adr1 H1 locs1 ha1 hI1 hv => ?_)
  refine lv_aload_n hx hb (show decode code 536 = .ok (.aload_n 2, 1) by decide +kernel) rfl (lv_at hl 2 rfl) ?_
  refine lw_push (k := 1) C0 hI1.2.2.1 hl e3 (by decide) hi hL (show decode code 537 = .ok (.aload_n 0, 1) by decide +kernel) (show decode code 538 = .ok (.iload_n 3, 1) by decide +kernel) (show decode code 539 = .ok (.iconst 1, 1) by decide +kernel) (show decode code 540 = .ok (.iadd, 1) by decide +kernel) (show decode code 541 = .ok (.iaload, 1) by decide +kernel) ?_
  have hTm1 : h1.2.2[mq]? = some (12, 25) := by
    obtain ⟨t, et⟩ := hp1
    rw [← et, List.getElem?_append_left hlm]
    exact hTm
  have hle1 := (pm_pre_le hp1).1
  refine lw_virt (vs := [.inl (xs (i + 1)).toInt]) (rest := [.int (Int32.ofInt v)]) ((ha1 mq hlm).trans hqm) hx hb hml hl.1 hown hts hKK hI1 mx_13_81 hTm1 rfl (fun w hw => by simp only [List.mem_cons, List.not_mem_nil, or_false] at hw; subst hw; exact lw_I32 _) (Nat.le_of_ble_eq_true rfl) (show decode code 542 = .ok (.invokevirtual 81, 3) by decide +kernel) hc2 hb2 (fun adr2 H2 locs2 ha2 hI2 hv2 => ?_)
  refine lv_icmp_eq (tgt := 665) hx hb (show decode code 545 = .ok (.if_icmp .eq 120, 3) by decide +kernel) (by decide) (fun _ => ?_) (fun z => absurd rfl z)
  exact kk adr2 H2 locs2 hI2 ((ha2 0 (by omega)).trans ((ha1 0 hl0).trans hqx)) ((ha2 mq (by omega)).trans ((ha1 mq hlm).trans hqm))
theorem lw_case_16 (C0 : lw_At p s m meth c b L xs) (hL : L ≤ 2560) (hKK : pm_KK D aC s) (hI : lw_HI s D aC adr h H locs) (hl : lv_has ls 4 [(3, .int x3), (1, .ref qx), (2, .ref qm), (0, .ref b)]) (e3 : x3 = nI i) (hi : i + 5 ≤ L) (hqx : adr 0 = qx) (hqm : adr mq = qm) (hT0 : h.2.2[0]? = some (11, 13)) (hTm : h.2.2[mq]? = some (12, 25)) (hc1 : pm_ev 40 92 (.inr (.inr (some 0)) :: []) h (some (.inl v)) h1) (hb1 : lw_bd h1) (hc2 : pm_ev 40 157 (.inr (.inr (some mq)) :: []) h1 (some (.inl v)) h2) (hb2 : lw_bd h2)
    (kk : ∀ (adr2 : Nat → Nat) (H2 : Heap) (locs2 : List Loc), lw_HI s D aC adr2 h2 H2 locs2 → adr2 0 = qx → adr2 mq = qm → W p l e room_1 s m #[Value.ref b] below meth c H2 locs2 h2.2.2.length (pm_tot h2) Q (F0 m 665 ls [])) : W p l e room_1 s m #[Value.ref b] below meth c H locs h.2.2.length (pm_tot h) Q (F0 m 550 ls []) := by
  obtain ⟨hx, hb, hr, hml, hown, hts0, hX, hbl, hlocks, hgv⟩ := id C0
  have hts : ∀ w ∈ pm_W, w.before #[Value.ref b] s = true := fun w hw => hts0 w (pm_wsub w hw)
  have hl0 : 0 < h.2.2.length := (List.getElem?_eq_some_iff.mp hT0).1
  have hlm : mq < h.2.2.length := (List.getElem?_eq_some_iff.mp hTm).1
  have hp1 := pm_ev_pre 40 _ _ _ _ _ hc1
  have hp2 := pm_ev_pre 40 _ _ _ _ _ hc2
  refine lv_aload_n hx hb (show decode code 550 = .ok (.aload_n 1, 1) by decide +kernel) rfl (lv_at hl 1 rfl) ?_
  refine lw_virt (vs := []) (rest := []) hqx hx hb hml hl.1 hown hts hKK hI mx_13_82 hT0 rfl (fun w hw => by cases hw) (by decide) (show decode code 551 = .ok (.invokevirtual 82, 3) by decide +kernel) hc1 hb1 (fun adr1 H1 locs1 ha1 hI1 hv => ?_)
  refine lv_aload_n hx hb (show decode code 554 = .ok (.aload_n 2, 1) by decide +kernel) rfl (lv_at hl 2 rfl) ?_
  have hTm1 : h1.2.2[mq]? = some (12, 25) := by
    obtain ⟨t, et⟩ := hp1
    rw [← et, List.getElem?_append_left hlm]
    exact hTm
  have hle1 := (pm_pre_le hp1).1
  refine lw_virt (vs := []) (rest := [.int (Int32.ofInt v)]) ((ha1 mq hlm).trans hqm) hx hb hml hl.1 hown hts hKK hI1 mx_13_85 hTm1 rfl (fun w hw => by cases hw) (Nat.le_of_ble_eq_true rfl) (show decode code 555 = .ok (.invokevirtual 85, 3) by decide +kernel) hc2 hb2 (fun adr2 H2 locs2 ha2 hI2 hv2 => ?_)
  refine lv_icmp_eq (tgt := 665) hx hb (show decode code 558 = .ok (.if_icmp .eq 107, 3) by decide +kernel) (by decide) (fun _ => ?_) (fun z => absurd rfl z)
  exact kk adr2 H2 locs2 hI2 ((ha2 0 (by omega)).trans ((ha1 0 hl0).trans hqx)) ((ha2 mq (by omega)).trans ((ha1 mq hlm).trans hqm))
theorem lw_case_17 (C0 : lw_At p s m meth c b L xs) (hL : L ≤ 2560) (hKK : pm_KK D aC s) (hI : lw_HI s D aC adr h H locs) (hl : lv_has ls 4 [(3, .int x3), (1, .ref qx), (2, .ref qm), (0, .ref b)]) (e3 : x3 = nI i) (hi : i + 5 ≤ L) (hqx : adr 0 = qx) (hqm : adr mq = qm) (hT0 : h.2.2[0]? = some (11, 13)) (hTm : h.2.2[mq]? = some (12, 25)) (hc1 : pm_ev 40 95 (.inr (.inr (some 0)) :: []) h (some (.inl v)) h1) (hb1 : lw_bd h1) (hc2 : pm_ev 40 159 (.inr (.inr (some mq)) :: []) h1 (some (.inl v)) h2) (hb2 : lw_bd h2)
    (kk : ∀ (adr2 : Nat → Nat) (H2 : Heap) (locs2 : List Loc), lw_HI s D aC adr2 h2 H2 locs2 → adr2 0 = qx → adr2 mq = qm → W p l e room_1 s m #[Value.ref b] below meth c H2 locs2 h2.2.2.length (pm_tot h2) Q (F0 m 665 ls [])) : W p l e room_1 s m #[Value.ref b] below meth c H locs h.2.2.length (pm_tot h) Q (F0 m 563 ls []) := by
  obtain ⟨hx, hb, hr, hml, hown, hts0, hX, hbl, hlocks, hgv⟩ := id C0
  have hts : ∀ w ∈ pm_W, w.before #[Value.ref b] s = true := fun w hw => hts0 w (pm_wsub w hw)
  have hl0 : 0 < h.2.2.length := (List.getElem?_eq_some_iff.mp hT0).1
  have hlm : mq < h.2.2.length := (List.getElem?_eq_some_iff.mp hTm).1
  have hp1 := pm_ev_pre 40 _ _ _ _ _ hc1
  have hp2 := pm_ev_pre 40 _ _ _ _ _ hc2
  refine lv_aload_n hx hb (show decode code 563 = .ok (.aload_n 1, 1) by decide +kernel) rfl (lv_at hl 1 rfl) ?_
  refine lw_virt (vs := []) (rest := []) hqx hx hb hml hl.1 hown hts hKK hI mx_13_86 hT0 rfl (fun w hw => by cases hw) (by decide) (show decode code 564 = .ok (.invokevirtual 86, 3) by decide +kernel) hc1 hb1 (fun adr1 H1 locs1 ha1 hI1 hv => ?_)
  refine lv_aload_n hx hb (show decode code 567 = .ok (.aload_n 2, 1) by decide +kernel) rfl (lv_at hl 2 rfl) ?_
  have hTm1 : h1.2.2[mq]? = some (12, 25) := by
    obtain ⟨t, et⟩ := hp1
    rw [← et, List.getElem?_append_left hlm]
    exact hTm
  have hle1 := (pm_pre_le hp1).1
  refine lw_virt (vs := []) (rest := [.int (Int32.ofInt v)]) ((ha1 mq hlm).trans hqm) hx hb hml hl.1 hown hts hKK hI1 mx_13_89 hTm1 rfl (fun w hw => by cases hw) (Nat.le_of_ble_eq_true rfl) (show decode code 568 = .ok (.invokevirtual 89, 3) by decide +kernel) hc2 hb2 (fun adr2 H2 locs2 ha2 hI2 hv2 => ?_)
  refine lv_icmp_eq (tgt := 665) hx hb (show decode code 571 = .ok (.if_icmp .eq 94, 3) by decide +kernel) (by decide) (fun _ => ?_) (fun z => absurd rfl z)
  exact kk adr2 H2 locs2 hI2 ((ha2 0 (by omega)).trans ((ha1 0 hl0).trans hqx)) ((ha2 mq (by omega)).trans ((ha1 mq hlm).trans hqm))
theorem lw_case_18 (C0 : lw_At p s m meth c b L xs) (hL : L ≤ 2560) (hKK : pm_KK D aC s) (hI : lw_HI s D aC adr h H locs) (hl : lv_has ls 4 [(3, .int x3), (1, .ref qx), (2, .ref qm), (0, .ref b)]) (e3 : x3 = nI i) (hi : i + 5 ≤ L) (hqx : adr 0 = qx) (hqm : adr mq = qm) (hT0 : h.2.2[0]? = some (11, 13)) (hTm : h.2.2[mq]? = some (12, 25)) (hc1 : pm_ev 40 96 (.inr (.inr (some 0)) :: [.inl (xs (i + 1)).toInt]) h (some (.inl v)) h1) (hb1 : lw_bd h1) (hc2 : pm_ev 40 160 (.inr (.inr (some mq)) :: [.inl (xs (i + 1)).toInt]) h1 (some (.inl v)) h2) (hb2 : lw_bd h2)
    (kk : ∀ (adr2 : Nat → Nat) (H2 : Heap) (locs2 : List Loc), lw_HI s D aC adr2 h2 H2 locs2 → adr2 0 = qx → adr2 mq = qm → W p l e room_1 s m #[Value.ref b] below meth c H2 locs2 h2.2.2.length (pm_tot h2) Q (F0 m 665 ls [])) : W p l e room_1 s m #[Value.ref b] below meth c H locs h.2.2.length (pm_tot h) Q (F0 m 576 ls []) := by
  obtain ⟨hx, hb, hr, hml, hown, hts0, hX, hbl, hlocks, hgv⟩ := id C0
  have hts : ∀ w ∈ pm_W, w.before #[Value.ref b] s = true := fun w hw => hts0 w (pm_wsub w hw)
  have hl0 : 0 < h.2.2.length := (List.getElem?_eq_some_iff.mp hT0).1
  have hlm : mq < h.2.2.length := (List.getElem?_eq_some_iff.mp hTm).1
  have hp1 := pm_ev_pre 40 _ _ _ _ _ hc1
  have hp2 := pm_ev_pre 40 _ _ _ _ _ hc2
  refine lv_aload_n hx hb (show decode code 576 = .ok (.aload_n 1, 1) by decide +kernel) rfl (lv_at hl 1 rfl) ?_
  refine lw_push (k := 1) C0 hI.2.2.1 hl e3 (by decide) hi hL (show decode code 577 = .ok (.aload_n 0, 1) by decide +kernel) (show decode code 578 = .ok (.iload_n 3, 1) by decide +kernel) (show decode code 579 = .ok (.iconst 1, 1) by decide +kernel) (show decode code 580 = .ok (.iadd, 1) by decide +kernel) (show decode code 581 = .ok (.iaload, 1) by decide +kernel) ?_
  refine lw_virt (vs := [.inl (xs (i + 1)).toInt]) (rest := []) hqx hx hb hml hl.1 hown hts hKK hI mx_13_90 hT0 rfl (fun w hw => by simp only [List.mem_cons, List.not_mem_nil, or_false] at hw; subst hw; exact lw_I32 _) (by decide) (show decode code 582 = .ok (.invokevirtual 90, 3) by decide +kernel) hc1 hb1 (fun adr1 H1 locs1 ha1 hI1 hv => ?_)
  refine lv_aload_n hx hb (show decode code 585 = .ok (.aload_n 2, 1) by decide +kernel) rfl (lv_at hl 2 rfl) ?_
  refine lw_push (k := 1) C0 hI1.2.2.1 hl e3 (by decide) hi hL (show decode code 586 = .ok (.aload_n 0, 1) by decide +kernel) (show decode code 587 = .ok (.iload_n 3, 1) by decide +kernel) (show decode code 588 = .ok (.iconst 1, 1) by decide +kernel) (show decode code 589 = .ok (.iadd, 1) by decide +kernel) (show decode code 590 = .ok (.iaload, 1) by decide +kernel) ?_
  have hTm1 : h1.2.2[mq]? = some (12, 25) := by
    obtain ⟨t, et⟩ := hp1
    rw [← et, List.getElem?_append_left hlm]
    exact hTm
  have hle1 := (pm_pre_le hp1).1
  refine lw_virt (vs := [.inl (xs (i + 1)).toInt]) (rest := [.int (Int32.ofInt v)]) ((ha1 mq hlm).trans hqm) hx hb hml hl.1 hown hts hKK hI1 mx_13_93 hTm1 rfl (fun w hw => by simp only [List.mem_cons, List.not_mem_nil, or_false] at hw; subst hw; exact lw_I32 _) (Nat.le_of_ble_eq_true rfl) (show decode code 591 = .ok (.invokevirtual 93, 3) by decide +kernel) hc2 hb2 (fun adr2 H2 locs2 ha2 hI2 hv2 => ?_)
  refine lv_icmp_eq (tgt := 665) hx hb (show decode code 594 = .ok (.if_icmp .eq 71, 3) by decide +kernel) (by decide) (fun _ => ?_) (fun z => absurd rfl z)
  exact kk adr2 H2 locs2 hI2 ((ha2 0 (by omega)).trans ((ha1 0 hl0).trans hqx)) ((ha2 mq (by omega)).trans ((ha1 mq hlm).trans hqm))
theorem lw_case_19 (C0 : lw_At p s m meth c b L xs) (hL : L ≤ 2560) (hKK : pm_KK D aC s) (hI : lw_HI s D aC adr h H locs) (hl : lv_has ls 4 [(3, .int x3), (1, .ref qx), (2, .ref qm), (0, .ref b)]) (e3 : x3 = nI i) (hi : i + 5 ≤ L) (hqx : adr 0 = qx) (hqm : adr mq = qm) (hT0 : h.2.2[0]? = some (11, 13)) (hTm : h.2.2[mq]? = some (12, 25)) (hc1 : pm_ev 40 102 (.inr (.inr (some 0)) :: [.inl (xs (i + 1)).toInt, .inl (xs (i + 2)).toInt]) h (some (.inl v)) h1) (hb1 : lw_bd h1) (hc2 : pm_ev 40 166 (.inr (.inr (some mq)) :: [.inl (xs (i + 1)).toInt, .inl (xs (i + 2)).toInt]) h1 (some (.inl v)) h2) (hb2 : lw_bd h2)
    (kk : ∀ (adr2 : Nat → Nat) (H2 : Heap) (locs2 : List Loc), lw_HI s D aC adr2 h2 H2 locs2 → adr2 0 = qx → adr2 mq = qm → W p l e room_1 s m #[Value.ref b] below meth c H2 locs2 h2.2.2.length (pm_tot h2) Q (F0 m 665 ls [])) : W p l e room_1 s m #[Value.ref b] below meth c H locs h.2.2.length (pm_tot h) Q (F0 m 599 ls []) := by
  obtain ⟨hx, hb, hr, hml, hown, hts0, hX, hbl, hlocks, hgv⟩ := id C0
  have hts : ∀ w ∈ pm_W, w.before #[Value.ref b] s = true := fun w hw => hts0 w (pm_wsub w hw)
  have hl0 : 0 < h.2.2.length := (List.getElem?_eq_some_iff.mp hT0).1
  have hlm : mq < h.2.2.length := (List.getElem?_eq_some_iff.mp hTm).1
  have hp1 := pm_ev_pre 40 _ _ _ _ _ hc1
  have hp2 := pm_ev_pre 40 _ _ _ _ _ hc2
  refine lv_aload_n hx hb (show decode code 599 = .ok (.aload_n 1, 1) by decide +kernel) rfl (lv_at hl 1 rfl) ?_
  refine lw_push (k := 1) C0 hI.2.2.1 hl e3 (by decide) hi hL (show decode code 600 = .ok (.aload_n 0, 1) by decide +kernel) (show decode code 601 = .ok (.iload_n 3, 1) by decide +kernel) (show decode code 602 = .ok (.iconst 1, 1) by decide +kernel) (show decode code 603 = .ok (.iadd, 1) by decide +kernel) (show decode code 604 = .ok (.iaload, 1) by decide +kernel) ?_
  refine lw_push (k := 2) C0 hI.2.2.1 hl e3 (by decide) hi hL (show decode code 605 = .ok (.aload_n 0, 1) by decide +kernel) (show decode code 606 = .ok (.iload_n 3, 1) by decide +kernel) (show decode code 607 = .ok (.iconst 2, 1) by decide +kernel) (show decode code 608 = .ok (.iadd, 1) by decide +kernel) (show decode code 609 = .ok (.iaload, 1) by decide +kernel) ?_
  refine lw_virt (vs := [.inl (xs (i + 1)).toInt, .inl (xs (i + 2)).toInt]) (rest := []) hqx hx hb hml hl.1 hown hts hKK hI mx_13_94 hT0 rfl (fun w hw => by simp only [List.mem_cons, List.not_mem_nil, or_false] at hw; rcases hw with rfl | rfl <;> exact lw_I32 _) (by decide) (show decode code 610 = .ok (.invokevirtual 94, 3) by decide +kernel) hc1 hb1 (fun adr1 H1 locs1 ha1 hI1 hv => ?_)
  refine lv_aload_n hx hb (show decode code 613 = .ok (.aload_n 2, 1) by decide +kernel) rfl (lv_at hl 2 rfl) ?_
  refine lw_push (k := 1) C0 hI1.2.2.1 hl e3 (by decide) hi hL (show decode code 614 = .ok (.aload_n 0, 1) by decide +kernel) (show decode code 615 = .ok (.iload_n 3, 1) by decide +kernel) (show decode code 616 = .ok (.iconst 1, 1) by decide +kernel) (show decode code 617 = .ok (.iadd, 1) by decide +kernel) (show decode code 618 = .ok (.iaload, 1) by decide +kernel) ?_
  refine lw_push (k := 2) C0 hI1.2.2.1 hl e3 (by decide) hi hL (show decode code 619 = .ok (.aload_n 0, 1) by decide +kernel) (show decode code 620 = .ok (.iload_n 3, 1) by decide +kernel) (show decode code 621 = .ok (.iconst 2, 1) by decide +kernel) (show decode code 622 = .ok (.iadd, 1) by decide +kernel) (show decode code 623 = .ok (.iaload, 1) by decide +kernel) ?_
  have hTm1 : h1.2.2[mq]? = some (12, 25) := by
    obtain ⟨t, et⟩ := hp1
    rw [← et, List.getElem?_append_left hlm]
    exact hTm
  have hle1 := (pm_pre_le hp1).1
  refine lw_virt (vs := [.inl (xs (i + 1)).toInt, .inl (xs (i + 2)).toInt]) (rest := [.int (Int32.ofInt v)]) ((ha1 mq hlm).trans hqm) hx hb hml hl.1 hown hts hKK hI1 mx_13_97 hTm1 rfl (fun w hw => by simp only [List.mem_cons, List.not_mem_nil, or_false] at hw; rcases hw with rfl | rfl <;> exact lw_I32 _) (Nat.le_of_ble_eq_true rfl) (show decode code 624 = .ok (.invokevirtual 97, 3) by decide +kernel) hc2 hb2 (fun adr2 H2 locs2 ha2 hI2 hv2 => ?_)
  refine lv_icmp_eq (tgt := 665) hx hb (show decode code 627 = .ok (.if_icmp .eq 38, 3) by decide +kernel) (by decide) (fun _ => ?_) (fun z => absurd rfl z)
  exact kk adr2 H2 locs2 hI2 ((ha2 0 (by omega)).trans ((ha1 0 hl0).trans hqx)) ((ha2 mq (by omega)).trans ((ha1 mq hlm).trans hqm))
theorem lw_case_20 (C0 : lw_At p s m meth c b L xs) (hL : L ≤ 2560) (hKK : pm_KK D aC s) (hI : lw_HI s D aC adr h H locs) (hl : lv_has ls 4 [(3, .int x3), (1, .ref qx), (2, .ref qm), (0, .ref b)]) (e3 : x3 = nI i) (hi : i + 5 ≤ L) (hqx : adr 0 = qx) (hqm : adr mq = qm) (hT0 : h.2.2[0]? = some (11, 13)) (hTm : h.2.2[mq]? = some (12, 25)) (hc1 : pm_ev 40 112 (.inr (.inr (some 0)) :: [.inl (xs (i + 1)).toInt, .inl (xs (i + 2)).toInt]) h (some (.inl v)) h1) (hb1 : lw_bd h1) (hc2 : pm_ev 40 170 (.inr (.inr (some mq)) :: [.inl (xs (i + 1)).toInt, .inl (xs (i + 2)).toInt]) h1 (some (.inl v)) h2) (hb2 : lw_bd h2)
    (kk : ∀ (adr2 : Nat → Nat) (H2 : Heap) (locs2 : List Loc), lw_HI s D aC adr2 h2 H2 locs2 → adr2 0 = qx → adr2 mq = qm → W p l e room_1 s m #[Value.ref b] below meth c H2 locs2 h2.2.2.length (pm_tot h2) Q (F0 m 665 ls [])) : W p l e room_1 s m #[Value.ref b] below meth c H locs h.2.2.length (pm_tot h) Q (F0 m 632 ls []) := by
  obtain ⟨hx, hb, hr, hml, hown, hts0, hX, hbl, hlocks, hgv⟩ := id C0
  have hts : ∀ w ∈ pm_W, w.before #[Value.ref b] s = true := fun w hw => hts0 w (pm_wsub w hw)
  have hl0 : 0 < h.2.2.length := (List.getElem?_eq_some_iff.mp hT0).1
  have hlm : mq < h.2.2.length := (List.getElem?_eq_some_iff.mp hTm).1
  have hp1 := pm_ev_pre 40 _ _ _ _ _ hc1
  have hp2 := pm_ev_pre 40 _ _ _ _ _ hc2
  refine lv_aload_n hx hb (show decode code 632 = .ok (.aload_n 1, 1) by decide +kernel) rfl (lv_at hl 1 rfl) ?_
  refine lw_push (k := 1) C0 hI.2.2.1 hl e3 (by decide) hi hL (show decode code 633 = .ok (.aload_n 0, 1) by decide +kernel) (show decode code 634 = .ok (.iload_n 3, 1) by decide +kernel) (show decode code 635 = .ok (.iconst 1, 1) by decide +kernel) (show decode code 636 = .ok (.iadd, 1) by decide +kernel) (show decode code 637 = .ok (.iaload, 1) by decide +kernel) ?_
  refine lw_push (k := 2) C0 hI.2.2.1 hl e3 (by decide) hi hL (show decode code 638 = .ok (.aload_n 0, 1) by decide +kernel) (show decode code 639 = .ok (.iload_n 3, 1) by decide +kernel) (show decode code 640 = .ok (.iconst 2, 1) by decide +kernel) (show decode code 641 = .ok (.iadd, 1) by decide +kernel) (show decode code 642 = .ok (.iaload, 1) by decide +kernel) ?_
  refine lw_virt (vs := [.inl (xs (i + 1)).toInt, .inl (xs (i + 2)).toInt]) (rest := []) hqx hx hb hml hl.1 hown hts hKK hI mx_13_98 hT0 rfl (fun w hw => by simp only [List.mem_cons, List.not_mem_nil, or_false] at hw; rcases hw with rfl | rfl <;> exact lw_I32 _) (by decide) (show decode code 643 = .ok (.invokevirtual 98, 3) by decide +kernel) hc1 hb1 (fun adr1 H1 locs1 ha1 hI1 hv => ?_)
  refine lv_aload_n hx hb (show decode code 646 = .ok (.aload_n 2, 1) by decide +kernel) rfl (lv_at hl 2 rfl) ?_
  refine lw_push (k := 1) C0 hI1.2.2.1 hl e3 (by decide) hi hL (show decode code 647 = .ok (.aload_n 0, 1) by decide +kernel) (show decode code 648 = .ok (.iload_n 3, 1) by decide +kernel) (show decode code 649 = .ok (.iconst 1, 1) by decide +kernel) (show decode code 650 = .ok (.iadd, 1) by decide +kernel) (show decode code 651 = .ok (.iaload, 1) by decide +kernel) ?_
  refine lw_push (k := 2) C0 hI1.2.2.1 hl e3 (by decide) hi hL (show decode code 652 = .ok (.aload_n 0, 1) by decide +kernel) (show decode code 653 = .ok (.iload_n 3, 1) by decide +kernel) (show decode code 654 = .ok (.iconst 2, 1) by decide +kernel) (show decode code 655 = .ok (.iadd, 1) by decide +kernel) (show decode code 656 = .ok (.iaload, 1) by decide +kernel) ?_
  have hTm1 : h1.2.2[mq]? = some (12, 25) := by
    obtain ⟨t, et⟩ := hp1
    rw [← et, List.getElem?_append_left hlm]
    exact hTm
  have hle1 := (pm_pre_le hp1).1
  refine lw_virt (vs := [.inl (xs (i + 1)).toInt, .inl (xs (i + 2)).toInt]) (rest := [.int (Int32.ofInt v)]) ((ha1 mq hlm).trans hqm) hx hb hml hl.1 hown hts hKK hI1 mx_13_101 hTm1 rfl (fun w hw => by simp only [List.mem_cons, List.not_mem_nil, or_false] at hw; rcases hw with rfl | rfl <;> exact lw_I32 _) (Nat.le_of_ble_eq_true rfl) (show decode code 657 = .ok (.invokevirtual 101, 3) by decide +kernel) hc2 hb2 (fun adr2 H2 locs2 ha2 hI2 hv2 => ?_)
  refine lv_icmp_eq (tgt := 665) hx hb (show decode code 660 = .ok (.if_icmp .eq 5, 3) by decide +kernel) (by decide) (fun _ => ?_) (fun z => absurd rfl z)
  exact kk adr2 H2 locs2 hI2 ((ha2 0 (by omega)).trans ((ha1 0 hl0).trans hqx)) ((ha2 mq (by omega)).trans ((ha1 mq hlm).trans hqm))
end
/-- the calls: class, reference, how many arguments -/
def lw_ops : List (Nat × Nat × Nat) := [(7, 120, 1), (12, 123, 1), (13, 124, 4), (23, 125, 2), (27, 127, 3), (28, 128, 1), (30, 129, 2), (44, 119, 0), (46, 131, 1), (56, 137, 1), (57, 138, 0), (75, 147, 0), (77, 149, 2), (83, 153, 2), (87, 155, 0), (89, 156, 1), (92, 157, 0), (95, 159, 0), (96, 160, 1), (102, 166, 2), (112, 170, 2)]
