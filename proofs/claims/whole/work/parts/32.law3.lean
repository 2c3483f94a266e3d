/-! THE LAW'S LOOP AND ITS ENTRY, from what the constructors and one call do -/
def lw_args (na : Nat) (a1 a2 a3 a4 : Int) : List pm_V := ([.inl a1, .inl a2, .inl a3, .inl a4] : List pm_V).take na
/-- one step: whatever is called, class and reference answer alike -/
def lw_step (Inv : Nat → pm_H → Prop) (mq : Nat) : Prop := (∀ k h, Inv k h → lw_bd h ∧ h.2.2[0]? = some (11, 13) ∧ h.2.2[mq]? = some (12, 25)) ∧ (∀ k h, Inv k h → Inv (k + 1) h) ∧
  ∀ k h, k < 512 → Inv k h → ∀ o ∈ lw_ops, ∀ a1 a2 a3 a4 : Int, pm_I32 a1 → pm_I32 a2 → pm_I32 a3 → pm_I32 a4 → ∃ v h1 h2, pm_ev 40 o.1 (.inr (.inr (some 0)) :: lw_args o.2.2 a1 a2 a3 a4) h (some (.inl v)) h1 ∧ lw_bd h1 ∧ pm_ev 40 o.2.1 (.inr (.inr (some mq)) :: lw_args o.2.2 a1 a2 a3 a4) h1 (some (.inl v)) h2 ∧ Inv (k + 1) h2
def lw_h0 : pm_H := (fun _ _ => 0, fun _ _ => none, [])
/-- the start: the two constructors -/
def lw_begin (Inv : Nat → pm_H → Prop) (mq : Nat) : Prop := ∃ h1 h2, pm_ev 40 0 [.inr (.inr (some 0))] (pm_nw lw_h0 11 13) none h1 ∧ lw_bd h1 ∧ h1.2.2.length = mq ∧ pm_ev 40 118 [.inr (.inr (some mq))] (pm_nw h1 12 25) none h2 ∧ lw_bd h2 ∧ Inv 0 h2
section
variable {p : Program} {l : Launch} {e : Env} {s : State} {m : MethodId} {below : List Frame} {meth : Method} {c : Code} {D : va_G} {aC : Nat → ClassId} {b L : Nat} {xs : Nat → Int32}
set_option maxHeartbeats 4000000 in
theorem lw_loop {Inv : Nat → pm_H → Prop} {mq qx qm : Nat} (hstep : lw_step Inv mq) (hL : L ≤ 2560) (C0 : lw_At p s m meth c b L xs) (hKK : pm_KK D aC s) : ∀ (n k : Nat) (x3 : Int32) (h : pm_H) (adr : Nat → Nat) (H : Heap) (locs : List Loc) (ls : Array Slot), L < n + 5 * k → 5 * k ≤ L → x3 = nI (5 * k) → Inv k h → lw_HI s D aC adr h H locs → adr 0 = qx → adr mq = qm → lv_has ls 4 [(3, .int x3), (1, .ref qx), (2, .ref qm), (0, .ref b)] → W p l e room_1 s m #[Value.ref b] below meth c H locs h.2.2.length (pm_tot h) (lw_Z below #[Value.ref b] s) (F0 m 18 ls [])
  | 0, k, _, _, _, _, _, _, h1, h2, _, _, _, _, _, _ => by omega
  | n + 1, k, x3, h, adr, H, locs, ls, hn, hk, e3, hInv, hI, hqx, hqm, hl => by
    obtain ⟨hx, hb, hr, hml, hown, hts0, hX, hbl, hlocks, hgv⟩ := id C0
    obtain ⟨hbd, hT0, hTm⟩ := hstep.1 k h hInv
    refine lv_iload_n hx hb (show decode code 18 = .ok (.iload_n 3, 1) by decide +kernel) rfl (lv_at hl 0 rfl) ?_
    refine lv_aload_n hx hb (show decode code 19 = .ok (.aload_n 0, 1) by decide +kernel) rfl (lv_at hl 3 rfl) ?_
    refine va_slen hx hb hX hbl (Nat.not_le.mpr hbl) hI.2.2.1 (show decode code 20 = .ok (.arraylength, 1) by decide +kernel) ?_
    refine lv_iconst (v := nI 5) hx hb (show decode code 21 = .ok (.iconst 5, 1) by decide +kernel) rfl ?_
    refine lv_isub hx hb (show decode code 22 = .ok (.isub, 1) by decide +kernel) ?_
    have hcmp : (nI L - nI 5).toInt = (L : Int) - 5 := pk_sub_toInt (by omega) (by decide)
    have h3 : x3.toInt = 5 * k := by rw [e3, nI_toInt (by omega)]; omega
    refine lv_icmp_gt (tgt := 671) hx hb (show decode code 23 = .ok (.if_icmp .gt 648, 3) by decide +kernel) (by decide) (fun z => ?_) (fun z => ?_)
    · refine lv_iconst (v := 1) hx hb (show decode code 671 = .ok (.iconst 1, 1) by decide +kernel) rfl ?_
      refine va_forget (fun q hq => hI.2.2.1.2.2 q hq) ?_
      refine W.widen (k := 600000) (n := 7302250) hbd.1 hbd.2 ?_
      exact lw_ret hx hb hr hlocks (show decode code 672 = .ok (.ireturn, 1) by decide +kernel)
    · have hi : 5 * k + 5 ≤ L := by
        have hz : ¬ (Int32.ofNat L - nI 5).toInt < x3.toInt := fun w => z (Int32.lt_iff_toInt_lt.mpr w)
        rw [show Int32.ofNat L = nI L from rfl, hcmp, h3] at hz
        omega
      have hgo : ∀ (h2 : pm_H) (adr2 : Nat → Nat) (H2 : Heap) (locs2 : List Loc), Inv (k + 1) h2 → lw_HI s D aC adr2 h2 H2 locs2 → adr2 0 = qx → adr2 mq = qm → W p l e room_1 s m #[Value.ref b] below meth c H2 locs2 h2.2.2.length (pm_tot h2) (lw_Z below #[Value.ref b] s) (F0 m 665 ls []) := by
        intro h2 adr2 H2 locs2 hInv2 hI2 hq0 hq1
        refine lv_iinc (v := nI (5 * (k + 1))) (lv' := [(3, .int (nI (5 * (k + 1)))), (1, .ref qx), (2, .ref qm), (0, .ref b)]) hx hb (show decode code 665 = .ok (.iinc 3 5, 3) by decide +kernel) hl (k := 0) rfl (by rw [e3]; exact nI_add (5 * k) 5) (by decide) rfl (fun ls2 hl2 => ?_)
        refine lv_goto (tgt := 18) hx hb (show decode code 668 = .ok (.goto (-650), 3) by decide +kernel) (by decide) ?_
        exact lw_loop hstep hL C0 hKK n (k + 1) _ h2 adr2 H2 locs2 ls2 (by omega) (by omega) rfl hInv2 hI2 hq0 hq1 hl2
      refine lv_aload_n hx hb (show decode code 26 = .ok (.aload_n 0, 1) by decide +kernel) rfl (lv_at hl 3 rfl) ?_
      refine lv_iload_n hx hb (show decode code 27 = .ok (.iload_n 3, 1) by decide +kernel) rfl (lv_at hl 0 rfl) ?_
      refine va_sld hx hb hX hbl (Nat.not_le.mpr hbl) hI.2.2.1 (by rw [e3]; exact vp_in_nI (by omega) (by omega)) (show decode code 28 = .ok (.iaload, 1) by decide +kernel) ?_
      refine lv_bipush (v := 31) hx hb (show decode code 29 = .ok (.bipush 31, 2) by decide +kernel) rfl ?_
      refine lv_iand hx hb (show decode code 31 = .ok (.iand, 1) by decide +kernel) ?_
      obtain ⟨op, hop, eop⟩ := pk_andE (xs x3.toNatClampNeg) (m := 31) 5 rfl
      have hop : op < 32 := hop
      rw [eop]
      have hot : (nI op).toInt = (op : Int) := nI_toInt (by omega)
      have hst := fun o ho => hstep.2.2 k h (by omega) hInv o ho _ _ _ _ (lw_I32 (xs (5 * k + 1))) (lw_I32 (xs (5 * k + 2))) (lw_I32 (xs (5 * k + 3))) (lw_I32 (xs (5 * k + 4)))
      by_cases hbig : 20 < op
      · refine lv_tableOut (tgt := 665) hx hb (show decode code 32 = .ok (.tableswitch 633 0 20 #[100, 123, 146, 199, 232, 275, 298, 331, 344, 367, 390, 403, 416, 449, 482, 495, 518, 531, 544, 567, 600], 100) by decide +kernel) (by rw [hot]; omega) (by decide) ?_
        exact hgo h adr H locs (hstep.2.1 k h hInv) hI hqx hqm
      · have hd32 : decode code 32 = .ok (.tableswitch 633 0 20 #[100, 123, 146, 199, 232, 275, 298, 331, 344, 367, 390, 403, 416, 449, 482, 495, 518, 531, 544, 567, 600], 100) := by decide +kernel
        have h1 : ¬ (nI op).toInt < 0 := by rw [hot]; omega
        have h2 : ¬ (20 : Int) < (nI op).toInt := by rw [hot]; omega
        have hto : ((nI op).toInt - 0).toNat = op := by rw [hot]; omega
        have hcases : op = 0 ∨ op = 1 ∨ op = 2 ∨ op = 3 ∨ op = 4 ∨ op = 5 ∨ op = 6 ∨ op = 7 ∨ op = 8 ∨ op = 9 ∨ op = 10 ∨ op = 11 ∨ op = 12 ∨ op = 13 ∨ op = 14 ∨ op = 15 ∨ op = 16 ∨ op = 17 ∨ op = 18 ∨ op = 19 ∨ op = 20 := by omega
        rcases hcases with rfl | rfl | rfl | rfl | rfl | rfl | rfl | rfl | rfl | rfl | rfl | rfl | rfl | rfl | rfl | rfl | rfl | rfl | rfl | rfl | rfl
        · obtain ⟨v, h1v, h2v, hc1, hb1, hc2, hInv2⟩ := hst (7, 120, 1) (by decide)
          refine lv_tableIn (tgt := 132) (off := 100) hx hb hd32 h1 h2 (by rw [hto]; rfl) (by decide) ?_
          exact lw_case_0 C0 hL hKK hI hl e3 hi hqx hqm hT0 hTm hc1 hb1 hc2 (hstep.1 _ _ hInv2).1 (fun adr2 H2 locs2 hI2 q0 q1 => hgo h2v adr2 H2 locs2 hInv2 hI2 q0 q1)
        · obtain ⟨v, h1v, h2v, hc1, hb1, hc2, hInv2⟩ := hst (12, 123, 1) (by decide)
          refine lv_tableIn (tgt := 155) (off := 123) hx hb hd32 h1 h2 (by rw [hto]; rfl) (by decide) ?_
          exact lw_case_1 C0 hL hKK hI hl e3 hi hqx hqm hT0 hTm hc1 hb1 hc2 (hstep.1 _ _ hInv2).1 (fun adr2 H2 locs2 hI2 q0 q1 => hgo h2v adr2 H2 locs2 hInv2 hI2 q0 q1)
        · obtain ⟨v, h1v, h2v, hc1, hb1, hc2, hInv2⟩ := hst (13, 124, 4) (by decide)
          refine lv_tableIn (tgt := 178) (off := 146) hx hb hd32 h1 h2 (by rw [hto]; rfl) (by decide) ?_
          exact lw_case_2 C0 hL hKK hI hl e3 hi hqx hqm hT0 hTm hc1 hb1 hc2 (hstep.1 _ _ hInv2).1 (fun adr2 H2 locs2 hI2 q0 q1 => hgo h2v adr2 H2 locs2 hInv2 hI2 q0 q1)
        · obtain ⟨v, h1v, h2v, hc1, hb1, hc2, hInv2⟩ := hst (23, 125, 2) (by decide)
          refine lv_tableIn (tgt := 231) (off := 199) hx hb hd32 h1 h2 (by rw [hto]; rfl) (by decide) ?_
          exact lw_case_3 C0 hL hKK hI hl e3 hi hqx hqm hT0 hTm hc1 hb1 hc2 (hstep.1 _ _ hInv2).1 (fun adr2 H2 locs2 hI2 q0 q1 => hgo h2v adr2 H2 locs2 hInv2 hI2 q0 q1)
        · obtain ⟨v, h1v, h2v, hc1, hb1, hc2, hInv2⟩ := hst (27, 127, 3) (by decide)
          refine lv_tableIn (tgt := 264) (off := 232) hx hb hd32 h1 h2 (by rw [hto]; rfl) (by decide) ?_
          exact lw_case_4 C0 hL hKK hI hl e3 hi hqx hqm hT0 hTm hc1 hb1 hc2 (hstep.1 _ _ hInv2).1 (fun adr2 H2 locs2 hI2 q0 q1 => hgo h2v adr2 H2 locs2 hInv2 hI2 q0 q1)
        · obtain ⟨v, h1v, h2v, hc1, hb1, hc2, hInv2⟩ := hst (28, 128, 1) (by decide)
          refine lv_tableIn (tgt := 307) (off := 275) hx hb hd32 h1 h2 (by rw [hto]; rfl) (by decide) ?_
          exact lw_case_5 C0 hL hKK hI hl e3 hi hqx hqm hT0 hTm hc1 hb1 hc2 (hstep.1 _ _ hInv2).1 (fun adr2 H2 locs2 hI2 q0 q1 => hgo h2v adr2 H2 locs2 hInv2 hI2 q0 q1)
        · obtain ⟨v, h1v, h2v, hc1, hb1, hc2, hInv2⟩ := hst (30, 129, 2) (by decide)
          refine lv_tableIn (tgt := 330) (off := 298) hx hb hd32 h1 h2 (by rw [hto]; rfl) (by decide) ?_
          exact lw_case_6 C0 hL hKK hI hl e3 hi hqx hqm hT0 hTm hc1 hb1 hc2 (hstep.1 _ _ hInv2).1 (fun adr2 H2 locs2 hI2 q0 q1 => hgo h2v adr2 H2 locs2 hInv2 hI2 q0 q1)
        · obtain ⟨v, h1v, h2v, hc1, hb1, hc2, hInv2⟩ := hst (44, 119, 0) (by decide)
          refine lv_tableIn (tgt := 363) (off := 331) hx hb hd32 h1 h2 (by rw [hto]; rfl) (by decide) ?_
          exact lw_case_7 C0 hL hKK hI hl e3 hi hqx hqm hT0 hTm hc1 hb1 hc2 (hstep.1 _ _ hInv2).1 (fun adr2 H2 locs2 hI2 q0 q1 => hgo h2v adr2 H2 locs2 hInv2 hI2 q0 q1)
        · obtain ⟨v, h1v, h2v, hc1, hb1, hc2, hInv2⟩ := hst (46, 131, 1) (by decide)
          refine lv_tableIn (tgt := 376) (off := 344) hx hb hd32 h1 h2 (by rw [hto]; rfl) (by decide) ?_
          exact lw_case_8 C0 hL hKK hI hl e3 hi hqx hqm hT0 hTm hc1 hb1 hc2 (hstep.1 _ _ hInv2).1 (fun adr2 H2 locs2 hI2 q0 q1 => hgo h2v adr2 H2 locs2 hInv2 hI2 q0 q1)
        · obtain ⟨v, h1v, h2v, hc1, hb1, hc2, hInv2⟩ := hst (56, 137, 1) (by decide)
          refine lv_tableIn (tgt := 399) (off := 367) hx hb hd32 h1 h2 (by rw [hto]; rfl) (by decide) ?_
          exact lw_case_9 C0 hL hKK hI hl e3 hi hqx hqm hT0 hTm hc1 hb1 hc2 (hstep.1 _ _ hInv2).1 (fun adr2 H2 locs2 hI2 q0 q1 => hgo h2v adr2 H2 locs2 hInv2 hI2 q0 q1)
        · obtain ⟨v, h1v, h2v, hc1, hb1, hc2, hInv2⟩ := hst (57, 138, 0) (by decide)
          refine lv_tableIn (tgt := 422) (off := 390) hx hb hd32 h1 h2 (by rw [hto]; rfl) (by decide) ?_
          exact lw_case_10 C0 hL hKK hI hl e3 hi hqx hqm hT0 hTm hc1 hb1 hc2 (hstep.1 _ _ hInv2).1 (fun adr2 H2 locs2 hI2 q0 q1 => hgo h2v adr2 H2 locs2 hInv2 hI2 q0 q1)
        · obtain ⟨v, h1v, h2v, hc1, hb1, hc2, hInv2⟩ := hst (75, 147, 0) (by decide)
          refine lv_tableIn (tgt := 435) (off := 403) hx hb hd32 h1 h2 (by rw [hto]; rfl) (by decide) ?_
          exact lw_case_11 C0 hL hKK hI hl e3 hi hqx hqm hT0 hTm hc1 hb1 hc2 (hstep.1 _ _ hInv2).1 (fun adr2 H2 locs2 hI2 q0 q1 => hgo h2v adr2 H2 locs2 hInv2 hI2 q0 q1)
        · obtain ⟨v, h1v, h2v, hc1, hb1, hc2, hInv2⟩ := hst (77, 149, 2) (by decide)
          refine lv_tableIn (tgt := 448) (off := 416) hx hb hd32 h1 h2 (by rw [hto]; rfl) (by decide) ?_
          exact lw_case_12 C0 hL hKK hI hl e3 hi hqx hqm hT0 hTm hc1 hb1 hc2 (hstep.1 _ _ hInv2).1 (fun adr2 H2 locs2 hI2 q0 q1 => hgo h2v adr2 H2 locs2 hInv2 hI2 q0 q1)
        · obtain ⟨v, h1v, h2v, hc1, hb1, hc2, hInv2⟩ := hst (83, 153, 2) (by decide)
          refine lv_tableIn (tgt := 481) (off := 449) hx hb hd32 h1 h2 (by rw [hto]; rfl) (by decide) ?_
          exact lw_case_13 C0 hL hKK hI hl e3 hi hqx hqm hT0 hTm hc1 hb1 hc2 (hstep.1 _ _ hInv2).1 (fun adr2 H2 locs2 hI2 q0 q1 => hgo h2v adr2 H2 locs2 hInv2 hI2 q0 q1)
        · obtain ⟨v, h1v, h2v, hc1, hb1, hc2, hInv2⟩ := hst (87, 155, 0) (by decide)
          refine lv_tableIn (tgt := 514) (off := 482) hx hb hd32 h1 h2 (by rw [hto]; rfl) (by decide) ?_
          exact lw_case_14 C0 hL hKK hI hl e3 hi hqx hqm hT0 hTm hc1 hb1 hc2 (hstep.1 _ _ hInv2).1 (fun adr2 H2 locs2 hI2 q0 q1 => hgo h2v adr2 H2 locs2 hInv2 hI2 q0 q1)
        · obtain ⟨v, h1v, h2v, hc1, hb1, hc2, hInv2⟩ := hst (89, 156, 1) (by decide)
          refine lv_tableIn (tgt := 527) (off := 495) hx hb hd32 h1 h2 (by rw [hto]; rfl) (by decide) ?_
          exact lw_case_15 C0 hL hKK hI hl e3 hi hqx hqm hT0 hTm hc1 hb1 hc2 (hstep.1 _ _ hInv2).1 (fun adr2 H2 locs2 hI2 q0 q1 => hgo h2v adr2 H2 locs2 hInv2 hI2 q0 q1)
        · obtain ⟨v, h1v, h2v, hc1, hb1, hc2, hInv2⟩ := hst (92, 157, 0) (by decide)
          refine lv_tableIn (tgt := 550) (off := 518) hx hb hd32 h1 h2 (by rw [hto]; rfl) (by decide) ?_
          exact lw_case_16 C0 hL hKK hI hl e3 hi hqx hqm hT0 hTm hc1 hb1 hc2 (hstep.1 _ _ hInv2).1 (fun adr2 H2 locs2 hI2 q0 q1 => hgo h2v adr2 H2 locs2 hInv2 hI2 q0 q1)
        · obtain ⟨v, h1v, h2v, hc1, hb1, hc2, hInv2⟩ := hst (95, 159, 0) (by decide)
          refine lv_tableIn (tgt := 563) (off := 531) hx hb hd32 h1 h2 (by rw [hto]; rfl) (by decide) ?_
          exact lw_case_17 C0 hL hKK hI hl e3 hi hqx hqm hT0 hTm hc1 hb1 hc2 (hstep.1 _ _ hInv2).1 (fun adr2 H2 locs2 hI2 q0 q1 => hgo h2v adr2 H2 locs2 hInv2 hI2 q0 q1)
        · obtain ⟨v, h1v, h2v, hc1, hb1, hc2, hInv2⟩ := hst (96, 160, 1) (by decide)
          refine lv_tableIn (tgt := 576) (off := 544) hx hb hd32 h1 h2 (by rw [hto]; rfl) (by decide) ?_
          exact lw_case_18 C0 hL hKK hI hl e3 hi hqx hqm hT0 hTm hc1 hb1 hc2 (hstep.1 _ _ hInv2).1 (fun adr2 H2 locs2 hI2 q0 q1 => hgo h2v adr2 H2 locs2 hInv2 hI2 q0 q1)
        · obtain ⟨v, h1v, h2v, hc1, hb1, hc2, hInv2⟩ := hst (102, 166, 2) (by decide)
          refine lv_tableIn (tgt := 599) (off := 567) hx hb hd32 h1 h2 (by rw [hto]; rfl) (by decide) ?_
          exact lw_case_19 C0 hL hKK hI hl e3 hi hqx hqm hT0 hTm hc1 hb1 hc2 (hstep.1 _ _ hInv2).1 (fun adr2 H2 locs2 hI2 q0 q1 => hgo h2v adr2 H2 locs2 hInv2 hI2 q0 q1)
        · obtain ⟨v, h1v, h2v, hc1, hb1, hc2, hInv2⟩ := hst (112, 170, 2) (by decide)
          refine lv_tableIn (tgt := 632) (off := 600) hx hb hd32 h1 h2 (by rw [hto]; rfl) (by decide) ?_
          exact lw_case_20 C0 hL hKK hI hl e3 hi hqx hqm hT0 hTm hc1 hb1 hc2 (hstep.1 _ _ hInv2).1 (fun adr2 H2 locs2 hI2 q0 q1 => hgo h2v adr2 H2 locs2 hInv2 hI2 q0 q1)
end
