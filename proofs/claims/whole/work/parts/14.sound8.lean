/-! calls and returns -/
def pm_Met (l : Launch) (D : va_G) (aC : Nat → ClassId) (d i : Nat) (as : List pm_V) (h0 : pm_H) (r9 : Option pm_V) (h9 : pm_H) (a0 : Nat → Nat) (sz : Nat) : Prop :=
  Met l (pm_y i) (.code (pm_y i) (pm_b i) (pm_mL i) (pm_rt i) :: pm_W) (pm_rm d h0 h9) (va_Pc (as.map (pm_tv a0)) (fun U => U.heap.size = sz ∧ va_P D pm_cl (pm_ws aC a0 h0) U.heap ∧ pm_KK D aC U ∧ va_D (fun _ => True) (pm_ws aC a0 h0))) (pm_Qc D aC a0 h0 r9 h9 (va_A (pm_ws aC a0 h0) sz)) (h9.2.2.length - h0.2.2.length) (pm_tot h9 - pm_tot h0) (va_A (pm_ws aC a0 h0) sz)
def pm_Snd (l : Launch) (D : va_G) (aC : Nat → ClassId) (d : Nat) : Prop := ∀ (i : Nat) (as : List pm_V) (h0 : pm_H) (r9 : Option pm_V) (h9 : pm_H), i < 172 → pm_ev d i as h0 r9 h9 → pm_GH h0 → (∀ v ∈ as, pm_gv h0.2.2.length v) → ∀ (a0 : Nat → Nat) (sz : Nat), pm_Met l D aC d i as h0 r9 h9 a0 sz
theorem pm_good {w : Cond} (h : w ∈ pm_W) : w ∈ pm_W ∧ ((w.onTables && w.keeps) = true ∨ ∃ ty, w = .arrayClass ty) := ⟨h, good_of_word (List.mem_filter.mp h).2⟩
theorem pm_goodIn {ws : List Cond} (h : ∀ w ∈ ws, w ∈ pm_W) : GoodIn pm_W ws := fun w hw => pm_good (h w hw)
theorem pm_ws_in {i : Nat} (hi : i < 172) : ∀ w ∈ (Cond.code (pm_y i) (pm_b i) (pm_mL i) (pm_rt i) :: pm_W), w ∈ pm_W := fun w hw => by
  rcases List.mem_cons.mp hw with rfl | hw
  · exact pm_code hi
  · exact hw
theorem pm_okN_at {i : Nat} (hi : i < 172) : plainName (pm_y i).cls = true ∧ pm_mL i ≤ 41 ∧ (pm_y i).cls ≠ "java/lang/invoke/MethodHandle" ∧ (pm_y i).cls ≠ "java/lang/invoke/VarHandle" ∧ pm_cn (pm_ow i) = (pm_y i).cls := by
  have ok := List.all_eq_true.mp pm_okNT i (List.mem_range.mpr hi)
  unfold pm_okN at ok
  simp only [Bool.and_eq_true, decide_eq_true_eq] at ok
  exact ⟨ok.1.1.1.1, ok.1.1.1.2, ok.1.1.2, ok.1.2, ok.2⟩
theorem pm_blind {D : va_G} {aC : Nat → ClassId} {as : List pm_V} {h : pm_H} {adr : Nat → Nat} {sz : Nat} : FrameBlind (va_Pc (as.map (pm_tv adr)) (fun U => U.heap.size = sz ∧ va_P D pm_cl (pm_ws aC adr h) U.heap ∧ pm_KK D aC U ∧ va_D (fun _ => True) (pm_ws aC adr h))) := by
  intro a U g mk q
  obtain ⟨q0, q1, q2, q3, q4⟩ := q
  exact ⟨q0, q1, q2, pm_KK.call q3, q4⟩
section
variable {p : Program} {l : Launch} {e : Env} {R : Room} {s : State} {m : MethodId} {args : Array Value} {below : List Frame} {meth : Method} {c : Code} {D : va_G} {aC : Nat → ClassId} {i d : Nat} {h0 h9 : pm_H} {a0 : Nat → Nat} {r9 : Option pm_V} {n pc k : Nat} {ls : pm_L} {st : List pm_V} {h : pm_H} {adr : Nat → Nat} {H : Heap} {locs : List Loc} {lsM : Array Slot} {cells slots : Nat}
theorem pm_pc {as : List pm_V} (hKK : pm_KK D aC s) (hH : pm_HI s D aC a0 h0 adr h H locs cells slots) : ∀ U : State, U.heap = H → s.WarmedH U.vm → va_Pc (as.map (pm_tv adr)) (fun U => U.heap.size = H.size ∧ va_P D pm_cl (pm_ws aC adr h) U.heap ∧ pm_KK D aC U ∧ va_D (fun _ => True) (pm_ws aC adr h)) (as.map (pm_tv adr)).toArray U := by
  intro U hU hW
  refine ⟨rfl, by rw [hU], by rw [hU]; exact hH.1, hKK.warm hW, hH.2.1.weaken (fun _ _ _ _ => trivial)⟩
/-- behind a call -/
theorem pm_after {j : Nat} {as rest : List pm_V} {r1 : Option pm_V} {h1 : pm_H} {a : Array Value} {st0 : List Value} (ih : pm_Go p l e R s m args below meth c D aC i d h0 h9 a0 r9 n) (hH : pm_HI s D aC a0 h0 adr h H locs cells slots) (hF : pm_FI i adr h.2.2.length ls lsM rest) (hc : pm_ev d j as h r1 h1) (g : pm_lp (pm_ev d) i n (pc + 3) ls (pm_pu r1 rest) h1 r9 h9)
    (hr : va_Run p l e R s m args below meth c H locs cells slots (h1.2.2.length - h.2.2.length) (pm_tot h1 - pm_tot h) (F0 m pc lsM st0) (rest.map (pm_tv adr)) (pm_Qc D aC adr h r1 h1 (va_A (pm_ws aC adr h) H.size) a) (va_A (pm_ws aC adr h) H.size)) :
    W p l e R s m args below meth c H locs cells slots (MQ below (pm_Qc D aC a0 h0 r9 h9 (pm_A s aC a0 h0)) args s (h9.2.2.length - h0.2.2.length) (pm_tot h9 - pm_tot h0) (pm_A s aC a0 h0)) (F0 m pc lsM st0) := by
  intro T hT X
  obtain ⟨v, st₀, t, T', L, e0, X', hL, e1, e2, ⟨⟨adr1, hadr, hv, hP1, hD1, hG1, hg1⟩, hz, hk⟩, hst⟩ := hr T hT X
  obtain ⟨hP, hD, hS, hG, hA0, h6, h7⟩ := hH
  rw [e0] at hz hk
  have hle := pm_pre_le (pm_ev_pre d j as h r1 h1 hc)
  have hsz : s.heap.size ≤ H.size := hS.1
  have hAA : ∀ q, va_A (pm_ws aC adr h) H.size q → pm_A s aC a0 h0 q := by
    intro q hq
    rcases hq with ⟨k, x, hq⟩ | hq
    · exact hD.2 k (q, x) hq
    · exact Or.inr (Nat.le_trans hsz hq)
  have hv2 : v = r1.map (pm_tv adr1) := by cases hv; rfl
  subst hv2
  have hS2 : va_S (pm_A s aC a0 h0) s.heap T'.heap (locs ++ L) := by
    refine ⟨by rw [e1]; omega, fun q h1 h2 => ?_, fun q hq => ?_⟩
    · rw [e1, hk q (Nat.lt_of_lt_of_le h1 hsz) (fun z => h2 (hAA q z))]
      exact hS.2.1 q h1 h2
    · rcases List.mem_append.mp hq with hq | hq
      · exact hS.2.2 q hq
      · exact hAA _ (hL q hq)
  have hH2 : pm_HI s D aC a0 h0 adr1 h1 T'.heap (locs ++ L) (cells + (h1.2.2.length - h.2.2.length)) (slots + (pm_tot h1 - pm_tot h)) :=
    ⟨by rw [e1]; exact hP1, hD1.weaken (fun _ q _ hq => hAA q.1 hq), hS2, hG1, fun q hq => by rw [hadr q (by omega)]; exact hA0 q hq, by omega, by omega⟩
  have hF1 : pm_FI i adr1 h1.2.2.length ls lsM rest := hF.ext hle.1 hadr
  have hF2 : pm_FI i adr1 h1.2.2.length ls lsM (pm_pu r1 rest) := by
    cases r1 with
    | none => exact hF1
    | some w => exact hF1.push (hg1 w rfl)
  have hgo := ih _ _ _ _ _ _ _ _ _ _ g hH2 hF2
  unfold pm_Wg at hgo
  have est : (pm_pu r1 rest).map (pm_tv adr1) = (r1.map (pm_tv adr1)).toList ++ rest.map (pm_tv adr) := by
    cases r1 with
    | none => exact pm_map_ext hadr hF.2.2.2
    | some w =>
      show pm_tv adr1 w :: rest.map (pm_tv adr1) = _
      rw [pm_map_ext hadr hF.2.2.2]
      rfl
  rw [est] at hgo
  obtain ⟨t2, a1, b1⟩ := hgo T' rfl X'
  exact ⟨t2, hst t2 a1, b1⟩
theorem pm_callroom {j : Nat} {as : List pm_V} {r1 : Option pm_V} {h1 : pm_H} {ls2 : pm_L} {st2 : List pm_V} {pc2 : Nat} (hR : R = pm_rm (d + 1) h0 h9) (hH : pm_HI s D aC a0 h0 adr h H locs cells slots) (hc : pm_ev d j as h r1 h1) (g : pm_lp (pm_ev d) i n pc2 ls2 st2 h1 r9 h9) : cells + (h1.2.2.length - h.2.2.length) ≤ R.cells ∧ slots + (pm_tot h1 - pm_tot h) ≤ R.slots := by
  have h1 := pm_pre_le (pm_ev_pre d j as h r1 h1 hc)
  have h2 := pm_lp_le g
  have h6 := hH.2.2.2.2.2.1
  have h7 := hH.2.2.2.2.2.2
  rw [hR]
  show cells + _ ≤ h9.2.2.length - h0.2.2.length ∧ slots + _ ≤ pm_tot h9 - pm_tot h0
  omega
theorem pm_take {na : Nat} (hl : na ≤ st.length) : st.map (pm_tv adr) = (((st.take na).reverse).map (pm_tv adr)).reverse ++ (st.drop na).map (pm_tv adr) := by
  rw [← List.map_reverse, List.reverse_reverse, ← List.map_append, List.take_append_drop]
theorem pm_take_len {na : Nat} (hl : na ≤ st.length) : (((st.take na).reverse).map (pm_tv adr)).length = na := by
  rw [List.length_map, List.length_reverse, List.length_take]
  omega
theorem pm_FI.drop {na : Nat} (hF : pm_FI i adr h.2.2.length ls lsM st) : pm_FI i adr h.2.2.length ls lsM (st.drop na) := ⟨hF.1, hF.2.1, hF.2.2.1, fun v hv => hF.2.2.2 v (List.mem_of_mem_drop hv)⟩
theorem pm_np_at {j na : Nat} (h : pm_np j na = true) : (parseMethodDescriptor (pm_y j).desc).map (fun d => d.parameters.length) = some na := of_decide_eq_true h
theorem pm_rooms {j : Nat} {h1 : pm_H} (hR : R = pm_rm (d + 1) h0 h9) (hj : j < 172) : (pm_rm d h h1).frames + 1 ≤ R.frames ∧ 8 + (pm_mL j + 11) + (pm_rm d h h1).locals ≤ R.locals := by
  have := (pm_okN_at hj).2.1
  rw [hR]
  show d + 1 ≤ d + 1 ∧ 8 + (pm_mL j + 11) + 60 * d ≤ 60 * (d + 1)
  omega
theorem pz_static {z : Nat} {j : Nat} {as rest : List pm_V} {r1 : Option pm_V} {h1 : pm_H} (X : pm_Cx p s m args meth c R D aC i d h0 h9) (IH : pm_Snd l D aC d) (ih : pm_Go p l e R s m args below meth c D aC i d h0 h9 a0 r9 n) (hH : pm_HI s D aC a0 h0 adr h H locs cells slots) (hF : pm_FI i adr h.2.2.length ls lsM st) (hd : decode (pm_b i) pc = .ok (.invokestatic z, 3)) (hq : pm_c i (.invokestatic z) st h = some (j, as, rest)) (hc : pm_ev d j as h r1 h1) (g : pm_lp (pm_ev d) i n (pc + 3) ls (pm_pu r1 rest) h1 r9 h9) :
    pm_Wg p l e R s m args below meth c D aC h0 h9 a0 r9 pc adr H locs lsM st cells slots := by
  obtain ⟨hx, hb, hml, hr, hown, hts, hKK, hlk, hnm, hR, hi⟩ := X
  simp only [pm_c] at hq
  cases hL : pm_MLT.lookup (pm_ow i, z) with
  | none => rw [hL] at hq; cases hq
  | some y =>
    obtain ⟨mode, na, cs, nest, ws⟩ := y
    rw [hL] at hq
    have ok := pm_okM_at hL
    split at hq
    · next na2 t2 j2 e2 hh =>
      cases hh
      obtain ⟨⟨hl, hw⟩, hz⟩ := pm_if_iff.mp ⟨_, hq, rfl⟩
      cases hz
      unfold pm_okM at ok
      split at ok <;> first | (next hh => cases hh; done) | (cases ok; done) | skip
      next hh =>
      cases hh
      simp only [Bool.and_eq_true, decide_eq_true_eq] at ok
      obtain ⟨⟨⟨⟨hj, hw1⟩, hw2⟩, hw3⟩, hnp⟩ := ok
      have hN := pm_okN_at hj
      have hM := IH j _ h r1 h1 hj hc hH.2.2.2.1 (fun v hv => hF.2.2.2 v (List.mem_of_mem_take (List.mem_reverse.mp hv))) adr H.size
      refine pm_after (a := (((st.take na).reverse).map (pm_tv adr)).toArray) ih hH hF.drop hc g ?_
      cases nest with
      | false =>
        have hw1 : pm_hw _ (.methodLink (pm_cn (pm_ow i)) z (pm_y j)) = true := hw1
        refine va_runS (As := ((st.take na).reverse).map (pm_tv adr)) (n := na) ⟨hx, hb, hml, hown, hts⟩ hM (va_cwS na hts (pm_goodIn (fun w hw => ?_)) rfl rfl rfl ⟨hN.2.2.1, hN.2.2.2.1, pm_np_at hnp⟩ (pm_rooms hR hj)) ⟨pm_blind, pm_pc hKK hH⟩ rfl (pm_take_len hl) hF.1 (pm_take hl) (by rw [pm_wt_cat]; show 2 * 0 + _ ≤ 8; omega) hd (pm_callroom hR hH hc g)
        rcases List.mem_append.mp hw with hw | hw
        · simp only [List.mem_cons, List.not_mem_nil, or_false] at hw
          rcases hw with rfl | rfl | rfl
          · exact pm_hw_W hw1 rfl
          · exact pm_hw_W hw2 rfl
          · exact pm_hw_W hw3 rfl
        · exact pm_ws_in hj w hw
      | true =>
        have hw1 : pm_hw _ (.methodLinkNest (pm_cn (pm_ow i)) z (pm_y j) "LoomShed") = true := hw1
        exact va_runSN (As := ((st.take na).reverse).map (pm_tv adr)) (n := na) ⟨hx, hb, hml, hown, hts⟩ hM ⟨va_cnB na hts (pm_goodIn (pm_ws_in hj)) rfl rfl rfl (hKK.2.1 _ (pm_hw_N hw1 rfl)) (hts _ (pm_hw_W hw3 rfl)) ⟨hN.2.2.1, hN.2.2.2.1, pm_np_at hnp⟩ (pm_rooms hR hj), hts _ (pm_hw_W hw2 rfl), trivial⟩ ⟨pm_blind, pm_pc hKK hH⟩ rfl (pm_take_len hl) hF.1 (pm_take hl) (by rw [pm_wt_cat]; show 2 * 0 + _ ≤ 8; omega) hd (pm_callroom hR hH hc g)
    · cases hq
end
