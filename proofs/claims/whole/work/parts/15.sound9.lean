section
variable {p : Program} {l : Launch} {e : Env} {R : Room} {s : State} {m : MethodId} {args : Array Value} {below : List Frame} {meth : Method} {c : Code} {D : va_G} {aC : Nat → ClassId} {i d : Nat} {h0 h9 : pm_H} {a0 : Nat → Nat} {r9 : Option pm_V} {n pc k : Nat} {ls : pm_L} {st : List pm_V} {h : pm_H} {adr : Nat → Nat} {H : Heap} {locs : List Loc} {lsM : Array Slot} {cells slots : Nat}
theorem pm_take2 {na a : Nat} {s1 : List pm_V} (hl : na ≤ st.length) (hs : st.drop na = .inr (.inr (some a)) :: s1) : st.map (pm_tv adr) = (((st.take na).reverse).map (pm_tv adr)).reverse ++ .ref (adr a) :: s1.map (pm_tv adr) := by
  rw [pm_take hl, hs]
  rfl
theorem pm_FI.drop2 {na a : Nat} {s1 : List pm_V} (hF : pm_FI i adr h.2.2.length ls lsM st) (hs : st.drop na = .inr (.inr (some a)) :: s1) : pm_FI i adr h.2.2.length ls lsM s1 ∧ ∀ v ∈ ((.inr (.inr (some a)) : pm_V) :: (st.take na).reverse), pm_gv h.2.2.length v := by
  have h1 := hF.drop (na := na)
  rw [hs] at h1
  refine ⟨h1.tail, fun v hv => ?_⟩
  rcases List.mem_cons.mp hv with rfl | hv
  · exact h1.head
  · exact hF.2.2.2 v (List.mem_of_mem_take (List.mem_reverse.mp hv))
theorem pz_special {z : Nat} {j : Nat} {as rest : List pm_V} {r1 : Option pm_V} {h1 : pm_H} (X : pm_Cx p s m args meth c R D aC i d h0 h9) (IH : pm_Snd l D aC d) (ih : pm_Go p l e R s m args below meth c D aC i d h0 h9 a0 r9 n) (hH : pm_HI s D aC a0 h0 adr h H locs cells slots) (hF : pm_FI i adr h.2.2.length ls lsM st) (hd : decode (pm_b i) pc = .ok (.invokespecial z, 3)) (hq : pm_c i (.invokespecial z) st h = some (j, as, rest)) (hc : pm_ev d j as h r1 h1) (g : pm_lp (pm_ev d) i n (pc + 3) ls (pm_pu r1 rest) h1 r9 h9) :
    pm_Wg p l e R s m args below meth c D aC h0 h9 a0 r9 pc adr H locs lsM st cells slots := by
  obtain ⟨hx, hb, hml, hr, hown, hts, hKK, hlk, hnm, hR, hi⟩ := X
  simp only [pm_c] at hq
  cases hL : pm_MLT.lookup (pm_ow i, z) with
  | none => rw [hL] at hq; cases hq
  | some y =>
    obtain ⟨mode, na, cs, nest, ws⟩ := y
    rw [hL] at hq
    have ok := pm_okM_at hL
    split at hq
    · next na2 t2 j2 e2 hh =>
      cases hh
      obtain ⟨a, s1, hs, q1⟩ := pm_r_ex (pm_or_iff.mp ⟨_, hq, rfl⟩)
      obtain ⟨⟨hl, hw⟩, hz⟩ := pm_if_iff.mp q1
      cases hz
      unfold pm_okM at ok
      split at ok <;> first | (next hh => cases hh; done) | (cases ok; done) | skip
      next hh =>
      cases hh
      simp only [Bool.and_eq_true, decide_eq_true_eq] at ok
      obtain ⟨⟨⟨⟨⟨⟨hj, hw1⟩, hw2⟩, hw3⟩, hnp⟩, hin⟩, hrt⟩ := ok
      have hN := pm_okN_at hj
      obtain ⟨hF2, hgv⟩ := hF.drop2 hs
      have hM := IH j _ h r1 h1 hj hc hH.2.2.2.1 hgv adr H.size
      unfold pm_Met at hM
      rw [hrt] at hM
      have hcode := pm_code hj
      rw [hrt] at hcode
      have hin2 : ∀ w ∈ (Cond.code (pm_y j) (pm_b j) (pm_mL j) none :: pm_W), w ∈ pm_W := fun w hw => by
        rcases List.mem_cons.mp hw with rfl | hw
        · exact hcode
        · exact hw
      refine pm_after (a := (Value.ref (adr a) :: ((st.take na).reverse).map (pm_tv adr)).toArray) ih hH hF2 hc g ?_
      cases nest with
      | false =>
        have hw1 : pm_hw _ (.methodLink (pm_cn (pm_ow i)) z (pm_y j)) = true := hw1
        exact va_runI (b := adr a) (As := ((st.take na).reverse).map (pm_tv adr)) (n := na) ⟨hx, hb, hml, hown, hts⟩ hM (cwI na hts (pm_goodIn hin2) rfl rfl rfl (hts _ (pm_hw_W hw3 rfl)) (hts _ (pm_hw_W hw1 rfl)) (hts _ (pm_hw_W hw2 rfl)) hin ⟨hN.2.2.1, hN.2.2.2.1, pm_np_at hnp⟩ (pm_rooms hR hj)) ⟨pm_blind, pm_pc hKK hH⟩ rfl (pm_take_len hl) hF.1 (pm_take2 hl hs) (by rw [pm_wt_cat]; show 2 * 0 + _ ≤ 8; omega) hd (pm_callroom hR hH hc g)
      | true =>
        have hw1 : pm_hw _ (.methodLinkNest (pm_cn (pm_ow i)) z (pm_y j) "LoomShed") = true := hw1
        exact va_runIN (b := adr a) (As := ((st.take na).reverse).map (pm_tv adr)) (n := na) ⟨hx, hb, hml, hown, hts⟩ hM ⟨va_cnB na hts (pm_goodIn hin2) rfl rfl rfl (hKK.2.1 _ (pm_hw_N hw1 rfl)) (hts _ (pm_hw_W hw3 rfl)) ⟨hN.2.2.1, hN.2.2.2.1, pm_np_at hnp⟩ (pm_rooms hR hj), hin, hts _ (pm_hw_W hw2 rfl)⟩ ⟨pm_blind, pm_pc hKK hH⟩ rfl (pm_take_len hl) hF.1 (pm_take2 hl hs) (by rw [pm_wt_cat]; show 2 * 0 + _ ≤ 8; omega) hd (pm_callroom hR hH hc g)
    · cases hq
theorem pm_ok3_at {x : MethodName} {na : Nat} : ∀ {cs : List (Nat × Nat)} {ws : List Nat} {t j : Nat}, pm_ok3 x na cs ws = true → cs.lookup t = some j → t < 13 ∧ j < 172 ∧ Cond.selects (pm_cn t) x (pm_y j) ∈ pm_W ∧ Cond.instanceMethod (pm_y j) ∈ pm_W ∧ Cond.initialized (pm_y j).cls ∈ pm_W ∧ pm_np j na = true
  | [], _, _, _, _, h => by cases h
  | (u, v) :: cs, a :: b :: c :: ws, t, j, ok, h => by
    unfold pm_ok3 at ok
    simp only [Bool.and_eq_true, decide_eq_true_eq] at ok
    obtain ⟨⟨⟨⟨⟨⟨h1, h2⟩, h3⟩, h4⟩, h5⟩, h6⟩, h7⟩ := ok
    rw [List.lookup_cons] at h
    by_cases e : t == u
    · rw [e] at h
      have e2 : t = u := eq_of_beq e
      cases h
      subst e2
      exact ⟨h1, h2, pm_hw_W h3 rfl, pm_hw_W h4 rfl, pm_hw_W h5 rfl, h6⟩
    · have e' : (t == u) = false := by simpa using e
      rw [e'] at h
      exact pm_ok3_at h7 h
  | (u, v) :: cs, [], t, j, ok, h => by cases ok
  | (u, v) :: cs, [_], t, j, ok, h => by cases ok
  | (u, v) :: cs, [_, _], t, j, ok, h => by cases ok
theorem pz_virt {z : Nat} {j : Nat} {as rest : List pm_V} {r1 : Option pm_V} {h1 : pm_H} (X : pm_Cx p s m args meth c R D aC i d h0 h9) (IH : pm_Snd l D aC d) (ih : pm_Go p l e R s m args below meth c D aC i d h0 h9 a0 r9 n) (hH : pm_HI s D aC a0 h0 adr h H locs cells slots) (hF : pm_FI i adr h.2.2.length ls lsM st) (hd : decode (pm_b i) pc = .ok (.invokevirtual z, 3)) (hq : pm_c i (.invokevirtual z) st h = some (j, as, rest)) (hc : pm_ev d j as h r1 h1) (g : pm_lp (pm_ev d) i n (pc + 3) ls (pm_pu r1 rest) h1 r9 h9) :
    pm_Wg p l e R s m args below meth c D aC h0 h9 a0 r9 pc adr H locs lsM st cells slots := by
  obtain ⟨hx, hb, hml, hr, hown, hts, hKK, hlk, hnm, hR, hi⟩ := X
  simp only [pm_c] at hq
  cases hL : pm_MLT.lookup (pm_ow i, z) with
  | none => rw [hL] at hq; cases hq
  | some y =>
    obtain ⟨mode, na, cs, nest, ws⟩ := y
    rw [hL] at hq
    have ok := pm_okM_at hL
    split at hq
    · next na2 t2 j2 e2 hh =>
      cases hh
      obtain ⟨a, s1, hs, q1⟩ := pm_r_ex (pm_or_iff.mp ⟨_, hq, rfl⟩)
      obtain ⟨⟨hl, hw, N, hT⟩, hz⟩ := pm_if_iff.mp q1
      cases hz
      unfold pm_okM at ok
      split at ok <;> first | (next hh => cases hh; done) | (cases ok; done) | skip
      next hh =>
      cases hh
      simp only [Bool.and_eq_true, decide_eq_true_eq] at ok
      obtain ⟨⟨⟨⟨⟨⟨⟨hj, ht⟩, hcn⟩, hw1⟩, hw2⟩, hw3⟩, hw4⟩, hnp⟩ := ok
      have hN := pm_okN_at hj
      obtain ⟨hF2, hgv⟩ := hF.drop2 hs
      have hM := IH j _ h r1 h1 hj hc hH.2.2.2.1 hgv adr H.size
      have he := pm_ws_get (aC := aC) (adr := adr) hT
      rw [pm_cell_ob ht] at he
      have hrc := va_recv hKK.1 hH.1 (pm_cl_get ht) he
      refine pm_after (a := (Value.ref (adr a) :: ((st.take na).reverse).map (pm_tv adr)).toArray) ih hH hF2 hc g ?_
      cases nest with
      | false =>
        have hw1 : pm_hw _ (.methodLink (pm_cn (pm_ow i)) z (pm_y j)) = true := hw1
        refine va_runV (C := pm_cn t2) (b := adr a) (As := ((st.take na).reverse).map (pm_tv adr)) (n := na) ⟨hx, hb, hml, hown, hts⟩ hM (cwV na hts (pm_goodIn (fun w hw => ?_)) rfl rfl rfl ⟨hcn.symm, hN.2.2.1, hN.2.2.2.1, pm_np_at hnp⟩ (pm_rooms hR hj)) ⟨pm_blind, hrc, pm_pc hKK hH⟩ rfl (pm_take_len hl) hF.1 (pm_take2 hl hs) (by rw [pm_wt_cat]; show 2 * 0 + _ ≤ 8; omega) hd (pm_callroom hR hH hc g)
        rcases List.mem_append.mp hw with hw | hw
        · simp only [List.mem_cons, List.not_mem_nil, or_false] at hw
          rcases hw with rfl | rfl | rfl | rfl
          · exact pm_hw_W hw1 rfl
          · exact pm_hw_W hw2 rfl
          · exact pm_hw_W hw3 rfl
          · rw [hcn]; exact pm_hw_W hw4 rfl
        · exact pm_ws_in hj w hw
      | true =>
        have hw1 : pm_hw _ (.methodLinkNest (pm_cn (pm_ow i)) z (pm_y j) "LoomShed") = true := hw1
        exact va_runVN (C := pm_cn t2) (b := adr a) (As := ((st.take na).reverse).map (pm_tv adr)) (n := na) ⟨hx, hb, hml, hown, hts⟩ hM ⟨va_cnB na hts (pm_goodIn (pm_ws_in hj)) rfl rfl rfl (hKK.2.1 _ (pm_hw_N hw1 rfl)) (hts _ (pm_hw_W hw4 rfl)) ⟨hN.2.2.1, hN.2.2.2.1, pm_np_at hnp⟩ (pm_rooms hR hj), hts _ (pm_hw_W hw2 rfl), hts _ (pm_hw_W hw3 rfl)⟩ ⟨pm_blind, hrc, pm_pc hKK hH⟩ rfl (pm_take_len hl) hF.1 (pm_take2 hl hs) (by rw [pm_wt_cat]; show 2 * 0 + _ ≤ 8; omega) hd (pm_callroom hR hH hc g)
    · next na2 cs2 e2 hh =>
      cases hh
      obtain ⟨a, s1, hs, q1⟩ := pm_r_ex (pm_or_iff.mp ⟨_, hq, rfl⟩)
      cases hT : h.2.2[a]? with
      | none => rw [hT] at q1; obtain ⟨_, q1, _⟩ := q1; cases q1
      | some y =>
        obtain ⟨t, N⟩ := y
        rw [hT] at q1
        dsimp only at q1
        cases hlk2 : cs.lookup t with
        | none => rw [hlk2] at q1; obtain ⟨_, q1, _⟩ := q1; cases q1
        | some j2 =>
          rw [hlk2] at q1
          obtain ⟨⟨hl, hw⟩, hz⟩ := pm_if_iff.mp q1
          cases hz
          unfold pm_okM at ok
          split at ok <;> first | (next hh => cases hh; done) | (cases ok; done) | skip
          next hh =>
          cases hh
          simp only [Bool.and_eq_true, decide_eq_true_eq] at ok
          rename_i wa wb wc wx wsr
          obtain ⟨⟨⟨⟨⟨⟨hne, hxx⟩, hw1⟩, hw2⟩, hw3⟩, hnpx⟩, hok3⟩ := ok
          obtain ⟨ht, hj, hs1, hs2, hs3, hnp⟩ := pm_ok3_at hok3 hlk2
          have hNx := pm_okN_at hxx
          obtain ⟨hF2, hgv⟩ := hF.drop2 hs
          have hM := IH j _ h r1 h1 hj hc hH.2.2.2.1 hgv adr H.size
          have he := pm_ws_get (aC := aC) (adr := adr) hT
          rw [pm_cell_ob ht] at he
          have hrc := va_recv hKK.1 hH.1 (pm_cl_get ht) he
          refine pm_after (a := (Value.ref (adr a) :: ((st.take na).reverse).map (pm_tv adr)).toArray) ih hH hF2 hc g ?_
          refine va_runU (C := pm_cn t) (owner := (pm_y wx).cls) (x := pm_y wx) (b := adr a) (As := ((st.take na).reverse).map (pm_tv adr)) (n := na) ⟨hx, hb, hml, hown, hts⟩ hM (va_cwO na hts (pm_goodIn (fun w hw => ?_)) rfl rfl rfl (pm_code hxx) ⟨hNx.2.2.1, hNx.2.2.2.1, pm_np_at hnpx⟩ (pm_rooms hR hj)) ⟨pm_blind, hrc, pm_pc hKK hH⟩ rfl (pm_take_len hl) hF.1 (pm_take2 hl hs) (by rw [pm_wt_cat]; show 2 * 0 + _ ≤ 8; omega) hd (pm_callroom hR hH hc g)
          rcases List.mem_append.mp hw with hw | hw
          · simp only [List.mem_cons, List.not_mem_nil, or_false] at hw
            rcases hw with rfl | rfl | rfl | rfl | rfl | rfl
            · exact pm_hw_W hw1 rfl
            · exact pm_hw_W hw2 rfl
            · exact pm_hw_W hw3 rfl
            · exact hs1
            · exact hs2
            · exact hs3
          · exact pm_ws_in hj w hw
    · cases hq
/-- a return -/
theorem pz_ret {o : Instr} (X : pm_Cx p s m args meth c R D aC i d h0 h9) (hH : pm_HI s D aC a0 h0 adr h9 H locs cells slots) (hF : pm_FI i adr h9.2.2.length ls lsM st) (hd : decode (pm_b i) pc = .ok (o, k)) (hk : pm_lk o k pc = true) (hq : pm_e i o st = some r9) :
    pm_Wg p l e R s m args below meth c D aC h0 h9 a0 r9 pc adr H locs lsM st cells slots := by
  obtain ⟨hx, hb, hml, hr, hown, hts, hKK, hlk, hnm, hR, hi⟩ := X
  obtain ⟨hP, hD, hS, hG, hA0, h6, h7⟩ := hH
  have e1 : h9.2.2.length - h0.2.2.length = cells := by omega
  have e2 : pm_tot h9 - pm_tot h0 = slots := by omega
  unfold pm_Wg
  rw [e1, e2]
  have hQ : ∀ v : Option pm_V, v = r9 → (∀ w, v = some w → pm_gv h9.2.2.length w) → ∀ t : State, t.heap = H → s.WarmedH t.vm → pm_Qc D aC a0 h0 r9 h9 (pm_A s aC a0 h0) args s (.returned (v.map (pm_tv adr))) t := by
    intro v hv hg t ht hW
    subst hv
    exact ⟨⟨adr, hA0, rfl, by rw [ht]; exact hP, hD, hG, hg⟩, hS.F ht⟩
  unfold pm_e at hq
  split at hq
  · have ek : k = 1 := by simpa [pm_lk, pm_ln] using hk
    subst ek
    obtain ⟨x, s1, rfl, q1⟩ := pm_i_ex (pm_oi_iff.mp ⟨_, hq, rfl⟩)
    obtain ⟨⟨rfl, hrt⟩, hz⟩ := pm_if_iff.mp q1
    have hq2 := hQ (some (.inl x)) hz.symm (fun w hw => by cases hw; exact hF.head)
    rcases hrt with hrt | ⟨hrt, h01⟩
    · exact W.iret (v := Int32.ofInt x) hx hb (hr.trans hrt) hq2 hS.2.2 hd hlk
    · exact W.zret (v := Int32.ofInt x) (ty := .boolean) hx hb (hr.trans hrt) (pm_nar01 h01).1 hq2 hS.2.2 hd hlk
  · have ek : k = 1 := by simpa [pm_lk, pm_ln] using hk
    subst ek
    obtain ⟨x, s1, rfl, q1⟩ := pm_l_ex (pm_ol_iff.mp ⟨_, hq, rfl⟩)
    obtain ⟨⟨rfl, hrt⟩, hz⟩ := pm_if_iff.mp q1
    exact W.lret (v := Int64.ofInt x) hx hb (hr.trans hrt) (hQ (some (.inr (.inl x))) hz.symm (fun w hw => by cases hw; exact hF.head)) hS.2.2 hd hlk
  · have ek : k = 1 := by simpa [pm_lk, pm_ln] using hk
    subst ek
    obtain ⟨x, s1, rfl, q1⟩ := pm_q_ex (pm_oq_iff.mp ⟨_, hq, rfl⟩)
    obtain ⟨⟨rfl, nm, hrt⟩, hz⟩ := pm_if_iff.mp q1
    exact W.aret (v := va_rf (x.map adr)) hx hb (hr.trans hrt) (Or.inl ⟨nm, rfl⟩) (va_rf_or _) (hQ (some (.inr (.inr x))) hz.symm (fun w hw => by cases hw; exact hF.head)) hS.2.2 hd hlk
  · have ek : k = 1 := by simpa [pm_lk, pm_ln] using hk
    subst ek
    obtain ⟨⟨rfl, hrt⟩, hz⟩ := (pm_if_iff (P := fun y => r9 = y)).mp ⟨_, hq, rfl⟩
    exact W.vret hx hb (hr.trans hrt) (hQ none hz.symm (fun w hw => by cases hw)) hS.2.2 hd hlk
  · cases hq
end
