/-! rows of rows; calls; returns -/
theorem pm_mn_T {h : pm_H} {N K p : Nat} : (pm_mn h N K).2.2[p]? = if p < h.2.2.length then h.2.2[p]? else if p = h.2.2.length then some (23, N) else if p < h.2.2.length + 1 + N then some (20, K) else none := by
  show (h.2.2 ++ (23, N) :: List.replicate N (20, K))[p]? = _
  by_cases h1 : p < h.2.2.length
  · rw [if_pos h1, List.getElem?_append_left h1]
  · rw [if_neg h1, List.getElem?_append_right (by omega)]
    by_cases h2 : p = h.2.2.length
    · rw [if_pos h2, h2, Nat.sub_self]; rfl
    · rw [if_neg h2]
      obtain ⟨j, hj⟩ : ∃ j, p - h.2.2.length = j + 1 := ⟨p - h.2.2.length - 1, by omega⟩
      rw [hj, List.getElem?_cons_succ]
      by_cases h3 : p < h.2.2.length + 1 + N
      · rw [if_pos h3, List.getElem?_replicate, if_pos (by omega)]
      · rw [if_neg h3, List.getElem?_replicate, if_neg (by omega)]
theorem pm_mn_len {h : pm_H} {N K : Nat} : (pm_mn h N K).2.2.length = h.2.2.length + 1 + N := by
  show (h.2.2 ++ (23, N) :: List.replicate N (20, K)).length = _
  rw [List.length_append, List.length_cons, List.length_replicate]
  omega
theorem pm_mn_tot {h : pm_H} {N K : Nat} : pm_tot (pm_mn h N K) = pm_tot h + N + N * K := by
  show ((h.2.2 ++ (23, N) :: List.replicate N (20, K)).map fun z : Nat × Nat => z.2).sum = _
  rw [List.map_append, List.sum_append, List.map_cons, List.sum_cons, List.map_replicate, List.sum_replicate_nat]
  show pm_tot h + (N + N * K) = _
  omega
theorem pm_GH_mn {h : pm_H} {N K : Nat} (hG : pm_GH h) (hN : N ≤ 4000) (hK : K ≤ 4000) : pm_GH (pm_mn h N K) := by
  refine ⟨fun q t n hq => ?_, fun q t n k hq => ?_, fun q k w hq => ?_⟩
  · rw [pm_mn_T] at hq
    split at hq
    · exact hG.1 q t n hq
    · split at hq
      · cases hq; exact Or.inr ⟨by decide, by decide, hN⟩
      · split at hq
        · cases hq; exact Or.inr ⟨by decide, by decide, hK⟩
        · cases hq
  · show pm_rg _ (if h.2.2.length ≤ q then 0 else h.1 q k)
    rw [pm_mn_T] at hq
    by_cases hl : q < h.2.2.length
    · rw [if_pos hl] at hq
      rw [if_neg (by omega)]
      exact hG.2.1 q t n k hq
    · rw [if_pos (by omega)]
      exact ⟨fun _ => pm_00, fun _ => Or.inl rfl, fun _ => (by unfold pm_I64; decide)⟩
  · have hq : (if q = h.2.2.length then (if k < N then some (h.2.2.length + 1 + k) else none) else if h.2.2.length < q then none else h.2.1 q k) = some w := hq
    rw [pm_mn_len]
    split at hq
    · split at hq
      · cases hq; omega
      · cases hq
    · split at hq
      · cases hq
      · have := hG.2.2 q k w hq
        omega
def pm_adm (adr : Nat → Nat) (n a : Nat) (r : Nat → Nat) : Nat → Nat := fun q => if q < n then adr q else if q = n then a else r (q - n - 1)
theorem pm_adm_lt {adr : Nat → Nat} {n a q : Nat} {r : Nat → Nat} (h : q < n) : pm_adm adr n a r q = adr q := if_pos h
theorem pm_ws_mn {aC : Nat → ClassId} {adr : Nat → Nat} {h : pm_H} {N K a : Nat} {r : Nat → Nat} {f : Nat → va_E} (hG : pm_GH h) : (pm_ws aC adr h ++ [(a, .inl (aC 23, N, .inr (.inr (.inr (.inr (fun i => if i < N then some (r i) else none))))))]) ++ va_pl ([] ++ (List.range N).map r) (vr_up f ((List.range N).map r) (.inl (aC 20, K, .inl fun _ => (0 : Int32)))) = pm_ws aC (pm_adm adr h.2.2.length a r) (pm_mn h N K) := by
  apply List.ext_getElem?
  intro p
  by_cases h1 : p < h.2.2.length
  · obtain ⟨y, hy⟩ : ∃ y, h.2.2[p]? = some y := ⟨_, List.getElem?_eq_getElem h1⟩
    rw [pm_ws_get (h := pm_mn h N K) (z := y) (by rw [pm_mn_T, if_pos h1]; exact hy), List.getElem?_append_left (by rw [List.length_append, pm_ws_len]; omega), List.getElem?_append_left (by rw [pm_ws_len]; exact h1), pm_ws_get hy, pm_adm_lt h1]
    congr 2
    symm
    refine pm_cell_eq y (fun j => ?_) (fun j => ?_)
    · show (if h.2.2.length ≤ p then 0 else h.1 p j) = _
      rw [if_neg (by omega)]
    · show (if p = h.2.2.length then (if j < N then some (h.2.2.length + 1 + j) else none) else if h.2.2.length < p then none else h.2.1 p j).map _ = _
      rw [if_neg (by omega), if_neg (by omega)]
      exact pm_map_lt (fun q hq => pm_adm_lt hq) (fun z hz => hG.2.2 p j z hz)
  · by_cases h2 : p = h.2.2.length
    · subst h2
      rw [pm_ws_get (h := pm_mn h N K) (z := (23, N)) (by rw [pm_mn_T, if_neg h1, if_pos rfl]), List.getElem?_append_left (by rw [List.length_append, pm_ws_len, List.length_singleton]; omega), List.getElem?_append_right (by rw [pm_ws_len]; exact Nat.le_refl _), pm_ws_len, Nat.sub_self]
      rw [pm_cell_r (by decide)]
      have e1 : pm_adm adr h.2.2.length a r h.2.2.length = a := by unfold pm_adm; rw [if_neg (Nat.lt_irrefl _), if_pos rfl]
      rw [e1]
      have e2 : (fun j => ((pm_mn h N K).2.1 h.2.2.length j).map (pm_adm adr h.2.2.length a r)) = (fun i => if i < N then some (r i) else none) := by
        funext j
        show (if h.2.2.length = h.2.2.length then (if j < N then some (h.2.2.length + 1 + j) else none) else if h.2.2.length < h.2.2.length then none else h.2.1 h.2.2.length j).map _ = _
        rw [if_pos rfl]
        by_cases hj : j < N
        · rw [if_pos hj, if_pos hj]
          show some (pm_adm adr h.2.2.length a r (h.2.2.length + 1 + j)) = _
          unfold pm_adm
          rw [if_neg (by omega), if_neg (by omega), show h.2.2.length + 1 + j - h.2.2.length - 1 = j by omega]
        · rw [if_neg hj, if_neg hj]; rfl
      rw [e2]
      rfl
    · by_cases h3 : p < h.2.2.length + 1 + N
      · rw [pm_ws_get (h := pm_mn h N K) (z := (20, K)) (by rw [pm_mn_T, if_neg h1, if_neg h2, if_pos h3]), List.getElem?_append_right (by rw [List.length_append, pm_ws_len, List.length_singleton]; omega), List.length_append, pm_ws_len, List.length_singleton, pm_cell_i, List.nil_append]
        unfold va_pl
        have hj : p - (h.2.2.length + 1) < N := by omega
        rw [List.getElem?_map, List.getElem?_map, List.getElem?_range hj]
        show some (r (p - (h.2.2.length + 1)), vr_up f ((List.range N).map r) _ (r (p - (h.2.2.length + 1)))) = _
        rw [vr_up_in (List.mem_map.mpr ⟨_, List.mem_range.mpr hj, rfl⟩)]
        have e1 : pm_adm adr h.2.2.length a r p = r (p - (h.2.2.length + 1)) := by
          unfold pm_adm
          rw [if_neg h1, if_neg h2, show p - h.2.2.length - 1 = p - (h.2.2.length + 1) by omega]
        have e2 : (fun j => Int32.ofInt ((pm_mn h N K).1 p j)) = fun _ => (0 : Int32) := by
          funext j
          show Int32.ofInt (if h.2.2.length ≤ p then 0 else h.1 p j) = 0
          rw [if_pos (by omega)]
          rfl
        rw [e1, e2]
      · rw [List.getElem?_eq_none (by rw [List.length_append, List.length_append, pm_ws_len, List.length_singleton]; unfold va_pl; rw [List.length_map, List.nil_append, List.length_map, List.length_range]; omega), List.getElem?_eq_none (by rw [pm_ws_len, pm_mn_len]; omega)]
section
variable {p : Program} {l : Launch} {e : Env} {R : Room} {s : State} {m : MethodId} {args : Array Value} {below : List Frame} {meth : Method} {c : Code} {D : va_G} {aC : Nat → ClassId} {i d : Nat} {h0 h9 : pm_H} {a0 : Nat → Nat} {r9 : Option pm_V} {n pc k : Nat} {ls : pm_L} {st : List pm_V} {h : pm_H} {adr : Nat → Nat} {H : Heap} {locs : List Loc} {lsM : Array Slot} {cells slots : Nat}
theorem pz_mna {z : Nat} (X : pm_Cx p s m args meth c R D aC i d h0 h9) (ih : pm_Go p l e R s m args below meth c D aC i d h0 h9 a0 r9 n) (hH : pm_HI s D aC a0 h0 adr h H locs cells slots) (hF : pm_FI i adr h.2.2.length ls lsM st) (hd : decode (pm_b i) pc = .ok (.multianewarray z 2, k)) (hk : pm_lk (.multianewarray z 2) k pc = true) (q : ∃ nx : pm_N, pm_s i (.multianewarray z 2) k pc ls st h = some nx ∧ pm_lp (pm_ev d) i n nx.1 nx.2.1 nx.2.2.1 nx.2.2.2 r9 h9) : pm_Wg p l e R s m args below meth c D aC h0 h9 a0 r9 pc adr H locs lsM st cells slots := by
  obtain ⟨hx, hb, hml, hr, hown, hts, hKK, hlk, hnm, hR, hi⟩ := X
  have ek : k = 4 := by simpa [pm_lk, pm_ln] using hk
  subst ek
  simp only [pm_s] at q
  cases hL : pm_CT.lookup (pm_ow i, z) with
  | none => rw [hL] at q; obtain ⟨_, q, _⟩ := q; cases q
  | some y =>
    obtain ⟨cn, wi⟩ := y
    rw [hL] at q
    dsimp only at q
    have ok := pm_lookup pm_okCT hL
    by_cases ec : cn = "[[I"
    · subst ec
      rw [if_pos rfl] at q
      have q0 := pm_oi_iff.mp q
      clear q
      obtain ⟨y, s0, rfl, q1⟩ := pm_i_ex q0
      have q2 := pm_oi_iff.mp q1
      obtain ⟨x, s1, rfl, q3⟩ := pm_i_ex q2
      obtain ⟨⟨hx0, hx1, hy0, hy1⟩, g⟩ := pm_if_iff.mp q3
      dsimp only at g
      have hY : pm_I32 y := hF.head
      have hX : pm_I32 x := hF.tail.head
      have hle := pm_lp_le g
      rw [pm_mn_len, pm_mn_tot] at hle
      have h6 := hH.2.2.2.2.2.1
      have h7 := hH.2.2.2.2.2.2
      have harr : Cond.arrayClass .int ∈ pm_W := List.mem_filter.mpr ⟨by decide +kernel, rfl⟩
      have hb2 : y.toNat * componentBytes .int ≤ 536870912 := Nat.le_trans (Nat.mul_le_mul (show y.toNat ≤ 4000 by omega) (show componentBytes .int ≤ 8 by decide)) (by decide)
      have hcy : s.vm.findClass (FieldType.array .int).toString = some (aC 20) := (hKK.1.2 0 _ rfl).2
      refine va_mna (D := D) (cl := pm_cl) (tys := pm_tys aC) (X := pm_ws aC adr h) (L := []) (f := fun _ => .inr (0, [])) (ty := .int) (cy := aC 20) (z := (y.toNat, .inl fun _ => (0 : Int32))) hx hb hown (show (Cond.classLink (pm_cn (pm_ow i)) z "[[I").before args s = true from hts _ (pm_hw_W ok rfl)) hKK.2.2.2.2.2 (hts _ harr) hcy hKK.1 (by rw [show va_pl [] (fun _ => (.inr (0, []) : va_E)) = [] from rfl, List.append_nil]; exact hH.1) (by rw [show va_pl [] (fun _ => (.inr (0, []) : va_E)) = [] from rfl, List.append_nil]; exact hH.2.1) hH.2.2.1 (fun w hw => Or.inr hw) (fun w => by have := (pm_lt0' hX).mp w; omega) (fun w => by have := (pm_lt0' hY).mp w; omega) (pm_cl32 hX) (pm_cl32 hY) (by omega) hb2 (by omega) rfl rfl (by rw [hR]; show cells + (1 + x.toNat) ≤ h9.2.2.length - h0.2.2.length; omega) (by rw [hR]; show slots + (x.toNat + x.toNat * y.toNat) ≤ pm_tot h9 - pm_tot h0; omega) (fun c => by show ({ cls := c, slots := Array.replicate _ _, vm := .none } : Cell) = _; rw [arrV_new]; rfl) hd (fun a r cA H1 hinj hnl hK2 hP hD hS => ?_)
      have ec : cA = aC 23 := pm_RA_eq (pm_last hK2) (hKK.1.2 3 _ rfl).2
      subst ec
      rw [pm_ws_mn hH.2.2.2.1] at hP hD
      have hH2 : pm_HI s D aC a0 h0 (pm_adm adr h.2.2.length a r) (pm_mn h x.toNat y.toNat) H1 locs (cells + 1 + x.toNat) (slots + x.toNat + x.toNat * y.toNat) := ⟨hP, hD, hS, pm_GH_mn hH.2.2.2.1 (by omega) (by omega), fun q hq => by rw [pm_adm_lt (by omega)]; exact hH.2.2.2.2.1 q hq, by rw [pm_mn_len]; omega, by rw [pm_mn_tot]; omega⟩
      have hF2 : pm_FI i (pm_adm adr h.2.2.length a r) (pm_mn h x.toNat y.toNat).2.2.length ls lsM (.inr (.inr (some h.2.2.length)) :: s1) := (hF.tail.tail.ext (by rw [pm_mn_len]; omega) (fun q hq => pm_adm_lt hq)).push (show h.2.2.length < _ by rw [pm_mn_len]; omega)
      have hgo := ih _ _ _ _ _ _ _ _ _ _ g hH2 hF2
      unfold pm_Wg at hgo
      rw [List.map_cons, pm_map_ext (adr := adr) (fun q hq => pm_adm_lt hq) hF.tail.tail.2.2.2] at hgo
      have e1 : pm_tv (pm_adm adr h.2.2.length a r) (.inr (.inr (some h.2.2.length))) = .ref a := by
        show va_rf (some (pm_adm adr h.2.2.length a r h.2.2.length)) = _
        unfold pm_adm
        rw [if_neg (Nat.lt_irrefl _), if_pos rfl]
        rfl
      rw [e1] at hgo
      exact hgo
    · rw [if_neg ec] at q
      obtain ⟨_, q, _⟩ := q
      cases q
end
