theorem pm_inb_iff {V : Nat → Nat → Int} {R : Nat → Nat → Option Nat} {T : List (Nat × Nat)} {a t n : Nat} {x : Int} (h : T[a]? = some (t, n)) : pm_inb (V, R, T) a t x ↔ 0 ≤ x ∧ x < (n : Int) := by
  constructor
  · rintro ⟨m, e, h1, h2⟩
    have e : T[a]? = some (t, m) := e
    cases h.symm.trans e
    exact ⟨h1, h2⟩
  · rintro ⟨h1, h2⟩
    exact ⟨n, h, h1, h2⟩
/-! the machine is deterministic: a known run rewrites a call -/
theorem pm_lp_det {C : Nat → List pm_V → pm_H → Option pm_V → pm_H → Prop} {i : Nat} (hC : ∀ j as h r h' r2 h2, C j as h r h' → C j as h r2 h2 → r = r2 ∧ h' = h2) : ∀ (n m pc : Nat) (ls : pm_L) (st : List pm_V) (h : pm_H) (r : Option pm_V) (h' : pm_H) (r2 : Option pm_V) (h2 : pm_H), pm_lp C i n pc ls st h r h' → pm_lp C i m pc ls st h r2 h2 → r = r2 ∧ h' = h2
  | 0, _, _, _, _, _, _, _, _, _, g, _ => g.elim
  | _ + 1, 0, _, _, _, _, _, _, _, _, _, g => g.elim
  | n + 1, m + 1, pc, ls, st, h, r, h', r2, h2, g1, g2 => by
    obtain ⟨o, k, hd, hk, g1⟩ := g1
    obtain ⟨o2, k2, hd2, hk2, g2⟩ := g2
    cases hd.symm.trans hd2
    have sc : ∀ nx j as s, pm_s i o k pc ls st h = some nx → pm_c i o st h = some (j, as, s) → False := by
      intro nx j as s e1 e2
      cases o with
      | invokestatic z =>
        simp only [pm_s] at e1
        simp only [pm_c] at e2
        cases hL : pm_MLT.lookup (pm_ow i, z) with
        | none => rw [hL] at e1; cases e1
        | some y =>
          obtain ⟨mo, na, cs, ne, ws⟩ := y
          rw [hL] at e1 e2
          split at e1
          · next hh => cases hh; split at e2 <;> first | (next h3 => cases h3; done) | (cases e2; done)
          · next hh => cases hh; split at e2 <;> first | (next h3 => cases h3; done) | (cases e2; done)
          · cases e1
      | invokespecial z =>
        simp only [pm_s] at e1
        simp only [pm_c] at e2
        cases hL : pm_MLT.lookup (pm_ow i, z) with
        | none => rw [hL] at e1; cases e1
        | some y =>
          obtain ⟨mo, na, cs, ne, ws⟩ := y
          rw [hL] at e1 e2
          split at e1
          · next hh => cases hh; split at e2 <;> first | (next h3 => cases h3; done) | (cases e2; done)
          · cases e1
      | invokevirtual z => cases e1
      | _ => cases e2
    have se : ∀ nx v, pm_s i o k pc ls st h = some nx → pm_e i o st = some v → False := by
      intro nx v e1 e2
      cases o <;> first | (cases e1; done) | (cases e2; done)
    have ce : ∀ z v, pm_c i o st h = some z → pm_e i o st = some v → False := by
      intro z v e1 e2
      cases o <;> first | (cases e1; done) | (cases e2; done)
    rcases g1 with ⟨nx, e1, g1⟩ | ⟨j, as, s, e1, r1, h1, c1, g1⟩ | ⟨e1, rfl⟩
    · rcases g2 with ⟨nx2, e2, g2⟩ | ⟨j2, as2, s2, e2, r12, h12, c2, g2⟩ | ⟨e2, rfl⟩
      · cases e1.symm.trans e2
        exact pm_lp_det hC n m _ _ _ _ _ _ _ _ g1 g2
      · exact (sc _ _ _ _ e1 e2).elim
      · exact (se _ _ e1 e2).elim
    · rcases g2 with ⟨nx2, e2, g2⟩ | ⟨j2, as2, s2, e2, r12, h12, c2, g2⟩ | ⟨e2, rfl⟩
      · exact (sc _ _ _ _ e2 e1).elim
      · cases e1.symm.trans e2
        obtain ⟨rfl, rfl⟩ := hC _ _ _ _ _ _ _ c1 c2
        exact pm_lp_det hC n m _ _ _ _ _ _ _ _ g1 g2
      · exact (ce _ _ e1 e2).elim
    · rcases g2 with ⟨nx2, e2, g2⟩ | ⟨j2, as2, s2, e2, r12, h12, c2, g2⟩ | ⟨e2, rfl⟩
      · exact (se _ _ e2 e1).elim
      · exact (ce _ _ e2 e1).elim
      · cases e1.symm.trans e2
        exact ⟨rfl, rfl⟩
theorem pm_ev_det : ∀ (d i : Nat) (as : List pm_V) (h : pm_H) (r : Option pm_V) (h' : pm_H) (r2 : Option pm_V) (h2 : pm_H), pm_ev d i as h r h' → pm_ev d i as h r2 h2 → r = r2 ∧ h' = h2
  | 0, _, _, _, _, _, _, _, g, _ => g.elim
  | d + 1, i, as, h, r, h', r2, h2, g1, g2 => by
    obtain ⟨-, n, g1⟩ := g1
    obtain ⟨-, m, g2⟩ := g2
    exact pm_lp_det (fun j as h r h' r2 h2 => pm_ev_det d j as h r h' r2 h2) n m _ _ _ _ _ _ _ _ g1 g2
/-- a known run as a rewriting row -/
theorem pm_ok_ev {d i : Nat} {as : List pm_V} {h h' : pm_H} {r : Option pm_V} {Q : Option pm_V → pm_H → Prop} (g : pm_ev d i as h r h') : pm_ok d i as h Q ↔ Q r h' := by
  constructor
  · rintro ⟨r2, h2, g2, q⟩
    obtain ⟨rfl, rfl⟩ := pm_ev_det d i as h r h' r2 h2 g g2
    exact q
  · exact fun q => ⟨r, h', g, q⟩
theorem pm_ev_of {d i : Nat} {as : List pm_V} {h h' : pm_H} {r : Option pm_V} (hd : 1 ≤ d) (hl : (pm_fl as).length ≤ pm_mL i) (g : pm_w (d - 1) i 0 (pm_ent i as) [] h (fun r2 h2 => r2 = r ∧ h2 = h')) : pm_ev d i as h r h' := by
  obtain ⟨k, rfl⟩ : ∃ k, d = k + 1 := ⟨d - 1, by omega⟩
  obtain ⟨n, r2, h2, g, rfl, rfl⟩ := g
  exact ⟨hl, n, g⟩
/-- a loop upwards -/
theorem pm_upl (P : Nat → Prop) (N : Nat) (hN : P N) (hs : ∀ i, i < N → P (i + 1) → P i) : ∀ k, k ≤ N → P (N - k)
  | 0, _ => hN
  | k + 1, hk => by
    have h1 := pm_upl P N hN hs k (by omega)
    refine hs (N - (k + 1)) (by omega) ?_
    rw [show N - (k + 1) + 1 = N - k by omega]
    exact h1
theorem pm_up0 (P : Nat → Prop) (N : Nat) (hN : P N) (hs : ∀ i, i < N → P (i + 1) → P i) : P 0 := by
  have := pm_upl P N hN hs N (Nat.le_refl N)
  rwa [Nat.sub_self] at this
/-! THE FIXED CELLS, printed by wip/gen/genfix.py: what the two constructors make -/
def fx_T : List (Nat × Nat) := [(11, 13), (8, 4), (24, 12), (3, 3), (25, 20), (8, 4), (24, 12), (8, 4), (24, 12), (8, 4), (24, 12), (8, 4), (24, 12), (8, 4), (24, 12), (8, 4), (24, 12), (8, 4), (24, 12), (8, 4), (24, 12), (8, 4), (24, 12), (8, 4), (24, 12), (8, 4), (24, 12), (8, 4), (24, 12), (8, 4), (24, 12), (8, 4), (24, 12), (8, 4), (24, 12), (8, 4), (24, 12), (8, 4), (24, 12), (8, 4), (24, 12), (8, 4), (24, 12), (8, 4), (24, 12), (1, 8), (20, 48), (20, 12), (20, 12), (21, 12), (4, 11), (20, 12), (20, 47), (23, 12), (20, 47), (20, 47), (20, 47), (20, 47), (20, 47), (20, 47), (20, 47), (20, 47), (20, 47), (20, 47), (20, 47), (20, 47), (23, 12), (20, 47), (20, 47), (20, 47), (20, 47), (20, 47), (20, 47), (20, 47), (20, 47), (20, 47), (20, 47), (20, 47), (20, 47), (20, 12), (20, 47), (20, 47), (1, 8), (20, 48), (20, 12), (20, 12), (21, 12), (4, 11), (20, 12), (20, 47), (23, 12), (20, 47), (20, 47), (20, 47), (20, 47), (20, 47), (20, 47), (20, 47), (20, 47), (20, 47), (20, 47), (20, 47), (20, 47), (23, 12), (20, 47), (20, 47), (20, 47), (20, 47), (20, 47), (20, 47), (20, 47), (20, 47), (20, 47), (20, 47), (20, 47), (20, 47), (20, 12), (20, 47), (20, 47), (5, 10), (20, 12), (20, 12), (20, 12), (20, 12), (20, 12), (7, 10), (20, 8), (20, 4), (20, 4), (20, 8), (20, 8), (12, 25), (20, 87), (20, 1740), (20, 64), (21, 768), (21, 12), (21, 64), (20, 12), (20, 64), (20, 80), (22, 768), (20, 12), (20, 12), (21, 12), (21, 12), (20, 8), (20, 8)]
def fx_RL : List ((Nat × Nat) × Nat) := [((0, 0), 1), ((0, 1), 3), ((0, 2), 45), ((0, 3), 50), ((0, 7), 82), ((0, 8), 87), ((0, 11), 119), ((0, 12), 125), ((1, 3), 2), ((3, 0), 4), ((4, 0), 5), ((4, 1), 7), ((4, 2), 9), ((4, 3), 11), ((4, 4), 13), ((4, 5), 15), ((4, 6), 17), ((4, 7), 19), ((4, 8), 21), ((4, 9), 23), ((4, 10), 25), ((4, 11), 27), ((4, 12), 29), ((4, 13), 31), ((4, 14), 33), ((4, 15), 35), ((4, 16), 37), ((4, 17), 39), ((4, 18), 41), ((4, 19), 43), ((5, 3), 6), ((7, 3), 8), ((9, 3), 10), ((11, 3), 12), ((13, 3), 14), ((15, 3), 16), ((17, 3), 18), ((19, 3), 20), ((21, 3), 22), ((23, 3), 24), ((25, 3), 26), ((27, 3), 28), ((29, 3), 30), ((31, 3), 32), ((33, 3), 34), ((35, 3), 36), ((37, 3), 38), ((39, 3), 40), ((41, 3), 42), ((43, 3), 44), ((45, 4), 46), ((45, 5), 47), ((45, 6), 48), ((45, 7), 49), ((50, 3), 51), ((50, 4), 52), ((50, 5), 53), ((50, 6), 66), ((50, 7), 79), ((50, 8), 80), ((50, 9), 81), ((53, 0), 54), ((53, 1), 55), ((53, 2), 56), ((53, 3), 57), ((53, 4), 58), ((53, 5), 59), ((53, 6), 60), ((53, 7), 61), ((53, 8), 62), ((53, 9), 63), ((53, 10), 64), ((53, 11), 65), ((66, 0), 67), ((66, 1), 68), ((66, 2), 69), ((66, 3), 70), ((66, 4), 71), ((66, 5), 72), ((66, 6), 73), ((66, 7), 74), ((66, 8), 75), ((66, 9), 76), ((66, 10), 77), ((66, 11), 78), ((82, 4), 83), ((82, 5), 84), ((82, 6), 85), ((82, 7), 86), ((87, 3), 88), ((87, 4), 89), ((87, 5), 90), ((87, 6), 103), ((87, 7), 116), ((87, 8), 117), ((87, 9), 118), ((90, 0), 91), ((90, 1), 92), ((90, 2), 93), ((90, 3), 94), ((90, 4), 95), ((90, 5), 96), ((90, 6), 97), ((90, 7), 98), ((90, 8), 99), ((90, 9), 100), ((90, 10), 101), ((90, 11), 102), ((103, 0), 104), ((103, 1), 105), ((103, 2), 106), ((103, 3), 107), ((103, 4), 108), ((103, 5), 109), ((103, 6), 110), ((103, 7), 111), ((103, 8), 112), ((103, 9), 113), ((103, 10), 114), ((103, 11), 115), ((119, 2), 120), ((119, 3), 121), ((119, 4), 122), ((119, 5), 123), ((119, 6), 124), ((125, 4), 126), ((125, 5), 127), ((125, 6), 128), ((125, 7), 129), ((125, 8), 130), ((131, 0), 132), ((131, 1), 133), ((131, 5), 134), ((131, 7), 135), ((131, 8), 136), ((131, 9), 137), ((131, 12), 138), ((131, 13), 139), ((131, 14), 140), ((131, 15), 141), ((131, 19), 142), ((131, 20), 143), ((131, 21), 144), ((131, 22), 145), ((131, 23), 146), ((131, 24), 147)]
def fx (R : Nat → Nat → Option Nat) (T : List (Nat × Nat)) : Prop := (∀ e ∈ fx_RL, R e.1.1 e.1.2 = some e.2) ∧ ∀ (q : Nat) (z : Nat × Nat), fx_T[q]? = some z → T[q]? = some z
section
variable {V : Nat → Nat → Int} {R : Nat → Nat → Option Nat} {T : List (Nat × Nat)}
theorem fr_0_0 (h : fx R T) : R 0 0 = some 1 := h.1 ((0, 0), 1) (by decide +kernel)
theorem fr_0_1 (h : fx R T) : R 0 1 = some 3 := h.1 ((0, 1), 3) (by decide +kernel)
theorem fr_0_2 (h : fx R T) : R 0 2 = some 45 := h.1 ((0, 2), 45) (by decide +kernel)
theorem fr_0_3 (h : fx R T) : R 0 3 = some 50 := h.1 ((0, 3), 50) (by decide +kernel)
theorem fr_0_7 (h : fx R T) : R 0 7 = some 82 := h.1 ((0, 7), 82) (by decide +kernel)
theorem fr_0_8 (h : fx R T) : R 0 8 = some 87 := h.1 ((0, 8), 87) (by decide +kernel)
theorem fr_0_11 (h : fx R T) : R 0 11 = some 119 := h.1 ((0, 11), 119) (by decide +kernel)
theorem fr_0_12 (h : fx R T) : R 0 12 = some 125 := h.1 ((0, 12), 125) (by decide +kernel)
theorem fr_1_3 (h : fx R T) : R 1 3 = some 2 := h.1 ((1, 3), 2) (by decide +kernel)
theorem fr_3_0 (h : fx R T) : R 3 0 = some 4 := h.1 ((3, 0), 4) (by decide +kernel)
theorem fr_4_0 (h : fx R T) : R 4 0 = some 5 := h.1 ((4, 0), 5) (by decide +kernel)
theorem fr_4_1 (h : fx R T) : R 4 1 = some 7 := h.1 ((4, 1), 7) (by decide +kernel)
theorem fr_4_2 (h : fx R T) : R 4 2 = some 9 := h.1 ((4, 2), 9) (by decide +kernel)
theorem fr_4_3 (h : fx R T) : R 4 3 = some 11 := h.1 ((4, 3), 11) (by decide +kernel)
theorem fr_4_4 (h : fx R T) : R 4 4 = some 13 := h.1 ((4, 4), 13) (by decide +kernel)
theorem fr_4_5 (h : fx R T) : R 4 5 = some 15 := h.1 ((4, 5), 15) (by decide +kernel)
theorem fr_4_6 (h : fx R T) : R 4 6 = some 17 := h.1 ((4, 6), 17) (by decide +kernel)
theorem fr_4_7 (h : fx R T) : R 4 7 = some 19 := h.1 ((4, 7), 19) (by decide +kernel)
theorem fr_4_8 (h : fx R T) : R 4 8 = some 21 := h.1 ((4, 8), 21) (by decide +kernel)
theorem fr_4_9 (h : fx R T) : R 4 9 = some 23 := h.1 ((4, 9), 23) (by decide +kernel)
theorem fr_4_10 (h : fx R T) : R 4 10 = some 25 := h.1 ((4, 10), 25) (by decide +kernel)
theorem fr_4_11 (h : fx R T) : R 4 11 = some 27 := h.1 ((4, 11), 27) (by decide +kernel)
theorem fr_4_12 (h : fx R T) : R 4 12 = some 29 := h.1 ((4, 12), 29) (by decide +kernel)
theorem fr_4_13 (h : fx R T) : R 4 13 = some 31 := h.1 ((4, 13), 31) (by decide +kernel)
theorem fr_4_14 (h : fx R T) : R 4 14 = some 33 := h.1 ((4, 14), 33) (by decide +kernel)
theorem fr_4_15 (h : fx R T) : R 4 15 = some 35 := h.1 ((4, 15), 35) (by decide +kernel)
theorem fr_4_16 (h : fx R T) : R 4 16 = some 37 := h.1 ((4, 16), 37) (by decide +kernel)
theorem fr_4_17 (h : fx R T) : R 4 17 = some 39 := h.1 ((4, 17), 39) (by decide +kernel)
theorem fr_4_18 (h : fx R T) : R 4 18 = some 41 := h.1 ((4, 18), 41) (by decide +kernel)
theorem fr_4_19 (h : fx R T) : R 4 19 = some 43 := h.1 ((4, 19), 43) (by decide +kernel)
theorem fr_5_3 (h : fx R T) : R 5 3 = some 6 := h.1 ((5, 3), 6) (by decide +kernel)
theorem fr_7_3 (h : fx R T) : R 7 3 = some 8 := h.1 ((7, 3), 8) (by decide +kernel)
theorem fr_9_3 (h : fx R T) : R 9 3 = some 10 := h.1 ((9, 3), 10) (by decide +kernel)
theorem fr_11_3 (h : fx R T) : R 11 3 = some 12 := h.1 ((11, 3), 12) (by decide +kernel)
theorem fr_13_3 (h : fx R T) : R 13 3 = some 14 := h.1 ((13, 3), 14) (by decide +kernel)
theorem fr_15_3 (h : fx R T) : R 15 3 = some 16 := h.1 ((15, 3), 16) (by decide +kernel)
theorem fr_17_3 (h : fx R T) : R 17 3 = some 18 := h.1 ((17, 3), 18) (by decide +kernel)
theorem fr_19_3 (h : fx R T) : R 19 3 = some 20 := h.1 ((19, 3), 20) (by decide +kernel)
theorem fr_21_3 (h : fx R T) : R 21 3 = some 22 := h.1 ((21, 3), 22) (by decide +kernel)
theorem fr_23_3 (h : fx R T) : R 23 3 = some 24 := h.1 ((23, 3), 24) (by decide +kernel)
theorem fr_25_3 (h : fx R T) : R 25 3 = some 26 := h.1 ((25, 3), 26) (by decide +kernel)
theorem fr_27_3 (h : fx R T) : R 27 3 = some 28 := h.1 ((27, 3), 28) (by decide +kernel)
theorem fr_29_3 (h : fx R T) : R 29 3 = some 30 := h.1 ((29, 3), 30) (by decide +kernel)
theorem fr_31_3 (h : fx R T) : R 31 3 = some 32 := h.1 ((31, 3), 32) (by decide +kernel)
theorem fr_33_3 (h : fx R T) : R 33 3 = some 34 := h.1 ((33, 3), 34) (by decide +kernel)
theorem fr_35_3 (h : fx R T) : R 35 3 = some 36 := h.1 ((35, 3), 36) (by decide +kernel)
theorem fr_37_3 (h : fx R T) : R 37 3 = some 38 := h.1 ((37, 3), 38) (by decide +kernel)
theorem fr_39_3 (h : fx R T) : R 39 3 = some 40 := h.1 ((39, 3), 40) (by decide +kernel)
theorem fr_41_3 (h : fx R T) : R 41 3 = some 42 := h.1 ((41, 3), 42) (by decide +kernel)
theorem fr_43_3 (h : fx R T) : R 43 3 = some 44 := h.1 ((43, 3), 44) (by decide +kernel)
theorem fr_45_4 (h : fx R T) : R 45 4 = some 46 := h.1 ((45, 4), 46) (by decide +kernel)
theorem fr_45_5 (h : fx R T) : R 45 5 = some 47 := h.1 ((45, 5), 47) (by decide +kernel)
theorem fr_45_6 (h : fx R T) : R 45 6 = some 48 := h.1 ((45, 6), 48) (by decide +kernel)
theorem fr_45_7 (h : fx R T) : R 45 7 = some 49 := h.1 ((45, 7), 49) (by decide +kernel)
theorem fr_50_3 (h : fx R T) : R 50 3 = some 51 := h.1 ((50, 3), 51) (by decide +kernel)
theorem fr_50_4 (h : fx R T) : R 50 4 = some 52 := h.1 ((50, 4), 52) (by decide +kernel)
theorem fr_50_5 (h : fx R T) : R 50 5 = some 53 := h.1 ((50, 5), 53) (by decide +kernel)
theorem fr_50_6 (h : fx R T) : R 50 6 = some 66 := h.1 ((50, 6), 66) (by decide +kernel)
theorem fr_50_7 (h : fx R T) : R 50 7 = some 79 := h.1 ((50, 7), 79) (by decide +kernel)
theorem fr_50_8 (h : fx R T) : R 50 8 = some 80 := h.1 ((50, 8), 80) (by decide +kernel)
theorem fr_50_9 (h : fx R T) : R 50 9 = some 81 := h.1 ((50, 9), 81) (by decide +kernel)
theorem fr_53_0 (h : fx R T) : R 53 0 = some 54 := h.1 ((53, 0), 54) (by decide +kernel)
theorem fr_53_1 (h : fx R T) : R 53 1 = some 55 := h.1 ((53, 1), 55) (by decide +kernel)
theorem fr_53_2 (h : fx R T) : R 53 2 = some 56 := h.1 ((53, 2), 56) (by decide +kernel)
theorem fr_53_3 (h : fx R T) : R 53 3 = some 57 := h.1 ((53, 3), 57) (by decide +kernel)
theorem fr_53_4 (h : fx R T) : R 53 4 = some 58 := h.1 ((53, 4), 58) (by decide +kernel)
theorem fr_53_5 (h : fx R T) : R 53 5 = some 59 := h.1 ((53, 5), 59) (by decide +kernel)
theorem fr_53_6 (h : fx R T) : R 53 6 = some 60 := h.1 ((53, 6), 60) (by decide +kernel)
theorem fr_53_7 (h : fx R T) : R 53 7 = some 61 := h.1 ((53, 7), 61) (by decide +kernel)
theorem fr_53_8 (h : fx R T) : R 53 8 = some 62 := h.1 ((53, 8), 62) (by decide +kernel)
theorem fr_53_9 (h : fx R T) : R 53 9 = some 63 := h.1 ((53, 9), 63) (by decide +kernel)
theorem fr_53_10 (h : fx R T) : R 53 10 = some 64 := h.1 ((53, 10), 64) (by decide +kernel)
theorem fr_53_11 (h : fx R T) : R 53 11 = some 65 := h.1 ((53, 11), 65) (by decide +kernel)
theorem fr_66_0 (h : fx R T) : R 66 0 = some 67 := h.1 ((66, 0), 67) (by decide +kernel)
theorem fr_66_1 (h : fx R T) : R 66 1 = some 68 := h.1 ((66, 1), 68) (by decide +kernel)
theorem fr_66_2 (h : fx R T) : R 66 2 = some 69 := h.1 ((66, 2), 69) (by decide +kernel)
theorem fr_66_3 (h : fx R T) : R 66 3 = some 70 := h.1 ((66, 3), 70) (by decide +kernel)
theorem fr_66_4 (h : fx R T) : R 66 4 = some 71 := h.1 ((66, 4), 71) (by decide +kernel)
theorem fr_66_5 (h : fx R T) : R 66 5 = some 72 := h.1 ((66, 5), 72) (by decide +kernel)
theorem fr_66_6 (h : fx R T) : R 66 6 = some 73 := h.1 ((66, 6), 73) (by decide +kernel)
theorem fr_66_7 (h : fx R T) : R 66 7 = some 74 := h.1 ((66, 7), 74) (by decide +kernel)
theorem fr_66_8 (h : fx R T) : R 66 8 = some 75 := h.1 ((66, 8), 75) (by decide +kernel)
theorem fr_66_9 (h : fx R T) : R 66 9 = some 76 := h.1 ((66, 9), 76) (by decide +kernel)
theorem fr_66_10 (h : fx R T) : R 66 10 = some 77 := h.1 ((66, 10), 77) (by decide +kernel)
theorem fr_66_11 (h : fx R T) : R 66 11 = some 78 := h.1 ((66, 11), 78) (by decide +kernel)
theorem fr_82_4 (h : fx R T) : R 82 4 = some 83 := h.1 ((82, 4), 83) (by decide +kernel)
theorem fr_82_5 (h : fx R T) : R 82 5 = some 84 := h.1 ((82, 5), 84) (by decide +kernel)
theorem fr_82_6 (h : fx R T) : R 82 6 = some 85 := h.1 ((82, 6), 85) (by decide +kernel)
theorem fr_82_7 (h : fx R T) : R 82 7 = some 86 := h.1 ((82, 7), 86) (by decide +kernel)
theorem fr_87_3 (h : fx R T) : R 87 3 = some 88 := h.1 ((87, 3), 88) (by decide +kernel)
theorem fr_87_4 (h : fx R T) : R 87 4 = some 89 := h.1 ((87, 4), 89) (by decide +kernel)
theorem fr_87_5 (h : fx R T) : R 87 5 = some 90 := h.1 ((87, 5), 90) (by decide +kernel)
theorem fr_87_6 (h : fx R T) : R 87 6 = some 103 := h.1 ((87, 6), 103) (by decide +kernel)
theorem fr_87_7 (h : fx R T) : R 87 7 = some 116 := h.1 ((87, 7), 116) (by decide +kernel)
theorem fr_87_8 (h : fx R T) : R 87 8 = some 117 := h.1 ((87, 8), 117) (by decide +kernel)
theorem fr_87_9 (h : fx R T) : R 87 9 = some 118 := h.1 ((87, 9), 118) (by decide +kernel)
theorem fr_90_0 (h : fx R T) : R 90 0 = some 91 := h.1 ((90, 0), 91) (by decide +kernel)
theorem fr_90_1 (h : fx R T) : R 90 1 = some 92 := h.1 ((90, 1), 92) (by decide +kernel)
theorem fr_90_2 (h : fx R T) : R 90 2 = some 93 := h.1 ((90, 2), 93) (by decide +kernel)
theorem fr_90_3 (h : fx R T) : R 90 3 = some 94 := h.1 ((90, 3), 94) (by decide +kernel)
theorem fr_90_4 (h : fx R T) : R 90 4 = some 95 := h.1 ((90, 4), 95) (by decide +kernel)
theorem fr_90_5 (h : fx R T) : R 90 5 = some 96 := h.1 ((90, 5), 96) (by decide +kernel)
theorem fr_90_6 (h : fx R T) : R 90 6 = some 97 := h.1 ((90, 6), 97) (by decide +kernel)
theorem fr_90_7 (h : fx R T) : R 90 7 = some 98 := h.1 ((90, 7), 98) (by decide +kernel)
theorem fr_90_8 (h : fx R T) : R 90 8 = some 99 := h.1 ((90, 8), 99) (by decide +kernel)
theorem fr_90_9 (h : fx R T) : R 90 9 = some 100 := h.1 ((90, 9), 100) (by decide +kernel)
theorem fr_90_10 (h : fx R T) : R 90 10 = some 101 := h.1 ((90, 10), 101) (by decide +kernel)
theorem fr_90_11 (h : fx R T) : R 90 11 = some 102 := h.1 ((90, 11), 102) (by decide +kernel)
theorem fr_103_0 (h : fx R T) : R 103 0 = some 104 := h.1 ((103, 0), 104) (by decide +kernel)
theorem fr_103_1 (h : fx R T) : R 103 1 = some 105 := h.1 ((103, 1), 105) (by decide +kernel)
theorem fr_103_2 (h : fx R T) : R 103 2 = some 106 := h.1 ((103, 2), 106) (by decide +kernel)
theorem fr_103_3 (h : fx R T) : R 103 3 = some 107 := h.1 ((103, 3), 107) (by decide +kernel)
theorem fr_103_4 (h : fx R T) : R 103 4 = some 108 := h.1 ((103, 4), 108) (by decide +kernel)
theorem fr_103_5 (h : fx R T) : R 103 5 = some 109 := h.1 ((103, 5), 109) (by decide +kernel)
theorem fr_103_6 (h : fx R T) : R 103 6 = some 110 := h.1 ((103, 6), 110) (by decide +kernel)
theorem fr_103_7 (h : fx R T) : R 103 7 = some 111 := h.1 ((103, 7), 111) (by decide +kernel)
theorem fr_103_8 (h : fx R T) : R 103 8 = some 112 := h.1 ((103, 8), 112) (by decide +kernel)
theorem fr_103_9 (h : fx R T) : R 103 9 = some 113 := h.1 ((103, 9), 113) (by decide +kernel)
theorem fr_103_10 (h : fx R T) : R 103 10 = some 114 := h.1 ((103, 10), 114) (by decide +kernel)
theorem fr_103_11 (h : fx R T) : R 103 11 = some 115 := h.1 ((103, 11), 115) (by decide +kernel)
theorem fr_119_2 (h : fx R T) : R 119 2 = some 120 := h.1 ((119, 2), 120) (by decide +kernel)
theorem fr_119_3 (h : fx R T) : R 119 3 = some 121 := h.1 ((119, 3), 121) (by decide +kernel)
theorem fr_119_4 (h : fx R T) : R 119 4 = some 122 := h.1 ((119, 4), 122) (by decide +kernel)
theorem fr_119_5 (h : fx R T) : R 119 5 = some 123 := h.1 ((119, 5), 123) (by decide +kernel)
theorem fr_119_6 (h : fx R T) : R 119 6 = some 124 := h.1 ((119, 6), 124) (by decide +kernel)
theorem fr_125_4 (h : fx R T) : R 125 4 = some 126 := h.1 ((125, 4), 126) (by decide +kernel)
theorem fr_125_5 (h : fx R T) : R 125 5 = some 127 := h.1 ((125, 5), 127) (by decide +kernel)
theorem fr_125_6 (h : fx R T) : R 125 6 = some 128 := h.1 ((125, 6), 128) (by decide +kernel)
theorem fr_125_7 (h : fx R T) : R 125 7 = some 129 := h.1 ((125, 7), 129) (by decide +kernel)
theorem fr_125_8 (h : fx R T) : R 125 8 = some 130 := h.1 ((125, 8), 130) (by decide +kernel)
theorem fr_131_0 (h : fx R T) : R 131 0 = some 132 := h.1 ((131, 0), 132) (by decide +kernel)
theorem fr_131_1 (h : fx R T) : R 131 1 = some 133 := h.1 ((131, 1), 133) (by decide +kernel)
theorem fr_131_5 (h : fx R T) : R 131 5 = some 134 := h.1 ((131, 5), 134) (by decide +kernel)
theorem fr_131_7 (h : fx R T) : R 131 7 = some 135 := h.1 ((131, 7), 135) (by decide +kernel)
theorem fr_131_8 (h : fx R T) : R 131 8 = some 136 := h.1 ((131, 8), 136) (by decide +kernel)
theorem fr_131_9 (h : fx R T) : R 131 9 = some 137 := h.1 ((131, 9), 137) (by decide +kernel)
theorem fr_131_12 (h : fx R T) : R 131 12 = some 138 := h.1 ((131, 12), 138) (by decide +kernel)
theorem fr_131_13 (h : fx R T) : R 131 13 = some 139 := h.1 ((131, 13), 139) (by decide +kernel)
theorem fr_131_14 (h : fx R T) : R 131 14 = some 140 := h.1 ((131, 14), 140) (by decide +kernel)
theorem fr_131_15 (h : fx R T) : R 131 15 = some 141 := h.1 ((131, 15), 141) (by decide +kernel)
theorem fr_131_19 (h : fx R T) : R 131 19 = some 142 := h.1 ((131, 19), 142) (by decide +kernel)
theorem fr_131_20 (h : fx R T) : R 131 20 = some 143 := h.1 ((131, 20), 143) (by decide +kernel)
theorem fr_131_21 (h : fx R T) : R 131 21 = some 144 := h.1 ((131, 21), 144) (by decide +kernel)
theorem fr_131_22 (h : fx R T) : R 131 22 = some 145 := h.1 ((131, 22), 145) (by decide +kernel)
theorem fr_131_23 (h : fx R T) : R 131 23 = some 146 := h.1 ((131, 23), 146) (by decide +kernel)
theorem fr_131_24 (h : fx R T) : R 131 24 = some 147 := h.1 ((131, 24), 147) (by decide +kernel)
theorem ft_0 (h : fx R T) : T[0]? = some (11, 13) := h.2 0 (11, 13) rfl
theorem fg_0 (h : fx R T) : pm_tgs (V, R, T) 0 [11] ↔ True := iff_true_intro ⟨11, 13, by decide, ft_0 h⟩
theorem fv_0 (h : fx R T) : pm_tg (V, R, T) 0 11 ↔ True := iff_true_intro ⟨13, ft_0 h⟩
theorem ft_1 (h : fx R T) : T[1]? = some (8, 4) := h.2 1 (8, 4) rfl
theorem fg_1 (h : fx R T) : pm_tgs (V, R, T) 1 [8] ↔ True := iff_true_intro ⟨8, 4, by decide, ft_1 h⟩
theorem fv_1 (h : fx R T) : pm_tg (V, R, T) 1 8 ↔ True := iff_true_intro ⟨4, ft_1 h⟩
theorem ft_2 (h : fx R T) : T[2]? = some (24, 12) := h.2 2 (24, 12) rfl
theorem fb_2 {x : Int} (h : fx R T) : pm_inb (V, R, T) 2 24 x ↔ 0 ≤ x ∧ x < 12 := pm_inb_iff (ft_2 h)
theorem ft_3 (h : fx R T) : T[3]? = some (3, 3) := h.2 3 (3, 3) rfl
theorem fg_3 (h : fx R T) : pm_tgs (V, R, T) 3 [3] ↔ True := iff_true_intro ⟨3, 3, by decide, ft_3 h⟩
theorem fv_3 (h : fx R T) : pm_tg (V, R, T) 3 3 ↔ True := iff_true_intro ⟨3, ft_3 h⟩
theorem ft_4 (h : fx R T) : T[4]? = some (25, 20) := h.2 4 (25, 20) rfl
theorem fb_4 {x : Int} (h : fx R T) : pm_inb (V, R, T) 4 25 x ↔ 0 ≤ x ∧ x < 20 := pm_inb_iff (ft_4 h)
theorem ft_5 (h : fx R T) : T[5]? = some (8, 4) := h.2 5 (8, 4) rfl
theorem fg_5 (h : fx R T) : pm_tgs (V, R, T) 5 [8] ↔ True := iff_true_intro ⟨8, 4, by decide, ft_5 h⟩
theorem fv_5 (h : fx R T) : pm_tg (V, R, T) 5 8 ↔ True := iff_true_intro ⟨4, ft_5 h⟩
theorem ft_6 (h : fx R T) : T[6]? = some (24, 12) := h.2 6 (24, 12) rfl
theorem fb_6 {x : Int} (h : fx R T) : pm_inb (V, R, T) 6 24 x ↔ 0 ≤ x ∧ x < 12 := pm_inb_iff (ft_6 h)
theorem ft_7 (h : fx R T) : T[7]? = some (8, 4) := h.2 7 (8, 4) rfl
theorem fg_7 (h : fx R T) : pm_tgs (V, R, T) 7 [8] ↔ True := iff_true_intro ⟨8, 4, by decide, ft_7 h⟩
theorem fv_7 (h : fx R T) : pm_tg (V, R, T) 7 8 ↔ True := iff_true_intro ⟨4, ft_7 h⟩
theorem ft_8 (h : fx R T) : T[8]? = some (24, 12) := h.2 8 (24, 12) rfl
theorem fb_8 {x : Int} (h : fx R T) : pm_inb (V, R, T) 8 24 x ↔ 0 ≤ x ∧ x < 12 := pm_inb_iff (ft_8 h)
theorem ft_9 (h : fx R T) : T[9]? = some (8, 4) := h.2 9 (8, 4) rfl
theorem fg_9 (h : fx R T) : pm_tgs (V, R, T) 9 [8] ↔ True := iff_true_intro ⟨8, 4, by decide, ft_9 h⟩
theorem fv_9 (h : fx R T) : pm_tg (V, R, T) 9 8 ↔ True := iff_true_intro ⟨4, ft_9 h⟩
theorem ft_10 (h : fx R T) : T[10]? = some (24, 12) := h.2 10 (24, 12) rfl
theorem fb_10 {x : Int} (h : fx R T) : pm_inb (V, R, T) 10 24 x ↔ 0 ≤ x ∧ x < 12 := pm_inb_iff (ft_10 h)
theorem ft_11 (h : fx R T) : T[11]? = some (8, 4) := h.2 11 (8, 4) rfl
theorem fg_11 (h : fx R T) : pm_tgs (V, R, T) 11 [8] ↔ True := iff_true_intro ⟨8, 4, by decide, ft_11 h⟩
theorem fv_11 (h : fx R T) : pm_tg (V, R, T) 11 8 ↔ True := iff_true_intro ⟨4, ft_11 h⟩
theorem ft_12 (h : fx R T) : T[12]? = some (24, 12) := h.2 12 (24, 12) rfl
theorem fb_12 {x : Int} (h : fx R T) : pm_inb (V, R, T) 12 24 x ↔ 0 ≤ x ∧ x < 12 := pm_inb_iff (ft_12 h)
theorem ft_13 (h : fx R T) : T[13]? = some (8, 4) := h.2 13 (8, 4) rfl
theorem fg_13 (h : fx R T) : pm_tgs (V, R, T) 13 [8] ↔ True := iff_true_intro ⟨8, 4, by decide, ft_13 h⟩
theorem fv_13 (h : fx R T) : pm_tg (V, R, T) 13 8 ↔ True := iff_true_intro ⟨4, ft_13 h⟩
theorem ft_14 (h : fx R T) : T[14]? = some (24, 12) := h.2 14 (24, 12) rfl
theorem fb_14 {x : Int} (h : fx R T) : pm_inb (V, R, T) 14 24 x ↔ 0 ≤ x ∧ x < 12 := pm_inb_iff (ft_14 h)
theorem ft_15 (h : fx R T) : T[15]? = some (8, 4) := h.2 15 (8, 4) rfl
theorem fg_15 (h : fx R T) : pm_tgs (V, R, T) 15 [8] ↔ True := iff_true_intro ⟨8, 4, by decide, ft_15 h⟩
theorem fv_15 (h : fx R T) : pm_tg (V, R, T) 15 8 ↔ True := iff_true_intro ⟨4, ft_15 h⟩
theorem ft_16 (h : fx R T) : T[16]? = some (24, 12) := h.2 16 (24, 12) rfl
theorem fb_16 {x : Int} (h : fx R T) : pm_inb (V, R, T) 16 24 x ↔ 0 ≤ x ∧ x < 12 := pm_inb_iff (ft_16 h)
theorem ft_17 (h : fx R T) : T[17]? = some (8, 4) := h.2 17 (8, 4) rfl
theorem fg_17 (h : fx R T) : pm_tgs (V, R, T) 17 [8] ↔ True := iff_true_intro ⟨8, 4, by decide, ft_17 h⟩
theorem fv_17 (h : fx R T) : pm_tg (V, R, T) 17 8 ↔ True := iff_true_intro ⟨4, ft_17 h⟩
theorem ft_18 (h : fx R T) : T[18]? = some (24, 12) := h.2 18 (24, 12) rfl
theorem fb_18 {x : Int} (h : fx R T) : pm_inb (V, R, T) 18 24 x ↔ 0 ≤ x ∧ x < 12 := pm_inb_iff (ft_18 h)
theorem ft_19 (h : fx R T) : T[19]? = some (8, 4) := h.2 19 (8, 4) rfl
theorem fg_19 (h : fx R T) : pm_tgs (V, R, T) 19 [8] ↔ True := iff_true_intro ⟨8, 4, by decide, ft_19 h⟩
theorem fv_19 (h : fx R T) : pm_tg (V, R, T) 19 8 ↔ True := iff_true_intro ⟨4, ft_19 h⟩
theorem ft_20 (h : fx R T) : T[20]? = some (24, 12) := h.2 20 (24, 12) rfl
theorem fb_20 {x : Int} (h : fx R T) : pm_inb (V, R, T) 20 24 x ↔ 0 ≤ x ∧ x < 12 := pm_inb_iff (ft_20 h)
theorem ft_21 (h : fx R T) : T[21]? = some (8, 4) := h.2 21 (8, 4) rfl
theorem fg_21 (h : fx R T) : pm_tgs (V, R, T) 21 [8] ↔ True := iff_true_intro ⟨8, 4, by decide, ft_21 h⟩
theorem fv_21 (h : fx R T) : pm_tg (V, R, T) 21 8 ↔ True := iff_true_intro ⟨4, ft_21 h⟩
theorem ft_22 (h : fx R T) : T[22]? = some (24, 12) := h.2 22 (24, 12) rfl
theorem fb_22 {x : Int} (h : fx R T) : pm_inb (V, R, T) 22 24 x ↔ 0 ≤ x ∧ x < 12 := pm_inb_iff (ft_22 h)
theorem ft_23 (h : fx R T) : T[23]? = some (8, 4) := h.2 23 (8, 4) rfl
theorem fg_23 (h : fx R T) : pm_tgs (V, R, T) 23 [8] ↔ True := iff_true_intro ⟨8, 4, by decide, ft_23 h⟩
theorem fv_23 (h : fx R T) : pm_tg (V, R, T) 23 8 ↔ True := iff_true_intro ⟨4, ft_23 h⟩
theorem ft_24 (h : fx R T) : T[24]? = some (24, 12) := h.2 24 (24, 12) rfl
theorem fb_24 {x : Int} (h : fx R T) : pm_inb (V, R, T) 24 24 x ↔ 0 ≤ x ∧ x < 12 := pm_inb_iff (ft_24 h)
theorem ft_25 (h : fx R T) : T[25]? = some (8, 4) := h.2 25 (8, 4) rfl
theorem fg_25 (h : fx R T) : pm_tgs (V, R, T) 25 [8] ↔ True := iff_true_intro ⟨8, 4, by decide, ft_25 h⟩
theorem fv_25 (h : fx R T) : pm_tg (V, R, T) 25 8 ↔ True := iff_true_intro ⟨4, ft_25 h⟩
theorem ft_26 (h : fx R T) : T[26]? = some (24, 12) := h.2 26 (24, 12) rfl
theorem fb_26 {x : Int} (h : fx R T) : pm_inb (V, R, T) 26 24 x ↔ 0 ≤ x ∧ x < 12 := pm_inb_iff (ft_26 h)
theorem ft_27 (h : fx R T) : T[27]? = some (8, 4) := h.2 27 (8, 4) rfl
theorem fg_27 (h : fx R T) : pm_tgs (V, R, T) 27 [8] ↔ True := iff_true_intro ⟨8, 4, by decide, ft_27 h⟩
theorem fv_27 (h : fx R T) : pm_tg (V, R, T) 27 8 ↔ True := iff_true_intro ⟨4, ft_27 h⟩
theorem ft_28 (h : fx R T) : T[28]? = some (24, 12) := h.2 28 (24, 12) rfl
theorem fb_28 {x : Int} (h : fx R T) : pm_inb (V, R, T) 28 24 x ↔ 0 ≤ x ∧ x < 12 := pm_inb_iff (ft_28 h)
theorem ft_29 (h : fx R T) : T[29]? = some (8, 4) := h.2 29 (8, 4) rfl
theorem fg_29 (h : fx R T) : pm_tgs (V, R, T) 29 [8] ↔ True := iff_true_intro ⟨8, 4, by decide, ft_29 h⟩
theorem fv_29 (h : fx R T) : pm_tg (V, R, T) 29 8 ↔ True := iff_true_intro ⟨4, ft_29 h⟩
theorem ft_30 (h : fx R T) : T[30]? = some (24, 12) := h.2 30 (24, 12) rfl
theorem fb_30 {x : Int} (h : fx R T) : pm_inb (V, R, T) 30 24 x ↔ 0 ≤ x ∧ x < 12 := pm_inb_iff (ft_30 h)
theorem ft_31 (h : fx R T) : T[31]? = some (8, 4) := h.2 31 (8, 4) rfl
theorem fg_31 (h : fx R T) : pm_tgs (V, R, T) 31 [8] ↔ True := iff_true_intro ⟨8, 4, by decide, ft_31 h⟩
theorem fv_31 (h : fx R T) : pm_tg (V, R, T) 31 8 ↔ True := iff_true_intro ⟨4, ft_31 h⟩
theorem ft_32 (h : fx R T) : T[32]? = some (24, 12) := h.2 32 (24, 12) rfl
theorem fb_32 {x : Int} (h : fx R T) : pm_inb (V, R, T) 32 24 x ↔ 0 ≤ x ∧ x < 12 := pm_inb_iff (ft_32 h)
theorem ft_33 (h : fx R T) : T[33]? = some (8, 4) := h.2 33 (8, 4) rfl
theorem fg_33 (h : fx R T) : pm_tgs (V, R, T) 33 [8] ↔ True := iff_true_intro ⟨8, 4, by decide, ft_33 h⟩
theorem fv_33 (h : fx R T) : pm_tg (V, R, T) 33 8 ↔ True := iff_true_intro ⟨4, ft_33 h⟩
theorem ft_34 (h : fx R T) : T[34]? = some (24, 12) := h.2 34 (24, 12) rfl
theorem fb_34 {x : Int} (h : fx R T) : pm_inb (V, R, T) 34 24 x ↔ 0 ≤ x ∧ x < 12 := pm_inb_iff (ft_34 h)
theorem ft_35 (h : fx R T) : T[35]? = some (8, 4) := h.2 35 (8, 4) rfl
theorem fg_35 (h : fx R T) : pm_tgs (V, R, T) 35 [8] ↔ True := iff_true_intro ⟨8, 4, by decide, ft_35 h⟩
theorem fv_35 (h : fx R T) : pm_tg (V, R, T) 35 8 ↔ True := iff_true_intro ⟨4, ft_35 h⟩
theorem ft_36 (h : fx R T) : T[36]? = some (24, 12) := h.2 36 (24, 12) rfl
theorem fb_36 {x : Int} (h : fx R T) : pm_inb (V, R, T) 36 24 x ↔ 0 ≤ x ∧ x < 12 := pm_inb_iff (ft_36 h)
theorem ft_37 (h : fx R T) : T[37]? = some (8, 4) := h.2 37 (8, 4) rfl
theorem fg_37 (h : fx R T) : pm_tgs (V, R, T) 37 [8] ↔ True := iff_true_intro ⟨8, 4, by decide, ft_37 h⟩
theorem fv_37 (h : fx R T) : pm_tg (V, R, T) 37 8 ↔ True := iff_true_intro ⟨4, ft_37 h⟩
theorem ft_38 (h : fx R T) : T[38]? = some (24, 12) := h.2 38 (24, 12) rfl
theorem fb_38 {x : Int} (h : fx R T) : pm_inb (V, R, T) 38 24 x ↔ 0 ≤ x ∧ x < 12 := pm_inb_iff (ft_38 h)
theorem ft_39 (h : fx R T) : T[39]? = some (8, 4) := h.2 39 (8, 4) rfl
theorem fg_39 (h : fx R T) : pm_tgs (V, R, T) 39 [8] ↔ True := iff_true_intro ⟨8, 4, by decide, ft_39 h⟩
theorem fv_39 (h : fx R T) : pm_tg (V, R, T) 39 8 ↔ True := iff_true_intro ⟨4, ft_39 h⟩
theorem ft_40 (h : fx R T) : T[40]? = some (24, 12) := h.2 40 (24, 12) rfl
theorem fb_40 {x : Int} (h : fx R T) : pm_inb (V, R, T) 40 24 x ↔ 0 ≤ x ∧ x < 12 := pm_inb_iff (ft_40 h)
theorem ft_41 (h : fx R T) : T[41]? = some (8, 4) := h.2 41 (8, 4) rfl
theorem fg_41 (h : fx R T) : pm_tgs (V, R, T) 41 [8] ↔ True := iff_true_intro ⟨8, 4, by decide, ft_41 h⟩
theorem fv_41 (h : fx R T) : pm_tg (V, R, T) 41 8 ↔ True := iff_true_intro ⟨4, ft_41 h⟩
theorem ft_42 (h : fx R T) : T[42]? = some (24, 12) := h.2 42 (24, 12) rfl
theorem fb_42 {x : Int} (h : fx R T) : pm_inb (V, R, T) 42 24 x ↔ 0 ≤ x ∧ x < 12 := pm_inb_iff (ft_42 h)
theorem ft_43 (h : fx R T) : T[43]? = some (8, 4) := h.2 43 (8, 4) rfl
theorem fg_43 (h : fx R T) : pm_tgs (V, R, T) 43 [8] ↔ True := iff_true_intro ⟨8, 4, by decide, ft_43 h⟩
theorem fv_43 (h : fx R T) : pm_tg (V, R, T) 43 8 ↔ True := iff_true_intro ⟨4, ft_43 h⟩
theorem ft_44 (h : fx R T) : T[44]? = some (24, 12) := h.2 44 (24, 12) rfl
theorem fb_44 {x : Int} (h : fx R T) : pm_inb (V, R, T) 44 24 x ↔ 0 ≤ x ∧ x < 12 := pm_inb_iff (ft_44 h)
theorem ft_45 (h : fx R T) : T[45]? = some (1, 8) := h.2 45 (1, 8) rfl
theorem fg_45 (h : fx R T) : pm_tgs (V, R, T) 45 [1] ↔ True := iff_true_intro ⟨1, 8, by decide, ft_45 h⟩
theorem fv_45 (h : fx R T) : pm_tg (V, R, T) 45 1 ↔ True := iff_true_intro ⟨8, ft_45 h⟩
theorem ft_46 (h : fx R T) : T[46]? = some (20, 48) := h.2 46 (20, 48) rfl
theorem fb_46 {x : Int} (h : fx R T) : pm_inb (V, R, T) 46 20 x ↔ 0 ≤ x ∧ x < 48 := pm_inb_iff (ft_46 h)
theorem ft_47 (h : fx R T) : T[47]? = some (20, 12) := h.2 47 (20, 12) rfl
theorem fb_47 {x : Int} (h : fx R T) : pm_inb (V, R, T) 47 20 x ↔ 0 ≤ x ∧ x < 12 := pm_inb_iff (ft_47 h)
theorem ft_48 (h : fx R T) : T[48]? = some (20, 12) := h.2 48 (20, 12) rfl
theorem fb_48 {x : Int} (h : fx R T) : pm_inb (V, R, T) 48 20 x ↔ 0 ≤ x ∧ x < 12 := pm_inb_iff (ft_48 h)
theorem ft_49 (h : fx R T) : T[49]? = some (21, 12) := h.2 49 (21, 12) rfl
theorem fb_49 {x : Int} (h : fx R T) : pm_inb (V, R, T) 49 21 x ↔ 0 ≤ x ∧ x < 12 := pm_inb_iff (ft_49 h)
theorem ft_50 (h : fx R T) : T[50]? = some (4, 11) := h.2 50 (4, 11) rfl
theorem fg_50 (h : fx R T) : pm_tgs (V, R, T) 50 [4] ↔ True := iff_true_intro ⟨4, 11, by decide, ft_50 h⟩
theorem fv_50 (h : fx R T) : pm_tg (V, R, T) 50 4 ↔ True := iff_true_intro ⟨11, ft_50 h⟩
theorem ft_51 (h : fx R T) : T[51]? = some (20, 12) := h.2 51 (20, 12) rfl
theorem fb_51 {x : Int} (h : fx R T) : pm_inb (V, R, T) 51 20 x ↔ 0 ≤ x ∧ x < 12 := pm_inb_iff (ft_51 h)
theorem ft_52 (h : fx R T) : T[52]? = some (20, 47) := h.2 52 (20, 47) rfl
theorem fb_52 {x : Int} (h : fx R T) : pm_inb (V, R, T) 52 20 x ↔ 0 ≤ x ∧ x < 47 := pm_inb_iff (ft_52 h)
theorem ft_53 (h : fx R T) : T[53]? = some (23, 12) := h.2 53 (23, 12) rfl
theorem fb_53 {x : Int} (h : fx R T) : pm_inb (V, R, T) 53 23 x ↔ 0 ≤ x ∧ x < 12 := pm_inb_iff (ft_53 h)
theorem ft_54 (h : fx R T) : T[54]? = some (20, 47) := h.2 54 (20, 47) rfl
theorem fb_54 {x : Int} (h : fx R T) : pm_inb (V, R, T) 54 20 x ↔ 0 ≤ x ∧ x < 47 := pm_inb_iff (ft_54 h)
theorem ft_55 (h : fx R T) : T[55]? = some (20, 47) := h.2 55 (20, 47) rfl
theorem fb_55 {x : Int} (h : fx R T) : pm_inb (V, R, T) 55 20 x ↔ 0 ≤ x ∧ x < 47 := pm_inb_iff (ft_55 h)
theorem ft_56 (h : fx R T) : T[56]? = some (20, 47) := h.2 56 (20, 47) rfl
theorem fb_56 {x : Int} (h : fx R T) : pm_inb (V, R, T) 56 20 x ↔ 0 ≤ x ∧ x < 47 := pm_inb_iff (ft_56 h)
theorem ft_57 (h : fx R T) : T[57]? = some (20, 47) := h.2 57 (20, 47) rfl
theorem fb_57 {x : Int} (h : fx R T) : pm_inb (V, R, T) 57 20 x ↔ 0 ≤ x ∧ x < 47 := pm_inb_iff (ft_57 h)
theorem ft_58 (h : fx R T) : T[58]? = some (20, 47) := h.2 58 (20, 47) rfl
theorem fb_58 {x : Int} (h : fx R T) : pm_inb (V, R, T) 58 20 x ↔ 0 ≤ x ∧ x < 47 := pm_inb_iff (ft_58 h)
theorem ft_59 (h : fx R T) : T[59]? = some (20, 47) := h.2 59 (20, 47) rfl
theorem fb_59 {x : Int} (h : fx R T) : pm_inb (V, R, T) 59 20 x ↔ 0 ≤ x ∧ x < 47 := pm_inb_iff (ft_59 h)
theorem ft_60 (h : fx R T) : T[60]? = some (20, 47) := h.2 60 (20, 47) rfl
theorem fb_60 {x : Int} (h : fx R T) : pm_inb (V, R, T) 60 20 x ↔ 0 ≤ x ∧ x < 47 := pm_inb_iff (ft_60 h)
theorem ft_61 (h : fx R T) : T[61]? = some (20, 47) := h.2 61 (20, 47) rfl
theorem fb_61 {x : Int} (h : fx R T) : pm_inb (V, R, T) 61 20 x ↔ 0 ≤ x ∧ x < 47 := pm_inb_iff (ft_61 h)
theorem ft_62 (h : fx R T) : T[62]? = some (20, 47) := h.2 62 (20, 47) rfl
theorem fb_62 {x : Int} (h : fx R T) : pm_inb (V, R, T) 62 20 x ↔ 0 ≤ x ∧ x < 47 := pm_inb_iff (ft_62 h)
theorem ft_63 (h : fx R T) : T[63]? = some (20, 47) := h.2 63 (20, 47) rfl
theorem fb_63 {x : Int} (h : fx R T) : pm_inb (V, R, T) 63 20 x ↔ 0 ≤ x ∧ x < 47 := pm_inb_iff (ft_63 h)
theorem ft_64 (h : fx R T) : T[64]? = some (20, 47) := h.2 64 (20, 47) rfl
theorem fb_64 {x : Int} (h : fx R T) : pm_inb (V, R, T) 64 20 x ↔ 0 ≤ x ∧ x < 47 := pm_inb_iff (ft_64 h)
theorem ft_65 (h : fx R T) : T[65]? = some (20, 47) := h.2 65 (20, 47) rfl
theorem fb_65 {x : Int} (h : fx R T) : pm_inb (V, R, T) 65 20 x ↔ 0 ≤ x ∧ x < 47 := pm_inb_iff (ft_65 h)
theorem ft_66 (h : fx R T) : T[66]? = some (23, 12) := h.2 66 (23, 12) rfl
theorem fb_66 {x : Int} (h : fx R T) : pm_inb (V, R, T) 66 23 x ↔ 0 ≤ x ∧ x < 12 := pm_inb_iff (ft_66 h)
theorem ft_67 (h : fx R T) : T[67]? = some (20, 47) := h.2 67 (20, 47) rfl
theorem fb_67 {x : Int} (h : fx R T) : pm_inb (V, R, T) 67 20 x ↔ 0 ≤ x ∧ x < 47 := pm_inb_iff (ft_67 h)
theorem ft_68 (h : fx R T) : T[68]? = some (20, 47) := h.2 68 (20, 47) rfl
theorem fb_68 {x : Int} (h : fx R T) : pm_inb (V, R, T) 68 20 x ↔ 0 ≤ x ∧ x < 47 := pm_inb_iff (ft_68 h)
theorem ft_69 (h : fx R T) : T[69]? = some (20, 47) := h.2 69 (20, 47) rfl
theorem fb_69 {x : Int} (h : fx R T) : pm_inb (V, R, T) 69 20 x ↔ 0 ≤ x ∧ x < 47 := pm_inb_iff (ft_69 h)
theorem ft_70 (h : fx R T) : T[70]? = some (20, 47) := h.2 70 (20, 47) rfl
theorem fb_70 {x : Int} (h : fx R T) : pm_inb (V, R, T) 70 20 x ↔ 0 ≤ x ∧ x < 47 := pm_inb_iff (ft_70 h)
theorem ft_71 (h : fx R T) : T[71]? = some (20, 47) := h.2 71 (20, 47) rfl
theorem fb_71 {x : Int} (h : fx R T) : pm_inb (V, R, T) 71 20 x ↔ 0 ≤ x ∧ x < 47 := pm_inb_iff (ft_71 h)
theorem ft_72 (h : fx R T) : T[72]? = some (20, 47) := h.2 72 (20, 47) rfl
theorem fb_72 {x : Int} (h : fx R T) : pm_inb (V, R, T) 72 20 x ↔ 0 ≤ x ∧ x < 47 := pm_inb_iff (ft_72 h)
theorem ft_73 (h : fx R T) : T[73]? = some (20, 47) := h.2 73 (20, 47) rfl
theorem fb_73 {x : Int} (h : fx R T) : pm_inb (V, R, T) 73 20 x ↔ 0 ≤ x ∧ x < 47 := pm_inb_iff (ft_73 h)
theorem ft_74 (h : fx R T) : T[74]? = some (20, 47) := h.2 74 (20, 47) rfl
theorem fb_74 {x : Int} (h : fx R T) : pm_inb (V, R, T) 74 20 x ↔ 0 ≤ x ∧ x < 47 := pm_inb_iff (ft_74 h)
theorem ft_75 (h : fx R T) : T[75]? = some (20, 47) := h.2 75 (20, 47) rfl
theorem fb_75 {x : Int} (h : fx R T) : pm_inb (V, R, T) 75 20 x ↔ 0 ≤ x ∧ x < 47 := pm_inb_iff (ft_75 h)
theorem ft_76 (h : fx R T) : T[76]? = some (20, 47) := h.2 76 (20, 47) rfl
theorem fb_76 {x : Int} (h : fx R T) : pm_inb (V, R, T) 76 20 x ↔ 0 ≤ x ∧ x < 47 := pm_inb_iff (ft_76 h)
theorem ft_77 (h : fx R T) : T[77]? = some (20, 47) := h.2 77 (20, 47) rfl
theorem fb_77 {x : Int} (h : fx R T) : pm_inb (V, R, T) 77 20 x ↔ 0 ≤ x ∧ x < 47 := pm_inb_iff (ft_77 h)
theorem ft_78 (h : fx R T) : T[78]? = some (20, 47) := h.2 78 (20, 47) rfl
theorem fb_78 {x : Int} (h : fx R T) : pm_inb (V, R, T) 78 20 x ↔ 0 ≤ x ∧ x < 47 := pm_inb_iff (ft_78 h)
theorem ft_79 (h : fx R T) : T[79]? = some (20, 12) := h.2 79 (20, 12) rfl
theorem fb_79 {x : Int} (h : fx R T) : pm_inb (V, R, T) 79 20 x ↔ 0 ≤ x ∧ x < 12 := pm_inb_iff (ft_79 h)
theorem ft_80 (h : fx R T) : T[80]? = some (20, 47) := h.2 80 (20, 47) rfl
theorem fb_80 {x : Int} (h : fx R T) : pm_inb (V, R, T) 80 20 x ↔ 0 ≤ x ∧ x < 47 := pm_inb_iff (ft_80 h)
theorem ft_81 (h : fx R T) : T[81]? = some (20, 47) := h.2 81 (20, 47) rfl
theorem fb_81 {x : Int} (h : fx R T) : pm_inb (V, R, T) 81 20 x ↔ 0 ≤ x ∧ x < 47 := pm_inb_iff (ft_81 h)
theorem ft_82 (h : fx R T) : T[82]? = some (1, 8) := h.2 82 (1, 8) rfl
theorem fg_82 (h : fx R T) : pm_tgs (V, R, T) 82 [1] ↔ True := iff_true_intro ⟨1, 8, by decide, ft_82 h⟩
theorem fv_82 (h : fx R T) : pm_tg (V, R, T) 82 1 ↔ True := iff_true_intro ⟨8, ft_82 h⟩
theorem ft_83 (h : fx R T) : T[83]? = some (20, 48) := h.2 83 (20, 48) rfl
theorem fb_83 {x : Int} (h : fx R T) : pm_inb (V, R, T) 83 20 x ↔ 0 ≤ x ∧ x < 48 := pm_inb_iff (ft_83 h)
theorem ft_84 (h : fx R T) : T[84]? = some (20, 12) := h.2 84 (20, 12) rfl
theorem fb_84 {x : Int} (h : fx R T) : pm_inb (V, R, T) 84 20 x ↔ 0 ≤ x ∧ x < 12 := pm_inb_iff (ft_84 h)
theorem ft_85 (h : fx R T) : T[85]? = some (20, 12) := h.2 85 (20, 12) rfl
theorem fb_85 {x : Int} (h : fx R T) : pm_inb (V, R, T) 85 20 x ↔ 0 ≤ x ∧ x < 12 := pm_inb_iff (ft_85 h)
theorem ft_86 (h : fx R T) : T[86]? = some (21, 12) := h.2 86 (21, 12) rfl
theorem fb_86 {x : Int} (h : fx R T) : pm_inb (V, R, T) 86 21 x ↔ 0 ≤ x ∧ x < 12 := pm_inb_iff (ft_86 h)
theorem ft_87 (h : fx R T) : T[87]? = some (4, 11) := h.2 87 (4, 11) rfl
theorem fg_87 (h : fx R T) : pm_tgs (V, R, T) 87 [4] ↔ True := iff_true_intro ⟨4, 11, by decide, ft_87 h⟩
theorem fv_87 (h : fx R T) : pm_tg (V, R, T) 87 4 ↔ True := iff_true_intro ⟨11, ft_87 h⟩
theorem ft_88 (h : fx R T) : T[88]? = some (20, 12) := h.2 88 (20, 12) rfl
theorem fb_88 {x : Int} (h : fx R T) : pm_inb (V, R, T) 88 20 x ↔ 0 ≤ x ∧ x < 12 := pm_inb_iff (ft_88 h)
theorem ft_89 (h : fx R T) : T[89]? = some (20, 47) := h.2 89 (20, 47) rfl
theorem fb_89 {x : Int} (h : fx R T) : pm_inb (V, R, T) 89 20 x ↔ 0 ≤ x ∧ x < 47 := pm_inb_iff (ft_89 h)
theorem ft_90 (h : fx R T) : T[90]? = some (23, 12) := h.2 90 (23, 12) rfl
theorem fb_90 {x : Int} (h : fx R T) : pm_inb (V, R, T) 90 23 x ↔ 0 ≤ x ∧ x < 12 := pm_inb_iff (ft_90 h)
theorem ft_91 (h : fx R T) : T[91]? = some (20, 47) := h.2 91 (20, 47) rfl
theorem fb_91 {x : Int} (h : fx R T) : pm_inb (V, R, T) 91 20 x ↔ 0 ≤ x ∧ x < 47 := pm_inb_iff (ft_91 h)
theorem ft_92 (h : fx R T) : T[92]? = some (20, 47) := h.2 92 (20, 47) rfl
theorem fb_92 {x : Int} (h : fx R T) : pm_inb (V, R, T) 92 20 x ↔ 0 ≤ x ∧ x < 47 := pm_inb_iff (ft_92 h)
theorem ft_93 (h : fx R T) : T[93]? = some (20, 47) := h.2 93 (20, 47) rfl
theorem fb_93 {x : Int} (h : fx R T) : pm_inb (V, R, T) 93 20 x ↔ 0 ≤ x ∧ x < 47 := pm_inb_iff (ft_93 h)
theorem ft_94 (h : fx R T) : T[94]? = some (20, 47) := h.2 94 (20, 47) rfl
theorem fb_94 {x : Int} (h : fx R T) : pm_inb (V, R, T) 94 20 x ↔ 0 ≤ x ∧ x < 47 := pm_inb_iff (ft_94 h)
theorem ft_95 (h : fx R T) : T[95]? = some (20, 47) := h.2 95 (20, 47) rfl
theorem fb_95 {x : Int} (h : fx R T) : pm_inb (V, R, T) 95 20 x ↔ 0 ≤ x ∧ x < 47 := pm_inb_iff (ft_95 h)
theorem ft_96 (h : fx R T) : T[96]? = some (20, 47) := h.2 96 (20, 47) rfl
theorem fb_96 {x : Int} (h : fx R T) : pm_inb (V, R, T) 96 20 x ↔ 0 ≤ x ∧ x < 47 := pm_inb_iff (ft_96 h)
theorem ft_97 (h : fx R T) : T[97]? = some (20, 47) := h.2 97 (20, 47) rfl
theorem fb_97 {x : Int} (h : fx R T) : pm_inb (V, R, T) 97 20 x ↔ 0 ≤ x ∧ x < 47 := pm_inb_iff (ft_97 h)
theorem ft_98 (h : fx R T) : T[98]? = some (20, 47) := h.2 98 (20, 47) rfl
theorem fb_98 {x : Int} (h : fx R T) : pm_inb (V, R, T) 98 20 x ↔ 0 ≤ x ∧ x < 47 := pm_inb_iff (ft_98 h)
theorem ft_99 (h : fx R T) : T[99]? = some (20, 47) := h.2 99 (20, 47) rfl
theorem fb_99 {x : Int} (h : fx R T) : pm_inb (V, R, T) 99 20 x ↔ 0 ≤ x ∧ x < 47 := pm_inb_iff (ft_99 h)
theorem ft_100 (h : fx R T) : T[100]? = some (20, 47) := h.2 100 (20, 47) rfl
theorem fb_100 {x : Int} (h : fx R T) : pm_inb (V, R, T) 100 20 x ↔ 0 ≤ x ∧ x < 47 := pm_inb_iff (ft_100 h)
theorem ft_101 (h : fx R T) : T[101]? = some (20, 47) := h.2 101 (20, 47) rfl
theorem fb_101 {x : Int} (h : fx R T) : pm_inb (V, R, T) 101 20 x ↔ 0 ≤ x ∧ x < 47 := pm_inb_iff (ft_101 h)
theorem ft_102 (h : fx R T) : T[102]? = some (20, 47) := h.2 102 (20, 47) rfl
theorem fb_102 {x : Int} (h : fx R T) : pm_inb (V, R, T) 102 20 x ↔ 0 ≤ x ∧ x < 47 := pm_inb_iff (ft_102 h)
theorem ft_103 (h : fx R T) : T[103]? = some (23, 12) := h.2 103 (23, 12) rfl
theorem fb_103 {x : Int} (h : fx R T) : pm_inb (V, R, T) 103 23 x ↔ 0 ≤ x ∧ x < 12 := pm_inb_iff (ft_103 h)
theorem ft_104 (h : fx R T) : T[104]? = some (20, 47) := h.2 104 (20, 47) rfl
theorem fb_104 {x : Int} (h : fx R T) : pm_inb (V, R, T) 104 20 x ↔ 0 ≤ x ∧ x < 47 := pm_inb_iff (ft_104 h)
theorem ft_105 (h : fx R T) : T[105]? = some (20, 47) := h.2 105 (20, 47) rfl
theorem fb_105 {x : Int} (h : fx R T) : pm_inb (V, R, T) 105 20 x ↔ 0 ≤ x ∧ x < 47 := pm_inb_iff (ft_105 h)
theorem ft_106 (h : fx R T) : T[106]? = some (20, 47) := h.2 106 (20, 47) rfl
theorem fb_106 {x : Int} (h : fx R T) : pm_inb (V, R, T) 106 20 x ↔ 0 ≤ x ∧ x < 47 := pm_inb_iff (ft_106 h)
theorem ft_107 (h : fx R T) : T[107]? = some (20, 47) := h.2 107 (20, 47) rfl
theorem fb_107 {x : Int} (h : fx R T) : pm_inb (V, R, T) 107 20 x ↔ 0 ≤ x ∧ x < 47 := pm_inb_iff (ft_107 h)
theorem ft_108 (h : fx R T) : T[108]? = some (20, 47) := h.2 108 (20, 47) rfl
theorem fb_108 {x : Int} (h : fx R T) : pm_inb (V, R, T) 108 20 x ↔ 0 ≤ x ∧ x < 47 := pm_inb_iff (ft_108 h)
theorem ft_109 (h : fx R T) : T[109]? = some (20, 47) := h.2 109 (20, 47) rfl
theorem fb_109 {x : Int} (h : fx R T) : pm_inb (V, R, T) 109 20 x ↔ 0 ≤ x ∧ x < 47 := pm_inb_iff (ft_109 h)
theorem ft_110 (h : fx R T) : T[110]? = some (20, 47) := h.2 110 (20, 47) rfl
theorem fb_110 {x : Int} (h : fx R T) : pm_inb (V, R, T) 110 20 x ↔ 0 ≤ x ∧ x < 47 := pm_inb_iff (ft_110 h)
theorem ft_111 (h : fx R T) : T[111]? = some (20, 47) := h.2 111 (20, 47) rfl
theorem fb_111 {x : Int} (h : fx R T) : pm_inb (V, R, T) 111 20 x ↔ 0 ≤ x ∧ x < 47 := pm_inb_iff (ft_111 h)
theorem ft_112 (h : fx R T) : T[112]? = some (20, 47) := h.2 112 (20, 47) rfl
theorem fb_112 {x : Int} (h : fx R T) : pm_inb (V, R, T) 112 20 x ↔ 0 ≤ x ∧ x < 47 := pm_inb_iff (ft_112 h)
theorem ft_113 (h : fx R T) : T[113]? = some (20, 47) := h.2 113 (20, 47) rfl
theorem fb_113 {x : Int} (h : fx R T) : pm_inb (V, R, T) 113 20 x ↔ 0 ≤ x ∧ x < 47 := pm_inb_iff (ft_113 h)
theorem ft_114 (h : fx R T) : T[114]? = some (20, 47) := h.2 114 (20, 47) rfl
theorem fb_114 {x : Int} (h : fx R T) : pm_inb (V, R, T) 114 20 x ↔ 0 ≤ x ∧ x < 47 := pm_inb_iff (ft_114 h)
theorem ft_115 (h : fx R T) : T[115]? = some (20, 47) := h.2 115 (20, 47) rfl
theorem fb_115 {x : Int} (h : fx R T) : pm_inb (V, R, T) 115 20 x ↔ 0 ≤ x ∧ x < 47 := pm_inb_iff (ft_115 h)
theorem ft_116 (h : fx R T) : T[116]? = some (20, 12) := h.2 116 (20, 12) rfl
theorem fb_116 {x : Int} (h : fx R T) : pm_inb (V, R, T) 116 20 x ↔ 0 ≤ x ∧ x < 12 := pm_inb_iff (ft_116 h)
theorem ft_117 (h : fx R T) : T[117]? = some (20, 47) := h.2 117 (20, 47) rfl
theorem fb_117 {x : Int} (h : fx R T) : pm_inb (V, R, T) 117 20 x ↔ 0 ≤ x ∧ x < 47 := pm_inb_iff (ft_117 h)
theorem ft_118 (h : fx R T) : T[118]? = some (20, 47) := h.2 118 (20, 47) rfl
theorem fb_118 {x : Int} (h : fx R T) : pm_inb (V, R, T) 118 20 x ↔ 0 ≤ x ∧ x < 47 := pm_inb_iff (ft_118 h)
theorem ft_119 (h : fx R T) : T[119]? = some (5, 10) := h.2 119 (5, 10) rfl
theorem fg_119 (h : fx R T) : pm_tgs (V, R, T) 119 [5] ↔ True := iff_true_intro ⟨5, 10, by decide, ft_119 h⟩
theorem fv_119 (h : fx R T) : pm_tg (V, R, T) 119 5 ↔ True := iff_true_intro ⟨10, ft_119 h⟩
theorem ft_120 (h : fx R T) : T[120]? = some (20, 12) := h.2 120 (20, 12) rfl
theorem fb_120 {x : Int} (h : fx R T) : pm_inb (V, R, T) 120 20 x ↔ 0 ≤ x ∧ x < 12 := pm_inb_iff (ft_120 h)
theorem ft_121 (h : fx R T) : T[121]? = some (20, 12) := h.2 121 (20, 12) rfl
theorem fb_121 {x : Int} (h : fx R T) : pm_inb (V, R, T) 121 20 x ↔ 0 ≤ x ∧ x < 12 := pm_inb_iff (ft_121 h)
theorem ft_122 (h : fx R T) : T[122]? = some (20, 12) := h.2 122 (20, 12) rfl
theorem fb_122 {x : Int} (h : fx R T) : pm_inb (V, R, T) 122 20 x ↔ 0 ≤ x ∧ x < 12 := pm_inb_iff (ft_122 h)
theorem ft_123 (h : fx R T) : T[123]? = some (20, 12) := h.2 123 (20, 12) rfl
theorem fb_123 {x : Int} (h : fx R T) : pm_inb (V, R, T) 123 20 x ↔ 0 ≤ x ∧ x < 12 := pm_inb_iff (ft_123 h)
theorem ft_124 (h : fx R T) : T[124]? = some (20, 12) := h.2 124 (20, 12) rfl
theorem fb_124 {x : Int} (h : fx R T) : pm_inb (V, R, T) 124 20 x ↔ 0 ≤ x ∧ x < 12 := pm_inb_iff (ft_124 h)
theorem ft_125 (h : fx R T) : T[125]? = some (7, 10) := h.2 125 (7, 10) rfl
theorem fg_125 (h : fx R T) : pm_tgs (V, R, T) 125 [7] ↔ True := iff_true_intro ⟨7, 10, by decide, ft_125 h⟩
theorem fv_125 (h : fx R T) : pm_tg (V, R, T) 125 7 ↔ True := iff_true_intro ⟨10, ft_125 h⟩
theorem ft_126 (h : fx R T) : T[126]? = some (20, 8) := h.2 126 (20, 8) rfl
theorem fb_126 {x : Int} (h : fx R T) : pm_inb (V, R, T) 126 20 x ↔ 0 ≤ x ∧ x < 8 := pm_inb_iff (ft_126 h)
theorem ft_127 (h : fx R T) : T[127]? = some (20, 4) := h.2 127 (20, 4) rfl
theorem fb_127 {x : Int} (h : fx R T) : pm_inb (V, R, T) 127 20 x ↔ 0 ≤ x ∧ x < 4 := pm_inb_iff (ft_127 h)
theorem ft_128 (h : fx R T) : T[128]? = some (20, 4) := h.2 128 (20, 4) rfl
theorem fb_128 {x : Int} (h : fx R T) : pm_inb (V, R, T) 128 20 x ↔ 0 ≤ x ∧ x < 4 := pm_inb_iff (ft_128 h)
theorem ft_129 (h : fx R T) : T[129]? = some (20, 8) := h.2 129 (20, 8) rfl
theorem fb_129 {x : Int} (h : fx R T) : pm_inb (V, R, T) 129 20 x ↔ 0 ≤ x ∧ x < 8 := pm_inb_iff (ft_129 h)
theorem ft_130 (h : fx R T) : T[130]? = some (20, 8) := h.2 130 (20, 8) rfl
theorem fb_130 {x : Int} (h : fx R T) : pm_inb (V, R, T) 130 20 x ↔ 0 ≤ x ∧ x < 8 := pm_inb_iff (ft_130 h)
theorem ft_131 (h : fx R T) : T[131]? = some (12, 25) := h.2 131 (12, 25) rfl
theorem fg_131 (h : fx R T) : pm_tgs (V, R, T) 131 [12] ↔ True := iff_true_intro ⟨12, 25, by decide, ft_131 h⟩
theorem fv_131 (h : fx R T) : pm_tg (V, R, T) 131 12 ↔ True := iff_true_intro ⟨25, ft_131 h⟩
theorem ft_132 (h : fx R T) : T[132]? = some (20, 87) := h.2 132 (20, 87) rfl
theorem fb_132 {x : Int} (h : fx R T) : pm_inb (V, R, T) 132 20 x ↔ 0 ≤ x ∧ x < 87 := pm_inb_iff (ft_132 h)
theorem ft_133 (h : fx R T) : T[133]? = some (20, 1740) := h.2 133 (20, 1740) rfl
theorem fb_133 {x : Int} (h : fx R T) : pm_inb (V, R, T) 133 20 x ↔ 0 ≤ x ∧ x < 1740 := pm_inb_iff (ft_133 h)
theorem ft_134 (h : fx R T) : T[134]? = some (20, 64) := h.2 134 (20, 64) rfl
theorem fb_134 {x : Int} (h : fx R T) : pm_inb (V, R, T) 134 20 x ↔ 0 ≤ x ∧ x < 64 := pm_inb_iff (ft_134 h)
theorem ft_135 (h : fx R T) : T[135]? = some (21, 768) := h.2 135 (21, 768) rfl
theorem fb_135 {x : Int} (h : fx R T) : pm_inb (V, R, T) 135 21 x ↔ 0 ≤ x ∧ x < 768 := pm_inb_iff (ft_135 h)
theorem ft_136 (h : fx R T) : T[136]? = some (21, 12) := h.2 136 (21, 12) rfl
theorem fb_136 {x : Int} (h : fx R T) : pm_inb (V, R, T) 136 21 x ↔ 0 ≤ x ∧ x < 12 := pm_inb_iff (ft_136 h)
theorem ft_137 (h : fx R T) : T[137]? = some (21, 64) := h.2 137 (21, 64) rfl
theorem fb_137 {x : Int} (h : fx R T) : pm_inb (V, R, T) 137 21 x ↔ 0 ≤ x ∧ x < 64 := pm_inb_iff (ft_137 h)
theorem ft_138 (h : fx R T) : T[138]? = some (20, 12) := h.2 138 (20, 12) rfl
theorem fb_138 {x : Int} (h : fx R T) : pm_inb (V, R, T) 138 20 x ↔ 0 ≤ x ∧ x < 12 := pm_inb_iff (ft_138 h)
theorem ft_139 (h : fx R T) : T[139]? = some (20, 64) := h.2 139 (20, 64) rfl
theorem fb_139 {x : Int} (h : fx R T) : pm_inb (V, R, T) 139 20 x ↔ 0 ≤ x ∧ x < 64 := pm_inb_iff (ft_139 h)
theorem ft_140 (h : fx R T) : T[140]? = some (20, 80) := h.2 140 (20, 80) rfl
theorem fb_140 {x : Int} (h : fx R T) : pm_inb (V, R, T) 140 20 x ↔ 0 ≤ x ∧ x < 80 := pm_inb_iff (ft_140 h)
theorem ft_141 (h : fx R T) : T[141]? = some (22, 768) := h.2 141 (22, 768) rfl
theorem fb_141 {x : Int} (h : fx R T) : pm_inb (V, R, T) 141 22 x ↔ 0 ≤ x ∧ x < 768 := pm_inb_iff (ft_141 h)
theorem ft_142 (h : fx R T) : T[142]? = some (20, 12) := h.2 142 (20, 12) rfl
theorem fb_142 {x : Int} (h : fx R T) : pm_inb (V, R, T) 142 20 x ↔ 0 ≤ x ∧ x < 12 := pm_inb_iff (ft_142 h)
theorem ft_143 (h : fx R T) : T[143]? = some (20, 12) := h.2 143 (20, 12) rfl
theorem fb_143 {x : Int} (h : fx R T) : pm_inb (V, R, T) 143 20 x ↔ 0 ≤ x ∧ x < 12 := pm_inb_iff (ft_143 h)
theorem ft_144 (h : fx R T) : T[144]? = some (21, 12) := h.2 144 (21, 12) rfl
theorem fb_144 {x : Int} (h : fx R T) : pm_inb (V, R, T) 144 21 x ↔ 0 ≤ x ∧ x < 12 := pm_inb_iff (ft_144 h)
theorem ft_145 (h : fx R T) : T[145]? = some (21, 12) := h.2 145 (21, 12) rfl
theorem fb_145 {x : Int} (h : fx R T) : pm_inb (V, R, T) 145 21 x ↔ 0 ≤ x ∧ x < 12 := pm_inb_iff (ft_145 h)
theorem ft_146 (h : fx R T) : T[146]? = some (20, 8) := h.2 146 (20, 8) rfl
theorem fb_146 {x : Int} (h : fx R T) : pm_inb (V, R, T) 146 20 x ↔ 0 ≤ x ∧ x < 8 := pm_inb_iff (ft_146 h)
theorem ft_147 (h : fx R T) : T[147]? = some (20, 8) := h.2 147 (20, 8) rfl
theorem fb_147 {x : Int} (h : fx R T) : pm_inb (V, R, T) 147 20 x ↔ 0 ≤ x ∧ x < 8 := pm_inb_iff (ft_147 h)
end
