/-! THE STEP: the changes -/
section
variable {V V1 V2 : Nat → Nat → Int} {R : Nat → Nat → Option Nat} {T : List (Nat × Nat)} {n kk nx k i j : Nat} {H : Nat → Nat → Int} {as bs : List pm_V}
theorem kp_hpu (hk : kk ≤ 20) (h6 : ∀ i, i < kk → ∀ j, j < 87 → V 133 (87 * i + j) = H i j) : ∀ i, i < min (kk + 1) 20 → ∀ j, j < 87 → kpF (V 133) (V 132) kk (87 * i + j) = hpu H (V 132) kk i j := by
  intro i hi j hj
  unfold kpF hpu
  by_cases c : kk = 20
  · rw [if_pos c, if_neg (show ¬ kk < 20 by omega)]
    by_cases e : i = 19
    · rw [if_pos e]
      subst e
      rw [if_pos (by omega), show 87 * 19 + j - 1653 = j by omega]
    · rw [if_neg e]
      rw [if_neg (by omega), if_pos (by omega), show 87 * i + j + 87 = 87 * (i + 1) + j by omega]
      exact h6 (i + 1) (by omega) j hj
  · rw [if_neg c, if_pos (show kk < 20 by omega)]
    by_cases e : i = kk
    · rw [if_pos e]
      subst e
      rw [if_pos (by omega), show 87 * i + j - 87 * i = j by omega]
    · rw [if_neg e]
      rw [if_neg (by omega)]
      exact h6 i (by omega) j hj
theorem st_m (hS : ivS V R T n kk nx H) (hB : ivB T k) (hk : k < 512) {A2 : Nat → Int} {n2 : Nat} {v : Int} (hw2 : wf A2 n2) (c : pm_ok 40 i as (V, R, T) (ckQ V T (V 132) A2 n2 kk nx H v)) (r : ∀ V1 R1 T1, fx R1 T1 → (∀ q, 131 ≤ q → q ≤ 147 → V1 q = V q) → ∃ V2, pm_ev 40 j bs (V1, R1, T1) (some (.inl v)) (V2, R1, T1) ∧ (∀ q, q ≠ 132 → V2 q = kV V1 kk q) ∧ ∀ j, j < 87 → V2 132 j = A2 j) : stG k i j as bs (V, R, T) := by
  obtain ⟨s1, s2, s3, s4, s5, s6, s7⟩ := hS
  obtain ⟨r1, h1, e1, V1, R1, T1, rfl, rfl, f1, f2, f3, f4, f5, g1, g2, g3⟩ := c
  obtain ⟨V2, e2, x1, x2⟩ := r V1 R1 T1 f1 f2
  have hB1 : ivB T1 (k + 1) := by
    obtain ⟨b1, b2⟩ := hB
    unfold ivB
    omega
  have eo : ∀ q, q ≠ 131 → q ≠ 132 → q ≠ 133 → V2 q = V1 q := fun q a b c => (x1 q b).trans (funext fun j => kV_ne c (fun z => a z.1))
  refine ⟨v, _, _, e1, ivB_bd hB1, e2, V2, R1, T1, n2, _, _, _, rfl, ⟨f1, wf_congr (fun j hj => (x2 j hj).symm) hw2, ?_, hiO_keep (eo 3 (by decide) (by decide) (by decide)) (fun q a b => eo q (by omega) (by omega) (by omega)) (fun _ _ _ => rfl) (fun q a _ => eo q (by omega) (by omega) (by omega)) (fun _ _ z => z) f4, ?_, fun i hi j hj => ?_, ?_⟩, hB1⟩
  · exact shO_congr (fun j hj => (x2 j hj).symm) hw2.1 (shO_keep (eo 1 (by decide) (by decide) (by decide)) rfl (fun q a _ => eo q (by omega) (by omega) (by omega)) (fun _ _ z => z) f3)
  · rw [x1 131 (by decide)]
    unfold kV
    exact pm_up_eq
  · have e : V2 133 = kpF (V 133) (V 132) kk := by
      rw [x1 133 (by decide)]
      unfold kV
      rw [pm_up_fr (by decide), f2 133 (by decide) (by decide), f2 132 (by decide) (by decide)]
      funext m
      exact if_pos rfl
    rw [e]
    exact kp_hpu s4.2.1 s6 i hi j hj
  · refine flg_ca ?_
    unfold flg
    rw [eo 0 (by decide) (by decide) (by decide), eo 119 (by decide) (by decide) (by decide), eo 125 (by decide) (by decide) (by decide)]
    exact f5
theorem st_n {v : Int} (hS : ivS V R T n kk nx H) (hB : ivB T k) (c : pm_ev 40 i as (V, R, T) (some (.inl v)) (V, R, T)) (r : pm_ev 40 j bs (V, R, T) (some (.inl v)) (V, R, T)) : stG k i j as bs (V, R, T) := ⟨v, _, _, c, ivB_bd hB, r, V, R, T, n, kk, nx, H, rfl, hS, ivB_up hB⟩
theorem st_changes (hS : ivS V R T n kk nx H) (hB : ivB T k) (hk : k < 512) (a1 a2 a3 a4 : Int) : stG k 7 120 [.inr (.inr (some 0)), .inl a1] [.inr (.inr (some 131)), .inl a1] (V, R, T) ∧ stG k 12 123 [.inr (.inr (some 0)), .inl a1] [.inr (.inr (some 131)), .inl a1] (V, R, T) ∧ stG k 13 124 [.inr (.inr (some 0)), .inl a1, .inl a2, .inl a3, .inl a4] [.inr (.inr (some 131)), .inl a1, .inl a2, .inl a3, .inl a4] (V, R, T) ∧ stG k 23 125 [.inr (.inr (some 0)), .inl a1, .inl a2] [.inr (.inr (some 131)), .inl a1, .inl a2] (V, R, T) ∧ stG k 27 127 [.inr (.inr (some 0)), .inl a1, .inl a2, .inl a3] [.inr (.inr (some 131)), .inl a1, .inl a2, .inl a3] (V, R, T) ∧ stG k 28 128 [.inr (.inr (some 0)), .inl a1] [.inr (.inr (some 131)), .inl a1] (V, R, T) ∧ stG k 30 129 [.inr (.inr (some 0)), .inl a1, .inl a2] [.inr (.inr (some 131)), .inl a1, .inl a2] (V, R, T) := by
  obtain ⟨hf, hw, hs, hh, h5, h6, hc⟩ := id hS
  have hn := hw.1
  have hk20 := hh.2.1
  have w1 : ∀ V1 : Nat → Nat → Int, (∀ q, 131 ≤ q → q ≤ 147 → V1 q = V q) → wf (V1 132) n := fun V1 q => by rw [q 132 (by decide) (by decide)]; exact hw
  have o1 : ∀ V1 : Nat → Nat → Int, (∀ q, 131 ≤ q → q ≤ 147 → V1 q = V q) → V1 131 2 = kk := fun V1 q => by rw [q 131 (by decide) (by decide)]; exact h5
  refine ⟨?_, ?_, ?_, ?_, ?_, ?_, ?_⟩
  · by_cases c : 1 ≤ a1 ∧ a1 ≤ 6
    · refine st_m hS hB hk (A2 := fun j => if j = 0 then a1 else V 132 j) (n2 := n) ?_ (c_looms (by decide) hf hs hw hh a1 c) (fun V1 R1 T1 f1 f2 => ?_)
      · obtain ⟨x1, x2, x3, x4, x5⟩ := hw
        refine ⟨x1, ?_, ?_, ?_, fun p hp => ?_⟩
        · dsimp only; rw [if_neg (by decide)]; exact x2
        · dsimp only; rw [if_pos rfl]; exact c
        · dsimp only; rw [if_neg (by decide)]; exact x4
        · have := x5 p hp
          simp only [if_neg (show ¬ (3 + p = 0) by omega), if_neg (show ¬ (15 + p = 0) by omega), if_neg (show ¬ (27 + p = 0) by omega), if_neg (show ¬ (39 + p = 0) by omega), if_neg (show ¬ (51 + p = 0) by omega), if_neg (show ¬ (63 + p = 0) by omega), if_neg (show ¬ (75 + p = 0) by omega)]
          exact this
      · have ev := m_looms (d := 40) (by decide) f1 kk hk20 (o1 V1 f2) a1
        rw [if_pos c, if_pos c, f2 132 (by decide) (by decide)] at ev
        refine ⟨_, ev, fun q hq => pm_up_fr hq, fun j hj => ?_⟩
        rw [pm_up_row, kV_132, f2 132 (by decide) (by decide)]
    · have r := m_looms (d := 40) (by decide) hf kk hk20 h5 a1
      rw [if_neg c, if_neg c] at r
      exact st_n hS hB (c_looms_bad (by decide) a1 c) r
  · by_cases c : 1 ≤ a1 ∧ a1 ≤ 60
    · refine st_m hS hB hk (A2 := fun j => if j = 1 then a1 else V 132 j) (n2 := n) ?_ (c_end (by decide) hf hs hw hh a1 c) (fun V1 R1 T1 f1 f2 => ?_)
      · obtain ⟨x1, x2, x3, x4, x5⟩ := hw
        refine ⟨x1, ?_, ?_, ?_, fun p hp => ?_⟩
        · dsimp only; rw [if_neg (by decide)]; exact x2
        · dsimp only; rw [if_neg (by decide)]; exact x3
        · dsimp only; rw [if_pos rfl]; exact c
        · have := x5 p hp
          simp only [if_neg (show ¬ (3 + p = 1) by omega), if_neg (show ¬ (15 + p = 1) by omega), if_neg (show ¬ (27 + p = 1) by omega), if_neg (show ¬ (39 + p = 1) by omega), if_neg (show ¬ (51 + p = 1) by omega), if_neg (show ¬ (63 + p = 1) by omega), if_neg (show ¬ (75 + p = 1) by omega)]
          exact this
      · have ev := m_end (d := 40) (by decide) f1 kk hk20 (o1 V1 f2) a1
        rw [if_pos c, if_pos c, f2 132 (by decide) (by decide)] at ev
        refine ⟨_, ev, fun q hq => pm_up_fr hq, fun j hj => ?_⟩
        rw [pm_up_row, kV_132, f2 132 (by decide) (by decide)]
    · have r := m_end (d := 40) (by decide) hf kk hk20 h5 a1
      rw [if_neg c, if_neg c] at r
      exact st_n hS hB (c_end_bad (by decide) a1 c) r
  · by_cases c : pcK a1 a2 a3 a4
    · by_cases c2 : n < 12
      · refine st_m hS hB hk (pcA_wf hw c2 c) (c_piece (by decide) hf hs hw hh a1 a2 a3 a4 c c2) (fun V1 R1 T1 f1 f2 => ?_)
        have ev := m_piece_ok (d := 40) (V := V1) (by decide) f1 n kk c2 hk20 (o1 V1 f2) a1 a2 a3 a4 c (w1 V1 f2).2.1
        refine ⟨_, ev, fun q hq => ?_, fun j hj => ?_⟩
        · unfold pcV
          rw [pm_up_fr hq, pm_up_fr hq, pm_up_fr hq, pm_up_fr hq, pm_up_fr hq, pm_up_fr hq, pm_up_fr hq, pm_up_fr hq]
        · rw [pcV_132, kV_132, f2 132 (by decide) (by decide)]
      · have h12 : V 132 2 = 12 := by rw [hw.2.1]; omega
        have s12 : V 1 2 = 12 := by rw [hs.2.2.1]; omega
        obtain ⟨r0, h0, e0, rfl, rfl⟩ := c_piece_full (d := 40) (V := V) (by decide) hf a1 a2 a3 a4 c s12
        exact st_n hS hB e0 (m_piece_full (by decide) hf a1 a2 a3 a4 c h12)
    · obtain ⟨r0, h0, e0, rfl, rfl⟩ := c_piece_bad (d := 40) (V := V) (R := R) (T := T) (by decide) a1 a2 a3 a4 c
      exact st_n hS hB e0 (m_piece_bad (by decide) a1 a2 a3 a4 c)
  · by_cases c : (0 ≤ a1 ∧ a1 < n) ∧ 2 ≤ a2 ∧ a2 ≤ 6
    · obtain ⟨p, rfl⟩ : ∃ p : Nat, a1 = p := ⟨a1.toNat, by omega⟩
      have hp : p < n := by omega
      by_cases c3 : V 132 (3 + p) = 3
      · refine st_m hS hB hk (A2 := fun j => if j = 51 + p then a2 else V 132 j) (n2 := n) ?_ (c_ways (by decide) hf hs hw hh hp a2 c.2 c3) (fun V1 R1 T1 f1 f2 => ?_)
        · obtain ⟨x1, x2, x3, x4, x5⟩ := hw
          refine ⟨x1, ?_, ?_, ?_, fun q hq => ?_⟩
          · dsimp only; rw [if_neg (by omega)]; exact x2
          · dsimp only; rw [if_neg (by omega)]; exact x3
          · dsimp only; rw [if_neg (by omega)]; exact x4
          · have := x5 q hq
            simp only [if_neg (show ¬ (3 + q = 51 + p) by omega), if_neg (show ¬ (15 + q = 51 + p) by omega), if_neg (show ¬ (27 + q = 51 + p) by omega), if_neg (show ¬ (39 + q = 51 + p) by omega), if_neg (show ¬ (63 + q = 51 + p) by omega), if_neg (show ¬ (75 + q = 51 + p) by omega)]
            obtain ⟨y1, y2, y3, y4, y5, y6, y7, y8, y9, y10⟩ := this
            refine ⟨y1, y2, y3, y4, y5, y6, ?_, y8, y9, ?_⟩
            · split <;> omega
            · intro z
              have : q ≠ p := fun e => z (by rw [e]; exact c3)
              rw [if_neg (by omega)]
              exact y10 z
        · have ev := m_ways_ok (d := 40) (V := V1) (by decide) f1 n kk p (w1 V1 f2) hk20 (o1 V1 f2) hp a2 c.2 (by rw [f2 132 (by decide) (by decide)]; exact c3)
          rw [f2 132 (by decide) (by decide)] at ev
          refine ⟨_, ev, fun q hq => pm_up_fr hq, fun j hj => ?_⟩
          rw [pm_up_row, kV_132, f2 132 (by decide) (by decide)]
      · exact st_n hS hB (c_ways_cast (by decide) hf hs hn hp a2 c.2 c3) (m_ways_cast (by decide) hf n p hw hp a2 c.2 c3)
    · exact st_n hS hB (c_ways_bad (by decide) hf hs hn a1 a2 c) (m_ways_bad (by decide) hf n hw a1 a2 c)
  · by_cases c : (0 ≤ a1 ∧ a1 < n) ∧ 0 ≤ a2 ∧ a2 < a3 ∧ a3 ≤ 60
    · obtain ⟨p, rfl⟩ : ∃ p : Nat, a1 = p := ⟨a1.toNat, by omega⟩
      have hp : p < n := by omega
      by_cases c3 : V 132 (3 + p) = 4
      · refine st_m hS hB hk (A2 := fun j => if j = 75 + p then a3 else if j = 63 + p then a2 else V 132 j) (n2 := n) ?_ (c_bar (by decide) hf hs hw hh hp a2 a3 c.2 c3) (fun V1 R1 T1 f1 f2 => ?_)
        · obtain ⟨x1, x2, x3, x4, x5⟩ := hw
          refine ⟨x1, ?_, ?_, ?_, fun q hq => ?_⟩
          · dsimp only; rw [if_neg (by omega), if_neg (by omega)]; exact x2
          · dsimp only; rw [if_neg (by omega), if_neg (by omega)]; exact x3
          · dsimp only; rw [if_neg (by omega), if_neg (by omega)]; exact x4
          · have := x5 q hq
            simp only [if_neg (show ¬ (3 + q = 75 + p) by omega), if_neg (show ¬ (15 + q = 75 + p) by omega), if_neg (show ¬ (27 + q = 75 + p) by omega), if_neg (show ¬ (39 + q = 75 + p) by omega), if_neg (show ¬ (51 + q = 75 + p) by omega), if_neg (show ¬ (63 + q = 75 + p) by omega), if_neg (show ¬ (3 + q = 63 + p) by omega), if_neg (show ¬ (15 + q = 63 + p) by omega), if_neg (show ¬ (27 + q = 63 + p) by omega), if_neg (show ¬ (39 + q = 63 + p) by omega), if_neg (show ¬ (51 + q = 63 + p) by omega), if_neg (show ¬ (75 + q = 63 + p) by omega)]
            obtain ⟨y1, y2, y3, y4, y5, y6, y7, y8, y9, y10⟩ := this
            by_cases e : q = p
            · subst e
              refine ⟨y1, y2, y3, y4, y5, y6, y7, fun _ => ?_, fun z => absurd c3 z, y10⟩
              rw [if_pos rfl, if_pos rfl]
              exact c.2
            · rw [if_neg (by omega), if_neg (by omega)]
              exact ⟨y1, y2, y3, y4, y5, y6, y7, y8, y9, y10⟩
        · have ev := m_bar_ok (d := 40) (V := V1) (by decide) f1 n kk p (w1 V1 f2) hk20 (o1 V1 f2) hp a2 a3 c.2 (by rw [f2 132 (by decide) (by decide)]; exact c3)
          refine ⟨_, ev, fun q hq => by rw [pm_up_fr hq, pm_up_fr hq], fun j hj => ?_⟩
          rw [pm_up_row, pm_up_row, kV_132, f2 132 (by decide) (by decide)]
      · exact st_n hS hB (c_bar_cast (by decide) hf hs hn hp a2 a3 c.2 c3) (m_bar_cast (by decide) hf n p hw hp a2 a3 c.2 c3)
    · exact st_n hS hB (c_bar_bad (by decide) hf hs hn a1 a2 a3 c) (m_bar_bad (by decide) hf n hw a1 a2 a3 c)
  · by_cases c : 0 ≤ a1 ∧ a1 < n
    · obtain ⟨p, rfl⟩ : ∃ p : Nat, a1 = p := ⟨a1.toNat, by omega⟩
      have hp : p < n := by omega
      refine st_m hS hB hk (dpA_wf hw hp) (c_drop (by decide) hf hs hw hh hp) (fun V1 R1 T1 f1 f2 => ?_)
      have ev := m_drop_ok (d := 40) (V := V1) (by decide) f1 n kk p (w1 V1 f2) hk20 (o1 V1 f2) hp
      refine ⟨_, ev, fun q hq => ?_, fun j hj => ?_⟩
      · rw [pm_up_fr hq]
        funext m
        exact if_neg hq
      · rw [pm_up_row, f2 132 (by decide) (by decide)]
        unfold dpA
        by_cases e : j = 2
        · dsimp only
          rw [if_pos e, if_pos e]
        · dsimp only
          rw [if_neg e, if_neg e]
          exact if_pos rfl
    · exact st_n hS hB (c_drop_bad (by decide) hf hs hn a1 c) (m_drop_bad (by decide) hf n hw a1 c)
  · by_cases c : 0 ≤ a1 ∧ a1 < n
    · obtain ⟨p, rfl⟩ : ∃ p : Nat, a1 = p := ⟨a1.toNat, by omega⟩
      have hp : p < n := by omega
      exact ⟨_, _, _, c_told (by decide) hf hs hw hp a2, ivB_bd hB, m_told_ok (by decide) hf n p hw hp a2, _, R, T, n, kk, nx, H, rfl, iv_q hS qfr_rf hc (fun q j w => by rw [pm_up_ne (by omega)]), ivB_up hB⟩
    · exact st_n hS hB (c_told_bad (by decide) hf hs hn a1 a2 c) (m_told_bad (by decide) hf n hw a1 a2 c)
theorem st_undo (hS : ivS V R T n kk nx H) (hB : ivB T k) : stG k 44 119 [.inr (.inr (some 0))] [.inr (.inr (some 131))] (V, R, T) := by
  obtain ⟨hf, hw, hs, hh, h5, h6, hc⟩ := id hS
  by_cases c : kk = 0
  · have r := m_undo (d := 40) (by decide) hf kk hh.2.1 h5
    rw [if_pos c, if_pos c] at r
    exact st_n hS hB (c_undo_no (by decide) hf (by rw [hh.1, c]; rfl)) r
  · obtain ⟨r1, h1, e1, V1, R1, m, rfl, rfl, f1, f2, f3, f4, f5, f6⟩ := c_undo (d := 40) (by decide) hf hh (by omega)
    have r := m_undo (d := 40) (V := V1) (by decide) f1 kk hh.2.1 (by rw [f2 131 (by decide) (by decide)]; exact h5)
    rw [if_neg c, if_neg c] at r
    have eo : ∀ q, q ≠ 131 → q ≠ 132 → unV V1 kk q = V1 q := fun q a b => funext fun j => by
      unfold unV
      rw [pm_set_ne b, pm_up_fr a]
    have e132 : ∀ j, j < 87 → H (kk - 1) j = unV V1 kk 132 j := fun j hj => by
      unfold unV
      have : ∀ (f : Nat → Int) (W : Nat → Nat → Int), pm_set W 132 f 132 j = f j := fun f W => if_pos rfl
      rw [this]
      rw [if_pos hj, f2 133 (by decide) (by decide)]
      exact (h6 (kk - 1) (by omega) j hj).symm
    refine ⟨_, _, _, e1, ivB_bd hB, r, unV V1 kk, R1, T, m, kk - 1, _, H, rfl, ⟨f1, wf_congr e132 f3, ?_, hiO_keep (eo 3 (by decide) (by decide)) (fun q a b => eo q (by omega) (by omega)) (fun _ _ _ => rfl) (fun q a _ => eo q (by omega) (by omega)) (fun _ _ z => z) f5, ?_, fun i hi j hj => ?_, ?_⟩, ivB_up hB⟩
    · exact shO_congr e132 f3.1 (shO_keep (eo 1 (by decide) (by decide)) rfl (fun q a _ => eo q (by omega) (by omega)) (fun _ _ z => z) f4)
    · unfold unV
      rw [pm_set_ne (by decide)]
      exact pm_up_eq
    · rw [eo 133 (by decide) (by decide), f2 133 (by decide) (by decide)]
      exact h6 i (by omega) j hj
    · refine flg_ca ?_
      unfold flg
      rw [eo 0 (by decide) (by decide), eo 119 (by decide) (by decide), eo 125 (by decide) (by decide)]
      exact f6
theorem lw_step_Iv : lw_step Iv 131 := by
  refine ⟨?_, ?_, ?_⟩
  · rintro k h ⟨V, R, T, n, kk, nx, H, rfl, hS, hB⟩
    exact ⟨ivB_bd hB, ft_0 hS.1, ft_131 hS.1⟩
  · rintro k h ⟨V, R, T, n, kk, nx, H, rfl, hS, hB⟩
    exact ⟨V, R, T, n, kk, nx, H, rfl, hS, ivB_up hB⟩
  · rintro k h hk ⟨V, R, T, n, kk, nx, H, rfl, hS, hB⟩ o ho a1 a2 a3 a4 i1 i2 i3 i4
    obtain ⟨q1, q2, q3, q4, q5, q6, q7, q8, q9, q10, q11, q12, q13⟩ := st_questions hS hB a1 a2 i2
    obtain ⟨c1, c2, c3, c4, c5, c6, c7⟩ := st_changes hS hB hk a1 a2 a3 a4
    have u := st_undo hS hB
    simp only [lw_ops, List.mem_cons, List.not_mem_nil, or_false] at ho
    rcases ho with rfl | rfl | rfl | rfl | rfl | rfl | rfl | rfl | rfl | rfl | rfl | rfl | rfl | rfl | rfl | rfl | rfl | rfl | rfl | rfl | rfl
    · exact c1
    · exact c2
    · exact c3
    · exact c4
    · exact c5
    · exact c6
    · exact c7
    · exact u
    · exact q1
    · exact q2
    · exact q3
    · exact q4
    · exact q5
    · exact q6
    · exact q7
    · exact q8
    · exact q9
    · exact q10
    · exact q11
    · exact q12
    · exact q13
end
