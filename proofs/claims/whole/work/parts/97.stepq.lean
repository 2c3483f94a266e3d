/-! THE STEP: what stands between calls, and the questions -/
def ivS (V : Nat → Nat → Int) (R : Nat → Nat → Option Nat) (T : List (Nat × Nat)) (n kk nx : Nat) (H : Nat → Nat → Int) : Prop := fx R T ∧ wf (V 132) n ∧ shO V R T 1 (V 132) n ∧ hiO V R T kk nx H ∧ V 131 2 = kk ∧ (∀ i, i < kk → ∀ j, j < 87 → V 133 (87 * i + j) = H i j) ∧ caI V (V 132) n
def ivB (T : List (Nat × Nat)) (k : Nat) : Prop := T.length ≤ 148 + min k 512 ∧ (T.map fun z => z.2).sum ≤ 100000 + 5 * min k 512
def Iv (k : Nat) (h : pm_H) : Prop := ∃ V R T n kk nx H, h = (V, R, T) ∧ ivS V R T n kk nx H ∧ ivB T k
section
variable {V V1 V2 : Nat → Nat → Int} {R : Nat → Nat → Option Nat} {T : List (Nat × Nat)} {n kk nx k i j : Nat} {H : Nat → Nat → Int} {as bs : List pm_V}
theorem ivB_bd (h : ivB T k) : lw_bd (V, R, T) := by
  obtain ⟨h1, h2⟩ := h
  refine ⟨?_, ?_⟩
  · show T.length ≤ 600000
    omega
  · show (T.map fun z => z.2).sum ≤ 7302250
    omega
theorem iv_q (hS : ivS V R T n kk nx H) (q : qfr V V1) (c : caI V1 (V 132) n) (r : rfr V1 V2) : ivS V2 R T n kk nx H := by
  obtain ⟨s1, s2, s3, s4, s5, s6, s7⟩ := hS
  have e132 : V2 132 = V 132 := (rfr_now r).trans (q 132 (by omega))
  have e : ∀ p, (1 ≤ p ∧ p ≤ 44) ∨ 148 ≤ p → V2 p = V p := fun p hp => (funext fun j => r p j (by omega)).trans (q p (by omega))
  refine ⟨s1, by rw [e132]; exact s2, ?_, ?_, ?_, fun i hi j hj => ?_, ?_⟩
  · rw [e132]
    exact shO_keep (e 1 (by omega)) rfl (fun p hp _ => e p (by omega)) (fun _ _ z => z) s3
  · exact hiO_keep (e 3 (by omega)) (fun p h1 h2 => e p (by omega)) (fun _ _ _ => rfl) (fun p hp _ => e p (by omega)) (fun _ _ z => z) s4
  · rw [r 131 2 (by omega), q 131 (by omega)]; exact s5
  · rw [r 133 _ (by omega), q 133 (by omega)]; exact s6 i hi j hj
  · rw [e132]
    exact ca_keep (funext fun j => r 0 j (by omega)) (fun p hp => funext fun j => r p j (by omega)) c
def stG (k i j : Nat) (as bs : List pm_V) (h : pm_H) : Prop := ∃ v h1 h2, pm_ev 40 i as h (some (.inl v)) h1 ∧ lw_bd h1 ∧ pm_ev 40 j bs h1 (some (.inl v)) h2 ∧ Iv (k + 1) h2
theorem ivB_up (h : ivB T k) : ivB T (k + 1) := by
  obtain ⟨h1, h2⟩ := h
  unfold ivB
  omega
theorem st_q {P P' : Int → Prop} (hun : ∀ v w, P v → P' w → v = w) (hS : ivS V R T n kk nx H) (hB : ivB T k) (c : pm_ok 40 i as (V, R, T) (anQ V R T (V 132) n P)) (r : ∀ V1, qfr V V1 → pm_ok 40 j bs (V1, R, T) (fun r h2 => ∃ V2 v, h2 = (V2, R, T) ∧ rfr V1 V2 ∧ r = some (.inl v) ∧ P' v)) : stG k i j as bs (V, R, T) := by
  obtain ⟨r1, h1, e1, V1, v, rfl, rfl, q, ca, p⟩ := c
  obtain ⟨r2, h2, e2, V2, w, rfl, f, rfl, p'⟩ := r V1 q
  have := hun v w p p'
  subst this
  exact ⟨v, _, _, e1, ivB_bd hB, e2, V2, R, T, n, kk, nx, H, rfl, iv_q hS q ca f, ivB_up hB⟩
theorem stI_rfr {L : List Int} {lo dl : Int} (h : stI V V2 lo dl L) : rfr V V2 := fun q j w => h.1 q j (by omega) (by omega)
theorem liP_un {A : Nat → Int} {p s v w : Int} (h : liP A n p s v) (h' : liP A n p s w) : v = w := by
  rcases h with ⟨a, rfl⟩ | ⟨a, b, rfl⟩ | ⟨a, b, x, hx, rfl⟩ <;> rcases h' with ⟨a', rfl⟩ | ⟨a', b', rfl⟩ | ⟨a', b', y, hy, rfl⟩
  all_goals first | rfl | (exact absurd a' a) | (exact absurd a a') | (exact absurd b b') | (exact absurd b' b) | skip
  exact clo_un hx hy _ (by omega) _ (by omega)
theorem onP_un {A : Nat → Int} {p s v w : Int} (h : onP A n p s v) (h' : onP A n p s w) : v = w := by
  rcases h with ⟨a, rfl⟩ | ⟨a, b, rfl⟩ | ⟨a, b, x, hx, rfl⟩ <;> rcases h' with ⟨a', rfl⟩ | ⟨a', b', rfl⟩ | ⟨a', b', y, hy, rfl⟩
  all_goals first | rfl | (exact absurd a' a) | (exact absurd a a') | (exact absurd b b') | (exact absurd b' b) | skip
  exact onA_congr (fun _ _ _ => rfl) (clo_un hx hy)
theorem ctP_un {A : Nat → Int} {v w : Int} (h : ctP A n v) (h' : ctP A n w) : v = w := by
  rcases h with ⟨b, rfl⟩ | ⟨b, x, hx, rfl⟩ <;> rcases h' with ⟨b', rfl⟩ | ⟨b', y, hy, rfl⟩
  all_goals first | rfl | (exact absurd b b') | (exact absurd b' b) | skip
  unfold ctA
  rw [sm_congr (g := fun l => bgF (fun t => onA (nmo A n 0) (nS A n 0) n y l t) 60) (fun l _ => bgF_congr fun t _ => onA_congr (fun _ _ _ => rfl) (clo_un hx hy))]
theorem crI_un {A : Nat → Int} {w v v' : Int} (h : crI A n w v) (h' : crI A n w v') : v = v' := by
  rcases h with ⟨a, rfl⟩ | ⟨a, b, rfl⟩ | ⟨a, b, x, P, Q, hx, rfl⟩ <;> rcases h' with ⟨a', rfl⟩ | ⟨a', b', rfl⟩ | ⟨a', b', y, P', Q', hy, rfl⟩
  all_goals first | rfl | (exact absurd a' a) | (exact absurd a a') | (exact absurd b b') | (exact absurd b' b) | skip
  obtain ⟨e1, e2⟩ := mxf_sets hx hy
  unfold crA
  rw [btf_congr e1, btf_congr (P := Q) (Q := Q') (n := min (nS A n 0) 31) (fun j hj => e2 j (by omega)), btf_congr (P := fun j => Q (j + 31)) (Q := fun j => Q' (j + 31)) (n := nS A n 0 - 31) (fun j hj => e2 (j + 31) (by omega))]
theorem q132 (q : qfr V V1) : V1 132 = V 132 := q 132 (by omega)
theorem st_questions (hS : ivS V R T n kk nx H) (hB : ivB T k) (a1 a2 : Int) (h2 : pm_I32 a2) : stG k 46 131 [.inr (.inr (some 0)), .inl a1] [.inr (.inr (some 131)), .inl a1] (V, R, T) ∧ stG k 56 137 [.inr (.inr (some 0)), .inl a1] [.inr (.inr (some 131)), .inl a1] (V, R, T) ∧ stG k 57 138 [.inr (.inr (some 0))] [.inr (.inr (some 131))] (V, R, T) ∧ stG k 75 147 [.inr (.inr (some 0))] [.inr (.inr (some 131))] (V, R, T) ∧ stG k 77 149 [.inr (.inr (some 0)), .inl a1, .inl a2] [.inr (.inr (some 131)), .inl a1, .inl a2] (V, R, T) ∧ stG k 83 153 [.inr (.inr (some 0)), .inl a1, .inl a2] [.inr (.inr (some 131)), .inl a1, .inl a2] (V, R, T) ∧ stG k 87 155 [.inr (.inr (some 0))] [.inr (.inr (some 131))] (V, R, T) ∧ stG k 89 156 [.inr (.inr (some 0)), .inl a1] [.inr (.inr (some 131)), .inl a1] (V, R, T) ∧ stG k 92 157 [.inr (.inr (some 0))] [.inr (.inr (some 131))] (V, R, T) ∧ stG k 95 159 [.inr (.inr (some 0))] [.inr (.inr (some 131))] (V, R, T) ∧ stG k 96 160 [.inr (.inr (some 0)), .inl a1] [.inr (.inr (some 131)), .inl a1] (V, R, T) ∧ stG k 102 166 [.inr (.inr (some 0)), .inl a1, .inl a2] [.inr (.inr (some 131)), .inl a1, .inl a2] (V, R, T) ∧ stG k 112 170 [.inr (.inr (some 0)), .inl a1, .inl a2] [.inr (.inr (some 131)), .inl a1, .inl a2] (V, R, T) := by
  obtain ⟨hf, hw, hs, hh, h5, h6, hc⟩ := id hS
  have w1 : ∀ V1, qfr V V1 → wf (V1 132) n := fun V1 q => by rw [q132 q]; exact hw
  refine ⟨?_, ?_, ?_, ?_, ?_, ?_, ?_, ?_, ?_, ?_, ?_, ?_, ?_⟩
  · refine st_q (P := fun v => v = cnA (V 132) n kk a1) (P' := fun v => v = cnA (V 132) n kk a1) (fun v w a b => a.trans b.symm) hS hB (c_count (by decide) hf hs hw hc hh.1 a1) (fun V1 q => ?_)
    refine pm_ok_mono (m_count (by decide) hf n kk (w1 V1 q) (by rw [q 131 (by omega)]; exact h5) a1) ?_
    rintro r h2 ⟨rfl, V2, rfl, st⟩
    exact ⟨V2, _, rfl, stI_rfr st, rfl, by rw [q132 q]⟩
  · refine st_q (P := fun v => v = if 0 < nst (mmL (V 132) 0 n) ∧ 0 ≤ a1 ∧ a1 < (mmL (V 132) 0 n).length then (mmL (V 132) 0 n).getD a1.toNat 0 else -1) (P' := fun v => v = if 0 < nst (mmL (V 132) 0 n) ∧ 0 ≤ a1 ∧ a1 < (mmL (V 132) 0 n).length then (mmL (V 132) 0 n).getD a1.toNat 0 else -1) (fun v w a b => a.trans b.symm) hS hB (c_moment (by decide) hf hs hw hc a1) (fun V1 q => ?_)
    refine pm_ok_mono (m_moment (by decide) hf n (w1 V1 q) a1) ?_
    rintro r h2 ⟨rfl, V2, rfl, st⟩
    exact ⟨V2, _, rfl, stI_rfr st, rfl, by rw [q132 q]⟩
  · refine st_q (fun v w a b => mst_un a b) hS hB (c_most (by decide) hf hs hw hc) (fun V1 q => ?_)
    have := m_most (d := 40) (by decide) hf (w1 V1 q)
    unfold moQ at this
    rw [q132 q] at this
    exact this
  · refine st_q (P' := fun v => (v = 1 ∧ hal (V 132) n (V 132 0) 0) ∨ (v = 0 ∧ ¬ hal (V 132) n (V 132 0) 0)) (fun v w a b => ?_) hS hB (c_fits (by decide) hf hs hw hc) (fun V1 q => ?_)
    · rcases a with ⟨rfl, a⟩ | ⟨rfl, a⟩ <;> rcases b with ⟨rfl, b⟩ | ⟨rfl, b⟩
      · rfl
      · exact absurd a b
      · exact absurd b a
      · rfl
    · refine pm_ok_mono (m_fits (by decide) hf (w1 V1 q)) ?_
      rintro r h2 ⟨V2, rfl, f, ⟨rfl, z⟩ | ⟨rfl, z⟩⟩
      · rw [q132 q] at z
        exact ⟨V2, _, rfl, f, rfl, Or.inl ⟨rfl, z⟩⟩
      · rw [q132 q] at z
        exact ⟨V2, _, rfl, f, rfl, Or.inr ⟨rfl, z⟩⟩
  · refine st_q (fun v w a b => liP_un a b) hS hB (c_lies (by decide) hf hs hw hc a1 a2) (fun V1 q => ?_)
    have := m_lies (d := 40) (by decide) hf (w1 V1 q) a1 a2
    unfold lsQ at this
    rw [q132 q] at this
    exact this
  · refine st_q (fun v w a b => onP_un a b) hS hB (c_on (by decide) hf hs hw hc a1 a2) (fun V1 q => ?_)
    have := m_on (d := 40) (by decide) hf (w1 V1 q) a1 a2
    unfold onQ at this
    rw [q132 q] at this
    exact this
  · refine st_q (fun v w a b => ctP_un a b) hS hB (c_cuts (by decide) hf hs hw hc) (fun V1 q => ?_)
    have := m_cuts (d := 40) (by decide) hf (w1 V1 q)
    unfold ctQ at this
    rw [q132 q] at this
    exact this
  · refine st_q (fun v w a b => crI_un a b) hS hB (c_crowded (by decide) hf hs hw hc a1) (fun V1 q => ?_)
    have := m_crowded (d := 40) (by decide) hf (w1 V1 q) a1
    unfold crQ at this
    rw [q132 q] at this
    exact this
  · refine st_q (fun v w a b => lst_un a b) hS hB (c_fewest (by decide) hf hs hw hc) (fun V1 q => ?_)
    have := m_fewest (d := 40) (by decide) hf (w1 V1 q)
    rw [q132 q] at this
    exact this
  · refine st_q (fun v w a b => lst_un a b) hS hB (c_delay (by decide) hf hs hw hc) (fun V1 q => ?_)
    have := m_delay (d := 40) (by decide) hf (w1 V1 q)
    rw [q132 q] at this
    exact this
  · refine st_q (fun v w a b => spO_un a b) hS hB (c_speed (by decide) hf hs hw hc a1) (fun V1 q => ?_)
    have := m_speed (d := 40) (by decide) hf (w1 V1 q) a1
    unfold spQ at this
    rw [q132 q] at this
    exact this
  · refine st_q (P' := lvPP (V 132) n a1 a2) (fun v w a b => a.trans b.symm) hS hB (c_level (by decide) hf hs hw hc a1 a2) (fun V1 q => ?_)
    have := m_level (d := 40) (by decide) hf (w1 V1 q) a1 a2
    unfold leQ at this
    rw [q132 q] at this
    exact this
  · refine st_q (fun v w a b => dyO_un a b) hS hB (c_days (by decide) hf hs hw hc a1 a2 h2) (fun V1 q => ?_)
    have := m_days (d := 40) (by decide) hf (w1 V1 q) a1 a2
    unfold daQ at this
    rw [q132 q] at this
    exact this
end
