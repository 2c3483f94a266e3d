
theorem pm_up_loop (P : Nat → Prop) (N : Nat) (hN : P N) (hs : ∀ i, i < N → P (i + 1) → P i) : P 0 := by
  have h : ∀ k, k ≤ N → P (N - k) := by
    intro k
    induction k with
    | zero => intro _; exact hN
    | succ k ih =>
      intro hk
      have h1 := ih (by omega)
      refine hs (N - (k + 1)) (by omega) ?_
      rw [show N - (k + 1) + 1 = N - k by omega]
      exact h1
  have := h N (Nat.le_refl N)
  rwa [Nat.sub_self] at this
def ts_sum (f : Nat → Int) : Nat → Int
  | 0 => 0
  | n + 1 => ts_sum f n + f n
set_option maxHeartbeats 1000000 in
theorem ts_lengths (d : Nat) (V : Nat → Nat → Int) (R : Nat → Nat → Option Nat) (T : List (Nat × Nat)) (n : Nat) (hn : n ≤ 12) (hR : R 100 0 = some 101) (hT : T[100]? = some (12, 25)) (hA : T[101]? = some (20, 87)) (hm : V 101 2 = n)
    (hl : ∀ j, j < 12 → 0 ≤ V 101 (15 + j) ∧ V 101 (15 + j) ≤ 60) : pm_ok (d + 1) 138 [.inr (.inr (some 100))] (V, R, T) (fun r h' => r = some (.inl (ts_sum (fun j => V 101 (15 + j)) n)) ∧ h' = (V, R, T)) := by
  rw [pm_ok_iff]
  show pm_w d 138 0 [some (.inr (.inr (some 100))), none, none] [] (V, R, T) _
  have hg : pm_tgs (V, R, T) 100 [12] := ⟨12, 25, by decide, hT⟩
  simp only [ux_138_0, ux_138_1, ux_138_2, ux_138_3, ux_138_5, ux_138_6, ux_138_9, ux_138_10, ux_138_11, ux_138_14, ux_138_15, ux_138_16, ux_138_19, ux_138_21, ux_138_22, ux_138_23, ux_138_24, ux_138_25, ux_138_26, ux_138_29, ux_138_32, ux_138_33, pm_i_c, pm_l_c, pm_q_c, pm_r_c, pm_li_0, pm_li_s, pm_ll_0, pm_ll_s, pm_lq_0, pm_lq_s, pm_s1, pm_s2, pm_kl]
  refine pm_up_loop (fun j => pm_w d 138 4 [some (.inr (.inr (some 100))), some (.inl (ts_sum (fun j => V 101 (15 + j)) j)), some (.inl (j : Int))] [] (V, R, T) _) n ?_ ?_
  · rw [ux_138_4]
    simp only [ux_138_0, ux_138_1, ux_138_2, ux_138_3, ux_138_5, ux_138_6, ux_138_9, ux_138_10, ux_138_11, ux_138_14, ux_138_15, ux_138_16, ux_138_19, ux_138_21, ux_138_22, ux_138_23, ux_138_24, ux_138_25, ux_138_26, ux_138_29, ux_138_32, ux_138_33, pm_i_c, pm_l_c, pm_q_c, pm_r_c, pm_li_0, pm_li_s, pm_ll_0, pm_ll_s, pm_lq_0, pm_lq_s, pm_s1, pm_s2, pm_kl]
    trace_state
    sorry
  · intro j hj hP
    rw [ux_138_4]
    simp only [ux_138_0, ux_138_1, ux_138_2, ux_138_3, ux_138_5, ux_138_6, ux_138_9, ux_138_10, ux_138_11, ux_138_14, ux_138_15, ux_138_16, ux_138_19, ux_138_21, ux_138_22, ux_138_23, ux_138_24, ux_138_25, ux_138_26, ux_138_29, ux_138_32, ux_138_33, pm_i_c, pm_l_c, pm_q_c, pm_r_c, pm_li_0, pm_li_s, pm_ll_0, pm_ll_s, pm_lq_0, pm_lq_s, pm_s1, pm_s2, pm_kl]
    trace_state
    sorry
