section
variable {d : Nat} {ls : pm_L} {st : List pm_V} {h : pm_H} {Q : Option pm_V → pm_H → Prop}
-- 23: L.ways
theorem ux_23_0 : pm_w d 23 0 ls st h Q ↔ pm_lq ls 0 fun x => pm_w d 23 1 ls (.inr (.inr x) :: st) h Q := pw_aload_n (show decode (pm_b 23) 0 = .ok (.aload_n 0, 1) by decide +kernel)
theorem ux_23_1 : pm_w d 23 1 ls st h Q ↔ pm_r st fun a s => pm_tgs h a [11] ∧ pm_w d 23 4 ls (.inr (.inr (h.2.1 a 0)) :: s) h Q := pw_get (show decode (pm_b 23) 1 = .ok (.getfield 12, 3) by decide +kernel) fx_11_12
theorem ux_23_4 : pm_w d 23 4 ls st h Q ↔ pm_li ls 1 fun x => pm_w d 23 5 ls (.inl x :: st) h Q := pw_iload_n (show decode (pm_b 23) 4 = .ok (.iload_n 1, 1) by decide +kernel)
theorem ux_23_5 : pm_w d 23 5 ls st h Q ↔ pm_r (st.drop 1) fun a s => (1 ≤ st.length ∧ pm_wt s ≤ 8 ∧ pm_tg h a 8) ∧ pm_ok d 24 (.inr (.inr (some a)) :: (st.take 1).reverse) h fun r h1 => pm_w d 23 8 ls (pm_pu r s) h1 Q := pw_virt (show decode (pm_b 23) 5 = .ok (.invokevirtual 82, 3) by decide +kernel) mx_11_82
theorem ux_23_8 : pm_w d 23 8 ls st h Q ↔ pm_i st fun x s => ((x = 0) → pm_w d 23 22 ls s h Q) ∧ (¬ (x = 0) → pm_w d 23 11 ls s h Q) := pw_if_eq (show decode (pm_b 23) 8 = .ok (.ifCond .eq 14, 3) by decide +kernel) (by decide)
theorem ux_23_11 : pm_w d 23 11 ls st h Q ↔ pm_li ls 2 fun x => pm_w d 23 12 ls (.inl x :: st) h Q := pw_iload_n (show decode (pm_b 23) 11 = .ok (.iload_n 2, 1) by decide +kernel)
theorem ux_23_12 : pm_w d 23 12 ls st h Q ↔ pm_w d 23 13 ls (.inl 2 :: st) h Q := pw_iconst (show decode (pm_b 23) 12 = .ok (.iconst 2, 1) by decide +kernel) (by unfold pm_I32; decide)
theorem ux_23_13 : pm_w d 23 13 ls st h Q ↔ pm_i st fun y s => pm_i s fun x s => ((x < y) → pm_w d 23 22 ls s h Q) ∧ (¬ (x < y) → pm_w d 23 16 ls s h Q) := pw_ic_lt (show decode (pm_b 23) 13 = .ok (.if_icmp .lt 9, 3) by decide +kernel) (by decide)
theorem ux_23_16 : pm_w d 23 16 ls st h Q ↔ pm_li ls 2 fun x => pm_w d 23 17 ls (.inl x :: st) h Q := pw_iload_n (show decode (pm_b 23) 16 = .ok (.iload_n 2, 1) by decide +kernel)
theorem ux_23_17 : pm_w d 23 17 ls st h Q ↔ pm_w d 23 19 ls (.inl 6 :: st) h Q := pw_bipush (show decode (pm_b 23) 17 = .ok (.bipush 6, 2) by decide +kernel) (by decide)
theorem ux_23_19 : pm_w d 23 19 ls st h Q ↔ pm_i st fun y s => pm_i s fun x s => ((x ≤ y) → pm_w d 23 24 ls s h Q) ∧ (¬ (x ≤ y) → pm_w d 23 22 ls s h Q) := pw_ic_le (show decode (pm_b 23) 19 = .ok (.if_icmp .le 5, 3) by decide +kernel) (by decide)
theorem ux_23_22 : pm_w d 23 22 ls st h Q ↔ pm_w d 23 23 ls (.inl (-1) :: st) h Q := pw_iconst (show decode (pm_b 23) 22 = .ok (.iconst (-1), 1) by decide +kernel) (by unfold pm_I32; decide)
theorem ux_23_23 : pm_w d 23 23 ls st h Q ↔ pm_i st fun x s => s = [] ∧ Q (some (.inl x)) h := pw_ireturn (show decode (pm_b 23) 23 = .ok (.ireturn, 1) by decide +kernel) rfl
theorem ux_23_24 : pm_w d 23 24 ls st h Q ↔ pm_lq ls 0 fun x => pm_w d 23 25 ls (.inr (.inr x) :: st) h Q := pw_aload_n (show decode (pm_b 23) 24 = .ok (.aload_n 0, 1) by decide +kernel)
theorem ux_23_25 : pm_w d 23 25 ls st h Q ↔ pm_r st fun a s => pm_tgs h a [11] ∧ pm_w d 23 28 ls (.inr (.inr (h.2.1 a 0)) :: s) h Q := pw_get (show decode (pm_b 23) 25 = .ok (.getfield 12, 3) by decide +kernel) fx_11_12
theorem ux_23_28 : pm_w d 23 28 ls st h Q ↔ pm_li ls 1 fun x => pm_w d 23 29 ls (.inl x :: st) h Q := pw_iload_n (show decode (pm_b 23) 28 = .ok (.iload_n 1, 1) by decide +kernel)
theorem ux_23_29 : pm_w d 23 29 ls st h Q ↔ pm_r (st.drop 1) fun a s => (1 ≤ st.length ∧ pm_wt s ≤ 8 ∧ pm_tg h a 8) ∧ pm_ok d 25 (.inr (.inr (some a)) :: (st.take 1).reverse) h fun r h1 => pm_w d 23 32 ls (pm_pu r s) h1 Q := pw_virt (show decode (pm_b 23) 29 = .ok (.invokevirtual 86, 3) by decide +kernel) mx_11_86
theorem ux_23_32 : pm_w d 23 32 ls st h Q ↔ pm_q st fun x s => pm_w d 23 34 (pm_s1 ls 4 (.inr (.inr x))) s h Q := pw_astore (show decode (pm_b 23) 32 = .ok (.astore 4, 2) by decide +kernel) (by decide)
theorem ux_23_34 : pm_w d 23 34 ls st h Q ↔ pm_lq ls 4 fun x => pm_w d 23 36 ls (.inr (.inr x) :: st) h Q := pw_aload (show decode (pm_b 23) 34 = .ok (.aload 4, 2) by decide +kernel)
theorem ux_23_36 : pm_w d 23 36 ls st h Q ↔ pm_q st fun x s => (x = none → pm_w d 23 39 ls (.inl 0 :: s) h Q) ∧ (∀ a, x = some a → ∃ t n, h.2.2[a]? = some (t, n) ∧ t ∈ [0, 2, 6, 9, 10] ∧ pm_w d 23 39 ls (.inl (if pm_cn t = "LoomShed$Split" then 1 else 0) :: s) h Q) := pw_instanceof (show decode (pm_b 23) 36 = .ok (.instanceof 90, 3) by decide +kernel) cx_11_90 (by decide)
theorem ux_23_39 : pm_w d 23 39 ls st h Q ↔ pm_i st fun x s => ((x = 0) → pm_w d 23 85 ls s h Q) ∧ (¬ (x = 0) → pm_w d 23 42 ls s h Q) := pw_if_eq (show decode (pm_b 23) 39 = .ok (.ifCond .eq 46, 3) by decide +kernel) (by decide)
theorem ux_23_42 : pm_w d 23 42 ls st h Q ↔ pm_lq ls 4 fun x => pm_w d 23 44 ls (.inr (.inr x) :: st) h Q := pw_aload (show decode (pm_b 23) 42 = .ok (.aload 4, 2) by decide +kernel)
theorem ux_23_44 : pm_w d 23 44 ls st h Q ↔ pm_r st fun a s => ∃ t n, h.2.2[a]? = some (t, n) ∧ (t < 13 ∧ pm_cn t = "LoomShed$Split") ∧ pm_w d 23 47 ls (.inr (.inr (some a)) :: s) h Q := pw_checkcast (show decode (pm_b 23) 44 = .ok (.checkcast 90, 3) by decide +kernel) cx_11_90
theorem ux_23_47 : pm_w d 23 47 ls st h Q ↔ pm_q st fun x s => pm_w d 23 48 (pm_s1 ls 3 (.inr (.inr x))) s h Q := pw_astore_n (show decode (pm_b 23) 47 = .ok (.astore_n 3, 1) by decide +kernel) (by decide)
theorem ux_23_48 : pm_w d 23 48 ls st h Q ↔ pm_lq ls 0 fun x => pm_w d 23 49 ls (.inr (.inr x) :: st) h Q := pw_aload_n (show decode (pm_b 23) 48 = .ok (.aload_n 0, 1) by decide +kernel)
theorem ux_23_49 : pm_w d 23 49 ls st h Q ↔ pm_r (st.drop 0) fun a s => (0 ≤ st.length ∧ pm_wt s ≤ 8 ∧ pm_tg h a 11) ∧ pm_ok d 8 (.inr (.inr (some a)) :: (st.take 0).reverse) h fun r h1 => pm_w d 23 52 ls (pm_pu r s) h1 Q := pw_virt (show decode (pm_b 23) 49 = .ok (.invokevirtual 61, 3) by decide +kernel) mx_11_61
theorem ux_23_52 : pm_w d 23 52 ls st h Q ↔ pm_lq ls 0 fun x => pm_w d 23 53 ls (.inr (.inr x) :: st) h Q := pw_aload_n (show decode (pm_b 23) 52 = .ok (.aload_n 0, 1) by decide +kernel)
theorem ux_23_53 : pm_w d 23 53 ls st h Q ↔ pm_r st fun a s => pm_tgs h a [11] ∧ pm_w d 23 56 ls (.inr (.inr (h.2.1 a 0)) :: s) h Q := pw_get (show decode (pm_b 23) 53 = .ok (.getfield 12, 3) by decide +kernel) fx_11_12
theorem ux_23_56 : pm_w d 23 56 ls st h Q ↔ pm_li ls 1 fun x => pm_w d 23 57 ls (.inl x :: st) h Q := pw_iload_n (show decode (pm_b 23) 56 = .ok (.iload_n 1, 1) by decide +kernel)
theorem ux_23_57 : pm_w d 23 57 ls st h Q ↔ pm_w d 23 60 ls (.inr (.inr (some h.2.2.length)) :: st) (pm_nw h 9 4) Q := pw_new (t := 9) (show decode (pm_b 23) 57 = .ok (.new 90, 3) by decide +kernel) cx_11_90 (by decide +kernel)
theorem ux_23_60 : pm_w d 23 60 ls st h Q ↔ pm_q st fun x s => pm_w d 23 61 ls (.inr (.inr x) :: .inr (.inr x) :: s) h Q := pw_dup (show decode (pm_b 23) 60 = .ok (.dup, 1) by decide +kernel)
theorem ux_23_61 : pm_w d 23 61 ls st h Q ↔ pm_lq ls 3 fun x => pm_w d 23 62 ls (.inr (.inr x) :: st) h Q := pw_aload_n (show decode (pm_b 23) 61 = .ok (.aload_n 3, 1) by decide +kernel)
theorem ux_23_62 : pm_w d 23 62 ls st h Q ↔ pm_r st fun a s => pm_tgs h a [9] ∧ pm_w d 23 65 ls (.inl (h.1 a 0) :: s) h Q := pw_get (show decode (pm_b 23) 62 = .ok (.getfield 92, 3) by decide +kernel) fx_11_92
theorem ux_23_65 : pm_w d 23 65 ls st h Q ↔ pm_lq ls 3 fun x => pm_w d 23 66 ls (.inr (.inr x) :: st) h Q := pw_aload_n (show decode (pm_b 23) 65 = .ok (.aload_n 3, 1) by decide +kernel)
theorem ux_23_66 : pm_w d 23 66 ls st h Q ↔ pm_r st fun a s => pm_tgs h a [9] ∧ pm_w d 23 69 ls (.inl (h.1 a 1) :: s) h Q := pw_get (show decode (pm_b 23) 66 = .ok (.getfield 95, 3) by decide +kernel) fx_11_95
theorem ux_23_69 : pm_w d 23 69 ls st h Q ↔ pm_lq ls 3 fun x => pm_w d 23 70 ls (.inr (.inr x) :: st) h Q := pw_aload_n (show decode (pm_b 23) 69 = .ok (.aload_n 3, 1) by decide +kernel)
theorem ux_23_70 : pm_w d 23 70 ls st h Q ↔ pm_r st fun a s => pm_tgs h a [9] ∧ pm_w d 23 73 ls (.inl (h.1 a 2) :: s) h Q := pw_get (show decode (pm_b 23) 70 = .ok (.getfield 98, 3) by decide +kernel) fx_11_98
theorem ux_23_73 : pm_w d 23 73 ls st h Q ↔ pm_li ls 2 fun x => pm_w d 23 74 ls (.inl x :: st) h Q := pw_iload_n (show decode (pm_b 23) 73 = .ok (.iload_n 2, 1) by decide +kernel)
theorem ux_23_74 : pm_w d 23 74 ls st h Q ↔ pm_r (st.drop 4) fun a s => (4 ≤ st.length ∧ pm_wt s ≤ 8) ∧ pm_ok d 20 (.inr (.inr (some a)) :: (st.take 4).reverse) h fun r h1 => pm_w d 23 77 ls (pm_pu r s) h1 Q := pw_special (show decode (pm_b 23) 74 = .ok (.invokespecial 101, 3) by decide +kernel) mx_11_101
theorem ux_23_77 : pm_w d 23 77 ls st h Q ↔ pm_r (st.drop 2) fun a s => (2 ≤ st.length ∧ pm_wt s ≤ 8 ∧ pm_tg h a 8) ∧ pm_ok d 26 (.inr (.inr (some a)) :: (st.take 2).reverse) h fun r h1 => pm_w d 23 80 ls (pm_pu r s) h1 Q := pw_virt (show decode (pm_b 23) 77 = .ok (.invokevirtual 104, 3) by decide +kernel) mx_11_104
theorem ux_23_80 : pm_w d 23 80 ls st h Q ↔ pm_lq ls 3 fun x => pm_w d 23 81 ls (.inr (.inr x) :: st) h Q := pw_aload_n (show decode (pm_b 23) 80 = .ok (.aload_n 3, 1) by decide +kernel)
theorem ux_23_81 : pm_w d 23 81 ls st h Q ↔ pm_r st fun a s => pm_tgs h a [9] ∧ pm_w d 23 84 ls (.inl (h.1 a 3) :: s) h Q := pw_get (show decode (pm_b 23) 81 = .ok (.getfield 108, 3) by decide +kernel) fx_11_108
theorem ux_23_84 : pm_w d 23 84 ls st h Q ↔ pm_i st fun x s => s = [] ∧ Q (some (.inl x)) h := pw_ireturn (show decode (pm_b 23) 84 = .ok (.ireturn, 1) by decide +kernel) rfl
theorem ux_23_85 : pm_w d 23 85 ls st h Q ↔ pm_w d 23 87 ls (.inl (-13) :: st) h Q := pw_bipush (show decode (pm_b 23) 85 = .ok (.bipush (-13), 2) by decide +kernel) (by decide)
theorem ux_23_87 : pm_w d 23 87 ls st h Q ↔ pm_i st fun x s => s = [] ∧ Q (some (.inl x)) h := pw_ireturn (show decode (pm_b 23) 87 = .ok (.ireturn, 1) by decide +kernel) rfl
-- 24: LShed.has
theorem ux_24_0 : pm_w d 24 0 ls st h Q ↔ pm_lq ls 0 fun x => pm_w d 24 1 ls (.inr (.inr x) :: st) h Q := pw_aload_n (show decode (pm_b 24) 0 = .ok (.aload_n 0, 1) by decide +kernel)
theorem ux_24_1 : pm_w d 24 1 ls st h Q ↔ pm_li ls 1 fun x => pm_w d 24 2 ls (.inl x :: st) h Q := pw_iload_n (show decode (pm_b 24) 1 = .ok (.iload_n 1, 1) by decide +kernel)
theorem ux_24_2 : pm_w d 24 2 ls st h Q ↔ pm_r (st.drop 1) fun a s => (1 ≤ st.length ∧ pm_wt s ≤ 8 ∧ pm_tg h a 8) ∧ pm_ok d 25 (.inr (.inr (some a)) :: (st.take 1).reverse) h fun r h1 => pm_w d 24 5 ls (pm_pu r s) h1 Q := pw_virt (show decode (pm_b 24) 2 = .ok (.invokevirtual 24, 3) by decide +kernel) mx_8_24
theorem ux_24_5 : pm_w d 24 5 ls st h Q ↔ pm_q st fun x s => (x = none → pm_w d 24 12 ls s h Q) ∧ (¬ (x = none) → pm_w d 24 8 ls s h Q) := pw_ifnull (show decode (pm_b 24) 5 = .ok (.ifnull 7, 3) by decide +kernel) (by decide)
theorem ux_24_8 : pm_w d 24 8 ls st h Q ↔ pm_w d 24 9 ls (.inl 1 :: st) h Q := pw_iconst (show decode (pm_b 24) 8 = .ok (.iconst 1, 1) by decide +kernel) (by unfold pm_I32; decide)
theorem ux_24_9 : pm_w d 24 9 ls st h Q ↔ pm_w d 24 13 ls st h Q := pw_goto (show decode (pm_b 24) 9 = .ok (.goto 4, 3) by decide +kernel) (by decide)
theorem ux_24_12 : pm_w d 24 12 ls st h Q ↔ pm_w d 24 13 ls (.inl 0 :: st) h Q := pw_iconst (show decode (pm_b 24) 12 = .ok (.iconst 0, 1) by decide +kernel) (by unfold pm_I32; decide)
theorem ux_24_13 : pm_w d 24 13 ls st h Q ↔ pm_i st fun x s => (s = [] ∧ (x = 0 ∨ x = 1)) ∧ Q (some (.inl x)) h := pw_zreturn (show decode (pm_b 24) 13 = .ok (.ireturn, 1) by decide +kernel) rfl
-- 25: LShed.pieceAt
theorem ux_25_0 : pm_w d 25 0 ls st h Q ↔ pm_li ls 1 fun x => pm_w d 25 1 ls (.inl x :: st) h Q := pw_iload_n (show decode (pm_b 25) 0 = .ok (.iload_n 1, 1) by decide +kernel)
theorem ux_25_1 : pm_w d 25 1 ls st h Q ↔ pm_i st fun x s => ((x < 0) → pm_w d 25 27 ls s h Q) ∧ (¬ (x < 0) → pm_w d 25 4 ls s h Q) := pw_if_lt (show decode (pm_b 25) 1 = .ok (.ifCond .lt 26, 3) by decide +kernel) (by decide)
theorem ux_25_4 : pm_w d 25 4 ls st h Q ↔ pm_li ls 1 fun x => pm_w d 25 5 ls (.inl x :: st) h Q := pw_iload_n (show decode (pm_b 25) 4 = .ok (.iload_n 1, 1) by decide +kernel)
theorem ux_25_5 : pm_w d 25 5 ls st h Q ↔ pm_lq ls 0 fun x => pm_w d 25 6 ls (.inr (.inr x) :: st) h Q := pw_aload_n (show decode (pm_b 25) 5 = .ok (.aload_n 0, 1) by decide +kernel)
theorem ux_25_6 : pm_w d 25 6 ls st h Q ↔ pm_r st fun a s => pm_tgs h a [8] ∧ pm_w d 25 9 ls (.inl (h.1 a 2) :: s) h Q := pw_get (show decode (pm_b 25) 6 = .ok (.getfield 28, 3) by decide +kernel) fx_8_28
theorem ux_25_9 : pm_w d 25 9 ls st h Q ↔ pm_i st fun y s => pm_i s fun x s => ((y ≤ x) → pm_w d 25 27 ls s h Q) ∧ (¬ (y ≤ x) → pm_w d 25 12 ls s h Q) := pw_ic_ge (show decode (pm_b 25) 9 = .ok (.if_icmp .ge 18, 3) by decide +kernel) (by decide)
theorem ux_25_12 : pm_w d 25 12 ls st h Q ↔ pm_li ls 1 fun x => pm_w d 25 13 ls (.inl x :: st) h Q := pw_iload_n (show decode (pm_b 25) 12 = .ok (.iload_n 1, 1) by decide +kernel)
theorem ux_25_13 : pm_w d 25 13 ls st h Q ↔ pm_w d 25 15 ls (.inl 12 :: st) h Q := pw_bipush (show decode (pm_b 25) 13 = .ok (.bipush 12, 2) by decide +kernel) (by decide)
theorem ux_25_15 : pm_w d 25 15 ls st h Q ↔ pm_i st fun y s => pm_i s fun x s => ((y ≤ x) → pm_w d 25 27 ls s h Q) ∧ (¬ (y ≤ x) → pm_w d 25 18 ls s h Q) := pw_ic_ge (show decode (pm_b 25) 15 = .ok (.if_icmp .ge 12, 3) by decide +kernel) (by decide)
theorem ux_25_18 : pm_w d 25 18 ls st h Q ↔ pm_lq ls 0 fun x => pm_w d 25 19 ls (.inr (.inr x) :: st) h Q := pw_aload_n (show decode (pm_b 25) 18 = .ok (.aload_n 0, 1) by decide +kernel)
theorem ux_25_19 : pm_w d 25 19 ls st h Q ↔ pm_r st fun a s => pm_tgs h a [8] ∧ pm_w d 25 22 ls (.inr (.inr (h.2.1 a 3)) :: s) h Q := pw_get (show decode (pm_b 25) 19 = .ok (.getfield 20, 3) by decide +kernel) fx_8_20
theorem ux_25_22 : pm_w d 25 22 ls st h Q ↔ pm_li ls 1 fun x => pm_w d 25 23 ls (.inl x :: st) h Q := pw_iload_n (show decode (pm_b 25) 22 = .ok (.iload_n 1, 1) by decide +kernel)
theorem ux_25_23 : pm_w d 25 23 ls st h Q ↔ pm_i st fun x s => pm_r s fun a s => (pm_inb h a 23 x ∨ pm_inb h a 24 x ∨ pm_inb h a 25 x) ∧ pm_w d 25 24 ls (.inr (.inr (h.2.1 a x.toNat)) :: s) h Q := pw_aaload (show decode (pm_b 25) 23 = .ok (.aaload, 1) by decide +kernel)
theorem ux_25_24 : pm_w d 25 24 ls st h Q ↔ pm_w d 25 28 ls st h Q := pw_goto (show decode (pm_b 25) 24 = .ok (.goto 4, 3) by decide +kernel) (by decide)
theorem ux_25_27 : pm_w d 25 27 ls st h Q ↔ pm_w d 25 28 ls (.inr (.inr none) :: st) h Q := pw_aconst_null (show decode (pm_b 25) 27 = .ok (.aconst_null, 1) by decide +kernel)
theorem ux_25_28 : pm_w d 25 28 ls st h Q ↔ pm_q st fun x s => s = [] ∧ Q (some (.inr (.inr x))) h := pw_areturn (show decode (pm_b 25) 28 = .ok (.areturn, 1) by decide +kernel) rfl
-- 26: LShed.put
theorem ux_26_0 : pm_w d 26 0 ls st h Q ↔ pm_lq ls 0 fun x => pm_w d 26 1 ls (.inr (.inr x) :: st) h Q := pw_aload_n (show decode (pm_b 26) 0 = .ok (.aload_n 0, 1) by decide +kernel)
theorem ux_26_1 : pm_w d 26 1 ls st h Q ↔ pm_li ls 1 fun x => pm_w d 26 2 ls (.inl x :: st) h Q := pw_iload_n (show decode (pm_b 26) 1 = .ok (.iload_n 1, 1) by decide +kernel)
theorem ux_26_2 : pm_w d 26 2 ls st h Q ↔ pm_r (st.drop 1) fun a s => (1 ≤ st.length ∧ pm_wt s ≤ 8 ∧ pm_tg h a 8) ∧ pm_ok d 24 (.inr (.inr (some a)) :: (st.take 1).reverse) h fun r h1 => pm_w d 26 5 ls (pm_pu r s) h1 Q := pw_virt (show decode (pm_b 26) 2 = .ok (.invokevirtual 31, 3) by decide +kernel) mx_8_31
theorem ux_26_5 : pm_w d 26 5 ls st h Q ↔ pm_i st fun x s => ((x = 0) → pm_w d 26 15 ls s h Q) ∧ (¬ (x = 0) → pm_w d 26 8 ls s h Q) := pw_if_eq (show decode (pm_b 26) 5 = .ok (.ifCond .eq 10, 3) by decide +kernel) (by decide)
theorem ux_26_8 : pm_w d 26 8 ls st h Q ↔ pm_lq ls 0 fun x => pm_w d 26 9 ls (.inr (.inr x) :: st) h Q := pw_aload_n (show decode (pm_b 26) 8 = .ok (.aload_n 0, 1) by decide +kernel)
theorem ux_26_9 : pm_w d 26 9 ls st h Q ↔ pm_r st fun a s => pm_tgs h a [8] ∧ pm_w d 26 12 ls (.inr (.inr (h.2.1 a 3)) :: s) h Q := pw_get (show decode (pm_b 26) 9 = .ok (.getfield 20, 3) by decide +kernel) fx_8_20
theorem ux_26_12 : pm_w d 26 12 ls st h Q ↔ pm_li ls 1 fun x => pm_w d 26 13 ls (.inl x :: st) h Q := pw_iload_n (show decode (pm_b 26) 12 = .ok (.iload_n 1, 1) by decide +kernel)
theorem ux_26_13 : pm_w d 26 13 ls st h Q ↔ pm_lq ls 2 fun x => pm_w d 26 14 ls (.inr (.inr x) :: st) h Q := pw_aload_n (show decode (pm_b 26) 13 = .ok (.aload_n 2, 1) by decide +kernel)
theorem ux_26_14 : pm_w d 26 14 ls st h Q ↔ pm_q st fun v s => pm_i s fun x s => pm_r s fun a s => ((pm_inb h a 24 x ∧ ∀ q, v = some q → pm_tgs h q [0, 2, 6, 9, 10]) ∨ (pm_inb h a 25 x ∧ ∀ q, v = some q → pm_tgs h q [8])) ∧ pm_w d 26 15 ls s (pm_wR h a x.toNat v) Q := pw_aastore (show decode (pm_b 26) 14 = .ok (.aastore, 1) by decide +kernel)
theorem ux_26_15 : pm_w d 26 15 ls st h Q ↔ st = [] ∧ Q none h := pw_return (show decode (pm_b 26) 15 = .ok (.return_, 1) by decide +kernel) rfl
-- 27: L.bar
theorem ux_27_0 : pm_w d 27 0 ls st h Q ↔ pm_lq ls 0 fun x => pm_w d 27 1 ls (.inr (.inr x) :: st) h Q := pw_aload_n (show decode (pm_b 27) 0 = .ok (.aload_n 0, 1) by decide +kernel)
theorem ux_27_1 : pm_w d 27 1 ls st h Q ↔ pm_r st fun a s => pm_tgs h a [11] ∧ pm_w d 27 4 ls (.inr (.inr (h.2.1 a 0)) :: s) h Q := pw_get (show decode (pm_b 27) 1 = .ok (.getfield 12, 3) by decide +kernel) fx_11_12
theorem ux_27_4 : pm_w d 27 4 ls st h Q ↔ pm_li ls 1 fun x => pm_w d 27 5 ls (.inl x :: st) h Q := pw_iload_n (show decode (pm_b 27) 4 = .ok (.iload_n 1, 1) by decide +kernel)
theorem ux_27_5 : pm_w d 27 5 ls st h Q ↔ pm_r (st.drop 1) fun a s => (1 ≤ st.length ∧ pm_wt s ≤ 8 ∧ pm_tg h a 8) ∧ pm_ok d 24 (.inr (.inr (some a)) :: (st.take 1).reverse) h fun r h1 => pm_w d 27 8 ls (pm_pu r s) h1 Q := pw_virt (show decode (pm_b 27) 5 = .ok (.invokevirtual 82, 3) by decide +kernel) mx_11_82
theorem ux_27_8 : pm_w d 27 8 ls st h Q ↔ pm_i st fun x s => ((x = 0) → pm_w d 27 19 ls s h Q) ∧ (¬ (x = 0) → pm_w d 27 11 ls s h Q) := pw_if_eq (show decode (pm_b 27) 8 = .ok (.ifCond .eq 11, 3) by decide +kernel) (by decide)
theorem ux_27_11 : pm_w d 27 11 ls st h Q ↔ pm_li ls 2 fun x => pm_w d 27 12 ls (.inl x :: st) h Q := pw_iload_n (show decode (pm_b 27) 11 = .ok (.iload_n 2, 1) by decide +kernel)
theorem ux_27_12 : pm_w d 27 12 ls st h Q ↔ pm_li ls 3 fun x => pm_w d 27 13 ls (.inl x :: st) h Q := pw_iload_n (show decode (pm_b 27) 12 = .ok (.iload_n 3, 1) by decide +kernel)
theorem ux_27_13 : pm_w d 27 13 ls st h Q ↔ (2 ≤ st.length ∧ pm_wt (st.drop 2) ≤ 8) ∧ pm_ok d 15 (st.take 2).reverse h fun r h1 => pm_w d 27 16 ls (pm_pu r (st.drop 2)) h1 Q := pw_static (show decode (pm_b 27) 13 = .ok (.invokestatic 111, 3) by decide +kernel) mx_11_111
theorem ux_27_16 : pm_w d 27 16 ls st h Q ↔ pm_i st fun x s => ((x ≠ 0) → pm_w d 27 21 ls s h Q) ∧ (¬ (x ≠ 0) → pm_w d 27 19 ls s h Q) := pw_if_ne (show decode (pm_b 27) 16 = .ok (.ifCond .ne 5, 3) by decide +kernel) (by decide)
theorem ux_27_19 : pm_w d 27 19 ls st h Q ↔ pm_w d 27 20 ls (.inl (-1) :: st) h Q := pw_iconst (show decode (pm_b 27) 19 = .ok (.iconst (-1), 1) by decide +kernel) (by unfold pm_I32; decide)
theorem ux_27_20 : pm_w d 27 20 ls st h Q ↔ pm_i st fun x s => s = [] ∧ Q (some (.inl x)) h := pw_ireturn (show decode (pm_b 27) 20 = .ok (.ireturn, 1) by decide +kernel) rfl
theorem ux_27_21 : pm_w d 27 21 ls st h Q ↔ pm_lq ls 0 fun x => pm_w d 27 22 ls (.inr (.inr x) :: st) h Q := pw_aload_n (show decode (pm_b 27) 21 = .ok (.aload_n 0, 1) by decide +kernel)
theorem ux_27_22 : pm_w d 27 22 ls st h Q ↔ pm_r st fun a s => pm_tgs h a [11] ∧ pm_w d 27 25 ls (.inr (.inr (h.2.1 a 0)) :: s) h Q := pw_get (show decode (pm_b 27) 22 = .ok (.getfield 12, 3) by decide +kernel) fx_11_12
theorem ux_27_25 : pm_w d 27 25 ls st h Q ↔ pm_li ls 1 fun x => pm_w d 27 26 ls (.inl x :: st) h Q := pw_iload_n (show decode (pm_b 27) 25 = .ok (.iload_n 1, 1) by decide +kernel)
theorem ux_27_26 : pm_w d 27 26 ls st h Q ↔ pm_r (st.drop 1) fun a s => (1 ≤ st.length ∧ pm_wt s ≤ 8 ∧ pm_tg h a 8) ∧ pm_ok d 25 (.inr (.inr (some a)) :: (st.take 1).reverse) h fun r h1 => pm_w d 27 29 ls (pm_pu r s) h1 Q := pw_virt (show decode (pm_b 27) 26 = .ok (.invokevirtual 86, 3) by decide +kernel) mx_11_86
theorem ux_27_29 : pm_w d 27 29 ls st h Q ↔ pm_q st fun x s => pm_w d 27 31 (pm_s1 ls 5 (.inr (.inr x))) s h Q := pw_astore (show decode (pm_b 27) 29 = .ok (.astore 5, 2) by decide +kernel) (by decide)
theorem ux_27_31 : pm_w d 27 31 ls st h Q ↔ pm_lq ls 5 fun x => pm_w d 27 33 ls (.inr (.inr x) :: st) h Q := pw_aload (show decode (pm_b 27) 31 = .ok (.aload 5, 2) by decide +kernel)
theorem ux_27_33 : pm_w d 27 33 ls st h Q ↔ pm_q st fun x s => (x = none → pm_w d 27 36 ls (.inl 0 :: s) h Q) ∧ (∀ a, x = some a → ∃ t n, h.2.2[a]? = some (t, n) ∧ t ∈ [0, 2, 6, 9, 10] ∧ pm_w d 27 36 ls (.inl (if pm_cn t = "LoomShed$Barred" then 1 else 0) :: s) h Q) := pw_instanceof (show decode (pm_b 27) 33 = .ok (.instanceof 115, 3) by decide +kernel) cx_11_115 (by decide)
theorem ux_27_36 : pm_w d 27 36 ls st h Q ↔ pm_i st fun x s => ((x = 0) → pm_w d 27 84 ls s h Q) ∧ (¬ (x = 0) → pm_w d 27 39 ls s h Q) := pw_if_eq (show decode (pm_b 27) 36 = .ok (.ifCond .eq 48, 3) by decide +kernel) (by decide)
theorem ux_27_39 : pm_w d 27 39 ls st h Q ↔ pm_lq ls 5 fun x => pm_w d 27 41 ls (.inr (.inr x) :: st) h Q := pw_aload (show decode (pm_b 27) 39 = .ok (.aload 5, 2) by decide +kernel)
theorem ux_27_41 : pm_w d 27 41 ls st h Q ↔ pm_r st fun a s => ∃ t n, h.2.2[a]? = some (t, n) ∧ (t < 13 ∧ pm_cn t = "LoomShed$Barred") ∧ pm_w d 27 44 ls (.inr (.inr (some a)) :: s) h Q := pw_checkcast (show decode (pm_b 27) 41 = .ok (.checkcast 115, 3) by decide +kernel) cx_11_115
theorem ux_27_44 : pm_w d 27 44 ls st h Q ↔ pm_q st fun x s => pm_w d 27 46 (pm_s1 ls 4 (.inr (.inr x))) s h Q := pw_astore (show decode (pm_b 27) 44 = .ok (.astore 4, 2) by decide +kernel) (by decide)
theorem ux_27_46 : pm_w d 27 46 ls st h Q ↔ pm_lq ls 0 fun x => pm_w d 27 47 ls (.inr (.inr x) :: st) h Q := pw_aload_n (show decode (pm_b 27) 46 = .ok (.aload_n 0, 1) by decide +kernel)
theorem ux_27_47 : pm_w d 27 47 ls st h Q ↔ pm_r (st.drop 0) fun a s => (0 ≤ st.length ∧ pm_wt s ≤ 8 ∧ pm_tg h a 11) ∧ pm_ok d 8 (.inr (.inr (some a)) :: (st.take 0).reverse) h fun r h1 => pm_w d 27 50 ls (pm_pu r s) h1 Q := pw_virt (show decode (pm_b 27) 47 = .ok (.invokevirtual 61, 3) by decide +kernel) mx_11_61
theorem ux_27_50 : pm_w d 27 50 ls st h Q ↔ pm_lq ls 0 fun x => pm_w d 27 51 ls (.inr (.inr x) :: st) h Q := pw_aload_n (show decode (pm_b 27) 50 = .ok (.aload_n 0, 1) by decide +kernel)
theorem ux_27_51 : pm_w d 27 51 ls st h Q ↔ pm_r st fun a s => pm_tgs h a [11] ∧ pm_w d 27 54 ls (.inr (.inr (h.2.1 a 0)) :: s) h Q := pw_get (show decode (pm_b 27) 51 = .ok (.getfield 12, 3) by decide +kernel) fx_11_12
theorem ux_27_54 : pm_w d 27 54 ls st h Q ↔ pm_li ls 1 fun x => pm_w d 27 55 ls (.inl x :: st) h Q := pw_iload_n (show decode (pm_b 27) 54 = .ok (.iload_n 1, 1) by decide +kernel)
theorem ux_27_55 : pm_w d 27 55 ls st h Q ↔ pm_w d 27 58 ls (.inr (.inr (some h.2.2.length)) :: st) (pm_nw h 0 5) Q := pw_new (t := 0) (show decode (pm_b 27) 55 = .ok (.new 115, 3) by decide +kernel) cx_11_115 (by decide +kernel)
theorem ux_27_58 : pm_w d 27 58 ls st h Q ↔ pm_q st fun x s => pm_w d 27 59 ls (.inr (.inr x) :: .inr (.inr x) :: s) h Q := pw_dup (show decode (pm_b 27) 58 = .ok (.dup, 1) by decide +kernel)
theorem ux_27_59 : pm_w d 27 59 ls st h Q ↔ pm_lq ls 4 fun x => pm_w d 27 61 ls (.inr (.inr x) :: st) h Q := pw_aload (show decode (pm_b 27) 59 = .ok (.aload 4, 2) by decide +kernel)
theorem ux_27_61 : pm_w d 27 61 ls st h Q ↔ pm_r st fun a s => pm_tgs h a [0] ∧ pm_w d 27 64 ls (.inl (h.1 a 0) :: s) h Q := pw_get (show decode (pm_b 27) 61 = .ok (.getfield 117, 3) by decide +kernel) fx_11_117
theorem ux_27_64 : pm_w d 27 64 ls st h Q ↔ pm_lq ls 4 fun x => pm_w d 27 66 ls (.inr (.inr x) :: st) h Q := pw_aload (show decode (pm_b 27) 64 = .ok (.aload 4, 2) by decide +kernel)
theorem ux_27_66 : pm_w d 27 66 ls st h Q ↔ pm_r st fun a s => pm_tgs h a [0] ∧ pm_w d 27 69 ls (.inl (h.1 a 1) :: s) h Q := pw_get (show decode (pm_b 27) 66 = .ok (.getfield 118, 3) by decide +kernel) fx_11_118
theorem ux_27_69 : pm_w d 27 69 ls st h Q ↔ pm_lq ls 4 fun x => pm_w d 27 71 ls (.inr (.inr x) :: st) h Q := pw_aload (show decode (pm_b 27) 69 = .ok (.aload 4, 2) by decide +kernel)
theorem ux_27_71 : pm_w d 27 71 ls st h Q ↔ pm_r st fun a s => pm_tgs h a [0] ∧ pm_w d 27 74 ls (.inl (h.1 a 2) :: s) h Q := pw_get (show decode (pm_b 27) 71 = .ok (.getfield 119, 3) by decide +kernel) fx_11_119
theorem ux_27_74 : pm_w d 27 74 ls st h Q ↔ pm_li ls 2 fun x => pm_w d 27 75 ls (.inl x :: st) h Q := pw_iload_n (show decode (pm_b 27) 74 = .ok (.iload_n 2, 1) by decide +kernel)
theorem ux_27_75 : pm_w d 27 75 ls st h Q ↔ pm_li ls 3 fun x => pm_w d 27 76 ls (.inl x :: st) h Q := pw_iload_n (show decode (pm_b 27) 75 = .ok (.iload_n 3, 1) by decide +kernel)
theorem ux_27_76 : pm_w d 27 76 ls st h Q ↔ pm_r (st.drop 5) fun a s => (5 ≤ st.length ∧ pm_wt s ≤ 8) ∧ pm_ok d 21 (.inr (.inr (some a)) :: (st.take 5).reverse) h fun r h1 => pm_w d 27 79 ls (pm_pu r s) h1 Q := pw_special (show decode (pm_b 27) 76 = .ok (.invokespecial 120, 3) by decide +kernel) mx_11_120
theorem ux_27_79 : pm_w d 27 79 ls st h Q ↔ pm_r (st.drop 2) fun a s => (2 ≤ st.length ∧ pm_wt s ≤ 8 ∧ pm_tg h a 8) ∧ pm_ok d 26 (.inr (.inr (some a)) :: (st.take 2).reverse) h fun r h1 => pm_w d 27 82 ls (pm_pu r s) h1 Q := pw_virt (show decode (pm_b 27) 79 = .ok (.invokevirtual 104, 3) by decide +kernel) mx_11_104
theorem ux_27_82 : pm_w d 27 82 ls st h Q ↔ pm_w d 27 83 ls (.inl 1 :: st) h Q := pw_iconst (show decode (pm_b 27) 82 = .ok (.iconst 1, 1) by decide +kernel) (by unfold pm_I32; decide)
theorem ux_27_83 : pm_w d 27 83 ls st h Q ↔ pm_i st fun x s => s = [] ∧ Q (some (.inl x)) h := pw_ireturn (show decode (pm_b 27) 83 = .ok (.ireturn, 1) by decide +kernel) rfl
theorem ux_27_84 : pm_w d 27 84 ls st h Q ↔ pm_w d 27 86 ls (.inl (-13) :: st) h Q := pw_bipush (show decode (pm_b 27) 84 = .ok (.bipush (-13), 2) by decide +kernel) (by decide)
theorem ux_27_86 : pm_w d 27 86 ls st h Q ↔ pm_i st fun x s => s = [] ∧ Q (some (.inl x)) h := pw_ireturn (show decode (pm_b 27) 86 = .ok (.ireturn, 1) by decide +kernel) rfl
-- 28: L.drop
theorem ux_28_0 : pm_w d 28 0 ls st h Q ↔ pm_lq ls 0 fun x => pm_w d 28 1 ls (.inr (.inr x) :: st) h Q := pw_aload_n (show decode (pm_b 28) 0 = .ok (.aload_n 0, 1) by decide +kernel)
theorem ux_28_1 : pm_w d 28 1 ls st h Q ↔ pm_r st fun a s => pm_tgs h a [11] ∧ pm_w d 28 4 ls (.inr (.inr (h.2.1 a 0)) :: s) h Q := pw_get (show decode (pm_b 28) 1 = .ok (.getfield 12, 3) by decide +kernel) fx_11_12
theorem ux_28_4 : pm_w d 28 4 ls st h Q ↔ pm_li ls 1 fun x => pm_w d 28 5 ls (.inl x :: st) h Q := pw_iload_n (show decode (pm_b 28) 4 = .ok (.iload_n 1, 1) by decide +kernel)
theorem ux_28_5 : pm_w d 28 5 ls st h Q ↔ pm_r (st.drop 1) fun a s => (1 ≤ st.length ∧ pm_wt s ≤ 8 ∧ pm_tg h a 8) ∧ pm_ok d 24 (.inr (.inr (some a)) :: (st.take 1).reverse) h fun r h1 => pm_w d 28 8 ls (pm_pu r s) h1 Q := pw_virt (show decode (pm_b 28) 5 = .ok (.invokevirtual 82, 3) by decide +kernel) mx_11_82
theorem ux_28_8 : pm_w d 28 8 ls st h Q ↔ pm_i st fun x s => ((x ≠ 0) → pm_w d 28 13 ls s h Q) ∧ (¬ (x ≠ 0) → pm_w d 28 11 ls s h Q) := pw_if_ne (show decode (pm_b 28) 8 = .ok (.ifCond .ne 5, 3) by decide +kernel) (by decide)
theorem ux_28_11 : pm_w d 28 11 ls st h Q ↔ pm_w d 28 12 ls (.inl (-1) :: st) h Q := pw_iconst (show decode (pm_b 28) 11 = .ok (.iconst (-1), 1) by decide +kernel) (by unfold pm_I32; decide)
theorem ux_28_12 : pm_w d 28 12 ls st h Q ↔ pm_i st fun x s => s = [] ∧ Q (some (.inl x)) h := pw_ireturn (show decode (pm_b 28) 12 = .ok (.ireturn, 1) by decide +kernel) rfl
theorem ux_28_13 : pm_w d 28 13 ls st h Q ↔ pm_lq ls 0 fun x => pm_w d 28 14 ls (.inr (.inr x) :: st) h Q := pw_aload_n (show decode (pm_b 28) 13 = .ok (.aload_n 0, 1) by decide +kernel)
theorem ux_28_14 : pm_w d 28 14 ls st h Q ↔ pm_r (st.drop 0) fun a s => (0 ≤ st.length ∧ pm_wt s ≤ 8 ∧ pm_tg h a 11) ∧ pm_ok d 8 (.inr (.inr (some a)) :: (st.take 0).reverse) h fun r h1 => pm_w d 28 17 ls (pm_pu r s) h1 Q := pw_virt (show decode (pm_b 28) 14 = .ok (.invokevirtual 61, 3) by decide +kernel) mx_11_61
theorem ux_28_17 : pm_w d 28 17 ls st h Q ↔ pm_lq ls 0 fun x => pm_w d 28 18 ls (.inr (.inr x) :: st) h Q := pw_aload_n (show decode (pm_b 28) 17 = .ok (.aload_n 0, 1) by decide +kernel)
theorem ux_28_18 : pm_w d 28 18 ls st h Q ↔ pm_r st fun a s => pm_tgs h a [11] ∧ pm_w d 28 21 ls (.inr (.inr (h.2.1 a 0)) :: s) h Q := pw_get (show decode (pm_b 28) 18 = .ok (.getfield 12, 3) by decide +kernel) fx_11_12
theorem ux_28_21 : pm_w d 28 21 ls st h Q ↔ pm_li ls 1 fun x => pm_w d 28 22 ls (.inl x :: st) h Q := pw_iload_n (show decode (pm_b 28) 21 = .ok (.iload_n 1, 1) by decide +kernel)
theorem ux_28_22 : pm_w d 28 22 ls st h Q ↔ pm_r (st.drop 1) fun a s => (1 ≤ st.length ∧ pm_wt s ≤ 8 ∧ pm_tg h a 8) ∧ pm_ok d 29 (.inr (.inr (some a)) :: (st.take 1).reverse) h fun r h1 => pm_w d 28 25 ls (pm_pu r s) h1 Q := pw_virt (show decode (pm_b 28) 22 = .ok (.invokevirtual 123, 3) by decide +kernel) mx_11_123
theorem ux_28_25 : pm_w d 28 25 ls st h Q ↔ pm_lq ls 0 fun x => pm_w d 28 26 ls (.inr (.inr x) :: st) h Q := pw_aload_n (show decode (pm_b 28) 25 = .ok (.aload_n 0, 1) by decide +kernel)
theorem ux_28_26 : pm_w d 28 26 ls st h Q ↔ pm_r st fun a s => pm_tgs h a [11] ∧ pm_w d 28 29 ls (.inr (.inr (h.2.1 a 0)) :: s) h Q := pw_get (show decode (pm_b 28) 26 = .ok (.getfield 12, 3) by decide +kernel) fx_11_12
theorem ux_28_29 : pm_w d 28 29 ls st h Q ↔ pm_r st fun a s => pm_tgs h a [8] ∧ pm_w d 28 32 ls (.inl (h.1 a 2) :: s) h Q := pw_get (show decode (pm_b 28) 29 = .ok (.getfield 71, 3) by decide +kernel) fx_11_71
theorem ux_28_32 : pm_w d 28 32 ls st h Q ↔ pm_i st fun x s => s = [] ∧ Q (some (.inl x)) h := pw_ireturn (show decode (pm_b 28) 32 = .ok (.ireturn, 1) by decide +kernel) rfl
-- 29: LShed.remove
theorem ux_29_0 : pm_w d 29 0 ls st h Q ↔ pm_lq ls 0 fun x => pm_w d 29 1 ls (.inr (.inr x) :: st) h Q := pw_aload_n (show decode (pm_b 29) 0 = .ok (.aload_n 0, 1) by decide +kernel)
theorem ux_29_1 : pm_w d 29 1 ls st h Q ↔ pm_li ls 1 fun x => pm_w d 29 2 ls (.inl x :: st) h Q := pw_iload_n (show decode (pm_b 29) 1 = .ok (.iload_n 1, 1) by decide +kernel)
theorem ux_29_2 : pm_w d 29 2 ls st h Q ↔ pm_r (st.drop 1) fun a s => (1 ≤ st.length ∧ pm_wt s ≤ 8 ∧ pm_tg h a 8) ∧ pm_ok d 24 (.inr (.inr (some a)) :: (st.take 1).reverse) h fun r h1 => pm_w d 29 5 ls (pm_pu r s) h1 Q := pw_virt (show decode (pm_b 29) 2 = .ok (.invokevirtual 31, 3) by decide +kernel) mx_8_31
theorem ux_29_5 : pm_w d 29 5 ls st h Q ↔ pm_i st fun x s => ((x ≠ 0) → pm_w d 29 9 ls s h Q) ∧ (¬ (x ≠ 0) → pm_w d 29 8 ls s h Q) := pw_if_ne (show decode (pm_b 29) 5 = .ok (.ifCond .ne 4, 3) by decide +kernel) (by decide)
theorem ux_29_8 : pm_w d 29 8 ls st h Q ↔ st = [] ∧ Q none h := pw_return (show decode (pm_b 29) 8 = .ok (.return_, 1) by decide +kernel) rfl
theorem ux_29_9 : pm_w d 29 9 ls st h Q ↔ pm_li ls 1 fun x => pm_w d 29 10 ls (.inl x :: st) h Q := pw_iload_n (show decode (pm_b 29) 9 = .ok (.iload_n 1, 1) by decide +kernel)
theorem ux_29_10 : pm_w d 29 10 ls st h Q ↔ pm_w d 29 11 ls (.inl 1 :: st) h Q := pw_iconst (show decode (pm_b 29) 10 = .ok (.iconst 1, 1) by decide +kernel) (by unfold pm_I32; decide)
theorem ux_29_11 : pm_w d 29 11 ls st h Q ↔ pm_i st fun y s => pm_i s fun x s => pm_I32 (x + y) ∧ pm_w d 29 12 ls (.inl (x + y) :: s) h Q := pw_iadd (show decode (pm_b 29) 11 = .ok (.iadd, 1) by decide +kernel)
theorem ux_29_12 : pm_w d 29 12 ls st h Q ↔ pm_i st fun x s => pm_w d 29 13 (pm_s1 ls 2 (.inl x)) s h Q := pw_istore_n (show decode (pm_b 29) 12 = .ok (.istore_n 2, 1) by decide +kernel) (by decide)
theorem ux_29_13 : pm_w d 29 13 ls st h Q ↔ pm_li ls 2 fun x => pm_w d 29 14 ls (.inl x :: st) h Q := pw_iload_n (show decode (pm_b 29) 13 = .ok (.iload_n 2, 1) by decide +kernel)
theorem ux_29_14 : pm_w d 29 14 ls st h Q ↔ pm_lq ls 0 fun x => pm_w d 29 15 ls (.inr (.inr x) :: st) h Q := pw_aload_n (show decode (pm_b 29) 14 = .ok (.aload_n 0, 1) by decide +kernel)
theorem ux_29_15 : pm_w d 29 15 ls st h Q ↔ pm_r st fun a s => pm_tgs h a [8] ∧ pm_w d 29 18 ls (.inl (h.1 a 2) :: s) h Q := pw_get (show decode (pm_b 29) 15 = .ok (.getfield 28, 3) by decide +kernel) fx_8_28
theorem ux_29_18 : pm_w d 29 18 ls st h Q ↔ pm_i st fun y s => pm_i s fun x s => ((y ≤ x) → pm_w d 29 41 ls s h Q) ∧ (¬ (y ≤ x) → pm_w d 29 21 ls s h Q) := pw_ic_ge (show decode (pm_b 29) 18 = .ok (.if_icmp .ge 23, 3) by decide +kernel) (by decide)
theorem ux_29_21 : pm_w d 29 21 ls st h Q ↔ pm_lq ls 0 fun x => pm_w d 29 22 ls (.inr (.inr x) :: st) h Q := pw_aload_n (show decode (pm_b 29) 21 = .ok (.aload_n 0, 1) by decide +kernel)
theorem ux_29_22 : pm_w d 29 22 ls st h Q ↔ pm_r st fun a s => pm_tgs h a [8] ∧ pm_w d 29 25 ls (.inr (.inr (h.2.1 a 3)) :: s) h Q := pw_get (show decode (pm_b 29) 22 = .ok (.getfield 20, 3) by decide +kernel) fx_8_20
theorem ux_29_25 : pm_w d 29 25 ls st h Q ↔ pm_li ls 2 fun x => pm_w d 29 26 ls (.inl x :: st) h Q := pw_iload_n (show decode (pm_b 29) 25 = .ok (.iload_n 2, 1) by decide +kernel)
theorem ux_29_26 : pm_w d 29 26 ls st h Q ↔ pm_w d 29 27 ls (.inl 1 :: st) h Q := pw_iconst (show decode (pm_b 29) 26 = .ok (.iconst 1, 1) by decide +kernel) (by unfold pm_I32; decide)
theorem ux_29_27 : pm_w d 29 27 ls st h Q ↔ pm_i st fun y s => pm_i s fun x s => pm_I32 (x - y) ∧ pm_w d 29 28 ls (.inl (x - y) :: s) h Q := pw_isub (show decode (pm_b 29) 27 = .ok (.isub, 1) by decide +kernel)
theorem ux_29_28 : pm_w d 29 28 ls st h Q ↔ pm_lq ls 0 fun x => pm_w d 29 29 ls (.inr (.inr x) :: st) h Q := pw_aload_n (show decode (pm_b 29) 28 = .ok (.aload_n 0, 1) by decide +kernel)
theorem ux_29_29 : pm_w d 29 29 ls st h Q ↔ pm_r st fun a s => pm_tgs h a [8] ∧ pm_w d 29 32 ls (.inr (.inr (h.2.1 a 3)) :: s) h Q := pw_get (show decode (pm_b 29) 29 = .ok (.getfield 20, 3) by decide +kernel) fx_8_20
theorem ux_29_32 : pm_w d 29 32 ls st h Q ↔ pm_li ls 2 fun x => pm_w d 29 33 ls (.inl x :: st) h Q := pw_iload_n (show decode (pm_b 29) 32 = .ok (.iload_n 2, 1) by decide +kernel)
theorem ux_29_33 : pm_w d 29 33 ls st h Q ↔ pm_i st fun x s => pm_r s fun a s => (pm_inb h a 23 x ∨ pm_inb h a 24 x ∨ pm_inb h a 25 x) ∧ pm_w d 29 34 ls (.inr (.inr (h.2.1 a x.toNat)) :: s) h Q := pw_aaload (show decode (pm_b 29) 33 = .ok (.aaload, 1) by decide +kernel)
theorem ux_29_34 : pm_w d 29 34 ls st h Q ↔ pm_q st fun v s => pm_i s fun x s => pm_r s fun a s => ((pm_inb h a 24 x ∧ ∀ q, v = some q → pm_tgs h q [0, 2, 6, 9, 10]) ∨ (pm_inb h a 25 x ∧ ∀ q, v = some q → pm_tgs h q [8])) ∧ pm_w d 29 35 ls s (pm_wR h a x.toNat v) Q := pw_aastore (show decode (pm_b 29) 34 = .ok (.aastore, 1) by decide +kernel)
theorem ux_29_35 : pm_w d 29 35 ls st h Q ↔ pm_li ls 2 fun x => pm_I32 (x + 1) ∧ pm_w d 29 38 (pm_s1 ls 2 (.inl (x + 1))) st h Q := pw_iinc (show decode (pm_b 29) 35 = .ok (.iinc 2 1, 3) by decide +kernel) (by decide)
theorem ux_29_38 : pm_w d 29 38 ls st h Q ↔ pm_w d 29 13 ls st h Q := pw_goto (show decode (pm_b 29) 38 = .ok (.goto (-25), 3) by decide +kernel) (by decide)
theorem ux_29_41 : pm_w d 29 41 ls st h Q ↔ pm_lq ls 0 fun x => pm_w d 29 42 ls (.inr (.inr x) :: st) h Q := pw_aload_n (show decode (pm_b 29) 41 = .ok (.aload_n 0, 1) by decide +kernel)
theorem ux_29_42 : pm_w d 29 42 ls st h Q ↔ pm_q st fun x s => pm_w d 29 43 ls (.inr (.inr x) :: .inr (.inr x) :: s) h Q := pw_dup (show decode (pm_b 29) 42 = .ok (.dup, 1) by decide +kernel)
theorem ux_29_43 : pm_w d 29 43 ls st h Q ↔ pm_r st fun a s => pm_tgs h a [8] ∧ pm_w d 29 46 ls (.inl (h.1 a 2) :: s) h Q := pw_get (show decode (pm_b 29) 43 = .ok (.getfield 28, 3) by decide +kernel) fx_8_28
theorem ux_29_46 : pm_w d 29 46 ls st h Q ↔ pm_w d 29 47 ls (.inl 1 :: st) h Q := pw_iconst (show decode (pm_b 29) 46 = .ok (.iconst 1, 1) by decide +kernel) (by unfold pm_I32; decide)
theorem ux_29_47 : pm_w d 29 47 ls st h Q ↔ pm_i st fun y s => pm_i s fun x s => pm_I32 (x - y) ∧ pm_w d 29 48 ls (.inl (x - y) :: s) h Q := pw_isub (show decode (pm_b 29) 47 = .ok (.isub, 1) by decide +kernel)
theorem ux_29_48 : pm_w d 29 48 ls st h Q ↔ pm_i st fun x s => pm_r s fun a s => (pm_tgs h a [8]) ∧ pm_w d 29 51 ls s (pm_wI h a 2 x) Q := pw_put0 (show decode (pm_b 29) 48 = .ok (.putfield 28, 3) by decide +kernel) fx_8_28 (Or.inl rfl)
theorem ux_29_51 : pm_w d 29 51 ls st h Q ↔ pm_lq ls 0 fun x => pm_w d 29 52 ls (.inr (.inr x) :: st) h Q := pw_aload_n (show decode (pm_b 29) 51 = .ok (.aload_n 0, 1) by decide +kernel)
theorem ux_29_52 : pm_w d 29 52 ls st h Q ↔ pm_r st fun a s => pm_tgs h a [8] ∧ pm_w d 29 55 ls (.inr (.inr (h.2.1 a 3)) :: s) h Q := pw_get (show decode (pm_b 29) 52 = .ok (.getfield 20, 3) by decide +kernel) fx_8_20
theorem ux_29_55 : pm_w d 29 55 ls st h Q ↔ pm_lq ls 0 fun x => pm_w d 29 56 ls (.inr (.inr x) :: st) h Q := pw_aload_n (show decode (pm_b 29) 55 = .ok (.aload_n 0, 1) by decide +kernel)
theorem ux_29_56 : pm_w d 29 56 ls st h Q ↔ pm_r st fun a s => pm_tgs h a [8] ∧ pm_w d 29 59 ls (.inl (h.1 a 2) :: s) h Q := pw_get (show decode (pm_b 29) 56 = .ok (.getfield 28, 3) by decide +kernel) fx_8_28
theorem ux_29_59 : pm_w d 29 59 ls st h Q ↔ pm_w d 29 60 ls (.inr (.inr none) :: st) h Q := pw_aconst_null (show decode (pm_b 29) 59 = .ok (.aconst_null, 1) by decide +kernel)
theorem ux_29_60 : pm_w d 29 60 ls st h Q ↔ pm_q st fun v s => pm_i s fun x s => pm_r s fun a s => ((pm_inb h a 24 x ∧ ∀ q, v = some q → pm_tgs h q [0, 2, 6, 9, 10]) ∨ (pm_inb h a 25 x ∧ ∀ q, v = some q → pm_tgs h q [8])) ∧ pm_w d 29 61 ls s (pm_wR h a x.toNat v) Q := pw_aastore (show decode (pm_b 29) 60 = .ok (.aastore, 1) by decide +kernel)
theorem ux_29_61 : pm_w d 29 61 ls st h Q ↔ st = [] ∧ Q none h := pw_return (show decode (pm_b 29) 61 = .ok (.return_, 1) by decide +kernel) rfl
-- 30: L.told
theorem ux_30_0 : pm_w d 30 0 ls st h Q ↔ pm_lq ls 0 fun x => pm_w d 30 1 ls (.inr (.inr x) :: st) h Q := pw_aload_n (show decode (pm_b 30) 0 = .ok (.aload_n 0, 1) by decide +kernel)
theorem ux_30_1 : pm_w d 30 1 ls st h Q ↔ pm_r st fun a s => pm_tgs h a [11] ∧ pm_w d 30 4 ls (.inr (.inr (h.2.1 a 0)) :: s) h Q := pw_get (show decode (pm_b 30) 1 = .ok (.getfield 12, 3) by decide +kernel) fx_11_12
theorem ux_30_4 : pm_w d 30 4 ls st h Q ↔ pm_li ls 1 fun x => pm_w d 30 5 ls (.inl x :: st) h Q := pw_iload_n (show decode (pm_b 30) 4 = .ok (.iload_n 1, 1) by decide +kernel)
theorem ux_30_5 : pm_w d 30 5 ls st h Q ↔ pm_r (st.drop 1) fun a s => (1 ≤ st.length ∧ pm_wt s ≤ 8 ∧ pm_tg h a 8) ∧ pm_ok d 25 (.inr (.inr (some a)) :: (st.take 1).reverse) h fun r h1 => pm_w d 30 8 ls (pm_pu r s) h1 Q := pw_virt (show decode (pm_b 30) 5 = .ok (.invokevirtual 86, 3) by decide +kernel) mx_11_86
theorem ux_30_8 : pm_w d 30 8 ls st h Q ↔ pm_q st fun x s => pm_w d 30 9 (pm_s1 ls 3 (.inr (.inr x))) s h Q := pw_astore_n (show decode (pm_b 30) 8 = .ok (.astore_n 3, 1) by decide +kernel) (by decide)
theorem ux_30_9 : pm_w d 30 9 ls st h Q ↔ pm_lq ls 3 fun x => pm_w d 30 10 ls (.inr (.inr x) :: st) h Q := pw_aload_n (show decode (pm_b 30) 9 = .ok (.aload_n 3, 1) by decide +kernel)
theorem ux_30_10 : pm_w d 30 10 ls st h Q ↔ pm_q st fun x s => (x ≠ none → pm_w d 30 15 ls s h Q) ∧ (¬ (x ≠ none) → pm_w d 30 13 ls s h Q) := pw_ifnonnull (show decode (pm_b 30) 10 = .ok (.ifnonnull 5, 3) by decide +kernel) (by decide)
theorem ux_30_13 : pm_w d 30 13 ls st h Q ↔ pm_w d 30 14 ls (.inl (-1) :: st) h Q := pw_iconst (show decode (pm_b 30) 13 = .ok (.iconst (-1), 1) by decide +kernel) (by unfold pm_I32; decide)
theorem ux_30_14 : pm_w d 30 14 ls st h Q ↔ pm_i st fun x s => s = [] ∧ Q (some (.inl x)) h := pw_ireturn (show decode (pm_b 30) 14 = .ok (.ireturn, 1) by decide +kernel) rfl
theorem ux_30_15 : pm_w d 30 15 ls st h Q ↔ pm_li ls 2 fun x => pm_w d 30 16 ls (.inl x :: st) h Q := pw_iload_n (show decode (pm_b 30) 15 = .ok (.iload_n 2, 1) by decide +kernel)
theorem ux_30_16 : pm_w d 30 16 ls st h Q ↔ pm_i st fun x s => pm_w d 30 (((16 : Int) + (if x < 0 ∨ 6 < x then 86 else [44, 49, 54, 59, 71, 76, 81].getD (x - 0).toNat 0)).toNat) ls s h Q := pw_tableswitch (show decode (pm_b 30) 16 = .ok (.tableswitch 86 0 6 #[44, 49, 54, 59, 71, 76, 81], 44) by decide +kernel) (by decide)
theorem ux_30_60 : pm_w d 30 60 ls st h Q ↔ pm_lq ls 3 fun x => pm_w d 30 61 ls (.inr (.inr x) :: st) h Q := pw_aload_n (show decode (pm_b 30) 60 = .ok (.aload_n 3, 1) by decide +kernel)
theorem ux_30_61 : pm_w d 30 61 ls st h Q ↔ pm_r (st.drop 0) fun a s => ∃ t n j, h.2.2[a]? = some (t, n) ∧ List.lookup t [(0, 31), (2, 32), (6, 35), (9, 33), (10, 34)] = some j ∧ (0 ≤ st.length ∧ pm_wt s ≤ 8) ∧ pm_ok d j (.inr (.inr (some a)) :: (st.take 0).reverse) h fun r h1 => pm_w d 30 64 ls (pm_pu r s) h1 Q := pw_virt3 (show decode (pm_b 30) 61 = .ok (.invokevirtual 127, 3) by decide +kernel) mx_11_127
theorem ux_30_64 : pm_w d 30 64 ls st h Q ↔ pm_i st fun x s => s = [] ∧ Q (some (.inl x)) h := pw_ireturn (show decode (pm_b 30) 64 = .ok (.ireturn, 1) by decide +kernel) rfl
theorem ux_30_65 : pm_w d 30 65 ls st h Q ↔ pm_lq ls 3 fun x => pm_w d 30 66 ls (.inr (.inr x) :: st) h Q := pw_aload_n (show decode (pm_b 30) 65 = .ok (.aload_n 3, 1) by decide +kernel)
theorem ux_30_66 : pm_w d 30 66 ls st h Q ↔ pm_r st fun a s => pm_tgs h a [0, 2, 6, 9, 10] ∧ pm_w d 30 69 ls (.inl (h.1 a 0) :: s) h Q := pw_get (show decode (pm_b 30) 66 = .ok (.getfield 133, 3) by decide +kernel) fx_11_133
theorem ux_30_69 : pm_w d 30 69 ls st h Q ↔ pm_i st fun x s => s = [] ∧ Q (some (.inl x)) h := pw_ireturn (show decode (pm_b 30) 69 = .ok (.ireturn, 1) by decide +kernel) rfl
theorem ux_30_70 : pm_w d 30 70 ls st h Q ↔ pm_lq ls 3 fun x => pm_w d 30 71 ls (.inr (.inr x) :: st) h Q := pw_aload_n (show decode (pm_b 30) 70 = .ok (.aload_n 3, 1) by decide +kernel)
theorem ux_30_71 : pm_w d 30 71 ls st h Q ↔ pm_r st fun a s => pm_tgs h a [0, 2, 6, 9, 10] ∧ pm_w d 30 74 ls (.inl (h.1 a 1) :: s) h Q := pw_get (show decode (pm_b 30) 71 = .ok (.getfield 134, 3) by decide +kernel) fx_11_134
theorem ux_30_74 : pm_w d 30 74 ls st h Q ↔ pm_i st fun x s => s = [] ∧ Q (some (.inl x)) h := pw_ireturn (show decode (pm_b 30) 74 = .ok (.ireturn, 1) by decide +kernel) rfl
theorem ux_30_75 : pm_w d 30 75 ls st h Q ↔ pm_lq ls 3 fun x => pm_w d 30 76 ls (.inr (.inr x) :: st) h Q := pw_aload_n (show decode (pm_b 30) 75 = .ok (.aload_n 3, 1) by decide +kernel)
theorem ux_30_76 : pm_w d 30 76 ls st h Q ↔ pm_lq ls 0 fun x => pm_w d 30 77 ls (.inr (.inr x) :: st) h Q := pw_aload_n (show decode (pm_b 30) 76 = .ok (.aload_n 0, 1) by decide +kernel)
theorem ux_30_77 : pm_w d 30 77 ls st h Q ↔ pm_r st fun a s => pm_tgs h a [11] ∧ pm_w d 30 80 ls (.inr (.inr (h.2.1 a 0)) :: s) h Q := pw_get (show decode (pm_b 30) 77 = .ok (.getfield 12, 3) by decide +kernel) fx_11_12
theorem ux_30_80 : pm_w d 30 80 ls st h Q ↔ pm_r st fun a s => pm_tgs h a [8] ∧ pm_w d 30 83 ls (.inl (h.1 a 1) :: s) h Q := pw_get (show decode (pm_b 30) 80 = .ok (.getfield 64, 3) by decide +kernel) fx_11_64
theorem ux_30_83 : pm_w d 30 83 ls st h Q ↔ pm_r (st.drop 1) fun a s => ∃ t n j, h.2.2[a]? = some (t, n) ∧ List.lookup t [(0, 37), (2, 36), (6, 37), (9, 37), (10, 37)] = some j ∧ (1 ≤ st.length ∧ pm_wt s ≤ 8) ∧ pm_ok d j (.inr (.inr (some a)) :: (st.take 1).reverse) h fun r h1 => pm_w d 30 86 ls (pm_pu r s) h1 Q := pw_virt3 (show decode (pm_b 30) 83 = .ok (.invokevirtual 135, 3) by decide +kernel) mx_11_135
theorem ux_30_86 : pm_w d 30 86 ls st h Q ↔ pm_i st fun x s => s = [] ∧ Q (some (.inl x)) h := pw_ireturn (show decode (pm_b 30) 86 = .ok (.ireturn, 1) by decide +kernel) rfl
theorem ux_30_87 : pm_w d 30 87 ls st h Q ↔ pm_lq ls 3 fun x => pm_w d 30 88 ls (.inr (.inr x) :: st) h Q := pw_aload_n (show decode (pm_b 30) 87 = .ok (.aload_n 3, 1) by decide +kernel)
theorem ux_30_88 : pm_w d 30 88 ls st h Q ↔ pm_r (st.drop 0) fun a s => ∃ t n j, h.2.2[a]? = some (t, n) ∧ List.lookup t [(0, 39), (2, 39), (6, 39), (9, 38), (10, 39)] = some j ∧ (0 ≤ st.length ∧ pm_wt s ≤ 8) ∧ pm_ok d j (.inr (.inr (some a)) :: (st.take 0).reverse) h fun r h1 => pm_w d 30 91 ls (pm_pu r s) h1 Q := pw_virt3 (show decode (pm_b 30) 88 = .ok (.invokevirtual 139, 3) by decide +kernel) mx_11_139
theorem ux_30_91 : pm_w d 30 91 ls st h Q ↔ pm_i st fun x s => s = [] ∧ Q (some (.inl x)) h := pw_ireturn (show decode (pm_b 30) 91 = .ok (.ireturn, 1) by decide +kernel) rfl
theorem ux_30_92 : pm_w d 30 92 ls st h Q ↔ pm_lq ls 3 fun x => pm_w d 30 93 ls (.inr (.inr x) :: st) h Q := pw_aload_n (show decode (pm_b 30) 92 = .ok (.aload_n 3, 1) by decide +kernel)
theorem ux_30_93 : pm_w d 30 93 ls st h Q ↔ pm_r (st.drop 0) fun a s => ∃ t n j, h.2.2[a]? = some (t, n) ∧ List.lookup t [(0, 40), (2, 41), (6, 41), (9, 41), (10, 41)] = some j ∧ (0 ≤ st.length ∧ pm_wt s ≤ 8) ∧ pm_ok d j (.inr (.inr (some a)) :: (st.take 0).reverse) h fun r h1 => pm_w d 30 96 ls (pm_pu r s) h1 Q := pw_virt3 (show decode (pm_b 30) 93 = .ok (.invokevirtual 142, 3) by decide +kernel) mx_11_142
theorem ux_30_96 : pm_w d 30 96 ls st h Q ↔ pm_i st fun x s => s = [] ∧ Q (some (.inl x)) h := pw_ireturn (show decode (pm_b 30) 96 = .ok (.ireturn, 1) by decide +kernel) rfl
theorem ux_30_97 : pm_w d 30 97 ls st h Q ↔ pm_lq ls 3 fun x => pm_w d 30 98 ls (.inr (.inr x) :: st) h Q := pw_aload_n (show decode (pm_b 30) 97 = .ok (.aload_n 3, 1) by decide +kernel)
theorem ux_30_98 : pm_w d 30 98 ls st h Q ↔ pm_r (st.drop 0) fun a s => ∃ t n j, h.2.2[a]? = some (t, n) ∧ List.lookup t [(0, 42), (2, 43), (6, 43), (9, 43), (10, 43)] = some j ∧ (0 ≤ st.length ∧ pm_wt s ≤ 8) ∧ pm_ok d j (.inr (.inr (some a)) :: (st.take 0).reverse) h fun r h1 => pm_w d 30 101 ls (pm_pu r s) h1 Q := pw_virt3 (show decode (pm_b 30) 98 = .ok (.invokevirtual 145, 3) by decide +kernel) mx_11_145
theorem ux_30_101 : pm_w d 30 101 ls st h Q ↔ pm_i st fun x s => s = [] ∧ Q (some (.inl x)) h := pw_ireturn (show decode (pm_b 30) 101 = .ok (.ireturn, 1) by decide +kernel) rfl
theorem ux_30_102 : pm_w d 30 102 ls st h Q ↔ pm_w d 30 103 ls (.inl (-1) :: st) h Q := pw_iconst (show decode (pm_b 30) 102 = .ok (.iconst (-1), 1) by decide +kernel) (by unfold pm_I32; decide)
theorem ux_30_103 : pm_w d 30 103 ls st h Q ↔ pm_i st fun x s => s = [] ∧ Q (some (.inl x)) h := pw_ireturn (show decode (pm_b 30) 103 = .ok (.ireturn, 1) by decide +kernel) rfl
-- 31: LBarred.kindNumber
theorem ux_31_0 : pm_w d 31 0 ls st h Q ↔ pm_w d 31 1 ls (.inl 4 :: st) h Q := pw_iconst (show decode (pm_b 31) 0 = .ok (.iconst 4, 1) by decide +kernel) (by unfold pm_I32; decide)
theorem ux_31_1 : pm_w d 31 1 ls st h Q ↔ pm_i st fun x s => s = [] ∧ Q (some (.inl x)) h := pw_ireturn (show decode (pm_b 31) 1 = .ok (.ireturn, 1) by decide +kernel) rfl
-- 32: LFree.kindNumber
theorem ux_32_0 : pm_w d 32 0 ls st h Q ↔ pm_w d 32 1 ls (.inl 2 :: st) h Q := pw_iconst (show decode (pm_b 32) 0 = .ok (.iconst 2, 1) by decide +kernel) (by unfold pm_I32; decide)
theorem ux_32_1 : pm_w d 32 1 ls st h Q ↔ pm_i st fun x s => s = [] ∧ Q (some (.inl x)) h := pw_ireturn (show decode (pm_b 32) 1 = .ok (.ireturn, 1) by decide +kernel) rfl
-- 33: LSplit.kindNumber
theorem ux_33_0 : pm_w d 33 0 ls st h Q ↔ pm_w d 33 1 ls (.inl 3 :: st) h Q := pw_iconst (show decode (pm_b 33) 0 = .ok (.iconst 3, 1) by decide +kernel) (by unfold pm_I32; decide)
theorem ux_33_1 : pm_w d 33 1 ls st h Q ↔ pm_i st fun x s => s = [] ∧ Q (some (.inl x)) h := pw_ireturn (show decode (pm_b 33) 1 = .ok (.ireturn, 1) by decide +kernel) rfl
-- 34: LTight.kindNumber
theorem ux_34_0 : pm_w d 34 0 ls st h Q ↔ pm_w d 34 1 ls (.inl 1 :: st) h Q := pw_iconst (show decode (pm_b 34) 0 = .ok (.iconst 1, 1) by decide +kernel) (by unfold pm_I32; decide)
theorem ux_34_1 : pm_w d 34 1 ls st h Q ↔ pm_i st fun x s => s = [] ∧ Q (some (.inl x)) h := pw_ireturn (show decode (pm_b 34) 1 = .ok (.ireturn, 1) by decide +kernel) rfl
-- 35: LPiece.kindNumber
theorem ux_35_0 : pm_w d 35 0 ls st h Q ↔ pm_w d 35 1 ls (.inl 0 :: st) h Q := pw_iconst (show decode (pm_b 35) 0 = .ok (.iconst 0, 1) by decide +kernel) (by unfold pm_I32; decide)
theorem ux_35_1 : pm_w d 35 1 ls st h Q ↔ pm_i st fun x s => s = [] ∧ Q (some (.inl x)) h := pw_ireturn (show decode (pm_b 35) 1 = .ok (.ireturn, 1) by decide +kernel) rfl
-- 36: LFree.lastIn
theorem ux_36_0 : pm_w d 36 0 ls st h Q ↔ pm_li ls 1 fun x => pm_w d 36 1 ls (.inl x :: st) h Q := pw_iload_n (show decode (pm_b 36) 0 = .ok (.iload_n 1, 1) by decide +kernel)
theorem ux_36_1 : pm_w d 36 1 ls st h Q ↔ pm_i st fun x s => s = [] ∧ Q (some (.inl x)) h := pw_ireturn (show decode (pm_b 36) 1 = .ok (.ireturn, 1) by decide +kernel) rfl
-- 37: LPiece.lastIn
theorem ux_37_0 : pm_w d 37 0 ls st h Q ↔ pm_lq ls 0 fun x => pm_w d 37 1 ls (.inr (.inr x) :: st) h Q := pw_aload_n (show decode (pm_b 37) 0 = .ok (.aload_n 0, 1) by decide +kernel)
theorem ux_37_1 : pm_w d 37 1 ls st h Q ↔ pm_r st fun a s => pm_tgs h a [0, 2, 6, 9, 10] ∧ pm_w d 37 4 ls (.inl (h.1 a 2) :: s) h Q := pw_get (show decode (pm_b 37) 1 = .ok (.getfield 18, 3) by decide +kernel) fx_6_18
theorem ux_37_4 : pm_w d 37 4 ls st h Q ↔ pm_i st fun x s => s = [] ∧ Q (some (.inl x)) h := pw_ireturn (show decode (pm_b 37) 4 = .ok (.ireturn, 1) by decide +kernel) rfl
-- 38: LSplit.waysTold
theorem ux_38_0 : pm_w d 38 0 ls st h Q ↔ pm_lq ls 0 fun x => pm_w d 38 1 ls (.inr (.inr x) :: st) h Q := pw_aload_n (show decode (pm_b 38) 0 = .ok (.aload_n 0, 1) by decide +kernel)
theorem ux_38_1 : pm_w d 38 1 ls st h Q ↔ pm_r st fun a s => pm_tgs h a [9] ∧ pm_w d 38 4 ls (.inl (h.1 a 3) :: s) h Q := pw_get (show decode (pm_b 38) 1 = .ok (.getfield 9, 3) by decide +kernel) fx_9_9
theorem ux_38_4 : pm_w d 38 4 ls st h Q ↔ pm_i st fun x s => s = [] ∧ Q (some (.inl x)) h := pw_ireturn (show decode (pm_b 38) 4 = .ok (.ireturn, 1) by decide +kernel) rfl
-- 39: LPiece.waysTold
theorem ux_39_0 : pm_w d 39 0 ls st h Q ↔ pm_w d 39 1 ls (.inl 1 :: st) h Q := pw_iconst (show decode (pm_b 39) 0 = .ok (.iconst 1, 1) by decide +kernel) (by unfold pm_I32; decide)
theorem ux_39_1 : pm_w d 39 1 ls st h Q ↔ pm_i st fun x s => s = [] ∧ Q (some (.inl x)) h := pw_ireturn (show decode (pm_b 39) 1 = .ok (.ireturn, 1) by decide +kernel) rfl
-- 40: LBarred.barBegin
theorem ux_40_0 : pm_w d 40 0 ls st h Q ↔ pm_lq ls 0 fun x => pm_w d 40 1 ls (.inr (.inr x) :: st) h Q := pw_aload_n (show decode (pm_b 40) 0 = .ok (.aload_n 0, 1) by decide +kernel)
theorem ux_40_1 : pm_w d 40 1 ls st h Q ↔ pm_r st fun a s => pm_tgs h a [0] ∧ pm_w d 40 4 ls (.inl (h.1 a 3) :: s) h Q := pw_get (show decode (pm_b 40) 1 = .ok (.getfield 9, 3) by decide +kernel) fx_0_9
theorem ux_40_4 : pm_w d 40 4 ls st h Q ↔ pm_i st fun x s => s = [] ∧ Q (some (.inl x)) h := pw_ireturn (show decode (pm_b 40) 4 = .ok (.ireturn, 1) by decide +kernel) rfl
-- 41: LPiece.barBegin
theorem ux_41_0 : pm_w d 41 0 ls st h Q ↔ pm_w d 41 2 ls (.inl (-3) :: st) h Q := pw_bipush (show decode (pm_b 41) 0 = .ok (.bipush (-3), 2) by decide +kernel) (by decide)
theorem ux_41_2 : pm_w d 41 2 ls st h Q ↔ pm_i st fun x s => s = [] ∧ Q (some (.inl x)) h := pw_ireturn (show decode (pm_b 41) 2 = .ok (.ireturn, 1) by decide +kernel) rfl
-- 42: LBarred.barStop
theorem ux_42_0 : pm_w d 42 0 ls st h Q ↔ pm_lq ls 0 fun x => pm_w d 42 1 ls (.inr (.inr x) :: st) h Q := pw_aload_n (show decode (pm_b 42) 0 = .ok (.aload_n 0, 1) by decide +kernel)
theorem ux_42_1 : pm_w d 42 1 ls st h Q ↔ pm_r st fun a s => pm_tgs h a [0] ∧ pm_w d 42 4 ls (.inl (h.1 a 4) :: s) h Q := pw_get (show decode (pm_b 42) 1 = .ok (.getfield 15, 3) by decide +kernel) fx_0_15
theorem ux_42_4 : pm_w d 42 4 ls st h Q ↔ pm_i st fun x s => s = [] ∧ Q (some (.inl x)) h := pw_ireturn (show decode (pm_b 42) 4 = .ok (.ireturn, 1) by decide +kernel) rfl
-- 43: LPiece.barStop
theorem ux_43_0 : pm_w d 43 0 ls st h Q ↔ pm_w d 43 2 ls (.inl (-3) :: st) h Q := pw_bipush (show decode (pm_b 43) 0 = .ok (.bipush (-3), 2) by decide +kernel) (by decide)
theorem ux_43_2 : pm_w d 43 2 ls st h Q ↔ pm_i st fun x s => s = [] ∧ Q (some (.inl x)) h := pw_ireturn (show decode (pm_b 43) 2 = .ok (.ireturn, 1) by decide +kernel) rfl
-- 44: L.undo
theorem ux_44_0 : pm_w d 44 0 ls st h Q ↔ pm_lq ls 0 fun x => pm_w d 44 1 ls (.inr (.inr x) :: st) h Q := pw_aload_n (show decode (pm_b 44) 0 = .ok (.aload_n 0, 1) by decide +kernel)
theorem ux_44_1 : pm_w d 44 1 ls st h Q ↔ pm_r st fun a s => pm_tgs h a [11] ∧ pm_w d 44 4 ls (.inr (.inr (h.2.1 a 1)) :: s) h Q := pw_get (show decode (pm_b 44) 1 = .ok (.getfield 19, 3) by decide +kernel) fx_11_19
theorem ux_44_4 : pm_w d 44 4 ls st h Q ↔ pm_r st fun a s => pm_tgs h a [3] ∧ pm_w d 44 7 ls (.inl (h.1 a 2) :: s) h Q := pw_get (show decode (pm_b 44) 4 = .ok (.getfield 148, 3) by decide +kernel) fx_11_148
theorem ux_44_7 : pm_w d 44 7 ls st h Q ↔ pm_i st fun x s => ((x ≠ 0) → pm_w d 44 13 ls s h Q) ∧ (¬ (x ≠ 0) → pm_w d 44 10 ls s h Q) := pw_if_ne (show decode (pm_b 44) 7 = .ok (.ifCond .ne 6, 3) by decide +kernel) (by decide)
theorem ux_44_10 : pm_w d 44 10 ls st h Q ↔ pm_w d 44 12 ls (.inl (-2) :: st) h Q := pw_bipush (show decode (pm_b 44) 10 = .ok (.bipush (-2), 2) by decide +kernel) (by decide)
theorem ux_44_12 : pm_w d 44 12 ls st h Q ↔ pm_i st fun x s => s = [] ∧ Q (some (.inl x)) h := pw_ireturn (show decode (pm_b 44) 12 = .ok (.ireturn, 1) by decide +kernel) rfl
theorem ux_44_13 : pm_w d 44 13 ls st h Q ↔ pm_lq ls 0 fun x => pm_w d 44 14 ls (.inr (.inr x) :: st) h Q := pw_aload_n (show decode (pm_b 44) 13 = .ok (.aload_n 0, 1) by decide +kernel)
theorem ux_44_14 : pm_w d 44 14 ls st h Q ↔ pm_r st fun a s => pm_tgs h a [11] ∧ pm_w d 44 17 ls (.inr (.inr (h.2.1 a 1)) :: s) h Q := pw_get (show decode (pm_b 44) 14 = .ok (.getfield 19, 3) by decide +kernel) fx_11_19
theorem ux_44_17 : pm_w d 44 17 ls st h Q ↔ pm_lq ls 0 fun x => pm_w d 44 18 ls (.inr (.inr x) :: st) h Q := pw_aload_n (show decode (pm_b 44) 17 = .ok (.aload_n 0, 1) by decide +kernel)
theorem ux_44_18 : pm_w d 44 18 ls st h Q ↔ pm_r st fun a s => pm_tgs h a [11] ∧ pm_w d 44 21 ls (.inr (.inr (h.2.1 a 0)) :: s) h Q := pw_get (show decode (pm_b 44) 18 = .ok (.getfield 12, 3) by decide +kernel) fx_11_12
theorem ux_44_21 : pm_w d 44 21 ls st h Q ↔ pm_r (st.drop 1) fun a s => (1 ≤ st.length ∧ pm_wt s ≤ 8 ∧ pm_tg h a 3) ∧ pm_ok d 45 (.inr (.inr (some a)) :: (st.take 1).reverse) h fun r h1 => pm_w d 44 24 ls (pm_pu r s) h1 Q := pw_virt (show decode (pm_b 44) 21 = .ok (.invokevirtual 151, 3) by decide +kernel) mx_11_151
theorem ux_44_24 : pm_w d 44 24 ls st h Q ↔ pm_lq ls 0 fun x => pm_w d 44 25 ls (.inr (.inr x) :: st) h Q := pw_aload_n (show decode (pm_b 44) 24 = .ok (.aload_n 0, 1) by decide +kernel)
theorem ux_44_25 : pm_w d 44 25 ls st h Q ↔ pm_r (st.drop 0) fun a s => (0 ≤ st.length ∧ pm_wt s ≤ 8 ∧ pm_tg h a 11) ∧ pm_ok d 11 (.inr (.inr (some a)) :: (st.take 0).reverse) h fun r h1 => pm_w d 44 28 ls (pm_pu r s) h1 Q := pw_virt (show decode (pm_b 44) 25 = .ok (.invokevirtual 155, 3) by decide +kernel) mx_11_155
theorem ux_44_28 : pm_w d 44 28 ls st h Q ↔ pm_lq ls 0 fun x => pm_w d 44 29 ls (.inr (.inr x) :: st) h Q := pw_aload_n (show decode (pm_b 44) 28 = .ok (.aload_n 0, 1) by decide +kernel)
theorem ux_44_29 : pm_w d 44 29 ls st h Q ↔ pm_r st fun a s => pm_tgs h a [11] ∧ pm_w d 44 32 ls (.inr (.inr (h.2.1 a 1)) :: s) h Q := pw_get (show decode (pm_b 44) 29 = .ok (.getfield 19, 3) by decide +kernel) fx_11_19
theorem ux_44_32 : pm_w d 44 32 ls st h Q ↔ pm_r st fun a s => pm_tgs h a [3] ∧ pm_w d 44 35 ls (.inl (h.1 a 2) :: s) h Q := pw_get (show decode (pm_b 44) 32 = .ok (.getfield 148, 3) by decide +kernel) fx_11_148
theorem ux_44_35 : pm_w d 44 35 ls st h Q ↔ pm_i st fun x s => s = [] ∧ Q (some (.inl x)) h := pw_ireturn (show decode (pm_b 44) 35 = .ok (.ireturn, 1) by decide +kernel) rfl
-- 45: LHistory.restore
theorem ux_45_0 : pm_w d 45 0 ls st h Q ↔ pm_lq ls 0 fun x => pm_w d 45 1 ls (.inr (.inr x) :: st) h Q := pw_aload_n (show decode (pm_b 45) 0 = .ok (.aload_n 0, 1) by decide +kernel)
theorem ux_45_1 : pm_w d 45 1 ls st h Q ↔ pm_r st fun a s => pm_tgs h a [3] ∧ pm_w d 45 4 ls (.inl (h.1 a 2) :: s) h Q := pw_get (show decode (pm_b 45) 1 = .ok (.getfield 26, 3) by decide +kernel) fx_3_26
theorem ux_45_4 : pm_w d 45 4 ls st h Q ↔ pm_i st fun x s => ((x ≠ 0) → pm_w d 45 8 ls s h Q) ∧ (¬ (x ≠ 0) → pm_w d 45 7 ls s h Q) := pw_if_ne (show decode (pm_b 45) 4 = .ok (.ifCond .ne 4, 3) by decide +kernel) (by decide)
theorem ux_45_7 : pm_w d 45 7 ls st h Q ↔ st = [] ∧ Q none h := pw_return (show decode (pm_b 45) 7 = .ok (.return_, 1) by decide +kernel) rfl
theorem ux_45_8 : pm_w d 45 8 ls st h Q ↔ pm_lq ls 0 fun x => pm_w d 45 9 ls (.inr (.inr x) :: st) h Q := pw_aload_n (show decode (pm_b 45) 8 = .ok (.aload_n 0, 1) by decide +kernel)
theorem ux_45_9 : pm_w d 45 9 ls st h Q ↔ pm_lq ls 0 fun x => pm_w d 45 10 ls (.inr (.inr x) :: st) h Q := pw_aload_n (show decode (pm_b 45) 9 = .ok (.aload_n 0, 1) by decide +kernel)
theorem ux_45_10 : pm_w d 45 10 ls st h Q ↔ pm_r st fun a s => pm_tgs h a [3] ∧ pm_w d 45 13 ls (.inl (h.1 a 1) :: s) h Q := pw_get (show decode (pm_b 45) 10 = .ok (.getfield 18, 3) by decide +kernel) fx_3_18
theorem ux_45_13 : pm_w d 45 13 ls st h Q ↔ pm_w d 45 15 ls (.inl 20 :: st) h Q := pw_bipush (show decode (pm_b 45) 13 = .ok (.bipush 20, 2) by decide +kernel) (by decide)
theorem ux_45_15 : pm_w d 45 15 ls st h Q ↔ pm_i st fun y s => pm_i s fun x s => pm_I32 (x + y) ∧ pm_w d 45 16 ls (.inl (x + y) :: s) h Q := pw_iadd (show decode (pm_b 45) 15 = .ok (.iadd, 1) by decide +kernel)
theorem ux_45_16 : pm_w d 45 16 ls st h Q ↔ pm_w d 45 17 ls (.inl 1 :: st) h Q := pw_iconst (show decode (pm_b 45) 16 = .ok (.iconst 1, 1) by decide +kernel) (by unfold pm_I32; decide)
theorem ux_45_17 : pm_w d 45 17 ls st h Q ↔ pm_i st fun y s => pm_i s fun x s => pm_I32 (x - y) ∧ pm_w d 45 18 ls (.inl (x - y) :: s) h Q := pw_isub (show decode (pm_b 45) 17 = .ok (.isub, 1) by decide +kernel)
theorem ux_45_18 : pm_w d 45 18 ls st h Q ↔ pm_w d 45 20 ls (.inl 20 :: st) h Q := pw_bipush (show decode (pm_b 45) 18 = .ok (.bipush 20, 2) by decide +kernel) (by decide)
theorem ux_45_20 : pm_w d 45 20 ls st h Q ↔ pm_i st fun y s => pm_i s fun x s => (0 ≤ x ∧ 0 < y) ∧ pm_w d 45 21 ls (.inl (x % y) :: s) h Q := pw_irem (show decode (pm_b 45) 20 = .ok (.irem, 1) by decide +kernel)
theorem ux_45_21 : pm_w d 45 21 ls st h Q ↔ pm_i st fun x s => pm_r s fun a s => (pm_tgs h a [3]) ∧ pm_w d 45 24 ls s (pm_wI h a 1 x) Q := pw_put0 (show decode (pm_b 45) 21 = .ok (.putfield 18, 3) by decide +kernel) fx_3_18 (Or.inl rfl)
theorem ux_45_24 : pm_w d 45 24 ls st h Q ↔ pm_lq ls 0 fun x => pm_w d 45 25 ls (.inr (.inr x) :: st) h Q := pw_aload_n (show decode (pm_b 45) 24 = .ok (.aload_n 0, 1) by decide +kernel)
theorem ux_45_25 : pm_w d 45 25 ls st h Q ↔ pm_q st fun x s => pm_w d 45 26 ls (.inr (.inr x) :: .inr (.inr x) :: s) h Q := pw_dup (show decode (pm_b 45) 25 = .ok (.dup, 1) by decide +kernel)
theorem ux_45_26 : pm_w d 45 26 ls st h Q ↔ pm_r st fun a s => pm_tgs h a [3] ∧ pm_w d 45 29 ls (.inl (h.1 a 2) :: s) h Q := pw_get (show decode (pm_b 45) 26 = .ok (.getfield 26, 3) by decide +kernel) fx_3_26
theorem ux_45_29 : pm_w d 45 29 ls st h Q ↔ pm_w d 45 30 ls (.inl 1 :: st) h Q := pw_iconst (show decode (pm_b 45) 29 = .ok (.iconst 1, 1) by decide +kernel) (by unfold pm_I32; decide)
theorem ux_45_30 : pm_w d 45 30 ls st h Q ↔ pm_i st fun y s => pm_i s fun x s => pm_I32 (x - y) ∧ pm_w d 45 31 ls (.inl (x - y) :: s) h Q := pw_isub (show decode (pm_b 45) 30 = .ok (.isub, 1) by decide +kernel)
theorem ux_45_31 : pm_w d 45 31 ls st h Q ↔ pm_i st fun x s => pm_r s fun a s => (pm_tgs h a [3]) ∧ pm_w d 45 34 ls s (pm_wI h a 2 x) Q := pw_put0 (show decode (pm_b 45) 31 = .ok (.putfield 26, 3) by decide +kernel) fx_3_26 (Or.inl rfl)
theorem ux_45_34 : pm_w d 45 34 ls st h Q ↔ pm_lq ls 0 fun x => pm_w d 45 35 ls (.inr (.inr x) :: st) h Q := pw_aload_n (show decode (pm_b 45) 34 = .ok (.aload_n 0, 1) by decide +kernel)
theorem ux_45_35 : pm_w d 45 35 ls st h Q ↔ pm_r st fun a s => pm_tgs h a [3] ∧ pm_w d 45 38 ls (.inr (.inr (h.2.1 a 0)) :: s) h Q := pw_get (show decode (pm_b 45) 35 = .ok (.getfield 11, 3) by decide +kernel) fx_3_11
theorem ux_45_38 : pm_w d 45 38 ls st h Q ↔ pm_lq ls 0 fun x => pm_w d 45 39 ls (.inr (.inr x) :: st) h Q := pw_aload_n (show decode (pm_b 45) 38 = .ok (.aload_n 0, 1) by decide +kernel)
theorem ux_45_39 : pm_w d 45 39 ls st h Q ↔ pm_r st fun a s => pm_tgs h a [3] ∧ pm_w d 45 42 ls (.inl (h.1 a 1) :: s) h Q := pw_get (show decode (pm_b 45) 39 = .ok (.getfield 18, 3) by decide +kernel) fx_3_18
theorem ux_45_42 : pm_w d 45 42 ls st h Q ↔ pm_i st fun x s => pm_r s fun a s => (pm_inb h a 23 x ∨ pm_inb h a 24 x ∨ pm_inb h a 25 x) ∧ pm_w d 45 43 ls (.inr (.inr (h.2.1 a x.toNat)) :: s) h Q := pw_aaload (show decode (pm_b 45) 42 = .ok (.aaload, 1) by decide +kernel)
theorem ux_45_43 : pm_w d 45 43 ls st h Q ↔ pm_q st fun x s => pm_w d 45 44 (pm_s1 ls 2 (.inr (.inr x))) s h Q := pw_astore_n (show decode (pm_b 45) 43 = .ok (.astore_n 2, 1) by decide +kernel) (by decide)
theorem ux_45_44 : pm_w d 45 44 ls st h Q ↔ pm_lq ls 2 fun x => pm_w d 45 45 ls (.inr (.inr x) :: st) h Q := pw_aload_n (show decode (pm_b 45) 44 = .ok (.aload_n 2, 1) by decide +kernel)
theorem ux_45_45 : pm_w d 45 45 ls st h Q ↔ pm_q st fun x s => (x = none → pm_w d 45 53 ls s h Q) ∧ (¬ (x = none) → pm_w d 45 48 ls s h Q) := pw_ifnull (show decode (pm_b 45) 45 = .ok (.ifnull 8, 3) by decide +kernel) (by decide)
theorem ux_45_48 : pm_w d 45 48 ls st h Q ↔ pm_lq ls 1 fun x => pm_w d 45 49 ls (.inr (.inr x) :: st) h Q := pw_aload_n (show decode (pm_b 45) 48 = .ok (.aload_n 1, 1) by decide +kernel)
theorem ux_45_49 : pm_w d 45 49 ls st h Q ↔ pm_lq ls 2 fun x => pm_w d 45 50 ls (.inr (.inr x) :: st) h Q := pw_aload_n (show decode (pm_b 45) 49 = .ok (.aload_n 2, 1) by decide +kernel)
theorem ux_45_50 : pm_w d 45 50 ls st h Q ↔ pm_r (st.drop 1) fun a s => (1 ≤ st.length ∧ pm_wt s ≤ 8 ∧ pm_tg h a 8) ∧ pm_ok d 10 (.inr (.inr (some a)) :: (st.take 1).reverse) h fun r h1 => pm_w d 45 53 ls (pm_pu r s) h1 Q := pw_virt (show decode (pm_b 45) 50 = .ok (.invokevirtual 22, 3) by decide +kernel) mx_3_22
theorem ux_45_53 : pm_w d 45 53 ls st h Q ↔ st = [] ∧ Q none h := pw_return (show decode (pm_b 45) 53 = .ok (.return_, 1) by decide +kernel) rfl
-- 46: L.count
theorem ux_46_0 : pm_w d 46 0 ls st h Q ↔ pm_li ls 1 fun x => pm_w d 46 1 ls (.inl x :: st) h Q := pw_iload_n (show decode (pm_b 46) 0 = .ok (.iload_n 1, 1) by decide +kernel)
theorem ux_46_1 : pm_w d 46 1 ls st h Q ↔ pm_i st fun x s => pm_w d 46 (((1 : Int) + (if x < 0 ∨ 5 < x then 87 else [39, 47, 55, 63, 71, 79].getD (x - 0).toNat 0)).toNat) ls s h Q := pw_tableswitch (show decode (pm_b 46) 1 = .ok (.tableswitch 87 0 5 #[39, 47, 55, 63, 71, 79], 39) by decide +kernel) (by decide)
theorem ux_46_40 : pm_w d 46 40 ls st h Q ↔ pm_lq ls 0 fun x => pm_w d 46 41 ls (.inr (.inr x) :: st) h Q := pw_aload_n (show decode (pm_b 46) 40 = .ok (.aload_n 0, 1) by decide +kernel)
theorem ux_46_41 : pm_w d 46 41 ls st h Q ↔ pm_r st fun a s => pm_tgs h a [11] ∧ pm_w d 46 44 ls (.inr (.inr (h.2.1 a 0)) :: s) h Q := pw_get (show decode (pm_b 46) 41 = .ok (.getfield 12, 3) by decide +kernel) fx_11_12
theorem ux_46_44 : pm_w d 46 44 ls st h Q ↔ pm_r st fun a s => pm_tgs h a [8] ∧ pm_w d 46 47 ls (.inl (h.1 a 0) :: s) h Q := pw_get (show decode (pm_b 46) 44 = .ok (.getfield 57, 3) by decide +kernel) fx_11_57
theorem ux_46_47 : pm_w d 46 47 ls st h Q ↔ pm_i st fun x s => s = [] ∧ Q (some (.inl x)) h := pw_ireturn (show decode (pm_b 46) 47 = .ok (.ireturn, 1) by decide +kernel) rfl
theorem ux_46_48 : pm_w d 46 48 ls st h Q ↔ pm_lq ls 0 fun x => pm_w d 46 49 ls (.inr (.inr x) :: st) h Q := pw_aload_n (show decode (pm_b 46) 48 = .ok (.aload_n 0, 1) by decide +kernel)
theorem ux_46_49 : pm_w d 46 49 ls st h Q ↔ pm_r st fun a s => pm_tgs h a [11] ∧ pm_w d 46 52 ls (.inr (.inr (h.2.1 a 0)) :: s) h Q := pw_get (show decode (pm_b 46) 49 = .ok (.getfield 12, 3) by decide +kernel) fx_11_12
theorem ux_46_52 : pm_w d 46 52 ls st h Q ↔ pm_r st fun a s => pm_tgs h a [8] ∧ pm_w d 46 55 ls (.inl (h.1 a 2) :: s) h Q := pw_get (show decode (pm_b 46) 52 = .ok (.getfield 71, 3) by decide +kernel) fx_11_71
theorem ux_46_55 : pm_w d 46 55 ls st h Q ↔ pm_i st fun x s => s = [] ∧ Q (some (.inl x)) h := pw_ireturn (show decode (pm_b 46) 55 = .ok (.ireturn, 1) by decide +kernel) rfl
theorem ux_46_56 : pm_w d 46 56 ls st h Q ↔ pm_lq ls 0 fun x => pm_w d 46 57 ls (.inr (.inr x) :: st) h Q := pw_aload_n (show decode (pm_b 46) 56 = .ok (.aload_n 0, 1) by decide +kernel)
theorem ux_46_57 : pm_w d 46 57 ls st h Q ↔ pm_r (st.drop 0) fun a s => (0 ≤ st.length ∧ pm_wt s ≤ 8 ∧ pm_tg h a 11) ∧ pm_ok d 47 (.inr (.inr (some a)) :: (st.take 0).reverse) h fun r h1 => pm_w d 46 60 ls (pm_pu r s) h1 Q := pw_virt (show decode (pm_b 46) 57 = .ok (.invokevirtual 158, 3) by decide +kernel) mx_11_158
theorem ux_46_60 : pm_w d 46 60 ls st h Q ↔ pm_r st fun a s => pm_tgs h a [1] ∧ pm_w d 46 63 ls (.inl (h.1 a 3) :: s) h Q := pw_get (show decode (pm_b 46) 60 = .ok (.getfield 162, 3) by decide +kernel) fx_11_162
theorem ux_46_63 : pm_w d 46 63 ls st h Q ↔ pm_i st fun x s => s = [] ∧ Q (some (.inl x)) h := pw_ireturn (show decode (pm_b 46) 63 = .ok (.ireturn, 1) by decide +kernel) rfl
theorem ux_46_64 : pm_w d 46 64 ls st h Q ↔ pm_lq ls 0 fun x => pm_w d 46 65 ls (.inr (.inr x) :: st) h Q := pw_aload_n (show decode (pm_b 46) 64 = .ok (.aload_n 0, 1) by decide +kernel)
theorem ux_46_65 : pm_w d 46 65 ls st h Q ↔ pm_r st fun a s => pm_tgs h a [11] ∧ pm_w d 46 68 ls (.inr (.inr (h.2.1 a 0)) :: s) h Q := pw_get (show decode (pm_b 46) 65 = .ok (.getfield 12, 3) by decide +kernel) fx_11_12
theorem ux_46_68 : pm_w d 46 68 ls st h Q ↔ pm_r (st.drop 0) fun a s => (0 ≤ st.length ∧ pm_wt s ≤ 8 ∧ pm_tg h a 8) ∧ pm_ok d 55 (.inr (.inr (some a)) :: (st.take 0).reverse) h fun r h1 => pm_w d 46 71 ls (pm_pu r s) h1 Q := pw_virt (show decode (pm_b 46) 68 = .ok (.invokevirtual 165, 3) by decide +kernel) mx_11_165
theorem ux_46_71 : pm_w d 46 71 ls st h Q ↔ pm_i st fun x s => s = [] ∧ Q (some (.inl x)) h := pw_ireturn (show decode (pm_b 46) 71 = .ok (.ireturn, 1) by decide +kernel) rfl
theorem ux_46_72 : pm_w d 46 72 ls st h Q ↔ pm_lq ls 0 fun x => pm_w d 46 73 ls (.inr (.inr x) :: st) h Q := pw_aload_n (show decode (pm_b 46) 72 = .ok (.aload_n 0, 1) by decide +kernel)
theorem ux_46_73 : pm_w d 46 73 ls st h Q ↔ pm_r st fun a s => pm_tgs h a [11] ∧ pm_w d 46 76 ls (.inr (.inr (h.2.1 a 0)) :: s) h Q := pw_get (show decode (pm_b 46) 73 = .ok (.getfield 12, 3) by decide +kernel) fx_11_12
theorem ux_46_76 : pm_w d 46 76 ls st h Q ↔ pm_r st fun a s => pm_tgs h a [8] ∧ pm_w d 46 79 ls (.inl (h.1 a 1) :: s) h Q := pw_get (show decode (pm_b 46) 76 = .ok (.getfield 64, 3) by decide +kernel) fx_11_64
theorem ux_46_79 : pm_w d 46 79 ls st h Q ↔ pm_i st fun x s => s = [] ∧ Q (some (.inl x)) h := pw_ireturn (show decode (pm_b 46) 79 = .ok (.ireturn, 1) by decide +kernel) rfl
theorem ux_46_80 : pm_w d 46 80 ls st h Q ↔ pm_lq ls 0 fun x => pm_w d 46 81 ls (.inr (.inr x) :: st) h Q := pw_aload_n (show decode (pm_b 46) 80 = .ok (.aload_n 0, 1) by decide +kernel)
theorem ux_46_81 : pm_w d 46 81 ls st h Q ↔ pm_r st fun a s => pm_tgs h a [11] ∧ pm_w d 46 84 ls (.inr (.inr (h.2.1 a 1)) :: s) h Q := pw_get (show decode (pm_b 46) 81 = .ok (.getfield 19, 3) by decide +kernel) fx_11_19
theorem ux_46_84 : pm_w d 46 84 ls st h Q ↔ pm_r st fun a s => pm_tgs h a [3] ∧ pm_w d 46 87 ls (.inl (h.1 a 2) :: s) h Q := pw_get (show decode (pm_b 46) 84 = .ok (.getfield 148, 3) by decide +kernel) fx_11_148
theorem ux_46_87 : pm_w d 46 87 ls st h Q ↔ pm_i st fun x s => s = [] ∧ Q (some (.inl x)) h := pw_ireturn (show decode (pm_b 46) 87 = .ok (.ireturn, 1) by decide +kernel) rfl
theorem ux_46_88 : pm_w d 46 88 ls st h Q ↔ pm_w d 46 89 ls (.inl (-1) :: st) h Q := pw_iconst (show decode (pm_b 46) 88 = .ok (.iconst (-1), 1) by decide +kernel) (by unfold pm_I32; decide)
theorem ux_46_89 : pm_w d 46 89 ls st h Q ↔ pm_i st fun x s => s = [] ∧ Q (some (.inl x)) h := pw_ireturn (show decode (pm_b 46) 89 = .ok (.ireturn, 1) by decide +kernel) rfl
-- 47: L.knownFrame
theorem ux_47_0 : pm_w d 47 0 ls st h Q ↔ pm_lq ls 0 fun x => pm_w d 47 1 ls (.inr (.inr x) :: st) h Q := pw_aload_n (show decode (pm_b 47) 0 = .ok (.aload_n 0, 1) by decide +kernel)
theorem ux_47_1 : pm_w d 47 1 ls st h Q ↔ pm_r st fun a s => pm_tgs h a [11] ∧ pm_w d 47 4 ls (.inl (h.1 a 4) :: s) h Q := pw_get (show decode (pm_b 47) 1 = .ok (.getfield 251, 3) by decide +kernel) fx_11_251
theorem ux_47_4 : pm_w d 47 4 ls st h Q ↔ pm_i st fun x s => ((x ≠ 0) → pm_w d 47 31 ls s h Q) ∧ (¬ (x ≠ 0) → pm_w d 47 7 ls s h Q) := pw_if_ne (show decode (pm_b 47) 4 = .ok (.ifCond .ne 27, 3) by decide +kernel) (by decide)
theorem ux_47_7 : pm_w d 47 7 ls st h Q ↔ pm_lq ls 0 fun x => pm_w d 47 8 ls (.inr (.inr x) :: st) h Q := pw_aload_n (show decode (pm_b 47) 7 = .ok (.aload_n 0, 1) by decide +kernel)
theorem ux_47_8 : pm_w d 47 8 ls st h Q ↔ pm_r st fun a s => pm_tgs h a [11] ∧ pm_w d 47 11 ls (.inr (.inr (h.2.1 a 2)) :: s) h Q := pw_get (show decode (pm_b 47) 8 = .ok (.getfield 26, 3) by decide +kernel) fx_11_26
theorem ux_47_11 : pm_w d 47 11 ls st h Q ↔ pm_lq ls 0 fun x => pm_w d 47 12 ls (.inr (.inr x) :: st) h Q := pw_aload_n (show decode (pm_b 47) 11 = .ok (.aload_n 0, 1) by decide +kernel)
theorem ux_47_12 : pm_w d 47 12 ls st h Q ↔ pm_r st fun a s => pm_tgs h a [11] ∧ pm_w d 47 15 ls (.inr (.inr (h.2.1 a 0)) :: s) h Q := pw_get (show decode (pm_b 47) 12 = .ok (.getfield 12, 3) by decide +kernel) fx_11_12
theorem ux_47_15 : pm_w d 47 15 ls st h Q ↔ pm_lq ls 0 fun x => pm_w d 47 16 ls (.inr (.inr x) :: st) h Q := pw_aload_n (show decode (pm_b 47) 15 = .ok (.aload_n 0, 1) by decide +kernel)
theorem ux_47_16 : pm_w d 47 16 ls st h Q ↔ pm_r st fun a s => pm_tgs h a [11] ∧ pm_w d 47 19 ls (.inr (.inr (h.2.1 a 0)) :: s) h Q := pw_get (show decode (pm_b 47) 16 = .ok (.getfield 12, 3) by decide +kernel) fx_11_12
theorem ux_47_19 : pm_w d 47 19 ls st h Q ↔ pm_r st fun a s => pm_tgs h a [8] ∧ pm_w d 47 22 ls (.inl (h.1 a 0) :: s) h Q := pw_get (show decode (pm_b 47) 19 = .ok (.getfield 57, 3) by decide +kernel) fx_11_57
theorem ux_47_22 : pm_w d 47 22 ls st h Q ↔ pm_w d 47 23 ls (.inl 0 :: st) h Q := pw_iconst (show decode (pm_b 47) 22 = .ok (.iconst 0, 1) by decide +kernel) (by unfold pm_I32; decide)
theorem ux_47_23 : pm_w d 47 23 ls st h Q ↔ pm_r (st.drop 3) fun a s => (3 ≤ st.length ∧ pm_wt s ≤ 8 ∧ pm_tg h a 1) ∧ pm_ok d 48 (.inr (.inr (some a)) :: (st.take 3).reverse) h fun r h1 => pm_w d 47 26 ls (pm_pu r s) h1 Q := pw_virt (show decode (pm_b 47) 23 = .ok (.invokevirtual 279, 3) by decide +kernel) mx_11_279
theorem ux_47_26 : pm_w d 47 26 ls st h Q ↔ pm_lq ls 0 fun x => pm_w d 47 27 ls (.inr (.inr x) :: st) h Q := pw_aload_n (show decode (pm_b 47) 26 = .ok (.aload_n 0, 1) by decide +kernel)
theorem ux_47_27 : pm_w d 47 27 ls st h Q ↔ pm_w d 47 28 ls (.inl 1 :: st) h Q := pw_iconst (show decode (pm_b 47) 27 = .ok (.iconst 1, 1) by decide +kernel) (by unfold pm_I32; decide)
theorem ux_47_28 : pm_w d 47 28 ls st h Q ↔ pm_i st fun x s => pm_r s fun a s => ((x = 0 ∨ x = 1) ∧ pm_tgs h a [11]) ∧ pm_w d 47 31 ls s (pm_wI h a 4 x) Q := pw_put1 (show decode (pm_b 47) 28 = .ok (.putfield 251, 3) by decide +kernel) fx_11_251 (Or.inl rfl)
theorem ux_47_31 : pm_w d 47 31 ls st h Q ↔ pm_lq ls 0 fun x => pm_w d 47 32 ls (.inr (.inr x) :: st) h Q := pw_aload_n (show decode (pm_b 47) 31 = .ok (.aload_n 0, 1) by decide +kernel)
theorem ux_47_32 : pm_w d 47 32 ls st h Q ↔ pm_r st fun a s => pm_tgs h a [11] ∧ pm_w d 47 35 ls (.inr (.inr (h.2.1 a 2)) :: s) h Q := pw_get (show decode (pm_b 47) 32 = .ok (.getfield 26, 3) by decide +kernel) fx_11_26
theorem ux_47_35 : pm_w d 47 35 ls st h Q ↔ pm_q st fun x s => s = [] ∧ Q (some (.inr (.inr x))) h := pw_areturn (show decode (pm_b 47) 35 = .ok (.areturn, 1) by decide +kernel) rfl
-- 48: LFrame.build
theorem ux_48_0 : pm_w d 48 0 ls st h Q ↔ pm_lq ls 0 fun x => pm_w d 48 1 ls (.inr (.inr x) :: st) h Q := pw_aload_n (show decode (pm_b 48) 0 = .ok (.aload_n 0, 1) by decide +kernel)
theorem ux_48_1 : pm_w d 48 1 ls st h Q ↔ pm_li ls 2 fun x => pm_w d 48 2 ls (.inl x :: st) h Q := pw_iload_n (show decode (pm_b 48) 1 = .ok (.iload_n 2, 1) by decide +kernel)
theorem ux_48_2 : pm_w d 48 2 ls st h Q ↔ pm_i st fun x s => pm_r s fun a s => (pm_tgs h a [1]) ∧ pm_w d 48 5 ls s (pm_wI h a 0 x) Q := pw_put0 (show decode (pm_b 48) 2 = .ok (.putfield 25, 3) by decide +kernel) fx_1_25 (Or.inl rfl)
theorem ux_48_5 : pm_w d 48 5 ls st h Q ↔ pm_lq ls 0 fun x => pm_w d 48 6 ls (.inr (.inr x) :: st) h Q := pw_aload_n (show decode (pm_b 48) 5 = .ok (.aload_n 0, 1) by decide +kernel)
theorem ux_48_6 : pm_w d 48 6 ls st h Q ↔ pm_lq ls 1 fun x => pm_w d 48 7 ls (.inr (.inr x) :: st) h Q := pw_aload_n (show decode (pm_b 48) 6 = .ok (.aload_n 1, 1) by decide +kernel)
theorem ux_48_7 : pm_w d 48 7 ls st h Q ↔ pm_r st fun a s => pm_tgs h a [8] ∧ pm_w d 48 10 ls (.inl (h.1 a 2) :: s) h Q := pw_get (show decode (pm_b 48) 7 = .ok (.getfield 29, 3) by decide +kernel) fx_1_29
theorem ux_48_10 : pm_w d 48 10 ls st h Q ↔ pm_i st fun x s => pm_r s fun a s => (pm_tgs h a [1]) ∧ pm_w d 48 13 ls s (pm_wI h a 1 x) Q := pw_put0 (show decode (pm_b 48) 10 = .ok (.putfield 34, 3) by decide +kernel) fx_1_34 (Or.inl rfl)
theorem ux_48_13 : pm_w d 48 13 ls st h Q ↔ pm_lq ls 0 fun x => pm_w d 48 14 ls (.inr (.inr x) :: st) h Q := pw_aload_n (show decode (pm_b 48) 13 = .ok (.aload_n 0, 1) by decide +kernel)
theorem ux_48_14 : pm_w d 48 14 ls st h Q ↔ pm_w d 48 15 ls (.inl 0 :: st) h Q := pw_iconst (show decode (pm_b 48) 14 = .ok (.iconst 0, 1) by decide +kernel) (by unfold pm_I32; decide)
theorem ux_48_15 : pm_w d 48 15 ls st h Q ↔ pm_i st fun x s => pm_r s fun a s => (pm_tgs h a [1]) ∧ pm_w d 48 18 ls s (pm_wI h a 2 x) Q := pw_put0 (show decode (pm_b 48) 15 = .ok (.putfield 35, 3) by decide +kernel) fx_1_35 (Or.inl rfl)
theorem ux_48_18 : pm_w d 48 18 ls st h Q ↔ pm_w d 48 19 ls (.inl 0 :: st) h Q := pw_iconst (show decode (pm_b 48) 18 = .ok (.iconst 0, 1) by decide +kernel) (by unfold pm_I32; decide)
theorem ux_48_19 : pm_w d 48 19 ls st h Q ↔ pm_i st fun x s => pm_w d 48 21 (pm_s1 ls 4 (.inl x)) s h Q := pw_istore (show decode (pm_b 48) 19 = .ok (.istore 4, 2) by decide +kernel) (by decide)
theorem ux_48_21 : pm_w d 48 21 ls st h Q ↔ pm_li ls 4 fun x => pm_w d 48 23 ls (.inl x :: st) h Q := pw_iload (show decode (pm_b 48) 21 = .ok (.iload 4, 2) by decide +kernel)
theorem ux_48_23 : pm_w d 48 23 ls st h Q ↔ pm_lq ls 0 fun x => pm_w d 48 24 ls (.inr (.inr x) :: st) h Q := pw_aload_n (show decode (pm_b 48) 23 = .ok (.aload_n 0, 1) by decide +kernel)
theorem ux_48_24 : pm_w d 48 24 ls st h Q ↔ pm_r st fun a s => pm_tgs h a [1] ∧ pm_w d 48 27 ls (.inl (h.1 a 1) :: s) h Q := pw_get (show decode (pm_b 48) 24 = .ok (.getfield 34, 3) by decide +kernel) fx_1_34
theorem ux_48_27 : pm_w d 48 27 ls st h Q ↔ pm_i st fun y s => pm_i s fun x s => ((y ≤ x) → pm_w d 48 51 ls s h Q) ∧ (¬ (y ≤ x) → pm_w d 48 30 ls s h Q) := pw_ic_ge (show decode (pm_b 48) 27 = .ok (.if_icmp .ge 24, 3) by decide +kernel) (by decide)
theorem ux_48_30 : pm_w d 48 30 ls st h Q ↔ pm_lq ls 0 fun x => pm_w d 48 31 ls (.inr (.inr x) :: st) h Q := pw_aload_n (show decode (pm_b 48) 30 = .ok (.aload_n 0, 1) by decide +kernel)
theorem ux_48_31 : pm_w d 48 31 ls st h Q ↔ pm_lq ls 1 fun x => pm_w d 48 32 ls (.inr (.inr x) :: st) h Q := pw_aload_n (show decode (pm_b 48) 31 = .ok (.aload_n 1, 1) by decide +kernel)
theorem ux_48_32 : pm_w d 48 32 ls st h Q ↔ pm_li ls 4 fun x => pm_w d 48 34 ls (.inl x :: st) h Q := pw_iload (show decode (pm_b 48) 32 = .ok (.iload 4, 2) by decide +kernel)
theorem ux_48_34 : pm_w d 48 34 ls st h Q ↔ pm_r (st.drop 1) fun a s => (1 ≤ st.length ∧ pm_wt s ≤ 8 ∧ pm_tg h a 8) ∧ pm_ok d 25 (.inr (.inr (some a)) :: (st.take 1).reverse) h fun r h1 => pm_w d 48 37 ls (pm_pu r s) h1 Q := pw_virt (show decode (pm_b 48) 34 = .ok (.invokevirtual 38, 3) by decide +kernel) mx_1_38
theorem ux_48_37 : pm_w d 48 37 ls st h Q ↔ pm_lq ls 1 fun x => pm_w d 48 38 ls (.inr (.inr x) :: st) h Q := pw_aload_n (show decode (pm_b 48) 37 = .ok (.aload_n 1, 1) by decide +kernel)
theorem ux_48_38 : pm_w d 48 38 ls st h Q ↔ pm_r st fun a s => pm_tgs h a [8] ∧ pm_w d 48 41 ls (.inl (h.1 a 1) :: s) h Q := pw_get (show decode (pm_b 48) 38 = .ok (.getfield 42, 3) by decide +kernel) fx_1_42
theorem ux_48_41 : pm_w d 48 41 ls st h Q ↔ pm_li ls 3 fun x => pm_w d 48 42 ls (.inl x :: st) h Q := pw_iload_n (show decode (pm_b 48) 41 = .ok (.iload_n 3, 1) by decide +kernel)
theorem ux_48_42 : pm_w d 48 42 ls st h Q ↔ pm_r (st.drop 3) fun a s => (3 ≤ st.length ∧ pm_wt s ≤ 8 ∧ pm_tg h a 1) ∧ pm_ok d 49 (.inr (.inr (some a)) :: (st.take 3).reverse) h fun r h1 => pm_w d 48 45 ls (pm_pu r s) h1 Q := pw_virt (show decode (pm_b 48) 42 = .ok (.invokevirtual 45, 3) by decide +kernel) mx_1_45
theorem ux_48_45 : pm_w d 48 45 ls st h Q ↔ pm_li ls 4 fun x => pm_I32 (x + 1) ∧ pm_w d 48 48 (pm_s1 ls 4 (.inl (x + 1))) st h Q := pw_iinc (show decode (pm_b 48) 45 = .ok (.iinc 4 1, 3) by decide +kernel) (by decide)
theorem ux_48_48 : pm_w d 48 48 ls st h Q ↔ pm_w d 48 21 ls st h Q := pw_goto (show decode (pm_b 48) 48 = .ok (.goto (-27), 3) by decide +kernel) (by decide)
theorem ux_48_51 : pm_w d 48 51 ls st h Q ↔ pm_lq ls 0 fun x => pm_w d 48 52 ls (.inr (.inr x) :: st) h Q := pw_aload_n (show decode (pm_b 48) 51 = .ok (.aload_n 0, 1) by decide +kernel)
theorem ux_48_52 : pm_w d 48 52 ls st h Q ↔ pm_lq ls 0 fun x => pm_w d 48 53 ls (.inr (.inr x) :: st) h Q := pw_aload_n (show decode (pm_b 48) 52 = .ok (.aload_n 0, 1) by decide +kernel)
theorem ux_48_53 : pm_w d 48 53 ls st h Q ↔ pm_r st fun a s => pm_tgs h a [1] ∧ pm_w d 48 56 ls (.inl (h.1 a 2) :: s) h Q := pw_get (show decode (pm_b 48) 53 = .ok (.getfield 35, 3) by decide +kernel) fx_1_35
theorem ux_48_56 : pm_w d 48 56 ls st h Q ↔ pm_w d 48 57 ls (.inl 1 :: st) h Q := pw_iconst (show decode (pm_b 48) 56 = .ok (.iconst 1, 1) by decide +kernel) (by unfold pm_I32; decide)
theorem ux_48_57 : pm_w d 48 57 ls st h Q ↔ pm_i st fun y s => pm_i s fun x s => pm_I32 (x - y) ∧ pm_w d 48 58 ls (.inl (x - y) :: s) h Q := pw_isub (show decode (pm_b 48) 57 = .ok (.isub, 1) by decide +kernel)
theorem ux_48_58 : pm_w d 48 58 ls st h Q ↔ pm_w d 48 59 ls (.inl 0 :: st) h Q := pw_iconst (show decode (pm_b 48) 58 = .ok (.iconst 0, 1) by decide +kernel) (by unfold pm_I32; decide)
theorem ux_48_59 : pm_w d 48 59 ls st h Q ↔ pm_i st fun y s => pm_i s fun x s => pm_wt s ≤ 8 ∧ pm_w d 48 62 ls (.inl (max x y) :: s) h Q := pw_max (show decode (pm_b 48) 59 = .ok (.invokestatic 49, 3) by decide +kernel) mx_1_49
theorem ux_48_62 : pm_w d 48 62 ls st h Q ↔ pm_i st fun x s => pm_r s fun a s => (pm_tgs h a [1]) ∧ pm_w d 48 65 ls s (pm_wI h a 3 x) Q := pw_put0 (show decode (pm_b 48) 62 = .ok (.putfield 55, 3) by decide +kernel) fx_1_55 (Or.inl rfl)
theorem ux_48_65 : pm_w d 48 65 ls st h Q ↔ pm_w d 48 66 ls (.inl 0 :: st) h Q := pw_iconst (show decode (pm_b 48) 65 = .ok (.iconst 0, 1) by decide +kernel) (by unfold pm_I32; decide)
theorem ux_48_66 : pm_w d 48 66 ls st h Q ↔ pm_i st fun x s => pm_w d 48 68 (pm_s1 ls 4 (.inl x)) s h Q := pw_istore (show decode (pm_b 48) 66 = .ok (.istore 4, 2) by decide +kernel) (by decide)
theorem ux_48_68 : pm_w d 48 68 ls st h Q ↔ pm_li ls 4 fun x => pm_w d 48 70 ls (.inl x :: st) h Q := pw_iload (show decode (pm_b 48) 68 = .ok (.iload 4, 2) by decide +kernel)
theorem ux_48_70 : pm_w d 48 70 ls st h Q ↔ pm_lq ls 0 fun x => pm_w d 48 71 ls (.inr (.inr x) :: st) h Q := pw_aload_n (show decode (pm_b 48) 70 = .ok (.aload_n 0, 1) by decide +kernel)
theorem ux_48_71 : pm_w d 48 71 ls st h Q ↔ pm_r st fun a s => pm_tgs h a [1] ∧ pm_w d 48 74 ls (.inl (h.1 a 1) :: s) h Q := pw_get (show decode (pm_b 48) 71 = .ok (.getfield 34, 3) by decide +kernel) fx_1_34
theorem ux_48_74 : pm_w d 48 74 ls st h Q ↔ pm_i st fun y s => pm_i s fun x s => ((y ≤ x) → pm_w d 48 147 ls s h Q) ∧ (¬ (y ≤ x) → pm_w d 48 77 ls s h Q) := pw_ic_ge (show decode (pm_b 48) 74 = .ok (.if_icmp .ge 73, 3) by decide +kernel) (by decide)
theorem ux_48_77 : pm_w d 48 77 ls st h Q ↔ pm_lq ls 1 fun x => pm_w d 48 78 ls (.inr (.inr x) :: st) h Q := pw_aload_n (show decode (pm_b 48) 77 = .ok (.aload_n 1, 1) by decide +kernel)
theorem ux_48_78 : pm_w d 48 78 ls st h Q ↔ pm_li ls 4 fun x => pm_w d 48 80 ls (.inl x :: st) h Q := pw_iload (show decode (pm_b 48) 78 = .ok (.iload 4, 2) by decide +kernel)
theorem ux_48_80 : pm_w d 48 80 ls st h Q ↔ pm_r (st.drop 1) fun a s => (1 ≤ st.length ∧ pm_wt s ≤ 8 ∧ pm_tg h a 8) ∧ pm_ok d 25 (.inr (.inr (some a)) :: (st.take 1).reverse) h fun r h1 => pm_w d 48 83 ls (pm_pu r s) h1 Q := pw_virt (show decode (pm_b 48) 80 = .ok (.invokevirtual 38, 3) by decide +kernel) mx_1_38
theorem ux_48_83 : pm_w d 48 83 ls st h Q ↔ pm_q st fun x s => pm_w d 48 85 (pm_s1 ls 5 (.inr (.inr x))) s h Q := pw_astore (show decode (pm_b 48) 83 = .ok (.astore 5, 2) by decide +kernel) (by decide)
theorem ux_48_85 : pm_w d 48 85 ls st h Q ↔ pm_lq ls 0 fun x => pm_w d 48 86 ls (.inr (.inr x) :: st) h Q := pw_aload_n (show decode (pm_b 48) 85 = .ok (.aload_n 0, 1) by decide +kernel)
theorem ux_48_86 : pm_w d 48 86 ls st h Q ↔ pm_r st fun a s => pm_tgs h a [1] ∧ pm_w d 48 89 ls (.inr (.inr (h.2.1 a 5)) :: s) h Q := pw_get (show decode (pm_b 48) 86 = .ok (.getfield 15, 3) by decide +kernel) fx_1_15
theorem ux_48_89 : pm_w d 48 89 ls st h Q ↔ pm_li ls 4 fun x => pm_w d 48 91 ls (.inl x :: st) h Q := pw_iload (show decode (pm_b 48) 89 = .ok (.iload 4, 2) by decide +kernel)
theorem ux_48_91 : pm_w d 48 91 ls st h Q ↔ pm_lq ls 1 fun x => pm_w d 48 92 ls (.inr (.inr x) :: st) h Q := pw_aload_n (show decode (pm_b 48) 91 = .ok (.aload_n 1, 1) by decide +kernel)
theorem ux_48_92 : pm_w d 48 92 ls st h Q ↔ pm_li ls 4 fun x => pm_w d 48 94 ls (.inl x :: st) h Q := pw_iload (show decode (pm_b 48) 92 = .ok (.iload 4, 2) by decide +kernel)
theorem ux_48_94 : pm_w d 48 94 ls st h Q ↔ pm_r (st.drop 1) fun a s => (1 ≤ st.length ∧ pm_wt s ≤ 8 ∧ pm_tg h a 8) ∧ pm_ok d 51 (.inr (.inr (some a)) :: (st.take 1).reverse) h fun r h1 => pm_w d 48 97 ls (pm_pu r s) h1 Q := pw_virt (show decode (pm_b 48) 94 = .ok (.invokevirtual 58, 3) by decide +kernel) mx_1_58
theorem ux_48_97 : pm_w d 48 97 ls st h Q ↔ pm_i st fun v s => pm_i s fun x s => pm_r s fun a s => pm_inb h a 20 x ∧ pm_w d 48 98 ls s (pm_wI h a x.toNat v) Q := pw_iastore (show decode (pm_b 48) 97 = .ok (.iastore, 1) by decide +kernel)
theorem ux_48_98 : pm_w d 48 98 ls st h Q ↔ pm_lq ls 0 fun x => pm_w d 48 99 ls (.inr (.inr x) :: st) h Q := pw_aload_n (show decode (pm_b 48) 98 = .ok (.aload_n 0, 1) by decide +kernel)
theorem ux_48_99 : pm_w d 48 99 ls st h Q ↔ pm_r st fun a s => pm_tgs h a [1] ∧ pm_w d 48 102 ls (.inr (.inr (h.2.1 a 6)) :: s) h Q := pw_get (show decode (pm_b 48) 99 = .ok (.getfield 18, 3) by decide +kernel) fx_1_18
theorem ux_48_102 : pm_w d 48 102 ls st h Q ↔ pm_li ls 4 fun x => pm_w d 48 104 ls (.inl x :: st) h Q := pw_iload (show decode (pm_b 48) 102 = .ok (.iload 4, 2) by decide +kernel)
theorem ux_48_104 : pm_w d 48 104 ls st h Q ↔ pm_lq ls 5 fun x => pm_w d 48 106 ls (.inr (.inr x) :: st) h Q := pw_aload (show decode (pm_b 48) 104 = .ok (.aload 5, 2) by decide +kernel)
theorem ux_48_106 : pm_w d 48 106 ls st h Q ↔ pm_q st fun x s => (x ≠ none → pm_w d 48 113 ls s h Q) ∧ (¬ (x ≠ none) → pm_w d 48 109 ls s h Q) := pw_ifnonnull (show decode (pm_b 48) 106 = .ok (.ifnonnull 7, 3) by decide +kernel) (by decide)
theorem ux_48_109 : pm_w d 48 109 ls st h Q ↔ pm_w d 48 110 ls (.inl 0 :: st) h Q := pw_iconst (show decode (pm_b 48) 109 = .ok (.iconst 0, 1) by decide +kernel) (by unfold pm_I32; decide)
theorem ux_48_110 : pm_w d 48 110 ls st h Q ↔ pm_w d 48 122 ls st h Q := pw_goto (show decode (pm_b 48) 110 = .ok (.goto 12, 3) by decide +kernel) (by decide)
theorem ux_48_113 : pm_w d 48 113 ls st h Q ↔ pm_lq ls 5 fun x => pm_w d 48 115 ls (.inr (.inr x) :: st) h Q := pw_aload (show decode (pm_b 48) 113 = .ok (.aload 5, 2) by decide +kernel)
theorem ux_48_115 : pm_w d 48 115 ls st h Q ↔ pm_r (st.drop 0) fun a s => ∃ t n j, h.2.2[a]? = some (t, n) ∧ List.lookup t [(0, 39), (2, 39), (6, 39), (9, 38), (10, 39)] = some j ∧ (0 ≤ st.length ∧ pm_wt s ≤ 8) ∧ pm_ok d j (.inr (.inr (some a)) :: (st.take 0).reverse) h fun r h1 => pm_w d 48 118 ls (pm_pu r s) h1 Q := pw_virt3 (show decode (pm_b 48) 115 = .ok (.invokevirtual 62, 3) by decide +kernel) mx_1_62
theorem ux_48_118 : pm_w d 48 118 ls st h Q ↔ pm_li ls 2 fun x => pm_w d 48 119 ls (.inl x :: st) h Q := pw_iload_n (show decode (pm_b 48) 118 = .ok (.iload_n 2, 1) by decide +kernel)
theorem ux_48_119 : pm_w d 48 119 ls st h Q ↔ pm_i st fun y s => pm_i s fun x s => pm_wt s ≤ 8 ∧ pm_w d 48 122 ls (.inl (min x y) :: s) h Q := pw_min (show decode (pm_b 48) 119 = .ok (.invokestatic 68, 3) by decide +kernel) mx_1_68
theorem ux_48_122 : pm_w d 48 122 ls st h Q ↔ pm_i st fun v s => pm_i s fun x s => pm_r s fun a s => pm_inb h a 20 x ∧ pm_w d 48 123 ls s (pm_wI h a x.toNat v) Q := pw_iastore (show decode (pm_b 48) 122 = .ok (.iastore, 1) by decide +kernel)
theorem ux_48_123 : pm_w d 48 123 ls st h Q ↔ pm_lq ls 0 fun x => pm_w d 48 124 ls (.inr (.inr x) :: st) h Q := pw_aload_n (show decode (pm_b 48) 123 = .ok (.aload_n 0, 1) by decide +kernel)
theorem ux_48_124 : pm_w d 48 124 ls st h Q ↔ pm_r st fun a s => pm_tgs h a [1] ∧ pm_w d 48 127 ls (.inr (.inr (h.2.1 a 7)) :: s) h Q := pw_get (show decode (pm_b 48) 124 = .ok (.getfield 21, 3) by decide +kernel) fx_1_21
theorem ux_48_127 : pm_w d 48 127 ls st h Q ↔ pm_li ls 4 fun x => pm_w d 48 129 ls (.inl x :: st) h Q := pw_iload (show decode (pm_b 48) 127 = .ok (.iload 4, 2) by decide +kernel)
theorem ux_48_129 : pm_w d 48 129 ls st h Q ↔ pm_lq ls 0 fun x => pm_w d 48 130 ls (.inr (.inr x) :: st) h Q := pw_aload_n (show decode (pm_b 48) 129 = .ok (.aload_n 0, 1) by decide +kernel)
theorem ux_48_130 : pm_w d 48 130 ls st h Q ↔ pm_lq ls 5 fun x => pm_w d 48 132 ls (.inr (.inr x) :: st) h Q := pw_aload (show decode (pm_b 48) 130 = .ok (.aload 5, 2) by decide +kernel)
theorem ux_48_132 : pm_w d 48 132 ls st h Q ↔ pm_lq ls 1 fun x => pm_w d 48 133 ls (.inr (.inr x) :: st) h Q := pw_aload_n (show decode (pm_b 48) 132 = .ok (.aload_n 1, 1) by decide +kernel)
theorem ux_48_133 : pm_w d 48 133 ls st h Q ↔ pm_r st fun a s => pm_tgs h a [8] ∧ pm_w d 48 136 ls (.inl (h.1 a 1) :: s) h Q := pw_get (show decode (pm_b 48) 133 = .ok (.getfield 42, 3) by decide +kernel) fx_1_42
theorem ux_48_136 : pm_w d 48 136 ls st h Q ↔ pm_li ls 3 fun x => pm_w d 48 137 ls (.inl x :: st) h Q := pw_iload_n (show decode (pm_b 48) 136 = .ok (.iload_n 3, 1) by decide +kernel)
theorem ux_48_137 : pm_w d 48 137 ls st h Q ↔ pm_r (st.drop 3) fun a s => (3 ≤ st.length ∧ pm_wt s ≤ 8 ∧ pm_tg h a 1) ∧ pm_ok d 52 (.inr (.inr (some a)) :: (st.take 3).reverse) h fun r h1 => pm_w d 48 140 ls (pm_pu r s) h1 Q := pw_virt (show decode (pm_b 48) 137 = .ok (.invokevirtual 71, 3) by decide +kernel) mx_1_71
theorem ux_48_140 : pm_w d 48 140 ls st h Q ↔ pm_l st fun v s => pm_i s fun x s => pm_r s fun a s => pm_inb h a 21 x ∧ pm_w d 48 141 ls s (pm_wI h a x.toNat v) Q := pw_lastore (show decode (pm_b 48) 140 = .ok (.lastore, 1) by decide +kernel)
theorem ux_48_141 : pm_w d 48 141 ls st h Q ↔ pm_li ls 4 fun x => pm_I32 (x + 1) ∧ pm_w d 48 144 (pm_s1 ls 4 (.inl (x + 1))) st h Q := pw_iinc (show decode (pm_b 48) 141 = .ok (.iinc 4 1, 3) by decide +kernel) (by decide)
theorem ux_48_144 : pm_w d 48 144 ls st h Q ↔ pm_w d 48 68 ls st h Q := pw_goto (show decode (pm_b 48) 144 = .ok (.goto (-76), 3) by decide +kernel) (by decide)
theorem ux_48_147 : pm_w d 48 147 ls st h Q ↔ st = [] ∧ Q none h := pw_return (show decode (pm_b 48) 147 = .ok (.return_, 1) by decide +kernel) rfl
-- 49: LFrame.addMomentsOf
theorem ux_49_0 : pm_w d 49 0 ls st h Q ↔ pm_lq ls 1 fun x => pm_w d 49 1 ls (.inr (.inr x) :: st) h Q := pw_aload_n (show decode (pm_b 49) 0 = .ok (.aload_n 1, 1) by decide +kernel)
theorem ux_49_1 : pm_w d 49 1 ls st h Q ↔ pm_q st fun x s => (x ≠ none → pm_w d 49 5 ls s h Q) ∧ (¬ (x ≠ none) → pm_w d 49 4 ls s h Q) := pw_ifnonnull (show decode (pm_b 49) 1 = .ok (.ifnonnull 4, 3) by decide +kernel) (by decide)
theorem ux_49_4 : pm_w d 49 4 ls st h Q ↔ st = [] ∧ Q none h := pw_return (show decode (pm_b 49) 4 = .ok (.return_, 1) by decide +kernel) rfl
theorem ux_49_5 : pm_w d 49 5 ls st h Q ↔ pm_lq ls 0 fun x => pm_w d 49 6 ls (.inr (.inr x) :: st) h Q := pw_aload_n (show decode (pm_b 49) 5 = .ok (.aload_n 0, 1) by decide +kernel)
theorem ux_49_6 : pm_w d 49 6 ls st h Q ↔ pm_lq ls 1 fun x => pm_w d 49 7 ls (.inr (.inr x) :: st) h Q := pw_aload_n (show decode (pm_b 49) 6 = .ok (.aload_n 1, 1) by decide +kernel)
theorem ux_49_7 : pm_w d 49 7 ls st h Q ↔ pm_r st fun a s => pm_tgs h a [0, 2, 6, 9, 10] ∧ pm_w d 49 10 ls (.inl (h.1 a 1) :: s) h Q := pw_get (show decode (pm_b 49) 7 = .ok (.getfield 75, 3) by decide +kernel) fx_1_75
theorem ux_49_10 : pm_w d 49 10 ls st h Q ↔ pm_r (st.drop 1) fun a s => (1 ≤ st.length ∧ pm_wt s ≤ 8 ∧ pm_tg h a 1) ∧ pm_ok d 50 (.inr (.inr (some a)) :: (st.take 1).reverse) h fun r h1 => pm_w d 49 13 ls (pm_pu r s) h1 Q := pw_virt (show decode (pm_b 49) 10 = .ok (.invokevirtual 78, 3) by decide +kernel) mx_1_78
theorem ux_49_13 : pm_w d 49 13 ls st h Q ↔ pm_lq ls 0 fun x => pm_w d 49 14 ls (.inr (.inr x) :: st) h Q := pw_aload_n (show decode (pm_b 49) 13 = .ok (.aload_n 0, 1) by decide +kernel)
theorem ux_49_14 : pm_w d 49 14 ls st h Q ↔ pm_lq ls 1 fun x => pm_w d 49 15 ls (.inr (.inr x) :: st) h Q := pw_aload_n (show decode (pm_b 49) 14 = .ok (.aload_n 1, 1) by decide +kernel)
theorem ux_49_15 : pm_w d 49 15 ls st h Q ↔ pm_li ls 2 fun x => pm_w d 49 16 ls (.inl x :: st) h Q := pw_iload_n (show decode (pm_b 49) 15 = .ok (.iload_n 2, 1) by decide +kernel)
theorem ux_49_16 : pm_w d 49 16 ls st h Q ↔ pm_r (st.drop 1) fun a s => ∃ t n j, h.2.2[a]? = some (t, n) ∧ List.lookup t [(0, 37), (2, 36), (6, 37), (9, 37), (10, 37)] = some j ∧ (1 ≤ st.length ∧ pm_wt s ≤ 8) ∧ pm_ok d j (.inr (.inr (some a)) :: (st.take 1).reverse) h fun r h1 => pm_w d 49 19 ls (pm_pu r s) h1 Q := pw_virt3 (show decode (pm_b 49) 16 = .ok (.invokevirtual 82, 3) by decide +kernel) mx_1_82
theorem ux_49_19 : pm_w d 49 19 ls st h Q ↔ pm_li ls 3 fun x => pm_w d 49 20 ls (.inl x :: st) h Q := pw_iload_n (show decode (pm_b 49) 19 = .ok (.iload_n 3, 1) by decide +kernel)
theorem ux_49_20 : pm_w d 49 20 ls st h Q ↔ pm_i st fun y s => pm_i s fun x s => pm_I32 (x + y) ∧ pm_w d 49 21 ls (.inl (x + y) :: s) h Q := pw_iadd (show decode (pm_b 49) 20 = .ok (.iadd, 1) by decide +kernel)
theorem ux_49_21 : pm_w d 49 21 ls st h Q ↔ pm_r (st.drop 1) fun a s => (1 ≤ st.length ∧ pm_wt s ≤ 8 ∧ pm_tg h a 1) ∧ pm_ok d 50 (.inr (.inr (some a)) :: (st.take 1).reverse) h fun r h1 => pm_w d 49 24 ls (pm_pu r s) h1 Q := pw_virt (show decode (pm_b 49) 21 = .ok (.invokevirtual 78, 3) by decide +kernel) mx_1_78
theorem ux_49_24 : pm_w d 49 24 ls st h Q ↔ pm_lq ls 1 fun x => pm_w d 49 25 ls (.inr (.inr x) :: st) h Q := pw_aload_n (show decode (pm_b 49) 24 = .ok (.aload_n 1, 1) by decide +kernel)
theorem ux_49_25 : pm_w d 49 25 ls st h Q ↔ pm_q st fun x s => (x = none → pm_w d 49 28 ls (.inl 0 :: s) h Q) ∧ (∀ a, x = some a → ∃ t n, h.2.2[a]? = some (t, n) ∧ t ∈ [0, 2, 6, 9, 10] ∧ pm_w d 49 28 ls (.inl (if pm_cn t = "LoomShed$Barred" then 1 else 0) :: s) h Q) := pw_instanceof (show decode (pm_b 49) 25 = .ok (.instanceof 85, 3) by decide +kernel) cx_1_85 (by decide)
theorem ux_49_28 : pm_w d 49 28 ls st h Q ↔ pm_i st fun x s => ((x = 0) → pm_w d 49 47 ls s h Q) ∧ (¬ (x = 0) → pm_w d 49 31 ls s h Q) := pw_if_eq (show decode (pm_b 49) 28 = .ok (.ifCond .eq 19, 3) by decide +kernel) (by decide)
theorem ux_49_31 : pm_w d 49 31 ls st h Q ↔ pm_lq ls 0 fun x => pm_w d 49 32 ls (.inr (.inr x) :: st) h Q := pw_aload_n (show decode (pm_b 49) 31 = .ok (.aload_n 0, 1) by decide +kernel)
theorem ux_49_32 : pm_w d 49 32 ls st h Q ↔ pm_lq ls 1 fun x => pm_w d 49 33 ls (.inr (.inr x) :: st) h Q := pw_aload_n (show decode (pm_b 49) 32 = .ok (.aload_n 1, 1) by decide +kernel)
theorem ux_49_33 : pm_w d 49 33 ls st h Q ↔ pm_r (st.drop 0) fun a s => ∃ t n j, h.2.2[a]? = some (t, n) ∧ List.lookup t [(0, 40), (2, 41), (6, 41), (9, 41), (10, 41)] = some j ∧ (0 ≤ st.length ∧ pm_wt s ≤ 8) ∧ pm_ok d j (.inr (.inr (some a)) :: (st.take 0).reverse) h fun r h1 => pm_w d 49 36 ls (pm_pu r s) h1 Q := pw_virt3 (show decode (pm_b 49) 33 = .ok (.invokevirtual 87, 3) by decide +kernel) mx_1_87
theorem ux_49_36 : pm_w d 49 36 ls st h Q ↔ pm_r (st.drop 1) fun a s => (1 ≤ st.length ∧ pm_wt s ≤ 8 ∧ pm_tg h a 1) ∧ pm_ok d 50 (.inr (.inr (some a)) :: (st.take 1).reverse) h fun r h1 => pm_w d 49 39 ls (pm_pu r s) h1 Q := pw_virt (show decode (pm_b 49) 36 = .ok (.invokevirtual 78, 3) by decide +kernel) mx_1_78
theorem ux_49_39 : pm_w d 49 39 ls st h Q ↔ pm_lq ls 0 fun x => pm_w d 49 40 ls (.inr (.inr x) :: st) h Q := pw_aload_n (show decode (pm_b 49) 39 = .ok (.aload_n 0, 1) by decide +kernel)
theorem ux_49_40 : pm_w d 49 40 ls st h Q ↔ pm_lq ls 1 fun x => pm_w d 49 41 ls (.inr (.inr x) :: st) h Q := pw_aload_n (show decode (pm_b 49) 40 = .ok (.aload_n 1, 1) by decide +kernel)
theorem ux_49_41 : pm_w d 49 41 ls st h Q ↔ pm_r (st.drop 0) fun a s => ∃ t n j, h.2.2[a]? = some (t, n) ∧ List.lookup t [(0, 42), (2, 43), (6, 43), (9, 43), (10, 43)] = some j ∧ (0 ≤ st.length ∧ pm_wt s ≤ 8) ∧ pm_ok d j (.inr (.inr (some a)) :: (st.take 0).reverse) h fun r h1 => pm_w d 49 44 ls (pm_pu r s) h1 Q := pw_virt3 (show decode (pm_b 49) 41 = .ok (.invokevirtual 90, 3) by decide +kernel) mx_1_90
theorem ux_49_44 : pm_w d 49 44 ls st h Q ↔ pm_r (st.drop 1) fun a s => (1 ≤ st.length ∧ pm_wt s ≤ 8 ∧ pm_tg h a 1) ∧ pm_ok d 50 (.inr (.inr (some a)) :: (st.take 1).reverse) h fun r h1 => pm_w d 49 47 ls (pm_pu r s) h1 Q := pw_virt (show decode (pm_b 49) 44 = .ok (.invokevirtual 78, 3) by decide +kernel) mx_1_78
theorem ux_49_47 : pm_w d 49 47 ls st h Q ↔ st = [] ∧ Q none h := pw_return (show decode (pm_b 49) 47 = .ok (.return_, 1) by decide +kernel) rfl
-- 50: LFrame.addMoment
theorem ux_50_0 : pm_w d 50 0 ls st h Q ↔ pm_w d 50 1 ls (.inl 0 :: st) h Q := pw_iconst (show decode (pm_b 50) 0 = .ok (.iconst 0, 1) by decide +kernel) (by unfold pm_I32; decide)
theorem ux_50_1 : pm_w d 50 1 ls st h Q ↔ pm_i st fun x s => pm_w d 50 2 (pm_s1 ls 2 (.inl x)) s h Q := pw_istore_n (show decode (pm_b 50) 1 = .ok (.istore_n 2, 1) by decide +kernel) (by decide)
theorem ux_50_2 : pm_w d 50 2 ls st h Q ↔ pm_li ls 2 fun x => pm_w d 50 3 ls (.inl x :: st) h Q := pw_iload_n (show decode (pm_b 50) 2 = .ok (.iload_n 2, 1) by decide +kernel)
theorem ux_50_3 : pm_w d 50 3 ls st h Q ↔ pm_lq ls 0 fun x => pm_w d 50 4 ls (.inr (.inr x) :: st) h Q := pw_aload_n (show decode (pm_b 50) 3 = .ok (.aload_n 0, 1) by decide +kernel)
theorem ux_50_4 : pm_w d 50 4 ls st h Q ↔ pm_r st fun a s => pm_tgs h a [1] ∧ pm_w d 50 7 ls (.inl (h.1 a 2) :: s) h Q := pw_get (show decode (pm_b 50) 4 = .ok (.getfield 35, 3) by decide +kernel) fx_1_35
theorem ux_50_7 : pm_w d 50 7 ls st h Q ↔ pm_i st fun y s => pm_i s fun x s => ((y ≤ x) → pm_w d 50 26 ls s h Q) ∧ (¬ (y ≤ x) → pm_w d 50 10 ls s h Q) := pw_ic_ge (show decode (pm_b 50) 7 = .ok (.if_icmp .ge 19, 3) by decide +kernel) (by decide)
theorem ux_50_10 : pm_w d 50 10 ls st h Q ↔ pm_lq ls 0 fun x => pm_w d 50 11 ls (.inr (.inr x) :: st) h Q := pw_aload_n (show decode (pm_b 50) 10 = .ok (.aload_n 0, 1) by decide +kernel)
theorem ux_50_11 : pm_w d 50 11 ls st h Q ↔ pm_r st fun a s => pm_tgs h a [1] ∧ pm_w d 50 14 ls (.inr (.inr (h.2.1 a 4)) :: s) h Q := pw_get (show decode (pm_b 50) 11 = .ok (.getfield 9, 3) by decide +kernel) fx_1_9
theorem ux_50_14 : pm_w d 50 14 ls st h Q ↔ pm_li ls 2 fun x => pm_w d 50 15 ls (.inl x :: st) h Q := pw_iload_n (show decode (pm_b 50) 14 = .ok (.iload_n 2, 1) by decide +kernel)
theorem ux_50_15 : pm_w d 50 15 ls st h Q ↔ pm_i st fun x s => pm_r s fun a s => pm_inb h a 20 x ∧ pm_w d 50 16 ls (.inl (h.1 a x.toNat) :: s) h Q := pw_iaload (show decode (pm_b 50) 15 = .ok (.iaload, 1) by decide +kernel)
theorem ux_50_16 : pm_w d 50 16 ls st h Q ↔ pm_li ls 1 fun x => pm_w d 50 17 ls (.inl x :: st) h Q := pw_iload_n (show decode (pm_b 50) 16 = .ok (.iload_n 1, 1) by decide +kernel)
theorem ux_50_17 : pm_w d 50 17 ls st h Q ↔ pm_i st fun y s => pm_i s fun x s => ((y ≤ x) → pm_w d 50 26 ls s h Q) ∧ (¬ (y ≤ x) → pm_w d 50 20 ls s h Q) := pw_ic_ge (show decode (pm_b 50) 17 = .ok (.if_icmp .ge 9, 3) by decide +kernel) (by decide)
theorem ux_50_20 : pm_w d 50 20 ls st h Q ↔ pm_li ls 2 fun x => pm_I32 (x + 1) ∧ pm_w d 50 23 (pm_s1 ls 2 (.inl (x + 1))) st h Q := pw_iinc (show decode (pm_b 50) 20 = .ok (.iinc 2 1, 3) by decide +kernel) (by decide)
theorem ux_50_23 : pm_w d 50 23 ls st h Q ↔ pm_w d 50 2 ls st h Q := pw_goto (show decode (pm_b 50) 23 = .ok (.goto (-21), 3) by decide +kernel) (by decide)
theorem ux_50_26 : pm_w d 50 26 ls st h Q ↔ pm_li ls 2 fun x => pm_w d 50 27 ls (.inl x :: st) h Q := pw_iload_n (show decode (pm_b 50) 26 = .ok (.iload_n 2, 1) by decide +kernel)
theorem ux_50_27 : pm_w d 50 27 ls st h Q ↔ pm_lq ls 0 fun x => pm_w d 50 28 ls (.inr (.inr x) :: st) h Q := pw_aload_n (show decode (pm_b 50) 27 = .ok (.aload_n 0, 1) by decide +kernel)
theorem ux_50_28 : pm_w d 50 28 ls st h Q ↔ pm_r st fun a s => pm_tgs h a [1] ∧ pm_w d 50 31 ls (.inl (h.1 a 2) :: s) h Q := pw_get (show decode (pm_b 50) 28 = .ok (.getfield 35, 3) by decide +kernel) fx_1_35
theorem ux_50_31 : pm_w d 50 31 ls st h Q ↔ pm_i st fun y s => pm_i s fun x s => ((y ≤ x) → pm_w d 50 48 ls s h Q) ∧ (¬ (y ≤ x) → pm_w d 50 34 ls s h Q) := pw_ic_ge (show decode (pm_b 50) 31 = .ok (.if_icmp .ge 17, 3) by decide +kernel) (by decide)
theorem ux_50_34 : pm_w d 50 34 ls st h Q ↔ pm_lq ls 0 fun x => pm_w d 50 35 ls (.inr (.inr x) :: st) h Q := pw_aload_n (show decode (pm_b 50) 34 = .ok (.aload_n 0, 1) by decide +kernel)
theorem ux_50_35 : pm_w d 50 35 ls st h Q ↔ pm_r st fun a s => pm_tgs h a [1] ∧ pm_w d 50 38 ls (.inr (.inr (h.2.1 a 4)) :: s) h Q := pw_get (show decode (pm_b 50) 35 = .ok (.getfield 9, 3) by decide +kernel) fx_1_9
theorem ux_50_38 : pm_w d 50 38 ls st h Q ↔ pm_li ls 2 fun x => pm_w d 50 39 ls (.inl x :: st) h Q := pw_iload_n (show decode (pm_b 50) 38 = .ok (.iload_n 2, 1) by decide +kernel)
theorem ux_50_39 : pm_w d 50 39 ls st h Q ↔ pm_i st fun x s => pm_r s fun a s => pm_inb h a 20 x ∧ pm_w d 50 40 ls (.inl (h.1 a x.toNat) :: s) h Q := pw_iaload (show decode (pm_b 50) 39 = .ok (.iaload, 1) by decide +kernel)
theorem ux_50_40 : pm_w d 50 40 ls st h Q ↔ pm_li ls 1 fun x => pm_w d 50 41 ls (.inl x :: st) h Q := pw_iload_n (show decode (pm_b 50) 40 = .ok (.iload_n 1, 1) by decide +kernel)
theorem ux_50_41 : pm_w d 50 41 ls st h Q ↔ pm_i st fun y s => pm_i s fun x s => ((x ≠ y) → pm_w d 50 48 ls s h Q) ∧ (¬ (x ≠ y) → pm_w d 50 44 ls s h Q) := pw_ic_ne (show decode (pm_b 50) 41 = .ok (.if_icmp .ne 7, 3) by decide +kernel) (by decide)
theorem ux_50_44 : pm_w d 50 44 ls st h Q ↔ pm_w d 50 45 ls (.inl 1 :: st) h Q := pw_iconst (show decode (pm_b 50) 44 = .ok (.iconst 1, 1) by decide +kernel) (by unfold pm_I32; decide)
theorem ux_50_45 : pm_w d 50 45 ls st h Q ↔ pm_w d 50 49 ls st h Q := pw_goto (show decode (pm_b 50) 45 = .ok (.goto 4, 3) by decide +kernel) (by decide)
theorem ux_50_48 : pm_w d 50 48 ls st h Q ↔ pm_w d 50 49 ls (.inl 0 :: st) h Q := pw_iconst (show decode (pm_b 50) 48 = .ok (.iconst 0, 1) by decide +kernel) (by unfold pm_I32; decide)
theorem ux_50_49 : pm_w d 50 49 ls st h Q ↔ pm_i st fun x s => pm_w d 50 50 (pm_s1 ls 3 (.inl x)) s h Q := pw_istore_n (show decode (pm_b 50) 49 = .ok (.istore_n 3, 1) by decide +kernel) (by decide)
theorem ux_50_50 : pm_w d 50 50 ls st h Q ↔ pm_li ls 3 fun x => pm_w d 50 51 ls (.inl x :: st) h Q := pw_iload_n (show decode (pm_b 50) 50 = .ok (.iload_n 3, 1) by decide +kernel)
theorem ux_50_51 : pm_w d 50 51 ls st h Q ↔ pm_i st fun x s => ((x ≠ 0) → pm_w d 50 63 ls s h Q) ∧ (¬ (x ≠ 0) → pm_w d 50 54 ls s h Q) := pw_if_ne (show decode (pm_b 50) 51 = .ok (.ifCond .ne 12, 3) by decide +kernel) (by decide)
theorem ux_50_54 : pm_w d 50 54 ls st h Q ↔ pm_lq ls 0 fun x => pm_w d 50 55 ls (.inr (.inr x) :: st) h Q := pw_aload_n (show decode (pm_b 50) 54 = .ok (.aload_n 0, 1) by decide +kernel)
theorem ux_50_55 : pm_w d 50 55 ls st h Q ↔ pm_r st fun a s => pm_tgs h a [1] ∧ pm_w d 50 58 ls (.inl (h.1 a 2) :: s) h Q := pw_get (show decode (pm_b 50) 55 = .ok (.getfield 35, 3) by decide +kernel) fx_1_35
theorem ux_50_58 : pm_w d 50 58 ls st h Q ↔ pm_w d 50 60 ls (.inl 48 :: st) h Q := pw_bipush (show decode (pm_b 50) 58 = .ok (.bipush 48, 2) by decide +kernel) (by decide)
theorem ux_50_60 : pm_w d 50 60 ls st h Q ↔ pm_i st fun y s => pm_i s fun x s => ((x < y) → pm_w d 50 64 ls s h Q) ∧ (¬ (x < y) → pm_w d 50 63 ls s h Q) := pw_ic_lt (show decode (pm_b 50) 60 = .ok (.if_icmp .lt 4, 3) by decide +kernel) (by decide)
theorem ux_50_63 : pm_w d 50 63 ls st h Q ↔ st = [] ∧ Q none h := pw_return (show decode (pm_b 50) 63 = .ok (.return_, 1) by decide +kernel) rfl
theorem ux_50_64 : pm_w d 50 64 ls st h Q ↔ pm_lq ls 0 fun x => pm_w d 50 65 ls (.inr (.inr x) :: st) h Q := pw_aload_n (show decode (pm_b 50) 64 = .ok (.aload_n 0, 1) by decide +kernel)
theorem ux_50_65 : pm_w d 50 65 ls st h Q ↔ pm_r st fun a s => pm_tgs h a [1] ∧ pm_w d 50 68 ls (.inl (h.1 a 2) :: s) h Q := pw_get (show decode (pm_b 50) 65 = .ok (.getfield 35, 3) by decide +kernel) fx_1_35
theorem ux_50_68 : pm_w d 50 68 ls st h Q ↔ pm_i st fun x s => pm_w d 50 70 (pm_s1 ls 4 (.inl x)) s h Q := pw_istore (show decode (pm_b 50) 68 = .ok (.istore 4, 2) by decide +kernel) (by decide)
theorem ux_50_70 : pm_w d 50 70 ls st h Q ↔ pm_li ls 4 fun x => pm_w d 50 72 ls (.inl x :: st) h Q := pw_iload (show decode (pm_b 50) 70 = .ok (.iload 4, 2) by decide +kernel)
theorem ux_50_72 : pm_w d 50 72 ls st h Q ↔ pm_li ls 2 fun x => pm_w d 50 73 ls (.inl x :: st) h Q := pw_iload_n (show decode (pm_b 50) 72 = .ok (.iload_n 2, 1) by decide +kernel)
theorem ux_50_73 : pm_w d 50 73 ls st h Q ↔ pm_i st fun y s => pm_i s fun x s => ((x ≤ y) → pm_w d 50 98 ls s h Q) ∧ (¬ (x ≤ y) → pm_w d 50 76 ls s h Q) := pw_ic_le (show decode (pm_b 50) 73 = .ok (.if_icmp .le 25, 3) by decide +kernel) (by decide)
theorem ux_50_76 : pm_w d 50 76 ls st h Q ↔ pm_lq ls 0 fun x => pm_w d 50 77 ls (.inr (.inr x) :: st) h Q := pw_aload_n (show decode (pm_b 50) 76 = .ok (.aload_n 0, 1) by decide +kernel)
theorem ux_50_77 : pm_w d 50 77 ls st h Q ↔ pm_r st fun a s => pm_tgs h a [1] ∧ pm_w d 50 80 ls (.inr (.inr (h.2.1 a 4)) :: s) h Q := pw_get (show decode (pm_b 50) 77 = .ok (.getfield 9, 3) by decide +kernel) fx_1_9
theorem ux_50_80 : pm_w d 50 80 ls st h Q ↔ pm_li ls 4 fun x => pm_w d 50 82 ls (.inl x :: st) h Q := pw_iload (show decode (pm_b 50) 80 = .ok (.iload 4, 2) by decide +kernel)
theorem ux_50_82 : pm_w d 50 82 ls st h Q ↔ pm_lq ls 0 fun x => pm_w d 50 83 ls (.inr (.inr x) :: st) h Q := pw_aload_n (show decode (pm_b 50) 82 = .ok (.aload_n 0, 1) by decide +kernel)
theorem ux_50_83 : pm_w d 50 83 ls st h Q ↔ pm_r st fun a s => pm_tgs h a [1] ∧ pm_w d 50 86 ls (.inr (.inr (h.2.1 a 4)) :: s) h Q := pw_get (show decode (pm_b 50) 83 = .ok (.getfield 9, 3) by decide +kernel) fx_1_9
theorem ux_50_86 : pm_w d 50 86 ls st h Q ↔ pm_li ls 4 fun x => pm_w d 50 88 ls (.inl x :: st) h Q := pw_iload (show decode (pm_b 50) 86 = .ok (.iload 4, 2) by decide +kernel)
theorem ux_50_88 : pm_w d 50 88 ls st h Q ↔ pm_w d 50 89 ls (.inl 1 :: st) h Q := pw_iconst (show decode (pm_b 50) 88 = .ok (.iconst 1, 1) by decide +kernel) (by unfold pm_I32; decide)
theorem ux_50_89 : pm_w d 50 89 ls st h Q ↔ pm_i st fun y s => pm_i s fun x s => pm_I32 (x - y) ∧ pm_w d 50 90 ls (.inl (x - y) :: s) h Q := pw_isub (show decode (pm_b 50) 89 = .ok (.isub, 1) by decide +kernel)
theorem ux_50_90 : pm_w d 50 90 ls st h Q ↔ pm_i st fun x s => pm_r s fun a s => pm_inb h a 20 x ∧ pm_w d 50 91 ls (.inl (h.1 a x.toNat) :: s) h Q := pw_iaload (show decode (pm_b 50) 90 = .ok (.iaload, 1) by decide +kernel)
theorem ux_50_91 : pm_w d 50 91 ls st h Q ↔ pm_i st fun v s => pm_i s fun x s => pm_r s fun a s => pm_inb h a 20 x ∧ pm_w d 50 92 ls s (pm_wI h a x.toNat v) Q := pw_iastore (show decode (pm_b 50) 91 = .ok (.iastore, 1) by decide +kernel)
theorem ux_50_92 : pm_w d 50 92 ls st h Q ↔ pm_li ls 4 fun x => pm_I32 (x + (-1)) ∧ pm_w d 50 95 (pm_s1 ls 4 (.inl (x + (-1)))) st h Q := pw_iinc (show decode (pm_b 50) 92 = .ok (.iinc 4 (-1), 3) by decide +kernel) (by decide)
theorem ux_50_95 : pm_w d 50 95 ls st h Q ↔ pm_w d 50 70 ls st h Q := pw_goto (show decode (pm_b 50) 95 = .ok (.goto (-25), 3) by decide +kernel) (by decide)
theorem ux_50_98 : pm_w d 50 98 ls st h Q ↔ pm_lq ls 0 fun x => pm_w d 50 99 ls (.inr (.inr x) :: st) h Q := pw_aload_n (show decode (pm_b 50) 98 = .ok (.aload_n 0, 1) by decide +kernel)
theorem ux_50_99 : pm_w d 50 99 ls st h Q ↔ pm_r st fun a s => pm_tgs h a [1] ∧ pm_w d 50 102 ls (.inr (.inr (h.2.1 a 4)) :: s) h Q := pw_get (show decode (pm_b 50) 99 = .ok (.getfield 9, 3) by decide +kernel) fx_1_9
theorem ux_50_102 : pm_w d 50 102 ls st h Q ↔ pm_li ls 2 fun x => pm_w d 50 103 ls (.inl x :: st) h Q := pw_iload_n (show decode (pm_b 50) 102 = .ok (.iload_n 2, 1) by decide +kernel)
theorem ux_50_103 : pm_w d 50 103 ls st h Q ↔ pm_li ls 1 fun x => pm_w d 50 104 ls (.inl x :: st) h Q := pw_iload_n (show decode (pm_b 50) 103 = .ok (.iload_n 1, 1) by decide +kernel)
theorem ux_50_104 : pm_w d 50 104 ls st h Q ↔ pm_i st fun v s => pm_i s fun x s => pm_r s fun a s => pm_inb h a 20 x ∧ pm_w d 50 105 ls s (pm_wI h a x.toNat v) Q := pw_iastore (show decode (pm_b 50) 104 = .ok (.iastore, 1) by decide +kernel)
theorem ux_50_105 : pm_w d 50 105 ls st h Q ↔ pm_lq ls 0 fun x => pm_w d 50 106 ls (.inr (.inr x) :: st) h Q := pw_aload_n (show decode (pm_b 50) 105 = .ok (.aload_n 0, 1) by decide +kernel)
theorem ux_50_106 : pm_w d 50 106 ls st h Q ↔ pm_q st fun x s => pm_w d 50 107 ls (.inr (.inr x) :: .inr (.inr x) :: s) h Q := pw_dup (show decode (pm_b 50) 106 = .ok (.dup, 1) by decide +kernel)
theorem ux_50_107 : pm_w d 50 107 ls st h Q ↔ pm_r st fun a s => pm_tgs h a [1] ∧ pm_w d 50 110 ls (.inl (h.1 a 2) :: s) h Q := pw_get (show decode (pm_b 50) 107 = .ok (.getfield 35, 3) by decide +kernel) fx_1_35
theorem ux_50_110 : pm_w d 50 110 ls st h Q ↔ pm_w d 50 111 ls (.inl 1 :: st) h Q := pw_iconst (show decode (pm_b 50) 110 = .ok (.iconst 1, 1) by decide +kernel) (by unfold pm_I32; decide)
theorem ux_50_111 : pm_w d 50 111 ls st h Q ↔ pm_i st fun y s => pm_i s fun x s => pm_I32 (x + y) ∧ pm_w d 50 112 ls (.inl (x + y) :: s) h Q := pw_iadd (show decode (pm_b 50) 111 = .ok (.iadd, 1) by decide +kernel)
theorem ux_50_112 : pm_w d 50 112 ls st h Q ↔ pm_i st fun x s => pm_r s fun a s => (pm_tgs h a [1]) ∧ pm_w d 50 115 ls s (pm_wI h a 2 x) Q := pw_put0 (show decode (pm_b 50) 112 = .ok (.putfield 35, 3) by decide +kernel) fx_1_35 (Or.inl rfl)
theorem ux_50_115 : pm_w d 50 115 ls st h Q ↔ st = [] ∧ Q none h := pw_return (show decode (pm_b 50) 115 = .ok (.return_, 1) by decide +kernel) rfl
-- 51: LShed.lengthOf
theorem ux_51_0 : pm_w d 51 0 ls st h Q ↔ pm_lq ls 0 fun x => pm_w d 51 1 ls (.inr (.inr x) :: st) h Q := pw_aload_n (show decode (pm_b 51) 0 = .ok (.aload_n 0, 1) by decide +kernel)
theorem ux_51_1 : pm_w d 51 1 ls st h Q ↔ pm_li ls 1 fun x => pm_w d 51 2 ls (.inl x :: st) h Q := pw_iload_n (show decode (pm_b 51) 1 = .ok (.iload_n 1, 1) by decide +kernel)
theorem ux_51_2 : pm_w d 51 2 ls st h Q ↔ pm_r (st.drop 1) fun a s => (1 ≤ st.length ∧ pm_wt s ≤ 8 ∧ pm_tg h a 8) ∧ pm_ok d 25 (.inr (.inr (some a)) :: (st.take 1).reverse) h fun r h1 => pm_w d 51 5 ls (pm_pu r s) h1 Q := pw_virt (show decode (pm_b 51) 2 = .ok (.invokevirtual 24, 3) by decide +kernel) mx_8_24
theorem ux_51_5 : pm_w d 51 5 ls st h Q ↔ pm_q st fun x s => pm_w d 51 6 (pm_s1 ls 2 (.inr (.inr x))) s h Q := pw_astore_n (show decode (pm_b 51) 5 = .ok (.astore_n 2, 1) by decide +kernel) (by decide)
theorem ux_51_6 : pm_w d 51 6 ls st h Q ↔ pm_lq ls 2 fun x => pm_w d 51 7 ls (.inr (.inr x) :: st) h Q := pw_aload_n (show decode (pm_b 51) 6 = .ok (.aload_n 2, 1) by decide +kernel)
theorem ux_51_7 : pm_w d 51 7 ls st h Q ↔ pm_q st fun x s => (x ≠ none → pm_w d 51 14 ls s h Q) ∧ (¬ (x ≠ none) → pm_w d 51 10 ls s h Q) := pw_ifnonnull (show decode (pm_b 51) 7 = .ok (.ifnonnull 7, 3) by decide +kernel) (by decide)
theorem ux_51_10 : pm_w d 51 10 ls st h Q ↔ pm_w d 51 11 ls (.inl 0 :: st) h Q := pw_iconst (show decode (pm_b 51) 10 = .ok (.iconst 0, 1) by decide +kernel) (by unfold pm_I32; decide)
theorem ux_51_11 : pm_w d 51 11 ls st h Q ↔ pm_w d 51 18 ls st h Q := pw_goto (show decode (pm_b 51) 11 = .ok (.goto 7, 3) by decide +kernel) (by decide)
theorem ux_51_14 : pm_w d 51 14 ls st h Q ↔ pm_lq ls 2 fun x => pm_w d 51 15 ls (.inr (.inr x) :: st) h Q := pw_aload_n (show decode (pm_b 51) 14 = .ok (.aload_n 2, 1) by decide +kernel)
theorem ux_51_15 : pm_w d 51 15 ls st h Q ↔ pm_r st fun a s => pm_tgs h a [0, 2, 6, 9, 10] ∧ pm_w d 51 18 ls (.inl (h.1 a 0) :: s) h Q := pw_get (show decode (pm_b 51) 15 = .ok (.getfield 35, 3) by decide +kernel) fx_8_35
theorem ux_51_18 : pm_w d 51 18 ls st h Q ↔ pm_i st fun x s => s = [] ∧ Q (some (.inl x)) h := pw_ireturn (show decode (pm_b 51) 18 = .ok (.ireturn, 1) by decide +kernel) rfl
end
