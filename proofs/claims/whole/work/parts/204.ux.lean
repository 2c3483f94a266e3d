section
variable {d : Nat} {ls : pm_L} {st : List pm_V} {h : pm_H} {Q : Option pm_V → pm_H → Prop}
-- 86: LLaying.pieceAtPlace
theorem ux_86_0 : pm_w d 86 0 ls st h Q ↔ pm_w d 86 1 ls (.inl 0 :: st) h Q := pw_iconst (show decode (pm_b 86) 0 = .ok (.iconst 0, 1) by decide +kernel) (by unfold pm_I32; decide)
theorem ux_86_1 : pm_w d 86 1 ls st h Q ↔ pm_i st fun x s => pm_w d 86 2 (pm_s1 ls 3 (.inl x)) s h Q := pw_istore_n (show decode (pm_b 86) 1 = .ok (.istore_n 3, 1) by decide +kernel) (by decide)
theorem ux_86_2 : pm_w d 86 2 ls st h Q ↔ pm_w d 86 3 ls (.inl 0 :: st) h Q := pw_iconst (show decode (pm_b 86) 2 = .ok (.iconst 0, 1) by decide +kernel) (by unfold pm_I32; decide)
theorem ux_86_3 : pm_w d 86 3 ls st h Q ↔ pm_i st fun x s => pm_w d 86 5 (pm_s1 ls 4 (.inl x)) s h Q := pw_istore (show decode (pm_b 86) 3 = .ok (.istore 4, 2) by decide +kernel) (by decide)
theorem ux_86_5 : pm_w d 86 5 ls st h Q ↔ pm_li ls 4 fun x => pm_w d 86 7 ls (.inl x :: st) h Q := pw_iload (show decode (pm_b 86) 5 = .ok (.iload 4, 2) by decide +kernel)
theorem ux_86_7 : pm_w d 86 7 ls st h Q ↔ pm_lq ls 0 fun x => pm_w d 86 8 ls (.inr (.inr x) :: st) h Q := pw_aload_n (show decode (pm_b 86) 7 = .ok (.aload_n 0, 1) by decide +kernel)
theorem ux_86_8 : pm_w d 86 8 ls st h Q ↔ pm_r st fun a s => pm_tgs h a [4] ∧ pm_w d 86 11 ls (.inl (h.1 a 0) :: s) h Q := pw_get (show decode (pm_b 86) 8 = .ok (.getfield 39, 3) by decide +kernel) fx_4_39
theorem ux_86_11 : pm_w d 86 11 ls st h Q ↔ pm_i st fun y s => pm_i s fun x s => ((y ≤ x) → pm_w d 86 40 ls s h Q) ∧ (¬ (y ≤ x) → pm_w d 86 14 ls s h Q) := pw_ic_ge (show decode (pm_b 86) 11 = .ok (.if_icmp .ge 29, 3) by decide +kernel) (by decide)
theorem ux_86_14 : pm_w d 86 14 ls st h Q ↔ pm_li ls 3 fun x => pm_w d 86 15 ls (.inl x :: st) h Q := pw_iload_n (show decode (pm_b 86) 14 = .ok (.iload_n 3, 1) by decide +kernel)
theorem ux_86_15 : pm_w d 86 15 ls st h Q ↔ pm_lq ls 0 fun x => pm_w d 86 16 ls (.inr (.inr x) :: st) h Q := pw_aload_n (show decode (pm_b 86) 15 = .ok (.aload_n 0, 1) by decide +kernel)
theorem ux_86_16 : pm_w d 86 16 ls st h Q ↔ pm_r st fun a s => pm_tgs h a [4] ∧ pm_w d 86 19 ls (.inr (.inr (h.2.1 a 5)) :: s) h Q := pw_get (show decode (pm_b 86) 16 = .ok (.getfield 20, 3) by decide +kernel) fx_4_20
theorem ux_86_19 : pm_w d 86 19 ls st h Q ↔ pm_li ls 4 fun x => pm_w d 86 21 ls (.inl x :: st) h Q := pw_iload (show decode (pm_b 86) 19 = .ok (.iload 4, 2) by decide +kernel)
theorem ux_86_21 : pm_w d 86 21 ls st h Q ↔ pm_i st fun x s => pm_r s fun a s => (pm_inb h a 23 x ∨ pm_inb h a 24 x ∨ pm_inb h a 25 x) ∧ pm_w d 86 22 ls (.inr (.inr (h.2.1 a x.toNat)) :: s) h Q := pw_aaload (show decode (pm_b 86) 21 = .ok (.aaload, 1) by decide +kernel)
theorem ux_86_22 : pm_w d 86 22 ls st h Q ↔ pm_li ls 1 fun x => pm_w d 86 23 ls (.inl x :: st) h Q := pw_iload_n (show decode (pm_b 86) 22 = .ok (.iload_n 1, 1) by decide +kernel)
theorem ux_86_23 : pm_w d 86 23 ls st h Q ↔ pm_i st fun x s => pm_r s fun a s => pm_inb h a 20 x ∧ pm_w d 86 24 ls (.inl (h.1 a x.toNat) :: s) h Q := pw_iaload (show decode (pm_b 86) 23 = .ok (.iaload, 1) by decide +kernel)
theorem ux_86_24 : pm_w d 86 24 ls st h Q ↔ pm_i st fun y s => pm_i s fun x s => pm_I32 (x + y) ∧ pm_w d 86 25 ls (.inl (x + y) :: s) h Q := pw_iadd (show decode (pm_b 86) 24 = .ok (.iadd, 1) by decide +kernel)
theorem ux_86_25 : pm_w d 86 25 ls st h Q ↔ pm_i st fun x s => pm_w d 86 26 (pm_s1 ls 3 (.inl x)) s h Q := pw_istore_n (show decode (pm_b 86) 25 = .ok (.istore_n 3, 1) by decide +kernel) (by decide)
theorem ux_86_26 : pm_w d 86 26 ls st h Q ↔ pm_li ls 2 fun x => pm_w d 86 27 ls (.inl x :: st) h Q := pw_iload_n (show decode (pm_b 86) 26 = .ok (.iload_n 2, 1) by decide +kernel)
theorem ux_86_27 : pm_w d 86 27 ls st h Q ↔ pm_li ls 3 fun x => pm_w d 86 28 ls (.inl x :: st) h Q := pw_iload_n (show decode (pm_b 86) 27 = .ok (.iload_n 3, 1) by decide +kernel)
theorem ux_86_28 : pm_w d 86 28 ls st h Q ↔ pm_i st fun y s => pm_i s fun x s => ((y ≤ x) → pm_w d 86 34 ls s h Q) ∧ (¬ (y ≤ x) → pm_w d 86 31 ls s h Q) := pw_ic_ge (show decode (pm_b 86) 28 = .ok (.if_icmp .ge 6, 3) by decide +kernel) (by decide)
theorem ux_86_31 : pm_w d 86 31 ls st h Q ↔ pm_li ls 4 fun x => pm_w d 86 33 ls (.inl x :: st) h Q := pw_iload (show decode (pm_b 86) 31 = .ok (.iload 4, 2) by decide +kernel)
theorem ux_86_33 : pm_w d 86 33 ls st h Q ↔ pm_i st fun x s => s = [] ∧ Q (some (.inl x)) h := pw_ireturn (show decode (pm_b 86) 33 = .ok (.ireturn, 1) by decide +kernel) rfl
theorem ux_86_34 : pm_w d 86 34 ls st h Q ↔ pm_li ls 4 fun x => pm_I32 (x + 1) ∧ pm_w d 86 37 (pm_s1 ls 4 (.inl (x + 1))) st h Q := pw_iinc (show decode (pm_b 86) 34 = .ok (.iinc 4 1, 3) by decide +kernel) (by decide)
theorem ux_86_37 : pm_w d 86 37 ls st h Q ↔ pm_w d 86 5 ls st h Q := pw_goto (show decode (pm_b 86) 37 = .ok (.goto (-32), 3) by decide +kernel) (by decide)
theorem ux_86_40 : pm_w d 86 40 ls st h Q ↔ pm_w d 86 42 ls (.inl (-3) :: st) h Q := pw_bipush (show decode (pm_b 86) 40 = .ok (.bipush (-3), 2) by decide +kernel) (by decide)
theorem ux_86_42 : pm_w d 86 42 ls st h Q ↔ pm_i st fun x s => s = [] ∧ Q (some (.inl x)) h := pw_ireturn (show decode (pm_b 86) 42 = .ok (.ireturn, 1) by decide +kernel) rfl
-- 87: L.cuts
theorem ux_87_0 : pm_w d 87 0 ls st h Q ↔ pm_lq ls 0 fun x => pm_w d 87 1 ls (.inr (.inr x) :: st) h Q := pw_aload_n (show decode (pm_b 87) 0 = .ok (.aload_n 0, 1) by decide +kernel)
theorem ux_87_1 : pm_w d 87 1 ls st h Q ↔ pm_r (st.drop 0) fun a s => (0 ≤ st.length ∧ pm_wt s ≤ 8 ∧ pm_tg h a 11) ∧ pm_ok d 76 (.inr (.inr (some a)) :: (st.take 0).reverse) h fun r h1 => pm_w d 87 4 ls (pm_pu r s) h1 Q := pw_virt (show decode (pm_b 87) 1 = .ok (.invokevirtual 182, 3) by decide +kernel) mx_11_182
theorem ux_87_4 : pm_w d 87 4 ls st h Q ↔ pm_i st fun x s => ((x ≠ 0) → pm_w d 87 10 ls s h Q) ∧ (¬ (x ≠ 0) → pm_w d 87 7 ls s h Q) := pw_if_ne (show decode (pm_b 87) 4 = .ok (.ifCond .ne 6, 3) by decide +kernel) (by decide)
theorem ux_87_7 : pm_w d 87 7 ls st h Q ↔ pm_w d 87 9 ls (.inl (-2) :: st) h Q := pw_bipush (show decode (pm_b 87) 7 = .ok (.bipush (-2), 2) by decide +kernel) (by decide)
theorem ux_87_9 : pm_w d 87 9 ls st h Q ↔ pm_i st fun x s => s = [] ∧ Q (some (.inl x)) h := pw_ireturn (show decode (pm_b 87) 9 = .ok (.ireturn, 1) by decide +kernel) rfl
theorem ux_87_10 : pm_w d 87 10 ls st h Q ↔ pm_lq ls 0 fun x => pm_w d 87 11 ls (.inr (.inr x) :: st) h Q := pw_aload_n (show decode (pm_b 87) 10 = .ok (.aload_n 0, 1) by decide +kernel)
theorem ux_87_11 : pm_w d 87 11 ls st h Q ↔ pm_r (st.drop 0) fun a s => (0 ≤ st.length ∧ pm_wt s ≤ 8 ∧ pm_tg h a 11) ∧ pm_ok d 78 (.inr (.inr (some a)) :: (st.take 0).reverse) h fun r h1 => pm_w d 87 14 ls (pm_pu r s) h1 Q := pw_virt (show decode (pm_b 87) 11 = .ok (.invokevirtual 186, 3) by decide +kernel) mx_11_186
theorem ux_87_14 : pm_w d 87 14 ls st h Q ↔ pm_q st fun x s => pm_w d 87 15 (pm_s1 ls 1 (.inr (.inr x))) s h Q := pw_astore_n (show decode (pm_b 87) 14 = .ok (.astore_n 1, 1) by decide +kernel) (by decide)
theorem ux_87_15 : pm_w d 87 15 ls st h Q ↔ pm_w d 87 16 ls (.inl 0 :: st) h Q := pw_iconst (show decode (pm_b 87) 15 = .ok (.iconst 0, 1) by decide +kernel) (by unfold pm_I32; decide)
theorem ux_87_16 : pm_w d 87 16 ls st h Q ↔ pm_i st fun x s => pm_w d 87 17 (pm_s1 ls 2 (.inl x)) s h Q := pw_istore_n (show decode (pm_b 87) 16 = .ok (.istore_n 2, 1) by decide +kernel) (by decide)
theorem ux_87_17 : pm_w d 87 17 ls st h Q ↔ pm_w d 87 18 ls (.inl 0 :: st) h Q := pw_iconst (show decode (pm_b 87) 17 = .ok (.iconst 0, 1) by decide +kernel) (by unfold pm_I32; decide)
theorem ux_87_18 : pm_w d 87 18 ls st h Q ↔ pm_i st fun x s => pm_w d 87 19 (pm_s1 ls 3 (.inl x)) s h Q := pw_istore_n (show decode (pm_b 87) 18 = .ok (.istore_n 3, 1) by decide +kernel) (by decide)
theorem ux_87_19 : pm_w d 87 19 ls st h Q ↔ pm_li ls 3 fun x => pm_w d 87 20 ls (.inl x :: st) h Q := pw_iload_n (show decode (pm_b 87) 19 = .ok (.iload_n 3, 1) by decide +kernel)
theorem ux_87_20 : pm_w d 87 20 ls st h Q ↔ pm_lq ls 0 fun x => pm_w d 87 21 ls (.inr (.inr x) :: st) h Q := pw_aload_n (show decode (pm_b 87) 20 = .ok (.aload_n 0, 1) by decide +kernel)
theorem ux_87_21 : pm_w d 87 21 ls st h Q ↔ pm_r st fun a s => pm_tgs h a [11] ∧ pm_w d 87 24 ls (.inr (.inr (h.2.1 a 0)) :: s) h Q := pw_get (show decode (pm_b 87) 21 = .ok (.getfield 12, 3) by decide +kernel) fx_11_12
theorem ux_87_24 : pm_w d 87 24 ls st h Q ↔ pm_r st fun a s => pm_tgs h a [8] ∧ pm_w d 87 27 ls (.inl (h.1 a 0) :: s) h Q := pw_get (show decode (pm_b 87) 24 = .ok (.getfield 57, 3) by decide +kernel) fx_11_57
theorem ux_87_27 : pm_w d 87 27 ls st h Q ↔ pm_i st fun y s => pm_i s fun x s => ((y ≤ x) → pm_w d 87 45 ls s h Q) ∧ (¬ (y ≤ x) → pm_w d 87 30 ls s h Q) := pw_ic_ge (show decode (pm_b 87) 27 = .ok (.if_icmp .ge 18, 3) by decide +kernel) (by decide)
theorem ux_87_30 : pm_w d 87 30 ls st h Q ↔ pm_li ls 2 fun x => pm_w d 87 31 ls (.inl x :: st) h Q := pw_iload_n (show decode (pm_b 87) 30 = .ok (.iload_n 2, 1) by decide +kernel)
theorem ux_87_31 : pm_w d 87 31 ls st h Q ↔ pm_lq ls 0 fun x => pm_w d 87 32 ls (.inr (.inr x) :: st) h Q := pw_aload_n (show decode (pm_b 87) 31 = .ok (.aload_n 0, 1) by decide +kernel)
theorem ux_87_32 : pm_w d 87 32 ls st h Q ↔ pm_lq ls 1 fun x => pm_w d 87 33 ls (.inr (.inr x) :: st) h Q := pw_aload_n (show decode (pm_b 87) 32 = .ok (.aload_n 1, 1) by decide +kernel)
theorem ux_87_33 : pm_w d 87 33 ls st h Q ↔ pm_li ls 3 fun x => pm_w d 87 34 ls (.inl x :: st) h Q := pw_iload_n (show decode (pm_b 87) 33 = .ok (.iload_n 3, 1) by decide +kernel)
theorem ux_87_34 : pm_w d 87 34 ls st h Q ↔ pm_r (st.drop 2) fun a s => (2 ≤ st.length ∧ pm_wt s ≤ 8 ∧ pm_tg h a 11) ∧ pm_ok d 88 (.inr (.inr (some a)) :: (st.take 2).reverse) h fun r h1 => pm_w d 87 37 ls (pm_pu r s) h1 Q := pw_virt (show decode (pm_b 87) 34 = .ok (.invokevirtual 197, 3) by decide +kernel) mx_11_197
theorem ux_87_37 : pm_w d 87 37 ls st h Q ↔ pm_i st fun y s => pm_i s fun x s => pm_I32 (x + y) ∧ pm_w d 87 38 ls (.inl (x + y) :: s) h Q := pw_iadd (show decode (pm_b 87) 37 = .ok (.iadd, 1) by decide +kernel)
theorem ux_87_38 : pm_w d 87 38 ls st h Q ↔ pm_i st fun x s => pm_w d 87 39 (pm_s1 ls 2 (.inl x)) s h Q := pw_istore_n (show decode (pm_b 87) 38 = .ok (.istore_n 2, 1) by decide +kernel) (by decide)
theorem ux_87_39 : pm_w d 87 39 ls st h Q ↔ pm_li ls 3 fun x => pm_I32 (x + 1) ∧ pm_w d 87 42 (pm_s1 ls 3 (.inl (x + 1))) st h Q := pw_iinc (show decode (pm_b 87) 39 = .ok (.iinc 3 1, 3) by decide +kernel) (by decide)
theorem ux_87_42 : pm_w d 87 42 ls st h Q ↔ pm_w d 87 19 ls st h Q := pw_goto (show decode (pm_b 87) 42 = .ok (.goto (-23), 3) by decide +kernel) (by decide)
theorem ux_87_45 : pm_w d 87 45 ls st h Q ↔ pm_li ls 2 fun x => pm_w d 87 46 ls (.inl x :: st) h Q := pw_iload_n (show decode (pm_b 87) 45 = .ok (.iload_n 2, 1) by decide +kernel)
theorem ux_87_46 : pm_w d 87 46 ls st h Q ↔ pm_lq ls 0 fun x => pm_w d 87 47 ls (.inr (.inr x) :: st) h Q := pw_aload_n (show decode (pm_b 87) 46 = .ok (.aload_n 0, 1) by decide +kernel)
theorem ux_87_47 : pm_w d 87 47 ls st h Q ↔ pm_r st fun a s => pm_tgs h a [11] ∧ pm_w d 87 50 ls (.inr (.inr (h.2.1 a 0)) :: s) h Q := pw_get (show decode (pm_b 87) 47 = .ok (.getfield 12, 3) by decide +kernel) fx_11_12
theorem ux_87_50 : pm_w d 87 50 ls st h Q ↔ pm_r st fun a s => pm_tgs h a [8] ∧ pm_w d 87 53 ls (.inl (h.1 a 2) :: s) h Q := pw_get (show decode (pm_b 87) 50 = .ok (.getfield 71, 3) by decide +kernel) fx_11_71
theorem ux_87_53 : pm_w d 87 53 ls st h Q ↔ pm_i st fun y s => pm_i s fun x s => pm_I32 (x - y) ∧ pm_w d 87 54 ls (.inl (x - y) :: s) h Q := pw_isub (show decode (pm_b 87) 53 = .ok (.isub, 1) by decide +kernel)
theorem ux_87_54 : pm_w d 87 54 ls st h Q ↔ pm_i st fun x s => s = [] ∧ Q (some (.inl x)) h := pw_ireturn (show decode (pm_b 87) 54 = .ok (.ireturn, 1) by decide +kernel) rfl
-- 88: L.beginsOn
theorem ux_88_0 : pm_w d 88 0 ls st h Q ↔ pm_w d 88 1 ls (.inl 0 :: st) h Q := pw_iconst (show decode (pm_b 88) 0 = .ok (.iconst 0, 1) by decide +kernel) (by unfold pm_I32; decide)
theorem ux_88_1 : pm_w d 88 1 ls st h Q ↔ pm_i st fun x s => pm_w d 88 2 (pm_s1 ls 3 (.inl x)) s h Q := pw_istore_n (show decode (pm_b 88) 1 = .ok (.istore_n 3, 1) by decide +kernel) (by decide)
theorem ux_88_2 : pm_w d 88 2 ls st h Q ↔ pm_w d 88 4 ls (.inl (-3) :: st) h Q := pw_bipush (show decode (pm_b 88) 2 = .ok (.bipush (-3), 2) by decide +kernel) (by decide)
theorem ux_88_4 : pm_w d 88 4 ls st h Q ↔ pm_i st fun x s => pm_w d 88 6 (pm_s1 ls 4 (.inl x)) s h Q := pw_istore (show decode (pm_b 88) 4 = .ok (.istore 4, 2) by decide +kernel) (by decide)
theorem ux_88_6 : pm_w d 88 6 ls st h Q ↔ pm_w d 88 7 ls (.inl 0 :: st) h Q := pw_iconst (show decode (pm_b 88) 6 = .ok (.iconst 0, 1) by decide +kernel) (by unfold pm_I32; decide)
theorem ux_88_7 : pm_w d 88 7 ls st h Q ↔ pm_i st fun x s => pm_w d 88 9 (pm_s1 ls 5 (.inl x)) s h Q := pw_istore (show decode (pm_b 88) 7 = .ok (.istore 5, 2) by decide +kernel) (by decide)
theorem ux_88_9 : pm_w d 88 9 ls st h Q ↔ pm_li ls 5 fun x => pm_w d 88 11 ls (.inl x :: st) h Q := pw_iload (show decode (pm_b 88) 9 = .ok (.iload 5, 2) by decide +kernel)
theorem ux_88_11 : pm_w d 88 11 ls st h Q ↔ pm_w d 88 13 ls (.inl 60 :: st) h Q := pw_bipush (show decode (pm_b 88) 11 = .ok (.bipush 60, 2) by decide +kernel) (by decide)
theorem ux_88_13 : pm_w d 88 13 ls st h Q ↔ pm_i st fun y s => pm_i s fun x s => ((y ≤ x) → pm_w d 88 53 ls s h Q) ∧ (¬ (y ≤ x) → pm_w d 88 16 ls s h Q) := pw_ic_ge (show decode (pm_b 88) 13 = .ok (.if_icmp .ge 40, 3) by decide +kernel) (by decide)
theorem ux_88_16 : pm_w d 88 16 ls st h Q ↔ pm_lq ls 0 fun x => pm_w d 88 17 ls (.inr (.inr x) :: st) h Q := pw_aload_n (show decode (pm_b 88) 16 = .ok (.aload_n 0, 1) by decide +kernel)
theorem ux_88_17 : pm_w d 88 17 ls st h Q ↔ pm_lq ls 1 fun x => pm_w d 88 18 ls (.inr (.inr x) :: st) h Q := pw_aload_n (show decode (pm_b 88) 17 = .ok (.aload_n 1, 1) by decide +kernel)
theorem ux_88_18 : pm_w d 88 18 ls st h Q ↔ pm_li ls 2 fun x => pm_w d 88 19 ls (.inl x :: st) h Q := pw_iload_n (show decode (pm_b 88) 18 = .ok (.iload_n 2, 1) by decide +kernel)
theorem ux_88_19 : pm_w d 88 19 ls st h Q ↔ pm_li ls 5 fun x => pm_w d 88 21 ls (.inl x :: st) h Q := pw_iload (show decode (pm_b 88) 19 = .ok (.iload 5, 2) by decide +kernel)
theorem ux_88_21 : pm_w d 88 21 ls st h Q ↔ pm_r (st.drop 3) fun a s => (3 ≤ st.length ∧ pm_wt s ≤ 8 ∧ pm_tg h a 11) ∧ pm_ok d 84 (.inr (.inr (some a)) :: (st.take 3).reverse) h fun r h1 => pm_w d 88 24 ls (pm_pu r s) h1 Q := pw_virt (show decode (pm_b 88) 21 = .ok (.invokevirtual 193, 3) by decide +kernel) mx_11_193
theorem ux_88_24 : pm_w d 88 24 ls st h Q ↔ pm_i st fun x s => pm_w d 88 26 (pm_s1 ls 6 (.inl x)) s h Q := pw_istore (show decode (pm_b 88) 24 = .ok (.istore 6, 2) by decide +kernel) (by decide)
theorem ux_88_26 : pm_w d 88 26 ls st h Q ↔ pm_li ls 6 fun x => pm_w d 88 28 ls (.inl x :: st) h Q := pw_iload (show decode (pm_b 88) 26 = .ok (.iload 6, 2) by decide +kernel)
theorem ux_88_28 : pm_w d 88 28 ls st h Q ↔ pm_w d 88 30 ls (.inl (-3) :: st) h Q := pw_bipush (show decode (pm_b 88) 28 = .ok (.bipush (-3), 2) by decide +kernel) (by decide)
theorem ux_88_30 : pm_w d 88 30 ls st h Q ↔ pm_i st fun y s => pm_i s fun x s => ((x = y) → pm_w d 88 43 ls s h Q) ∧ (¬ (x = y) → pm_w d 88 33 ls s h Q) := pw_ic_eq (show decode (pm_b 88) 30 = .ok (.if_icmp .eq 13, 3) by decide +kernel) (by decide)
theorem ux_88_33 : pm_w d 88 33 ls st h Q ↔ pm_li ls 6 fun x => pm_w d 88 35 ls (.inl x :: st) h Q := pw_iload (show decode (pm_b 88) 33 = .ok (.iload 6, 2) by decide +kernel)
theorem ux_88_35 : pm_w d 88 35 ls st h Q ↔ pm_li ls 4 fun x => pm_w d 88 37 ls (.inl x :: st) h Q := pw_iload (show decode (pm_b 88) 35 = .ok (.iload 4, 2) by decide +kernel)
theorem ux_88_37 : pm_w d 88 37 ls st h Q ↔ pm_i st fun y s => pm_i s fun x s => ((x = y) → pm_w d 88 43 ls s h Q) ∧ (¬ (x = y) → pm_w d 88 40 ls s h Q) := pw_ic_eq (show decode (pm_b 88) 37 = .ok (.if_icmp .eq 6, 3) by decide +kernel) (by decide)
theorem ux_88_40 : pm_w d 88 40 ls st h Q ↔ pm_li ls 3 fun x => pm_I32 (x + 1) ∧ pm_w d 88 43 (pm_s1 ls 3 (.inl (x + 1))) st h Q := pw_iinc (show decode (pm_b 88) 40 = .ok (.iinc 3 1, 3) by decide +kernel) (by decide)
theorem ux_88_43 : pm_w d 88 43 ls st h Q ↔ pm_li ls 6 fun x => pm_w d 88 45 ls (.inl x :: st) h Q := pw_iload (show decode (pm_b 88) 43 = .ok (.iload 6, 2) by decide +kernel)
theorem ux_88_45 : pm_w d 88 45 ls st h Q ↔ pm_i st fun x s => pm_w d 88 47 (pm_s1 ls 4 (.inl x)) s h Q := pw_istore (show decode (pm_b 88) 45 = .ok (.istore 4, 2) by decide +kernel) (by decide)
theorem ux_88_47 : pm_w d 88 47 ls st h Q ↔ pm_li ls 5 fun x => pm_I32 (x + 1) ∧ pm_w d 88 50 (pm_s1 ls 5 (.inl (x + 1))) st h Q := pw_iinc (show decode (pm_b 88) 47 = .ok (.iinc 5 1, 3) by decide +kernel) (by decide)
theorem ux_88_50 : pm_w d 88 50 ls st h Q ↔ pm_w d 88 9 ls st h Q := pw_goto (show decode (pm_b 88) 50 = .ok (.goto (-41), 3) by decide +kernel) (by decide)
theorem ux_88_53 : pm_w d 88 53 ls st h Q ↔ pm_li ls 3 fun x => pm_w d 88 54 ls (.inl x :: st) h Q := pw_iload_n (show decode (pm_b 88) 53 = .ok (.iload_n 3, 1) by decide +kernel)
theorem ux_88_54 : pm_w d 88 54 ls st h Q ↔ pm_i st fun x s => s = [] ∧ Q (some (.inl x)) h := pw_ireturn (show decode (pm_b 88) 54 = .ok (.ireturn, 1) by decide +kernel) rfl
-- 89: L.crowded
theorem ux_89_0 : pm_w d 89 0 ls st h Q ↔ pm_li ls 1 fun x => pm_w d 89 1 ls (.inl x :: st) h Q := pw_iload_n (show decode (pm_b 89) 0 = .ok (.iload_n 1, 1) by decide +kernel)
theorem ux_89_1 : pm_w d 89 1 ls st h Q ↔ pm_i st fun x s => ((x < 0) → pm_w d 89 9 ls s h Q) ∧ (¬ (x < 0) → pm_w d 89 4 ls s h Q) := pw_if_lt (show decode (pm_b 89) 1 = .ok (.ifCond .lt 8, 3) by decide +kernel) (by decide)
theorem ux_89_4 : pm_w d 89 4 ls st h Q ↔ pm_li ls 1 fun x => pm_w d 89 5 ls (.inl x :: st) h Q := pw_iload_n (show decode (pm_b 89) 4 = .ok (.iload_n 1, 1) by decide +kernel)
theorem ux_89_5 : pm_w d 89 5 ls st h Q ↔ pm_w d 89 6 ls (.inl 2 :: st) h Q := pw_iconst (show decode (pm_b 89) 5 = .ok (.iconst 2, 1) by decide +kernel) (by unfold pm_I32; decide)
theorem ux_89_6 : pm_w d 89 6 ls st h Q ↔ pm_i st fun y s => pm_i s fun x s => ((x ≤ y) → pm_w d 89 11 ls s h Q) ∧ (¬ (x ≤ y) → pm_w d 89 9 ls s h Q) := pw_ic_le (show decode (pm_b 89) 6 = .ok (.if_icmp .le 5, 3) by decide +kernel) (by decide)
theorem ux_89_9 : pm_w d 89 9 ls st h Q ↔ pm_w d 89 10 ls (.inl (-1) :: st) h Q := pw_iconst (show decode (pm_b 89) 9 = .ok (.iconst (-1), 1) by decide +kernel) (by unfold pm_I32; decide)
theorem ux_89_10 : pm_w d 89 10 ls st h Q ↔ pm_i st fun x s => s = [] ∧ Q (some (.inl x)) h := pw_ireturn (show decode (pm_b 89) 10 = .ok (.ireturn, 1) by decide +kernel) rfl
theorem ux_89_11 : pm_w d 89 11 ls st h Q ↔ pm_lq ls 0 fun x => pm_w d 89 12 ls (.inr (.inr x) :: st) h Q := pw_aload_n (show decode (pm_b 89) 11 = .ok (.aload_n 0, 1) by decide +kernel)
theorem ux_89_12 : pm_w d 89 12 ls st h Q ↔ pm_r (st.drop 0) fun a s => (0 ≤ st.length ∧ pm_wt s ≤ 8 ∧ pm_tg h a 11) ∧ pm_ok d 76 (.inr (.inr (some a)) :: (st.take 0).reverse) h fun r h1 => pm_w d 89 15 ls (pm_pu r s) h1 Q := pw_virt (show decode (pm_b 89) 12 = .ok (.invokevirtual 182, 3) by decide +kernel) mx_11_182
theorem ux_89_15 : pm_w d 89 15 ls st h Q ↔ pm_i st fun x s => ((x = 0) → pm_w d 89 21 ls s h Q) ∧ (¬ (x = 0) → pm_w d 89 18 ls s h Q) := pw_if_eq (show decode (pm_b 89) 15 = .ok (.ifCond .eq 6, 3) by decide +kernel) (by decide)
theorem ux_89_18 : pm_w d 89 18 ls st h Q ↔ pm_w d 89 20 ls (.inl (-2) :: st) h Q := pw_bipush (show decode (pm_b 89) 18 = .ok (.bipush (-2), 2) by decide +kernel) (by decide)
theorem ux_89_20 : pm_w d 89 20 ls st h Q ↔ pm_i st fun x s => s = [] ∧ Q (some (.inl x)) h := pw_ireturn (show decode (pm_b 89) 20 = .ok (.ireturn, 1) by decide +kernel) rfl
theorem ux_89_21 : pm_w d 89 21 ls st h Q ↔ pm_li ls 1 fun x => pm_w d 89 22 ls (.inl x :: st) h Q := pw_iload_n (show decode (pm_b 89) 21 = .ok (.iload_n 1, 1) by decide +kernel)
theorem ux_89_22 : pm_w d 89 22 ls st h Q ↔ pm_i st fun x s => ((x ≠ 0) → pm_w d 89 33 ls s h Q) ∧ (¬ (x ≠ 0) → pm_w d 89 25 ls s h Q) := pw_if_ne (show decode (pm_b 89) 22 = .ok (.ifCond .ne 11, 3) by decide +kernel) (by decide)
theorem ux_89_25 : pm_w d 89 25 ls st h Q ↔ pm_lq ls 0 fun x => pm_w d 89 26 ls (.inr (.inr x) :: st) h Q := pw_aload_n (show decode (pm_b 89) 25 = .ok (.aload_n 0, 1) by decide +kernel)
theorem ux_89_26 : pm_w d 89 26 ls st h Q ↔ pm_r st fun a s => pm_tgs h a [11] ∧ pm_w d 89 29 ls (.inr (.inr (h.2.1 a 3)) :: s) h Q := pw_get (show decode (pm_b 89) 26 = .ok (.getfield 33, 3) by decide +kernel) fx_11_33
theorem ux_89_29 : pm_w d 89 29 ls st h Q ↔ pm_r (st.drop 0) fun a s => (0 ≤ st.length ∧ pm_wt s ≤ 8 ∧ pm_tg h a 4) ∧ pm_ok d 90 (.inr (.inr (some a)) :: (st.take 0).reverse) h fun r h1 => pm_w d 89 32 ls (pm_pu r s) h1 Q := pw_virt (show decode (pm_b 89) 29 = .ok (.invokevirtual 201, 3) by decide +kernel) mx_11_201
theorem ux_89_32 : pm_w d 89 32 ls st h Q ↔ pm_i st fun x s => s = [] ∧ Q (some (.inl x)) h := pw_ireturn (show decode (pm_b 89) 32 = .ok (.ireturn, 1) by decide +kernel) rfl
theorem ux_89_33 : pm_w d 89 33 ls st h Q ↔ pm_li ls 1 fun x => pm_w d 89 34 ls (.inl x :: st) h Q := pw_iload_n (show decode (pm_b 89) 33 = .ok (.iload_n 1, 1) by decide +kernel)
theorem ux_89_34 : pm_w d 89 34 ls st h Q ↔ pm_w d 89 35 ls (.inl 1 :: st) h Q := pw_iconst (show decode (pm_b 89) 34 = .ok (.iconst 1, 1) by decide +kernel) (by unfold pm_I32; decide)
theorem ux_89_35 : pm_w d 89 35 ls st h Q ↔ pm_i st fun y s => pm_i s fun x s => ((x ≠ y) → pm_w d 89 49 ls s h Q) ∧ (¬ (x ≠ y) → pm_w d 89 38 ls s h Q) := pw_ic_ne (show decode (pm_b 89) 35 = .ok (.if_icmp .ne 14, 3) by decide +kernel) (by decide)
theorem ux_89_38 : pm_w d 89 38 ls st h Q ↔ pm_lq ls 0 fun x => pm_w d 89 39 ls (.inr (.inr x) :: st) h Q := pw_aload_n (show decode (pm_b 89) 38 = .ok (.aload_n 0, 1) by decide +kernel)
theorem ux_89_39 : pm_w d 89 39 ls st h Q ↔ pm_r st fun a s => pm_tgs h a [11] ∧ pm_w d 89 42 ls (.inr (.inr (h.2.1 a 3)) :: s) h Q := pw_get (show decode (pm_b 89) 39 = .ok (.getfield 33, 3) by decide +kernel) fx_11_33
theorem ux_89_42 : pm_w d 89 42 ls st h Q ↔ pm_w d 89 43 ls (.inl 0 :: st) h Q := pw_iconst (show decode (pm_b 89) 42 = .ok (.iconst 0, 1) by decide +kernel) (by unfold pm_I32; decide)
theorem ux_89_43 : pm_w d 89 43 ls st h Q ↔ pm_r (st.drop 1) fun a s => (1 ≤ st.length ∧ pm_wt s ≤ 8 ∧ pm_tg h a 4) ∧ pm_ok d 91 (.inr (.inr (some a)) :: (st.take 1).reverse) h fun r h1 => pm_w d 89 46 ls (pm_pu r s) h1 Q := pw_virt (show decode (pm_b 89) 43 = .ok (.invokevirtual 204, 3) by decide +kernel) mx_11_204
theorem ux_89_46 : pm_w d 89 46 ls st h Q ↔ pm_w d 89 58 ls st h Q := pw_goto (show decode (pm_b 89) 46 = .ok (.goto 12, 3) by decide +kernel) (by decide)
theorem ux_89_49 : pm_w d 89 49 ls st h Q ↔ pm_lq ls 0 fun x => pm_w d 89 50 ls (.inr (.inr x) :: st) h Q := pw_aload_n (show decode (pm_b 89) 49 = .ok (.aload_n 0, 1) by decide +kernel)
theorem ux_89_50 : pm_w d 89 50 ls st h Q ↔ pm_r st fun a s => pm_tgs h a [11] ∧ pm_w d 89 53 ls (.inr (.inr (h.2.1 a 3)) :: s) h Q := pw_get (show decode (pm_b 89) 50 = .ok (.getfield 33, 3) by decide +kernel) fx_11_33
theorem ux_89_53 : pm_w d 89 53 ls st h Q ↔ pm_w d 89 55 ls (.inl 31 :: st) h Q := pw_bipush (show decode (pm_b 89) 53 = .ok (.bipush 31, 2) by decide +kernel) (by decide)
theorem ux_89_55 : pm_w d 89 55 ls st h Q ↔ pm_r (st.drop 1) fun a s => (1 ≤ st.length ∧ pm_wt s ≤ 8 ∧ pm_tg h a 4) ∧ pm_ok d 91 (.inr (.inr (some a)) :: (st.take 1).reverse) h fun r h1 => pm_w d 89 58 ls (pm_pu r s) h1 Q := pw_virt (show decode (pm_b 89) 55 = .ok (.invokevirtual 204, 3) by decide +kernel) mx_11_204
theorem ux_89_58 : pm_w d 89 58 ls st h Q ↔ pm_i st fun x s => s = [] ∧ Q (some (.inl x)) h := pw_ireturn (show decode (pm_b 89) 58 = .ok (.ireturn, 1) by decide +kernel) rfl
-- 90: LLaying.reachedPieces
theorem ux_90_0 : pm_w d 90 0 ls st h Q ↔ pm_w d 90 1 ls (.inl 0 :: st) h Q := pw_iconst (show decode (pm_b 90) 0 = .ok (.iconst 0, 1) by decide +kernel) (by unfold pm_I32; decide)
theorem ux_90_1 : pm_w d 90 1 ls st h Q ↔ pm_i st fun x s => pm_w d 90 2 (pm_s1 ls 1 (.inl x)) s h Q := pw_istore_n (show decode (pm_b 90) 1 = .ok (.istore_n 1, 1) by decide +kernel) (by decide)
theorem ux_90_2 : pm_w d 90 2 ls st h Q ↔ pm_w d 90 3 ls (.inl 0 :: st) h Q := pw_iconst (show decode (pm_b 90) 2 = .ok (.iconst 0, 1) by decide +kernel) (by unfold pm_I32; decide)
theorem ux_90_3 : pm_w d 90 3 ls st h Q ↔ pm_i st fun x s => pm_w d 90 4 (pm_s1 ls 2 (.inl x)) s h Q := pw_istore_n (show decode (pm_b 90) 3 = .ok (.istore_n 2, 1) by decide +kernel) (by decide)
theorem ux_90_4 : pm_w d 90 4 ls st h Q ↔ pm_li ls 2 fun x => pm_w d 90 5 ls (.inl x :: st) h Q := pw_iload_n (show decode (pm_b 90) 4 = .ok (.iload_n 2, 1) by decide +kernel)
theorem ux_90_5 : pm_w d 90 5 ls st h Q ↔ pm_lq ls 0 fun x => pm_w d 90 6 ls (.inr (.inr x) :: st) h Q := pw_aload_n (show decode (pm_b 90) 5 = .ok (.aload_n 0, 1) by decide +kernel)
theorem ux_90_6 : pm_w d 90 6 ls st h Q ↔ pm_r st fun a s => pm_tgs h a [4] ∧ pm_w d 90 9 ls (.inl (h.1 a 0) :: s) h Q := pw_get (show decode (pm_b 90) 6 = .ok (.getfield 39, 3) by decide +kernel) fx_4_39
theorem ux_90_9 : pm_w d 90 9 ls st h Q ↔ pm_i st fun y s => pm_i s fun x s => ((y ≤ x) → pm_w d 90 35 ls s h Q) ∧ (¬ (y ≤ x) → pm_w d 90 12 ls s h Q) := pw_ic_ge (show decode (pm_b 90) 9 = .ok (.if_icmp .ge 26, 3) by decide +kernel) (by decide)
theorem ux_90_12 : pm_w d 90 12 ls st h Q ↔ pm_lq ls 0 fun x => pm_w d 90 13 ls (.inr (.inr x) :: st) h Q := pw_aload_n (show decode (pm_b 90) 12 = .ok (.aload_n 0, 1) by decide +kernel)
theorem ux_90_13 : pm_w d 90 13 ls st h Q ↔ pm_r st fun a s => pm_tgs h a [4] ∧ pm_w d 90 16 ls (.inr (.inr (h.2.1 a 7)) :: s) h Q := pw_get (show decode (pm_b 90) 13 = .ok (.getfield 26, 3) by decide +kernel) fx_4_26
theorem ux_90_16 : pm_w d 90 16 ls st h Q ↔ pm_li ls 2 fun x => pm_w d 90 17 ls (.inl x :: st) h Q := pw_iload_n (show decode (pm_b 90) 16 = .ok (.iload_n 2, 1) by decide +kernel)
theorem ux_90_17 : pm_w d 90 17 ls st h Q ↔ pm_i st fun x s => pm_r s fun a s => pm_inb h a 20 x ∧ pm_w d 90 18 ls (.inl (h.1 a x.toNat) :: s) h Q := pw_iaload (show decode (pm_b 90) 17 = .ok (.iaload, 1) by decide +kernel)
theorem ux_90_18 : pm_w d 90 18 ls st h Q ↔ pm_w d 90 20 ls (.inl (-2) :: st) h Q := pw_bipush (show decode (pm_b 90) 18 = .ok (.bipush (-2), 2) by decide +kernel) (by decide)
theorem ux_90_20 : pm_w d 90 20 ls st h Q ↔ pm_i st fun y s => pm_i s fun x s => ((x = y) → pm_w d 90 29 ls s h Q) ∧ (¬ (x = y) → pm_w d 90 23 ls s h Q) := pw_ic_eq (show decode (pm_b 90) 20 = .ok (.if_icmp .eq 9, 3) by decide +kernel) (by decide)
theorem ux_90_23 : pm_w d 90 23 ls st h Q ↔ pm_li ls 1 fun x => pm_w d 90 24 ls (.inl x :: st) h Q := pw_iload_n (show decode (pm_b 90) 23 = .ok (.iload_n 1, 1) by decide +kernel)
theorem ux_90_24 : pm_w d 90 24 ls st h Q ↔ pm_w d 90 25 ls (.inl 1 :: st) h Q := pw_iconst (show decode (pm_b 90) 24 = .ok (.iconst 1, 1) by decide +kernel) (by unfold pm_I32; decide)
theorem ux_90_25 : pm_w d 90 25 ls st h Q ↔ pm_li ls 2 fun x => pm_w d 90 26 ls (.inl x :: st) h Q := pw_iload_n (show decode (pm_b 90) 25 = .ok (.iload_n 2, 1) by decide +kernel)
theorem ux_90_26 : pm_w d 90 26 ls st h Q ↔ pm_i st fun y s => pm_i s fun x s => (0 ≤ y ∧ y < 32 ∧ 0 ≤ x ∧ x * 2 ^ y.toNat ≤ 2147483647) ∧ pm_w d 90 27 ls (.inl (x * 2 ^ y.toNat) :: s) h Q := pw_ishl (show decode (pm_b 90) 26 = .ok (.ishl, 1) by decide +kernel)
theorem ux_90_27 : pm_w d 90 27 ls st h Q ↔ pm_i st fun y s => pm_i s fun x s => (0 ≤ y ∧ 0 ≤ x) ∧ pm_w d 90 28 ls (.inl ((x.toNat ||| y.toNat : Nat) : Int) :: s) h Q := pw_ior (show decode (pm_b 90) 27 = .ok (.ior, 1) by decide +kernel)
theorem ux_90_28 : pm_w d 90 28 ls st h Q ↔ pm_i st fun x s => pm_w d 90 29 (pm_s1 ls 1 (.inl x)) s h Q := pw_istore_n (show decode (pm_b 90) 28 = .ok (.istore_n 1, 1) by decide +kernel) (by decide)
theorem ux_90_29 : pm_w d 90 29 ls st h Q ↔ pm_li ls 2 fun x => pm_I32 (x + 1) ∧ pm_w d 90 32 (pm_s1 ls 2 (.inl (x + 1))) st h Q := pw_iinc (show decode (pm_b 90) 29 = .ok (.iinc 2 1, 3) by decide +kernel) (by decide)
theorem ux_90_32 : pm_w d 90 32 ls st h Q ↔ pm_w d 90 4 ls st h Q := pw_goto (show decode (pm_b 90) 32 = .ok (.goto (-28), 3) by decide +kernel) (by decide)
theorem ux_90_35 : pm_w d 90 35 ls st h Q ↔ pm_li ls 1 fun x => pm_w d 90 36 ls (.inl x :: st) h Q := pw_iload_n (show decode (pm_b 90) 35 = .ok (.iload_n 1, 1) by decide +kernel)
theorem ux_90_36 : pm_w d 90 36 ls st h Q ↔ pm_i st fun x s => s = [] ∧ Q (some (.inl x)) h := pw_ireturn (show decode (pm_b 90) 36 = .ok (.ireturn, 1) by decide +kernel) rfl
-- 91: LLaying.reachedStretches
theorem ux_91_0 : pm_w d 91 0 ls st h Q ↔ pm_w d 91 1 ls (.inl 0 :: st) h Q := pw_iconst (show decode (pm_b 91) 0 = .ok (.iconst 0, 1) by decide +kernel) (by unfold pm_I32; decide)
theorem ux_91_1 : pm_w d 91 1 ls st h Q ↔ pm_i st fun x s => pm_w d 91 2 (pm_s1 ls 2 (.inl x)) s h Q := pw_istore_n (show decode (pm_b 91) 1 = .ok (.istore_n 2, 1) by decide +kernel) (by decide)
theorem ux_91_2 : pm_w d 91 2 ls st h Q ↔ pm_li ls 1 fun x => pm_w d 91 3 ls (.inl x :: st) h Q := pw_iload_n (show decode (pm_b 91) 2 = .ok (.iload_n 1, 1) by decide +kernel)
theorem ux_91_3 : pm_w d 91 3 ls st h Q ↔ pm_i st fun x s => pm_w d 91 4 (pm_s1 ls 3 (.inl x)) s h Q := pw_istore_n (show decode (pm_b 91) 3 = .ok (.istore_n 3, 1) by decide +kernel) (by decide)
theorem ux_91_4 : pm_w d 91 4 ls st h Q ↔ pm_li ls 3 fun x => pm_w d 91 5 ls (.inl x :: st) h Q := pw_iload_n (show decode (pm_b 91) 4 = .ok (.iload_n 3, 1) by decide +kernel)
theorem ux_91_5 : pm_w d 91 5 ls st h Q ↔ pm_lq ls 0 fun x => pm_w d 91 6 ls (.inr (.inr x) :: st) h Q := pw_aload_n (show decode (pm_b 91) 5 = .ok (.aload_n 0, 1) by decide +kernel)
theorem ux_91_6 : pm_w d 91 6 ls st h Q ↔ pm_r st fun a s => pm_tgs h a [4] ∧ pm_w d 91 9 ls (.inl (h.1 a 1) :: s) h Q := pw_get (show decode (pm_b 91) 6 = .ok (.getfield 61, 3) by decide +kernel) fx_4_61
theorem ux_91_9 : pm_w d 91 9 ls st h Q ↔ pm_i st fun y s => pm_i s fun x s => ((y ≤ x) → pm_w d 91 45 ls s h Q) ∧ (¬ (y ≤ x) → pm_w d 91 12 ls s h Q) := pw_ic_ge (show decode (pm_b 91) 9 = .ok (.if_icmp .ge 36, 3) by decide +kernel) (by decide)
theorem ux_91_12 : pm_w d 91 12 ls st h Q ↔ pm_li ls 3 fun x => pm_w d 91 13 ls (.inl x :: st) h Q := pw_iload_n (show decode (pm_b 91) 12 = .ok (.iload_n 3, 1) by decide +kernel)
theorem ux_91_13 : pm_w d 91 13 ls st h Q ↔ pm_li ls 1 fun x => pm_w d 91 14 ls (.inl x :: st) h Q := pw_iload_n (show decode (pm_b 91) 13 = .ok (.iload_n 1, 1) by decide +kernel)
theorem ux_91_14 : pm_w d 91 14 ls st h Q ↔ pm_w d 91 16 ls (.inl 31 :: st) h Q := pw_bipush (show decode (pm_b 91) 14 = .ok (.bipush 31, 2) by decide +kernel) (by decide)
theorem ux_91_16 : pm_w d 91 16 ls st h Q ↔ pm_i st fun y s => pm_i s fun x s => pm_I32 (x + y) ∧ pm_w d 91 17 ls (.inl (x + y) :: s) h Q := pw_iadd (show decode (pm_b 91) 16 = .ok (.iadd, 1) by decide +kernel)
theorem ux_91_17 : pm_w d 91 17 ls st h Q ↔ pm_i st fun y s => pm_i s fun x s => ((y ≤ x) → pm_w d 91 45 ls s h Q) ∧ (¬ (y ≤ x) → pm_w d 91 20 ls s h Q) := pw_ic_ge (show decode (pm_b 91) 17 = .ok (.if_icmp .ge 28, 3) by decide +kernel) (by decide)
theorem ux_91_20 : pm_w d 91 20 ls st h Q ↔ pm_lq ls 0 fun x => pm_w d 91 21 ls (.inr (.inr x) :: st) h Q := pw_aload_n (show decode (pm_b 91) 20 = .ok (.aload_n 0, 1) by decide +kernel)
theorem ux_91_21 : pm_w d 91 21 ls st h Q ↔ pm_r st fun a s => pm_tgs h a [4] ∧ pm_w d 91 24 ls (.inr (.inr (h.2.1 a 8)) :: s) h Q := pw_get (show decode (pm_b 91) 21 = .ok (.getfield 29, 3) by decide +kernel) fx_4_29
theorem ux_91_24 : pm_w d 91 24 ls st h Q ↔ pm_li ls 3 fun x => pm_w d 91 25 ls (.inl x :: st) h Q := pw_iload_n (show decode (pm_b 91) 24 = .ok (.iload_n 3, 1) by decide +kernel)
theorem ux_91_25 : pm_w d 91 25 ls st h Q ↔ pm_i st fun x s => pm_r s fun a s => pm_inb h a 20 x ∧ pm_w d 91 26 ls (.inl (h.1 a x.toNat) :: s) h Q := pw_iaload (show decode (pm_b 91) 25 = .ok (.iaload, 1) by decide +kernel)
theorem ux_91_26 : pm_w d 91 26 ls st h Q ↔ pm_w d 91 28 ls (.inl (-2) :: st) h Q := pw_bipush (show decode (pm_b 91) 26 = .ok (.bipush (-2), 2) by decide +kernel) (by decide)
theorem ux_91_28 : pm_w d 91 28 ls st h Q ↔ pm_i st fun y s => pm_i s fun x s => ((x = y) → pm_w d 91 39 ls s h Q) ∧ (¬ (x = y) → pm_w d 91 31 ls s h Q) := pw_ic_eq (show decode (pm_b 91) 28 = .ok (.if_icmp .eq 11, 3) by decide +kernel) (by decide)
theorem ux_91_31 : pm_w d 91 31 ls st h Q ↔ pm_li ls 2 fun x => pm_w d 91 32 ls (.inl x :: st) h Q := pw_iload_n (show decode (pm_b 91) 31 = .ok (.iload_n 2, 1) by decide +kernel)
theorem ux_91_32 : pm_w d 91 32 ls st h Q ↔ pm_w d 91 33 ls (.inl 1 :: st) h Q := pw_iconst (show decode (pm_b 91) 32 = .ok (.iconst 1, 1) by decide +kernel) (by unfold pm_I32; decide)
theorem ux_91_33 : pm_w d 91 33 ls st h Q ↔ pm_li ls 3 fun x => pm_w d 91 34 ls (.inl x :: st) h Q := pw_iload_n (show decode (pm_b 91) 33 = .ok (.iload_n 3, 1) by decide +kernel)
theorem ux_91_34 : pm_w d 91 34 ls st h Q ↔ pm_li ls 1 fun x => pm_w d 91 35 ls (.inl x :: st) h Q := pw_iload_n (show decode (pm_b 91) 34 = .ok (.iload_n 1, 1) by decide +kernel)
theorem ux_91_35 : pm_w d 91 35 ls st h Q ↔ pm_i st fun y s => pm_i s fun x s => pm_I32 (x - y) ∧ pm_w d 91 36 ls (.inl (x - y) :: s) h Q := pw_isub (show decode (pm_b 91) 35 = .ok (.isub, 1) by decide +kernel)
theorem ux_91_36 : pm_w d 91 36 ls st h Q ↔ pm_i st fun y s => pm_i s fun x s => (0 ≤ y ∧ y < 32 ∧ 0 ≤ x ∧ x * 2 ^ y.toNat ≤ 2147483647) ∧ pm_w d 91 37 ls (.inl (x * 2 ^ y.toNat) :: s) h Q := pw_ishl (show decode (pm_b 91) 36 = .ok (.ishl, 1) by decide +kernel)
theorem ux_91_37 : pm_w d 91 37 ls st h Q ↔ pm_i st fun y s => pm_i s fun x s => (0 ≤ y ∧ 0 ≤ x) ∧ pm_w d 91 38 ls (.inl ((x.toNat ||| y.toNat : Nat) : Int) :: s) h Q := pw_ior (show decode (pm_b 91) 37 = .ok (.ior, 1) by decide +kernel)
theorem ux_91_38 : pm_w d 91 38 ls st h Q ↔ pm_i st fun x s => pm_w d 91 39 (pm_s1 ls 2 (.inl x)) s h Q := pw_istore_n (show decode (pm_b 91) 38 = .ok (.istore_n 2, 1) by decide +kernel) (by decide)
theorem ux_91_39 : pm_w d 91 39 ls st h Q ↔ pm_li ls 3 fun x => pm_I32 (x + 1) ∧ pm_w d 91 42 (pm_s1 ls 3 (.inl (x + 1))) st h Q := pw_iinc (show decode (pm_b 91) 39 = .ok (.iinc 3 1, 3) by decide +kernel) (by decide)
theorem ux_91_42 : pm_w d 91 42 ls st h Q ↔ pm_w d 91 4 ls st h Q := pw_goto (show decode (pm_b 91) 42 = .ok (.goto (-38), 3) by decide +kernel) (by decide)
theorem ux_91_45 : pm_w d 91 45 ls st h Q ↔ pm_li ls 2 fun x => pm_w d 91 46 ls (.inl x :: st) h Q := pw_iload_n (show decode (pm_b 91) 45 = .ok (.iload_n 2, 1) by decide +kernel)
theorem ux_91_46 : pm_w d 91 46 ls st h Q ↔ pm_i st fun x s => s = [] ∧ Q (some (.inl x)) h := pw_ireturn (show decode (pm_b 91) 46 = .ok (.ireturn, 1) by decide +kernel) rfl
-- 92: L.fewest
theorem ux_92_0 : pm_w d 92 0 ls st h Q ↔ pm_lq ls 0 fun x => pm_w d 92 1 ls (.inr (.inr x) :: st) h Q := pw_aload_n (show decode (pm_b 92) 0 = .ok (.aload_n 0, 1) by decide +kernel)
theorem ux_92_1 : pm_w d 92 1 ls st h Q ↔ pm_w d 92 2 ls (.inl 0 :: st) h Q := pw_iconst (show decode (pm_b 92) 1 = .ok (.iconst 0, 1) by decide +kernel) (by unfold pm_I32; decide)
theorem ux_92_2 : pm_w d 92 2 ls st h Q ↔ pm_w d 92 3 ls (.inl 1 :: st) h Q := pw_iconst (show decode (pm_b 92) 2 = .ok (.iconst 1, 1) by decide +kernel) (by unfold pm_I32; decide)
theorem ux_92_3 : pm_w d 92 3 ls st h Q ↔ pm_w d 92 5 ls (.inl 12 :: st) h Q := pw_bipush (show decode (pm_b 92) 3 = .ok (.bipush 12, 2) by decide +kernel) (by decide)
theorem ux_92_5 : pm_w d 92 5 ls st h Q ↔ pm_r (st.drop 3) fun a s => (3 ≤ st.length ∧ pm_wt s ≤ 8 ∧ pm_tg h a 11) ∧ pm_ok d 93 (.inr (.inr (some a)) :: (st.take 3).reverse) h fun r h1 => pm_w d 92 8 ls (pm_pu r s) h1 Q := pw_virt (show decode (pm_b 92) 5 = .ok (.invokevirtual 207, 3) by decide +kernel) mx_11_207
theorem ux_92_8 : pm_w d 92 8 ls st h Q ↔ pm_i st fun x s => s = [] ∧ Q (some (.inl x)) h := pw_ireturn (show decode (pm_b 92) 8 = .ok (.ireturn, 1) by decide +kernel) rfl
-- 93: L.leastThatDoes
theorem ux_93_0 : pm_w d 93 0 ls st h Q ↔ pm_lq ls 0 fun x => pm_w d 93 1 ls (.inr (.inr x) :: st) h Q := pw_aload_n (show decode (pm_b 93) 0 = .ok (.aload_n 0, 1) by decide +kernel)
theorem ux_93_1 : pm_w d 93 1 ls st h Q ↔ pm_li ls 1 fun x => pm_w d 93 2 ls (.inl x :: st) h Q := pw_iload_n (show decode (pm_b 93) 1 = .ok (.iload_n 1, 1) by decide +kernel)
theorem ux_93_2 : pm_w d 93 2 ls st h Q ↔ pm_li ls 3 fun x => pm_w d 93 3 ls (.inl x :: st) h Q := pw_iload_n (show decode (pm_b 93) 2 = .ok (.iload_n 3, 1) by decide +kernel)
theorem ux_93_3 : pm_w d 93 3 ls st h Q ↔ pm_r (st.drop 2) fun a s => (2 ≤ st.length ∧ pm_wt s ≤ 8 ∧ pm_tg h a 11) ∧ pm_ok d 94 (.inr (.inr (some a)) :: (st.take 2).reverse) h fun r h1 => pm_w d 93 6 ls (pm_pu r s) h1 Q := pw_virt (show decode (pm_b 93) 3 = .ok (.invokevirtual 299, 3) by decide +kernel) mx_11_299
theorem ux_93_6 : pm_w d 93 6 ls st h Q ↔ pm_i st fun x s => ((x ≠ 0) → pm_w d 93 12 ls s h Q) ∧ (¬ (x ≠ 0) → pm_w d 93 9 ls s h Q) := pw_if_ne (show decode (pm_b 93) 6 = .ok (.ifCond .ne 6, 3) by decide +kernel) (by decide)
theorem ux_93_9 : pm_w d 93 9 ls st h Q ↔ pm_w d 93 11 ls (.inl (-3) :: st) h Q := pw_bipush (show decode (pm_b 93) 9 = .ok (.bipush (-3), 2) by decide +kernel) (by decide)
theorem ux_93_11 : pm_w d 93 11 ls st h Q ↔ pm_i st fun x s => s = [] ∧ Q (some (.inl x)) h := pw_ireturn (show decode (pm_b 93) 11 = .ok (.ireturn, 1) by decide +kernel) rfl
theorem ux_93_12 : pm_w d 93 12 ls st h Q ↔ pm_li ls 2 fun x => pm_w d 93 13 ls (.inl x :: st) h Q := pw_iload_n (show decode (pm_b 93) 12 = .ok (.iload_n 2, 1) by decide +kernel)
theorem ux_93_13 : pm_w d 93 13 ls st h Q ↔ pm_i st fun x s => pm_w d 93 15 (pm_s1 ls 4 (.inl x)) s h Q := pw_istore (show decode (pm_b 93) 13 = .ok (.istore 4, 2) by decide +kernel) (by decide)
theorem ux_93_15 : pm_w d 93 15 ls st h Q ↔ pm_li ls 3 fun x => pm_w d 93 16 ls (.inl x :: st) h Q := pw_iload_n (show decode (pm_b 93) 15 = .ok (.iload_n 3, 1) by decide +kernel)
theorem ux_93_16 : pm_w d 93 16 ls st h Q ↔ pm_i st fun x s => pm_w d 93 18 (pm_s1 ls 5 (.inl x)) s h Q := pw_istore (show decode (pm_b 93) 16 = .ok (.istore 5, 2) by decide +kernel) (by decide)
theorem ux_93_18 : pm_w d 93 18 ls st h Q ↔ pm_w d 93 19 ls (.inl 0 :: st) h Q := pw_iconst (show decode (pm_b 93) 18 = .ok (.iconst 0, 1) by decide +kernel) (by unfold pm_I32; decide)
theorem ux_93_19 : pm_w d 93 19 ls st h Q ↔ pm_i st fun x s => pm_w d 93 21 (pm_s1 ls 6 (.inl x)) s h Q := pw_istore (show decode (pm_b 93) 19 = .ok (.istore 6, 2) by decide +kernel) (by decide)
theorem ux_93_21 : pm_w d 93 21 ls st h Q ↔ pm_li ls 6 fun x => pm_w d 93 23 ls (.inl x :: st) h Q := pw_iload (show decode (pm_b 93) 21 = .ok (.iload 6, 2) by decide +kernel)
theorem ux_93_23 : pm_w d 93 23 ls st h Q ↔ pm_w d 93 26 ls (.inl 1000000 :: st) h Q := pw_ldc_w (show decode (pm_b 93) 23 = .ok (.ldc_w 303, 3) by decide +kernel) kx_11_303
theorem ux_93_26 : pm_w d 93 26 ls st h Q ↔ pm_i st fun y s => pm_i s fun x s => ((y ≤ x) → pm_w d 93 74 ls s h Q) ∧ (¬ (y ≤ x) → pm_w d 93 29 ls s h Q) := pw_ic_ge (show decode (pm_b 93) 26 = .ok (.if_icmp .ge 48, 3) by decide +kernel) (by decide)
theorem ux_93_29 : pm_w d 93 29 ls st h Q ↔ pm_li ls 4 fun x => pm_w d 93 31 ls (.inl x :: st) h Q := pw_iload (show decode (pm_b 93) 29 = .ok (.iload 4, 2) by decide +kernel)
theorem ux_93_31 : pm_w d 93 31 ls st h Q ↔ pm_li ls 5 fun x => pm_w d 93 33 ls (.inl x :: st) h Q := pw_iload (show decode (pm_b 93) 31 = .ok (.iload 5, 2) by decide +kernel)
theorem ux_93_33 : pm_w d 93 33 ls st h Q ↔ pm_i st fun y s => pm_i s fun x s => ((y ≤ x) → pm_w d 93 74 ls s h Q) ∧ (¬ (y ≤ x) → pm_w d 93 36 ls s h Q) := pw_ic_ge (show decode (pm_b 93) 33 = .ok (.if_icmp .ge 41, 3) by decide +kernel) (by decide)
theorem ux_93_36 : pm_w d 93 36 ls st h Q ↔ pm_li ls 4 fun x => pm_w d 93 38 ls (.inl x :: st) h Q := pw_iload (show decode (pm_b 93) 36 = .ok (.iload 4, 2) by decide +kernel)
theorem ux_93_38 : pm_w d 93 38 ls st h Q ↔ pm_li ls 5 fun x => pm_w d 93 40 ls (.inl x :: st) h Q := pw_iload (show decode (pm_b 93) 38 = .ok (.iload 5, 2) by decide +kernel)
theorem ux_93_40 : pm_w d 93 40 ls st h Q ↔ pm_i st fun y s => pm_i s fun x s => pm_I32 (x + y) ∧ pm_w d 93 41 ls (.inl (x + y) :: s) h Q := pw_iadd (show decode (pm_b 93) 40 = .ok (.iadd, 1) by decide +kernel)
theorem ux_93_41 : pm_w d 93 41 ls st h Q ↔ pm_w d 93 42 ls (.inl 2 :: st) h Q := pw_iconst (show decode (pm_b 93) 41 = .ok (.iconst 2, 1) by decide +kernel) (by unfold pm_I32; decide)
theorem ux_93_42 : pm_w d 93 42 ls st h Q ↔ pm_i st fun y s => pm_i s fun x s => (0 ≤ x ∧ 0 < y) ∧ pm_w d 93 43 ls (.inl (x / y) :: s) h Q := pw_idiv (show decode (pm_b 93) 42 = .ok (.idiv, 1) by decide +kernel)
theorem ux_93_43 : pm_w d 93 43 ls st h Q ↔ pm_i st fun x s => pm_w d 93 45 (pm_s1 ls 7 (.inl x)) s h Q := pw_istore (show decode (pm_b 93) 43 = .ok (.istore 7, 2) by decide +kernel) (by decide)
theorem ux_93_45 : pm_w d 93 45 ls st h Q ↔ pm_lq ls 0 fun x => pm_w d 93 46 ls (.inr (.inr x) :: st) h Q := pw_aload_n (show decode (pm_b 93) 45 = .ok (.aload_n 0, 1) by decide +kernel)
theorem ux_93_46 : pm_w d 93 46 ls st h Q ↔ pm_li ls 1 fun x => pm_w d 93 47 ls (.inl x :: st) h Q := pw_iload_n (show decode (pm_b 93) 46 = .ok (.iload_n 1, 1) by decide +kernel)
theorem ux_93_47 : pm_w d 93 47 ls st h Q ↔ pm_li ls 7 fun x => pm_w d 93 49 ls (.inl x :: st) h Q := pw_iload (show decode (pm_b 93) 47 = .ok (.iload 7, 2) by decide +kernel)
theorem ux_93_49 : pm_w d 93 49 ls st h Q ↔ pm_r (st.drop 2) fun a s => (2 ≤ st.length ∧ pm_wt s ≤ 8 ∧ pm_tg h a 11) ∧ pm_ok d 94 (.inr (.inr (some a)) :: (st.take 2).reverse) h fun r h1 => pm_w d 93 52 ls (pm_pu r s) h1 Q := pw_virt (show decode (pm_b 93) 49 = .ok (.invokevirtual 299, 3) by decide +kernel) mx_11_299
theorem ux_93_52 : pm_w d 93 52 ls st h Q ↔ pm_i st fun x s => ((x = 0) → pm_w d 93 62 ls s h Q) ∧ (¬ (x = 0) → pm_w d 93 55 ls s h Q) := pw_if_eq (show decode (pm_b 93) 52 = .ok (.ifCond .eq 10, 3) by decide +kernel) (by decide)
theorem ux_93_55 : pm_w d 93 55 ls st h Q ↔ pm_li ls 7 fun x => pm_w d 93 57 ls (.inl x :: st) h Q := pw_iload (show decode (pm_b 93) 55 = .ok (.iload 7, 2) by decide +kernel)
theorem ux_93_57 : pm_w d 93 57 ls st h Q ↔ pm_i st fun x s => pm_w d 93 59 (pm_s1 ls 5 (.inl x)) s h Q := pw_istore (show decode (pm_b 93) 57 = .ok (.istore 5, 2) by decide +kernel) (by decide)
theorem ux_93_59 : pm_w d 93 59 ls st h Q ↔ pm_w d 93 68 ls st h Q := pw_goto (show decode (pm_b 93) 59 = .ok (.goto 9, 3) by decide +kernel) (by decide)
theorem ux_93_62 : pm_w d 93 62 ls st h Q ↔ pm_li ls 7 fun x => pm_w d 93 64 ls (.inl x :: st) h Q := pw_iload (show decode (pm_b 93) 62 = .ok (.iload 7, 2) by decide +kernel)
theorem ux_93_64 : pm_w d 93 64 ls st h Q ↔ pm_w d 93 65 ls (.inl 1 :: st) h Q := pw_iconst (show decode (pm_b 93) 64 = .ok (.iconst 1, 1) by decide +kernel) (by unfold pm_I32; decide)
theorem ux_93_65 : pm_w d 93 65 ls st h Q ↔ pm_i st fun y s => pm_i s fun x s => pm_I32 (x + y) ∧ pm_w d 93 66 ls (.inl (x + y) :: s) h Q := pw_iadd (show decode (pm_b 93) 65 = .ok (.iadd, 1) by decide +kernel)
theorem ux_93_66 : pm_w d 93 66 ls st h Q ↔ pm_i st fun x s => pm_w d 93 68 (pm_s1 ls 4 (.inl x)) s h Q := pw_istore (show decode (pm_b 93) 66 = .ok (.istore 4, 2) by decide +kernel) (by decide)
theorem ux_93_68 : pm_w d 93 68 ls st h Q ↔ pm_li ls 6 fun x => pm_I32 (x + 1) ∧ pm_w d 93 71 (pm_s1 ls 6 (.inl (x + 1))) st h Q := pw_iinc (show decode (pm_b 93) 68 = .ok (.iinc 6 1, 3) by decide +kernel) (by decide)
theorem ux_93_71 : pm_w d 93 71 ls st h Q ↔ pm_w d 93 21 ls st h Q := pw_goto (show decode (pm_b 93) 71 = .ok (.goto (-50), 3) by decide +kernel) (by decide)
theorem ux_93_74 : pm_w d 93 74 ls st h Q ↔ pm_li ls 4 fun x => pm_w d 93 76 ls (.inl x :: st) h Q := pw_iload (show decode (pm_b 93) 74 = .ok (.iload 4, 2) by decide +kernel)
theorem ux_93_76 : pm_w d 93 76 ls st h Q ↔ pm_i st fun x s => s = [] ∧ Q (some (.inl x)) h := pw_ireturn (show decode (pm_b 93) 76 = .ok (.ireturn, 1) by decide +kernel) rfl
-- 94: L.wouldFit
theorem ux_94_0 : pm_w d 94 0 ls st h Q ↔ pm_li ls 1 fun x => pm_w d 94 1 ls (.inl x :: st) h Q := pw_iload_n (show decode (pm_b 94) 0 = .ok (.iload_n 1, 1) by decide +kernel)
theorem ux_94_1 : pm_w d 94 1 ls st h Q ↔ pm_i st fun x s => ((x = 0) → pm_w d 94 14 ls s h Q) ∧ (¬ (x = 0) → pm_w d 94 4 ls s h Q) := pw_if_eq (show decode (pm_b 94) 1 = .ok (.ifCond .eq 13, 3) by decide +kernel) (by decide)
theorem ux_94_4 : pm_w d 94 4 ls st h Q ↔ pm_lq ls 0 fun x => pm_w d 94 5 ls (.inr (.inr x) :: st) h Q := pw_aload_n (show decode (pm_b 94) 4 = .ok (.aload_n 0, 1) by decide +kernel)
theorem ux_94_5 : pm_w d 94 5 ls st h Q ↔ pm_r st fun a s => pm_tgs h a [11] ∧ pm_w d 94 8 ls (.inr (.inr (h.2.1 a 0)) :: s) h Q := pw_get (show decode (pm_b 94) 5 = .ok (.getfield 12, 3) by decide +kernel) fx_11_12
theorem ux_94_8 : pm_w d 94 8 ls st h Q ↔ pm_r st fun a s => pm_tgs h a [8] ∧ pm_w d 94 11 ls (.inl (h.1 a 0) :: s) h Q := pw_get (show decode (pm_b 94) 8 = .ok (.getfield 57, 3) by decide +kernel) fx_11_57
theorem ux_94_11 : pm_w d 94 11 ls st h Q ↔ pm_w d 94 15 ls st h Q := pw_goto (show decode (pm_b 94) 11 = .ok (.goto 4, 3) by decide +kernel) (by decide)
theorem ux_94_14 : pm_w d 94 14 ls st h Q ↔ pm_li ls 2 fun x => pm_w d 94 15 ls (.inl x :: st) h Q := pw_iload_n (show decode (pm_b 94) 14 = .ok (.iload_n 2, 1) by decide +kernel)
theorem ux_94_15 : pm_w d 94 15 ls st h Q ↔ pm_i st fun x s => pm_w d 94 16 (pm_s1 ls 3 (.inl x)) s h Q := pw_istore_n (show decode (pm_b 94) 15 = .ok (.istore_n 3, 1) by decide +kernel) (by decide)
theorem ux_94_16 : pm_w d 94 16 ls st h Q ↔ pm_li ls 1 fun x => pm_w d 94 17 ls (.inl x :: st) h Q := pw_iload_n (show decode (pm_b 94) 16 = .ok (.iload_n 1, 1) by decide +kernel)
theorem ux_94_17 : pm_w d 94 17 ls st h Q ↔ pm_i st fun x s => ((x = 0) → pm_w d 94 24 ls s h Q) ∧ (¬ (x = 0) → pm_w d 94 20 ls s h Q) := pw_if_eq (show decode (pm_b 94) 17 = .ok (.ifCond .eq 7, 3) by decide +kernel) (by decide)
theorem ux_94_20 : pm_w d 94 20 ls st h Q ↔ pm_li ls 2 fun x => pm_w d 94 21 ls (.inl x :: st) h Q := pw_iload_n (show decode (pm_b 94) 20 = .ok (.iload_n 2, 1) by decide +kernel)
theorem ux_94_21 : pm_w d 94 21 ls st h Q ↔ pm_w d 94 25 ls st h Q := pw_goto (show decode (pm_b 94) 21 = .ok (.goto 4, 3) by decide +kernel) (by decide)
theorem ux_94_24 : pm_w d 94 24 ls st h Q ↔ pm_w d 94 25 ls (.inl 0 :: st) h Q := pw_iconst (show decode (pm_b 94) 24 = .ok (.iconst 0, 1) by decide +kernel) (by unfold pm_I32; decide)
theorem ux_94_25 : pm_w d 94 25 ls st h Q ↔ pm_i st fun x s => pm_w d 94 27 (pm_s1 ls 4 (.inl x)) s h Q := pw_istore (show decode (pm_b 94) 25 = .ok (.istore 4, 2) by decide +kernel) (by decide)
theorem ux_94_27 : pm_w d 94 27 ls st h Q ↔ pm_lq ls 0 fun x => pm_w d 94 28 ls (.inr (.inr x) :: st) h Q := pw_aload_n (show decode (pm_b 94) 27 = .ok (.aload_n 0, 1) by decide +kernel)
theorem ux_94_28 : pm_w d 94 28 ls st h Q ↔ pm_r st fun a s => pm_tgs h a [11] ∧ pm_w d 94 31 ls (.inr (.inr (h.2.1 a 7)) :: s) h Q := pw_get (show decode (pm_b 94) 28 = .ok (.getfield 37, 3) by decide +kernel) fx_11_37
theorem ux_94_31 : pm_w d 94 31 ls st h Q ↔ pm_lq ls 0 fun x => pm_w d 94 32 ls (.inr (.inr x) :: st) h Q := pw_aload_n (show decode (pm_b 94) 31 = .ok (.aload_n 0, 1) by decide +kernel)
theorem ux_94_32 : pm_w d 94 32 ls st h Q ↔ pm_r st fun a s => pm_tgs h a [11] ∧ pm_w d 94 35 ls (.inr (.inr (h.2.1 a 0)) :: s) h Q := pw_get (show decode (pm_b 94) 32 = .ok (.getfield 12, 3) by decide +kernel) fx_11_12
theorem ux_94_35 : pm_w d 94 35 ls st h Q ↔ pm_li ls 3 fun x => pm_w d 94 36 ls (.inl x :: st) h Q := pw_iload_n (show decode (pm_b 94) 35 = .ok (.iload_n 3, 1) by decide +kernel)
theorem ux_94_36 : pm_w d 94 36 ls st h Q ↔ pm_li ls 4 fun x => pm_w d 94 38 ls (.inl x :: st) h Q := pw_iload (show decode (pm_b 94) 36 = .ok (.iload 4, 2) by decide +kernel)
theorem ux_94_38 : pm_w d 94 38 ls st h Q ↔ pm_r (st.drop 3) fun a s => (3 ≤ st.length ∧ pm_wt s ≤ 8 ∧ pm_tg h a 1) ∧ pm_ok d 48 (.inr (.inr (some a)) :: (st.take 3).reverse) h fun r h1 => pm_w d 94 41 ls (pm_pu r s) h1 Q := pw_virt (show decode (pm_b 94) 38 = .ok (.invokevirtual 279, 3) by decide +kernel) mx_11_279
theorem ux_94_41 : pm_w d 94 41 ls st h Q ↔ pm_lq ls 0 fun x => pm_w d 94 42 ls (.inr (.inr x) :: st) h Q := pw_aload_n (show decode (pm_b 94) 41 = .ok (.aload_n 0, 1) by decide +kernel)
theorem ux_94_42 : pm_w d 94 42 ls st h Q ↔ pm_r st fun a s => pm_tgs h a [11] ∧ pm_w d 94 45 ls (.inr (.inr (h.2.1 a 8)) :: s) h Q := pw_get (show decode (pm_b 94) 42 = .ok (.getfield 40, 3) by decide +kernel) fx_11_40
theorem ux_94_45 : pm_w d 94 45 ls st h Q ↔ pm_lq ls 0 fun x => pm_w d 94 46 ls (.inr (.inr x) :: st) h Q := pw_aload_n (show decode (pm_b 94) 45 = .ok (.aload_n 0, 1) by decide +kernel)
theorem ux_94_46 : pm_w d 94 46 ls st h Q ↔ pm_r st fun a s => pm_tgs h a [11] ∧ pm_w d 94 49 ls (.inr (.inr (h.2.1 a 7)) :: s) h Q := pw_get (show decode (pm_b 94) 46 = .ok (.getfield 37, 3) by decide +kernel) fx_11_37
theorem ux_94_49 : pm_w d 94 49 ls st h Q ↔ pm_w d 94 50 ls (.inl 1 :: st) h Q := pw_iconst (show decode (pm_b 94) 49 = .ok (.iconst 1, 1) by decide +kernel) (by unfold pm_I32; decide)
theorem ux_94_50 : pm_w d 94 50 ls st h Q ↔ pm_w d 94 51 ls (.inl 1 :: st) h Q := pw_iconst (show decode (pm_b 94) 50 = .ok (.iconst 1, 1) by decide +kernel) (by unfold pm_I32; decide)
theorem ux_94_51 : pm_w d 94 51 ls st h Q ↔ pm_r (st.drop 3) fun a s => (3 ≤ st.length ∧ pm_wt s ≤ 8 ∧ pm_tg h a 4) ∧ pm_ok d 59 (.inr (.inr (some a)) :: (st.take 3).reverse) h fun r h1 => pm_w d 94 54 ls (pm_pu r s) h1 Q := pw_virt (show decode (pm_b 94) 51 = .ok (.invokevirtual 283, 3) by decide +kernel) mx_11_283
theorem ux_94_54 : pm_w d 94 54 ls st h Q ↔ pm_lq ls 0 fun x => pm_w d 94 55 ls (.inr (.inr x) :: st) h Q := pw_aload_n (show decode (pm_b 94) 54 = .ok (.aload_n 0, 1) by decide +kernel)
theorem ux_94_55 : pm_w d 94 55 ls st h Q ↔ pm_r st fun a s => pm_tgs h a [11] ∧ pm_w d 94 58 ls (.inr (.inr (h.2.1 a 8)) :: s) h Q := pw_get (show decode (pm_b 94) 55 = .ok (.getfield 40, 3) by decide +kernel) fx_11_40
theorem ux_94_58 : pm_w d 94 58 ls st h Q ↔ pm_r st fun a s => pm_tgs h a [4] ∧ pm_w d 94 61 ls (.inl (h.1 a 2) :: s) h Q := pw_get (show decode (pm_b 94) 58 = .ok (.getfield 179, 3) by decide +kernel) fx_11_179
theorem ux_94_61 : pm_w d 94 61 ls st h Q ↔ pm_i st fun x s => ((x ≠ 0) → pm_w d 94 68 ls s h Q) ∧ (¬ (x ≠ 0) → pm_w d 94 64 ls s h Q) := pw_if_ne (show decode (pm_b 94) 61 = .ok (.ifCond .ne 7, 3) by decide +kernel) (by decide)
theorem ux_94_64 : pm_w d 94 64 ls st h Q ↔ pm_w d 94 65 ls (.inl 1 :: st) h Q := pw_iconst (show decode (pm_b 94) 64 = .ok (.iconst 1, 1) by decide +kernel) (by unfold pm_I32; decide)
theorem ux_94_65 : pm_w d 94 65 ls st h Q ↔ pm_w d 94 69 ls st h Q := pw_goto (show decode (pm_b 94) 65 = .ok (.goto 4, 3) by decide +kernel) (by decide)
theorem ux_94_68 : pm_w d 94 68 ls st h Q ↔ pm_w d 94 69 ls (.inl 0 :: st) h Q := pw_iconst (show decode (pm_b 94) 68 = .ok (.iconst 0, 1) by decide +kernel) (by unfold pm_I32; decide)
theorem ux_94_69 : pm_w d 94 69 ls st h Q ↔ pm_i st fun x s => (s = [] ∧ (x = 0 ∨ x = 1)) ∧ Q (some (.inl x)) h := pw_zreturn (show decode (pm_b 94) 69 = .ok (.ireturn, 1) by decide +kernel) rfl
-- 95: L.delay
theorem ux_95_0 : pm_w d 95 0 ls st h Q ↔ pm_lq ls 0 fun x => pm_w d 95 1 ls (.inr (.inr x) :: st) h Q := pw_aload_n (show decode (pm_b 95) 0 = .ok (.aload_n 0, 1) by decide +kernel)
theorem ux_95_1 : pm_w d 95 1 ls st h Q ↔ pm_w d 95 2 ls (.inl 1 :: st) h Q := pw_iconst (show decode (pm_b 95) 1 = .ok (.iconst 1, 1) by decide +kernel) (by unfold pm_I32; decide)
theorem ux_95_2 : pm_w d 95 2 ls st h Q ↔ pm_w d 95 3 ls (.inl 0 :: st) h Q := pw_iconst (show decode (pm_b 95) 2 = .ok (.iconst 0, 1) by decide +kernel) (by unfold pm_I32; decide)
theorem ux_95_3 : pm_w d 95 3 ls st h Q ↔ pm_w d 95 6 ls (.inl 200 :: st) h Q := pw_sipush (show decode (pm_b 95) 3 = .ok (.sipush 200, 3) by decide +kernel) (by decide)
theorem ux_95_6 : pm_w d 95 6 ls st h Q ↔ pm_r (st.drop 3) fun a s => (3 ≤ st.length ∧ pm_wt s ≤ 8 ∧ pm_tg h a 11) ∧ pm_ok d 93 (.inr (.inr (some a)) :: (st.take 3).reverse) h fun r h1 => pm_w d 95 9 ls (pm_pu r s) h1 Q := pw_virt (show decode (pm_b 95) 6 = .ok (.invokevirtual 207, 3) by decide +kernel) mx_11_207
theorem ux_95_9 : pm_w d 95 9 ls st h Q ↔ pm_i st fun x s => s = [] ∧ Q (some (.inl x)) h := pw_ireturn (show decode (pm_b 95) 9 = .ok (.ireturn, 1) by decide +kernel) rfl
-- 96: L.speed
theorem ux_96_0 : pm_w d 96 0 ls st h Q ↔ pm_li ls 1 fun x => pm_w d 96 1 ls (.inl x :: st) h Q := pw_iload_n (show decode (pm_b 96) 0 = .ok (.iload_n 1, 1) by decide +kernel)
theorem ux_96_1 : pm_w d 96 1 ls st h Q ↔ pm_i st fun x s => ((x < 0) → pm_w d 96 9 ls s h Q) ∧ (¬ (x < 0) → pm_w d 96 4 ls s h Q) := pw_if_lt (show decode (pm_b 96) 1 = .ok (.ifCond .lt 8, 3) by decide +kernel) (by decide)
theorem ux_96_4 : pm_w d 96 4 ls st h Q ↔ pm_li ls 1 fun x => pm_w d 96 5 ls (.inl x :: st) h Q := pw_iload_n (show decode (pm_b 96) 4 = .ok (.iload_n 1, 1) by decide +kernel)
theorem ux_96_5 : pm_w d 96 5 ls st h Q ↔ pm_w d 96 6 ls (.inl 1 :: st) h Q := pw_iconst (show decode (pm_b 96) 5 = .ok (.iconst 1, 1) by decide +kernel) (by unfold pm_I32; decide)
theorem ux_96_6 : pm_w d 96 6 ls st h Q ↔ pm_i st fun y s => pm_i s fun x s => ((x ≤ y) → pm_w d 96 11 ls s h Q) ∧ (¬ (x ≤ y) → pm_w d 96 9 ls s h Q) := pw_ic_le (show decode (pm_b 96) 6 = .ok (.if_icmp .le 5, 3) by decide +kernel) (by decide)
theorem ux_96_9 : pm_w d 96 9 ls st h Q ↔ pm_w d 96 10 ls (.inl (-1) :: st) h Q := pw_iconst (show decode (pm_b 96) 9 = .ok (.iconst (-1), 1) by decide +kernel) (by unfold pm_I32; decide)
theorem ux_96_10 : pm_w d 96 10 ls st h Q ↔ pm_i st fun x s => s = [] ∧ Q (some (.inl x)) h := pw_ireturn (show decode (pm_b 96) 10 = .ok (.ireturn, 1) by decide +kernel) rfl
theorem ux_96_11 : pm_w d 96 11 ls st h Q ↔ pm_lq ls 0 fun x => pm_w d 96 12 ls (.inr (.inr x) :: st) h Q := pw_aload_n (show decode (pm_b 96) 11 = .ok (.aload_n 0, 1) by decide +kernel)
theorem ux_96_12 : pm_w d 96 12 ls st h Q ↔ pm_r st fun a s => pm_tgs h a [11] ∧ pm_w d 96 15 ls (.inr (.inr (h.2.1 a 0)) :: s) h Q := pw_get (show decode (pm_b 96) 12 = .ok (.getfield 12, 3) by decide +kernel) fx_11_12
theorem ux_96_15 : pm_w d 96 15 ls st h Q ↔ pm_r st fun a s => pm_tgs h a [8] ∧ pm_w d 96 18 ls (.inl (h.1 a 2) :: s) h Q := pw_get (show decode (pm_b 96) 15 = .ok (.getfield 71, 3) by decide +kernel) fx_11_71
theorem ux_96_18 : pm_w d 96 18 ls st h Q ↔ pm_i st fun x s => ((x ≠ 0) → pm_w d 96 24 ls s h Q) ∧ (¬ (x ≠ 0) → pm_w d 96 21 ls s h Q) := pw_if_ne (show decode (pm_b 96) 18 = .ok (.ifCond .ne 6, 3) by decide +kernel) (by decide)
theorem ux_96_21 : pm_w d 96 21 ls st h Q ↔ pm_w d 96 23 ls (.inl (-2) :: st) h Q := pw_bipush (show decode (pm_b 96) 21 = .ok (.bipush (-2), 2) by decide +kernel) (by decide)
theorem ux_96_23 : pm_w d 96 23 ls st h Q ↔ pm_i st fun x s => s = [] ∧ Q (some (.inl x)) h := pw_ireturn (show decode (pm_b 96) 23 = .ok (.ireturn, 1) by decide +kernel) rfl
theorem ux_96_24 : pm_w d 96 24 ls st h Q ↔ pm_lq ls 0 fun x => pm_w d 96 25 ls (.inr (.inr x) :: st) h Q := pw_aload_n (show decode (pm_b 96) 24 = .ok (.aload_n 0, 1) by decide +kernel)
theorem ux_96_25 : pm_w d 96 25 ls st h Q ↔ pm_r (st.drop 0) fun a s => (0 ≤ st.length ∧ pm_wt s ≤ 8 ∧ pm_tg h a 11) ∧ pm_ok d 47 (.inr (.inr (some a)) :: (st.take 0).reverse) h fun r h1 => pm_w d 96 28 ls (pm_pu r s) h1 Q := pw_virt (show decode (pm_b 96) 25 = .ok (.invokevirtual 158, 3) by decide +kernel) mx_11_158
theorem ux_96_28 : pm_w d 96 28 ls st h Q ↔ pm_r (st.drop 0) fun a s => (0 ≤ st.length ∧ pm_wt s ≤ 8 ∧ pm_tg h a 1) ∧ pm_ok d 97 (.inr (.inr (some a)) :: (st.take 0).reverse) h fun r h1 => pm_w d 96 31 ls (pm_pu r s) h1 Q := pw_virt (show decode (pm_b 96) 28 = .ok (.invokevirtual 211, 3) by decide +kernel) mx_11_211
theorem ux_96_31 : pm_w d 96 31 ls st h Q ↔ pm_i st fun x s => ((x = 0) → pm_w d 96 37 ls s h Q) ∧ (¬ (x = 0) → pm_w d 96 34 ls s h Q) := pw_if_eq (show decode (pm_b 96) 31 = .ok (.ifCond .eq 6, 3) by decide +kernel) (by decide)
theorem ux_96_34 : pm_w d 96 34 ls st h Q ↔ pm_w d 96 36 ls (.inl (-3) :: st) h Q := pw_bipush (show decode (pm_b 96) 34 = .ok (.bipush (-3), 2) by decide +kernel) (by decide)
theorem ux_96_36 : pm_w d 96 36 ls st h Q ↔ pm_i st fun x s => s = [] ∧ Q (some (.inl x)) h := pw_ireturn (show decode (pm_b 96) 36 = .ok (.ireturn, 1) by decide +kernel) rfl
theorem ux_96_37 : pm_w d 96 37 ls st h Q ↔ pm_lq ls 0 fun x => pm_w d 96 38 ls (.inr (.inr x) :: st) h Q := pw_aload_n (show decode (pm_b 96) 37 = .ok (.aload_n 0, 1) by decide +kernel)
theorem ux_96_38 : pm_w d 96 38 ls st h Q ↔ pm_r (st.drop 0) fun a s => (0 ≤ st.length ∧ pm_wt s ≤ 8 ∧ pm_tg h a 11) ∧ pm_ok d 98 (.inr (.inr (some a)) :: (st.take 0).reverse) h fun r h1 => pm_w d 96 41 ls (pm_pu r s) h1 Q := pw_virt (show decode (pm_b 96) 38 = .ok (.invokevirtual 214, 3) by decide +kernel) mx_11_214
theorem ux_96_41 : pm_w d 96 41 ls st h Q ↔ pm_li ls 1 fun x => pm_w d 96 42 ls (.inl x :: st) h Q := pw_iload_n (show decode (pm_b 96) 41 = .ok (.iload_n 1, 1) by decide +kernel)
theorem ux_96_42 : pm_w d 96 42 ls st h Q ↔ pm_i st fun x s => ((x ≠ 0) → pm_w d 96 52 ls s h Q) ∧ (¬ (x ≠ 0) → pm_w d 96 45 ls s h Q) := pw_if_ne (show decode (pm_b 96) 42 = .ok (.ifCond .ne 10, 3) by decide +kernel) (by decide)
theorem ux_96_45 : pm_w d 96 45 ls st h Q ↔ pm_lq ls 0 fun x => pm_w d 96 46 ls (.inr (.inr x) :: st) h Q := pw_aload_n (show decode (pm_b 96) 45 = .ok (.aload_n 0, 1) by decide +kernel)
theorem ux_96_46 : pm_w d 96 46 ls st h Q ↔ pm_r st fun a s => pm_tgs h a [11] ∧ pm_w d 96 49 ls (.inl (h.1 a 9) :: s) h Q := pw_get (show decode (pm_b 96) 46 = .ok (.getfield 217, 3) by decide +kernel) fx_11_217
theorem ux_96_49 : pm_w d 96 49 ls st h Q ↔ pm_w d 96 56 ls st h Q := pw_goto (show decode (pm_b 96) 49 = .ok (.goto 7, 3) by decide +kernel) (by decide)
theorem ux_96_52 : pm_w d 96 52 ls st h Q ↔ pm_lq ls 0 fun x => pm_w d 96 53 ls (.inr (.inr x) :: st) h Q := pw_aload_n (show decode (pm_b 96) 52 = .ok (.aload_n 0, 1) by decide +kernel)
theorem ux_96_53 : pm_w d 96 53 ls st h Q ↔ pm_r st fun a s => pm_tgs h a [11] ∧ pm_w d 96 56 ls (.inl (h.1 a 10) :: s) h Q := pw_get (show decode (pm_b 96) 53 = .ok (.getfield 220, 3) by decide +kernel) fx_11_220
theorem ux_96_56 : pm_w d 96 56 ls st h Q ↔ pm_i st fun x s => s = [] ∧ Q (some (.inl x)) h := pw_ireturn (show decode (pm_b 96) 56 = .ok (.ireturn, 1) by decide +kernel) rfl
-- 97: LFrame.hasPieceNowhere
theorem ux_97_0 : pm_w d 97 0 ls st h Q ↔ pm_w d 97 1 ls (.inl 0 :: st) h Q := pw_iconst (show decode (pm_b 97) 0 = .ok (.iconst 0, 1) by decide +kernel) (by unfold pm_I32; decide)
theorem ux_97_1 : pm_w d 97 1 ls st h Q ↔ pm_i st fun x s => pm_w d 97 2 (pm_s1 ls 1 (.inl x)) s h Q := pw_istore_n (show decode (pm_b 97) 1 = .ok (.istore_n 1, 1) by decide +kernel) (by decide)
theorem ux_97_2 : pm_w d 97 2 ls st h Q ↔ pm_li ls 1 fun x => pm_w d 97 3 ls (.inl x :: st) h Q := pw_iload_n (show decode (pm_b 97) 2 = .ok (.iload_n 1, 1) by decide +kernel)
theorem ux_97_3 : pm_w d 97 3 ls st h Q ↔ pm_lq ls 0 fun x => pm_w d 97 4 ls (.inr (.inr x) :: st) h Q := pw_aload_n (show decode (pm_b 97) 3 = .ok (.aload_n 0, 1) by decide +kernel)
theorem ux_97_4 : pm_w d 97 4 ls st h Q ↔ pm_r st fun a s => pm_tgs h a [1] ∧ pm_w d 97 7 ls (.inl (h.1 a 1) :: s) h Q := pw_get (show decode (pm_b 97) 4 = .ok (.getfield 34, 3) by decide +kernel) fx_1_34
theorem ux_97_7 : pm_w d 97 7 ls st h Q ↔ pm_i st fun y s => pm_i s fun x s => ((y ≤ x) → pm_w d 97 29 ls s h Q) ∧ (¬ (y ≤ x) → pm_w d 97 10 ls s h Q) := pw_ic_ge (show decode (pm_b 97) 7 = .ok (.if_icmp .ge 22, 3) by decide +kernel) (by decide)
theorem ux_97_10 : pm_w d 97 10 ls st h Q ↔ pm_lq ls 0 fun x => pm_w d 97 11 ls (.inr (.inr x) :: st) h Q := pw_aload_n (show decode (pm_b 97) 10 = .ok (.aload_n 0, 1) by decide +kernel)
theorem ux_97_11 : pm_w d 97 11 ls st h Q ↔ pm_r st fun a s => pm_tgs h a [1] ∧ pm_w d 97 14 ls (.inr (.inr (h.2.1 a 7)) :: s) h Q := pw_get (show decode (pm_b 97) 11 = .ok (.getfield 21, 3) by decide +kernel) fx_1_21
theorem ux_97_14 : pm_w d 97 14 ls st h Q ↔ pm_li ls 1 fun x => pm_w d 97 15 ls (.inl x :: st) h Q := pw_iload_n (show decode (pm_b 97) 14 = .ok (.iload_n 1, 1) by decide +kernel)
theorem ux_97_15 : pm_w d 97 15 ls st h Q ↔ pm_i st fun x s => pm_r s fun a s => pm_inb h a 21 x ∧ pm_w d 97 16 ls (.inr (.inl (h.1 a x.toNat)) :: s) h Q := pw_laload (show decode (pm_b 97) 15 = .ok (.laload, 1) by decide +kernel)
theorem ux_97_16 : pm_w d 97 16 ls st h Q ↔ pm_w d 97 17 ls (.inr (.inl 0) :: st) h Q := pw_lconst (show decode (pm_b 97) 16 = .ok (.lconst 0, 1) by decide +kernel)
theorem ux_97_17 : pm_w d 97 17 ls st h Q ↔ pm_l st fun y s => pm_l s fun x s => pm_w d 97 18 ls (.inl (pm_lc x y) :: s) h Q := pw_lcmp (show decode (pm_b 97) 17 = .ok (.lcmp, 1) by decide +kernel)
theorem ux_97_18 : pm_w d 97 18 ls st h Q ↔ pm_i st fun x s => ((x ≠ 0) → pm_w d 97 23 ls s h Q) ∧ (¬ (x ≠ 0) → pm_w d 97 21 ls s h Q) := pw_if_ne (show decode (pm_b 97) 18 = .ok (.ifCond .ne 5, 3) by decide +kernel) (by decide)
theorem ux_97_21 : pm_w d 97 21 ls st h Q ↔ pm_w d 97 22 ls (.inl 1 :: st) h Q := pw_iconst (show decode (pm_b 97) 21 = .ok (.iconst 1, 1) by decide +kernel) (by unfold pm_I32; decide)
theorem ux_97_22 : pm_w d 97 22 ls st h Q ↔ pm_i st fun x s => (s = [] ∧ (x = 0 ∨ x = 1)) ∧ Q (some (.inl x)) h := pw_zreturn (show decode (pm_b 97) 22 = .ok (.ireturn, 1) by decide +kernel) rfl
theorem ux_97_23 : pm_w d 97 23 ls st h Q ↔ pm_li ls 1 fun x => pm_I32 (x + 1) ∧ pm_w d 97 26 (pm_s1 ls 1 (.inl (x + 1))) st h Q := pw_iinc (show decode (pm_b 97) 23 = .ok (.iinc 1 1, 3) by decide +kernel) (by decide)
theorem ux_97_26 : pm_w d 97 26 ls st h Q ↔ pm_w d 97 2 ls st h Q := pw_goto (show decode (pm_b 97) 26 = .ok (.goto (-24), 3) by decide +kernel) (by decide)
theorem ux_97_29 : pm_w d 97 29 ls st h Q ↔ pm_w d 97 30 ls (.inl 0 :: st) h Q := pw_iconst (show decode (pm_b 97) 29 = .ok (.iconst 0, 1) by decide +kernel) (by unfold pm_I32; decide)
theorem ux_97_30 : pm_w d 97 30 ls st h Q ↔ pm_i st fun x s => (s = [] ∧ (x = 0 ∨ x = 1)) ∧ Q (some (.inl x)) h := pw_zreturn (show decode (pm_b 97) 30 = .ok (.ireturn, 1) by decide +kernel) rfl
-- 98: L.findSpeed
theorem ux_98_0 : pm_w d 98 0 ls st h Q ↔ pm_lq ls 0 fun x => pm_w d 98 1 ls (.inr (.inr x) :: st) h Q := pw_aload_n (show decode (pm_b 98) 0 = .ok (.aload_n 0, 1) by decide +kernel)
theorem ux_98_1 : pm_w d 98 1 ls st h Q ↔ pm_r st fun a s => pm_tgs h a [11] ∧ pm_w d 98 4 ls (.inl (h.1 a 10) :: s) h Q := pw_get (show decode (pm_b 98) 1 = .ok (.getfield 220, 3) by decide +kernel) fx_11_220
theorem ux_98_4 : pm_w d 98 4 ls st h Q ↔ pm_i st fun x s => ((x = 0) → pm_w d 98 8 ls s h Q) ∧ (¬ (x = 0) → pm_w d 98 7 ls s h Q) := pw_if_eq (show decode (pm_b 98) 4 = .ok (.ifCond .eq 4, 3) by decide +kernel) (by decide)
theorem ux_98_7 : pm_w d 98 7 ls st h Q ↔ st = [] ∧ Q none h := pw_return (show decode (pm_b 98) 7 = .ok (.return_, 1) by decide +kernel) rfl
theorem ux_98_8 : pm_w d 98 8 ls st h Q ↔ pm_lq ls 0 fun x => pm_w d 98 9 ls (.inr (.inr x) :: st) h Q := pw_aload_n (show decode (pm_b 98) 8 = .ok (.aload_n 0, 1) by decide +kernel)
theorem ux_98_9 : pm_w d 98 9 ls st h Q ↔ pm_r (st.drop 0) fun a s => (0 ≤ st.length ∧ pm_wt s ≤ 8 ∧ pm_tg h a 11) ∧ pm_ok d 47 (.inr (.inr (some a)) :: (st.take 0).reverse) h fun r h1 => pm_w d 98 12 ls (pm_pu r s) h1 Q := pw_virt (show decode (pm_b 98) 9 = .ok (.invokevirtual 158, 3) by decide +kernel) mx_11_158
theorem ux_98_12 : pm_w d 98 12 ls st h Q ↔ pm_q st fun x s => pm_w d 98 13 (pm_s1 ls 1 (.inr (.inr x))) s h Q := pw_astore_n (show decode (pm_b 98) 12 = .ok (.astore_n 1, 1) by decide +kernel) (by decide)
theorem ux_98_13 : pm_w d 98 13 ls st h Q ↔ pm_w d 98 14 ls (.inl 1 :: st) h Q := pw_iconst (show decode (pm_b 98) 13 = .ok (.iconst 1, 1) by decide +kernel) (by unfold pm_I32; decide)
theorem ux_98_14 : pm_w d 98 14 ls st h Q ↔ pm_lq ls 0 fun x => pm_w d 98 15 ls (.inr (.inr x) :: st) h Q := pw_aload_n (show decode (pm_b 98) 14 = .ok (.aload_n 0, 1) by decide +kernel)
theorem ux_98_15 : pm_w d 98 15 ls st h Q ↔ pm_r st fun a s => pm_tgs h a [11] ∧ pm_w d 98 18 ls (.inr (.inr (h.2.1 a 0)) :: s) h Q := pw_get (show decode (pm_b 98) 15 = .ok (.getfield 12, 3) by decide +kernel) fx_11_12
theorem ux_98_18 : pm_w d 98 18 ls st h Q ↔ pm_r st fun a s => pm_tgs h a [8] ∧ pm_w d 98 21 ls (.inl (h.1 a 2) :: s) h Q := pw_get (show decode (pm_b 98) 18 = .ok (.getfield 71, 3) by decide +kernel) fx_11_71
theorem ux_98_21 : pm_w d 98 21 ls st h Q ↔ pm_i st fun y s => pm_i s fun x s => (0 ≤ y ∧ y < 32 ∧ 0 ≤ x ∧ x * 2 ^ y.toNat ≤ 2147483647) ∧ pm_w d 98 22 ls (.inl (x * 2 ^ y.toNat) :: s) h Q := pw_ishl (show decode (pm_b 98) 21 = .ok (.ishl, 1) by decide +kernel)
theorem ux_98_22 : pm_w d 98 22 ls st h Q ↔ pm_w d 98 23 ls (.inl 1 :: st) h Q := pw_iconst (show decode (pm_b 98) 22 = .ok (.iconst 1, 1) by decide +kernel) (by unfold pm_I32; decide)
theorem ux_98_23 : pm_w d 98 23 ls st h Q ↔ pm_i st fun y s => pm_i s fun x s => pm_I32 (x - y) ∧ pm_w d 98 24 ls (.inl (x - y) :: s) h Q := pw_isub (show decode (pm_b 98) 23 = .ok (.isub, 1) by decide +kernel)
theorem ux_98_24 : pm_w d 98 24 ls st h Q ↔ pm_i st fun x s => pm_w d 98 25 (pm_s1 ls 2 (.inl x)) s h Q := pw_istore_n (show decode (pm_b 98) 24 = .ok (.istore_n 2, 1) by decide +kernel) (by decide)
theorem ux_98_25 : pm_w d 98 25 ls st h Q ↔ pm_lq ls 1 fun x => pm_w d 98 26 ls (.inr (.inr x) :: st) h Q := pw_aload_n (show decode (pm_b 98) 25 = .ok (.aload_n 1, 1) by decide +kernel)
theorem ux_98_26 : pm_w d 98 26 ls st h Q ↔ pm_li ls 2 fun x => pm_w d 98 27 ls (.inl x :: st) h Q := pw_iload_n (show decode (pm_b 98) 26 = .ok (.iload_n 2, 1) by decide +kernel)
theorem ux_98_27 : pm_w d 98 27 ls st h Q ↔ pm_r (st.drop 1) fun a s => (1 ≤ st.length ∧ pm_wt s ≤ 8 ∧ pm_tg h a 1) ∧ pm_ok d 99 (.inr (.inr (some a)) :: (st.take 1).reverse) h fun r h1 => pm_w d 98 30 ls (pm_pu r s) h1 Q := pw_virt (show decode (pm_b 98) 27 = .ok (.invokevirtual 304, 3) by decide +kernel) mx_11_304
theorem ux_98_30 : pm_w d 98 30 ls st h Q ↔ pm_i st fun x s => pm_w d 98 31 (pm_s1 ls 3 (.inl x)) s h Q := pw_istore_n (show decode (pm_b 98) 30 = .ok (.istore_n 3, 1) by decide +kernel) (by decide)
theorem ux_98_31 : pm_w d 98 31 ls st h Q ↔ pm_lq ls 1 fun x => pm_w d 98 32 ls (.inr (.inr x) :: st) h Q := pw_aload_n (show decode (pm_b 98) 31 = .ok (.aload_n 1, 1) by decide +kernel)
theorem ux_98_32 : pm_w d 98 32 ls st h Q ↔ pm_li ls 2 fun x => pm_w d 98 33 ls (.inl x :: st) h Q := pw_iload_n (show decode (pm_b 98) 32 = .ok (.iload_n 2, 1) by decide +kernel)
theorem ux_98_33 : pm_w d 98 33 ls st h Q ↔ pm_r (st.drop 1) fun a s => (1 ≤ st.length ∧ pm_wt s ≤ 8 ∧ pm_tg h a 1) ∧ pm_ok d 100 (.inr (.inr (some a)) :: (st.take 1).reverse) h fun r h1 => pm_w d 98 36 ls (pm_pu r s) h1 Q := pw_virt (show decode (pm_b 98) 33 = .ok (.invokevirtual 307, 3) by decide +kernel) mx_11_307
theorem ux_98_36 : pm_w d 98 36 ls st h Q ↔ pm_i st fun x s => pm_w d 98 38 (pm_s1 ls 4 (.inl x)) s h Q := pw_istore (show decode (pm_b 98) 36 = .ok (.istore 4, 2) by decide +kernel) (by decide)
theorem ux_98_38 : pm_w d 98 38 ls st h Q ↔ pm_lq ls 0 fun x => pm_w d 98 39 ls (.inr (.inr x) :: st) h Q := pw_aload_n (show decode (pm_b 98) 38 = .ok (.aload_n 0, 1) by decide +kernel)
theorem ux_98_39 : pm_w d 98 39 ls st h Q ↔ pm_r st fun a s => pm_tgs h a [11] ∧ pm_w d 98 42 ls (.inr (.inr (h.2.1 a 8)) :: s) h Q := pw_get (show decode (pm_b 98) 39 = .ok (.getfield 40, 3) by decide +kernel) fx_11_40
theorem ux_98_42 : pm_w d 98 42 ls st h Q ↔ pm_lq ls 1 fun x => pm_w d 98 43 ls (.inr (.inr x) :: st) h Q := pw_aload_n (show decode (pm_b 98) 42 = .ok (.aload_n 1, 1) by decide +kernel)
theorem ux_98_43 : pm_w d 98 43 ls st h Q ↔ pm_li ls 4 fun x => pm_w d 98 45 ls (.inl x :: st) h Q := pw_iload (show decode (pm_b 98) 43 = .ok (.iload 4, 2) by decide +kernel)
theorem ux_98_45 : pm_w d 98 45 ls st h Q ↔ pm_li ls 3 fun x => pm_w d 98 46 ls (.inl x :: st) h Q := pw_iload_n (show decode (pm_b 98) 45 = .ok (.iload_n 3, 1) by decide +kernel)
theorem ux_98_46 : pm_w d 98 46 ls st h Q ↔ pm_r (st.drop 3) fun a s => (3 ≤ st.length ∧ pm_wt s ≤ 8 ∧ pm_tg h a 4) ∧ pm_ok d 59 (.inr (.inr (some a)) :: (st.take 3).reverse) h fun r h1 => pm_w d 98 49 ls (pm_pu r s) h1 Q := pw_virt (show decode (pm_b 98) 46 = .ok (.invokevirtual 283, 3) by decide +kernel) mx_11_283
theorem ux_98_49 : pm_w d 98 49 ls st h Q ↔ pm_w d 98 50 ls (.inl 0 :: st) h Q := pw_iconst (show decode (pm_b 98) 49 = .ok (.iconst 0, 1) by decide +kernel) (by unfold pm_I32; decide)
theorem ux_98_50 : pm_w d 98 50 ls st h Q ↔ pm_i st fun x s => pm_w d 98 52 (pm_s1 ls 5 (.inl x)) s h Q := pw_istore (show decode (pm_b 98) 50 = .ok (.istore 5, 2) by decide +kernel) (by decide)
theorem ux_98_52 : pm_w d 98 52 ls st h Q ↔ pm_li ls 5 fun x => pm_w d 98 54 ls (.inl x :: st) h Q := pw_iload (show decode (pm_b 98) 52 = .ok (.iload 5, 2) by decide +kernel)
theorem ux_98_54 : pm_w d 98 54 ls st h Q ↔ pm_w d 98 57 ls (.inl 1000000 :: st) h Q := pw_ldc_w (show decode (pm_b 98) 54 = .ok (.ldc_w 303, 3) by decide +kernel) kx_11_303
theorem ux_98_57 : pm_w d 98 57 ls st h Q ↔ pm_i st fun y s => pm_i s fun x s => ((y ≤ x) → pm_w d 98 108 ls s h Q) ∧ (¬ (y ≤ x) → pm_w d 98 60 ls s h Q) := pw_ic_ge (show decode (pm_b 98) 57 = .ok (.if_icmp .ge 51, 3) by decide +kernel) (by decide)
theorem ux_98_60 : pm_w d 98 60 ls st h Q ↔ pm_lq ls 0 fun x => pm_w d 98 61 ls (.inr (.inr x) :: st) h Q := pw_aload_n (show decode (pm_b 98) 60 = .ok (.aload_n 0, 1) by decide +kernel)
theorem ux_98_61 : pm_w d 98 61 ls st h Q ↔ pm_r st fun a s => pm_tgs h a [11] ∧ pm_w d 98 64 ls (.inr (.inr (h.2.1 a 8)) :: s) h Q := pw_get (show decode (pm_b 98) 61 = .ok (.getfield 40, 3) by decide +kernel) fx_11_40
theorem ux_98_64 : pm_w d 98 64 ls st h Q ↔ pm_r st fun a s => pm_tgs h a [4] ∧ pm_w d 98 67 ls (.inl (h.1 a 2) :: s) h Q := pw_get (show decode (pm_b 98) 64 = .ok (.getfield 179, 3) by decide +kernel) fx_11_179
theorem ux_98_67 : pm_w d 98 67 ls st h Q ↔ pm_i st fun x s => ((x ≤ 0) → pm_w d 98 108 ls s h Q) ∧ (¬ (x ≤ 0) → pm_w d 98 70 ls s h Q) := pw_if_le (show decode (pm_b 98) 67 = .ok (.ifCond .le 41, 3) by decide +kernel) (by decide)
theorem ux_98_70 : pm_w d 98 70 ls st h Q ↔ pm_lq ls 0 fun x => pm_w d 98 71 ls (.inr (.inr x) :: st) h Q := pw_aload_n (show decode (pm_b 98) 70 = .ok (.aload_n 0, 1) by decide +kernel)
theorem ux_98_71 : pm_w d 98 71 ls st h Q ↔ pm_r st fun a s => pm_tgs h a [11] ∧ pm_w d 98 74 ls (.inr (.inr (h.2.1 a 8)) :: s) h Q := pw_get (show decode (pm_b 98) 71 = .ok (.getfield 40, 3) by decide +kernel) fx_11_40
theorem ux_98_74 : pm_w d 98 74 ls st h Q ↔ pm_r (st.drop 0) fun a s => (0 ≤ st.length ∧ pm_wt s ≤ 8 ∧ pm_tg h a 4) ∧ pm_ok d 90 (.inr (.inr (some a)) :: (st.take 0).reverse) h fun r h1 => pm_w d 98 77 ls (pm_pu r s) h1 Q := pw_virt (show decode (pm_b 98) 74 = .ok (.invokevirtual 201, 3) by decide +kernel) mx_11_201
theorem ux_98_77 : pm_w d 98 77 ls st h Q ↔ pm_i st fun x s => pm_w d 98 78 (pm_s1 ls 2 (.inl x)) s h Q := pw_istore_n (show decode (pm_b 98) 77 = .ok (.istore_n 2, 1) by decide +kernel) (by decide)
theorem ux_98_78 : pm_w d 98 78 ls st h Q ↔ pm_lq ls 1 fun x => pm_w d 98 79 ls (.inr (.inr x) :: st) h Q := pw_aload_n (show decode (pm_b 98) 78 = .ok (.aload_n 1, 1) by decide +kernel)
theorem ux_98_79 : pm_w d 98 79 ls st h Q ↔ pm_li ls 2 fun x => pm_w d 98 80 ls (.inl x :: st) h Q := pw_iload_n (show decode (pm_b 98) 79 = .ok (.iload_n 2, 1) by decide +kernel)
theorem ux_98_80 : pm_w d 98 80 ls st h Q ↔ pm_r (st.drop 1) fun a s => (1 ≤ st.length ∧ pm_wt s ≤ 8 ∧ pm_tg h a 1) ∧ pm_ok d 99 (.inr (.inr (some a)) :: (st.take 1).reverse) h fun r h1 => pm_w d 98 83 ls (pm_pu r s) h1 Q := pw_virt (show decode (pm_b 98) 80 = .ok (.invokevirtual 304, 3) by decide +kernel) mx_11_304
theorem ux_98_83 : pm_w d 98 83 ls st h Q ↔ pm_i st fun x s => pm_w d 98 84 (pm_s1 ls 3 (.inl x)) s h Q := pw_istore_n (show decode (pm_b 98) 83 = .ok (.istore_n 3, 1) by decide +kernel) (by decide)
theorem ux_98_84 : pm_w d 98 84 ls st h Q ↔ pm_lq ls 1 fun x => pm_w d 98 85 ls (.inr (.inr x) :: st) h Q := pw_aload_n (show decode (pm_b 98) 84 = .ok (.aload_n 1, 1) by decide +kernel)
theorem ux_98_85 : pm_w d 98 85 ls st h Q ↔ pm_li ls 2 fun x => pm_w d 98 86 ls (.inl x :: st) h Q := pw_iload_n (show decode (pm_b 98) 85 = .ok (.iload_n 2, 1) by decide +kernel)
theorem ux_98_86 : pm_w d 98 86 ls st h Q ↔ pm_r (st.drop 1) fun a s => (1 ≤ st.length ∧ pm_wt s ≤ 8 ∧ pm_tg h a 1) ∧ pm_ok d 100 (.inr (.inr (some a)) :: (st.take 1).reverse) h fun r h1 => pm_w d 98 89 ls (pm_pu r s) h1 Q := pw_virt (show decode (pm_b 98) 86 = .ok (.invokevirtual 307, 3) by decide +kernel) mx_11_307
theorem ux_98_89 : pm_w d 98 89 ls st h Q ↔ pm_i st fun x s => pm_w d 98 91 (pm_s1 ls 4 (.inl x)) s h Q := pw_istore (show decode (pm_b 98) 89 = .ok (.istore 4, 2) by decide +kernel) (by decide)
theorem ux_98_91 : pm_w d 98 91 ls st h Q ↔ pm_lq ls 0 fun x => pm_w d 98 92 ls (.inr (.inr x) :: st) h Q := pw_aload_n (show decode (pm_b 98) 91 = .ok (.aload_n 0, 1) by decide +kernel)
theorem ux_98_92 : pm_w d 98 92 ls st h Q ↔ pm_r st fun a s => pm_tgs h a [11] ∧ pm_w d 98 95 ls (.inr (.inr (h.2.1 a 8)) :: s) h Q := pw_get (show decode (pm_b 98) 92 = .ok (.getfield 40, 3) by decide +kernel) fx_11_40
theorem ux_98_95 : pm_w d 98 95 ls st h Q ↔ pm_lq ls 1 fun x => pm_w d 98 96 ls (.inr (.inr x) :: st) h Q := pw_aload_n (show decode (pm_b 98) 95 = .ok (.aload_n 1, 1) by decide +kernel)
theorem ux_98_96 : pm_w d 98 96 ls st h Q ↔ pm_li ls 4 fun x => pm_w d 98 98 ls (.inl x :: st) h Q := pw_iload (show decode (pm_b 98) 96 = .ok (.iload 4, 2) by decide +kernel)
theorem ux_98_98 : pm_w d 98 98 ls st h Q ↔ pm_li ls 3 fun x => pm_w d 98 99 ls (.inl x :: st) h Q := pw_iload_n (show decode (pm_b 98) 98 = .ok (.iload_n 3, 1) by decide +kernel)
theorem ux_98_99 : pm_w d 98 99 ls st h Q ↔ pm_r (st.drop 3) fun a s => (3 ≤ st.length ∧ pm_wt s ≤ 8 ∧ pm_tg h a 4) ∧ pm_ok d 59 (.inr (.inr (some a)) :: (st.take 3).reverse) h fun r h1 => pm_w d 98 102 ls (pm_pu r s) h1 Q := pw_virt (show decode (pm_b 98) 99 = .ok (.invokevirtual 283, 3) by decide +kernel) mx_11_283
theorem ux_98_102 : pm_w d 98 102 ls st h Q ↔ pm_li ls 5 fun x => pm_I32 (x + 1) ∧ pm_w d 98 105 (pm_s1 ls 5 (.inl (x + 1))) st h Q := pw_iinc (show decode (pm_b 98) 102 = .ok (.iinc 5 1, 3) by decide +kernel) (by decide)
theorem ux_98_105 : pm_w d 98 105 ls st h Q ↔ pm_w d 98 52 ls st h Q := pw_goto (show decode (pm_b 98) 105 = .ok (.goto (-53), 3) by decide +kernel) (by decide)
theorem ux_98_108 : pm_w d 98 108 ls st h Q ↔ pm_li ls 3 fun x => pm_w d 98 109 ls (.inl x :: st) h Q := pw_iload_n (show decode (pm_b 98) 108 = .ok (.iload_n 3, 1) by decide +kernel)
theorem ux_98_109 : pm_w d 98 109 ls st h Q ↔ pm_li ls 4 fun x => pm_w d 98 111 ls (.inl x :: st) h Q := pw_iload (show decode (pm_b 98) 109 = .ok (.iload 4, 2) by decide +kernel)
theorem ux_98_111 : pm_w d 98 111 ls st h Q ↔ (2 ≤ st.length ∧ pm_wt (st.drop 2) ≤ 8) ∧ pm_ok d 101 (st.take 2).reverse h fun r h1 => pm_w d 98 114 ls (pm_pu r (st.drop 2)) h1 Q := pw_static (show decode (pm_b 98) 111 = .ok (.invokestatic 244, 3) by decide +kernel) mx_11_244
theorem ux_98_114 : pm_w d 98 114 ls st h Q ↔ pm_i st fun x s => pm_w d 98 116 (pm_s1 ls 5 (.inl x)) s h Q := pw_istore (show decode (pm_b 98) 114 = .ok (.istore 5, 2) by decide +kernel) (by decide)
theorem ux_98_116 : pm_w d 98 116 ls st h Q ↔ pm_lq ls 0 fun x => pm_w d 98 117 ls (.inr (.inr x) :: st) h Q := pw_aload_n (show decode (pm_b 98) 116 = .ok (.aload_n 0, 1) by decide +kernel)
theorem ux_98_117 : pm_w d 98 117 ls st h Q ↔ pm_li ls 3 fun x => pm_w d 98 118 ls (.inl x :: st) h Q := pw_iload_n (show decode (pm_b 98) 117 = .ok (.iload_n 3, 1) by decide +kernel)
theorem ux_98_118 : pm_w d 98 118 ls st h Q ↔ pm_li ls 5 fun x => pm_w d 98 120 ls (.inl x :: st) h Q := pw_iload (show decode (pm_b 98) 118 = .ok (.iload 5, 2) by decide +kernel)
theorem ux_98_120 : pm_w d 98 120 ls st h Q ↔ pm_i st fun y s => pm_i s fun x s => (0 ≤ x ∧ 0 < y) ∧ pm_w d 98 121 ls (.inl (x / y) :: s) h Q := pw_idiv (show decode (pm_b 98) 120 = .ok (.idiv, 1) by decide +kernel)
theorem ux_98_121 : pm_w d 98 121 ls st h Q ↔ pm_i st fun x s => pm_r s fun a s => (pm_tgs h a [11]) ∧ pm_w d 98 124 ls s (pm_wI h a 9 x) Q := pw_put0 (show decode (pm_b 98) 121 = .ok (.putfield 217, 3) by decide +kernel) fx_11_217 (Or.inl rfl)
theorem ux_98_124 : pm_w d 98 124 ls st h Q ↔ pm_lq ls 0 fun x => pm_w d 98 125 ls (.inr (.inr x) :: st) h Q := pw_aload_n (show decode (pm_b 98) 124 = .ok (.aload_n 0, 1) by decide +kernel)
theorem ux_98_125 : pm_w d 98 125 ls st h Q ↔ pm_li ls 4 fun x => pm_w d 98 127 ls (.inl x :: st) h Q := pw_iload (show decode (pm_b 98) 125 = .ok (.iload 4, 2) by decide +kernel)
theorem ux_98_127 : pm_w d 98 127 ls st h Q ↔ pm_li ls 5 fun x => pm_w d 98 129 ls (.inl x :: st) h Q := pw_iload (show decode (pm_b 98) 127 = .ok (.iload 5, 2) by decide +kernel)
theorem ux_98_129 : pm_w d 98 129 ls st h Q ↔ pm_i st fun y s => pm_i s fun x s => (0 ≤ x ∧ 0 < y) ∧ pm_w d 98 130 ls (.inl (x / y) :: s) h Q := pw_idiv (show decode (pm_b 98) 129 = .ok (.idiv, 1) by decide +kernel)
theorem ux_98_130 : pm_w d 98 130 ls st h Q ↔ pm_i st fun x s => pm_r s fun a s => (pm_tgs h a [11]) ∧ pm_w d 98 133 ls s (pm_wI h a 10 x) Q := pw_put0 (show decode (pm_b 98) 130 = .ok (.putfield 220, 3) by decide +kernel) fx_11_220 (Or.inl rfl)
theorem ux_98_133 : pm_w d 98 133 ls st h Q ↔ st = [] ∧ Q none h := pw_return (show decode (pm_b 98) 133 = .ok (.return_, 1) by decide +kernel) rfl
-- 99: LFrame.lengthsOf
theorem ux_99_0 : pm_w d 99 0 ls st h Q ↔ pm_w d 99 1 ls (.inl 0 :: st) h Q := pw_iconst (show decode (pm_b 99) 0 = .ok (.iconst 0, 1) by decide +kernel) (by unfold pm_I32; decide)
theorem ux_99_1 : pm_w d 99 1 ls st h Q ↔ pm_i st fun x s => pm_w d 99 2 (pm_s1 ls 2 (.inl x)) s h Q := pw_istore_n (show decode (pm_b 99) 1 = .ok (.istore_n 2, 1) by decide +kernel) (by decide)
theorem ux_99_2 : pm_w d 99 2 ls st h Q ↔ pm_w d 99 3 ls (.inl 0 :: st) h Q := pw_iconst (show decode (pm_b 99) 2 = .ok (.iconst 0, 1) by decide +kernel) (by unfold pm_I32; decide)
theorem ux_99_3 : pm_w d 99 3 ls st h Q ↔ pm_i st fun x s => pm_w d 99 4 (pm_s1 ls 3 (.inl x)) s h Q := pw_istore_n (show decode (pm_b 99) 3 = .ok (.istore_n 3, 1) by decide +kernel) (by decide)
theorem ux_99_4 : pm_w d 99 4 ls st h Q ↔ pm_li ls 3 fun x => pm_w d 99 5 ls (.inl x :: st) h Q := pw_iload_n (show decode (pm_b 99) 4 = .ok (.iload_n 3, 1) by decide +kernel)
theorem ux_99_5 : pm_w d 99 5 ls st h Q ↔ pm_lq ls 0 fun x => pm_w d 99 6 ls (.inr (.inr x) :: st) h Q := pw_aload_n (show decode (pm_b 99) 5 = .ok (.aload_n 0, 1) by decide +kernel)
theorem ux_99_6 : pm_w d 99 6 ls st h Q ↔ pm_r st fun a s => pm_tgs h a [1] ∧ pm_w d 99 9 ls (.inl (h.1 a 1) :: s) h Q := pw_get (show decode (pm_b 99) 6 = .ok (.getfield 34, 3) by decide +kernel) fx_1_34
theorem ux_99_9 : pm_w d 99 9 ls st h Q ↔ pm_i st fun y s => pm_i s fun x s => ((y ≤ x) → pm_w d 99 35 ls s h Q) ∧ (¬ (y ≤ x) → pm_w d 99 12 ls s h Q) := pw_ic_ge (show decode (pm_b 99) 9 = .ok (.if_icmp .ge 26, 3) by decide +kernel) (by decide)
theorem ux_99_12 : pm_w d 99 12 ls st h Q ↔ pm_li ls 1 fun x => pm_w d 99 13 ls (.inl x :: st) h Q := pw_iload_n (show decode (pm_b 99) 12 = .ok (.iload_n 1, 1) by decide +kernel)
theorem ux_99_13 : pm_w d 99 13 ls st h Q ↔ pm_li ls 3 fun x => pm_w d 99 14 ls (.inl x :: st) h Q := pw_iload_n (show decode (pm_b 99) 13 = .ok (.iload_n 3, 1) by decide +kernel)
theorem ux_99_14 : pm_w d 99 14 ls st h Q ↔ pm_i st fun y s => pm_i s fun x s => (0 ≤ y ∧ y < 32 ∧ 0 ≤ x) ∧ pm_w d 99 15 ls (.inl (x / 2 ^ y.toNat) :: s) h Q := pw_iushr (show decode (pm_b 99) 14 = .ok (.iushr, 1) by decide +kernel)
theorem ux_99_15 : pm_w d 99 15 ls st h Q ↔ pm_w d 99 16 ls (.inl 1 :: st) h Q := pw_iconst (show decode (pm_b 99) 15 = .ok (.iconst 1, 1) by decide +kernel) (by unfold pm_I32; decide)
theorem ux_99_16 : pm_w d 99 16 ls st h Q ↔ pm_i st fun y s => pm_i s fun x s => (0 ≤ y ∧ 0 ≤ x) ∧ pm_w d 99 17 ls (.inl ((x.toNat &&& y.toNat : Nat) : Int) :: s) h Q := pw_iand (show decode (pm_b 99) 16 = .ok (.iand, 1) by decide +kernel)
theorem ux_99_17 : pm_w d 99 17 ls st h Q ↔ pm_i st fun x s => ((x = 0) → pm_w d 99 29 ls s h Q) ∧ (¬ (x = 0) → pm_w d 99 20 ls s h Q) := pw_if_eq (show decode (pm_b 99) 17 = .ok (.ifCond .eq 12, 3) by decide +kernel) (by decide)
theorem ux_99_20 : pm_w d 99 20 ls st h Q ↔ pm_li ls 2 fun x => pm_w d 99 21 ls (.inl x :: st) h Q := pw_iload_n (show decode (pm_b 99) 20 = .ok (.iload_n 2, 1) by decide +kernel)
theorem ux_99_21 : pm_w d 99 21 ls st h Q ↔ pm_lq ls 0 fun x => pm_w d 99 22 ls (.inr (.inr x) :: st) h Q := pw_aload_n (show decode (pm_b 99) 21 = .ok (.aload_n 0, 1) by decide +kernel)
theorem ux_99_22 : pm_w d 99 22 ls st h Q ↔ pm_r st fun a s => pm_tgs h a [1] ∧ pm_w d 99 25 ls (.inr (.inr (h.2.1 a 5)) :: s) h Q := pw_get (show decode (pm_b 99) 22 = .ok (.getfield 15, 3) by decide +kernel) fx_1_15
theorem ux_99_25 : pm_w d 99 25 ls st h Q ↔ pm_li ls 3 fun x => pm_w d 99 26 ls (.inl x :: st) h Q := pw_iload_n (show decode (pm_b 99) 25 = .ok (.iload_n 3, 1) by decide +kernel)
theorem ux_99_26 : pm_w d 99 26 ls st h Q ↔ pm_i st fun x s => pm_r s fun a s => pm_inb h a 20 x ∧ pm_w d 99 27 ls (.inl (h.1 a x.toNat) :: s) h Q := pw_iaload (show decode (pm_b 99) 26 = .ok (.iaload, 1) by decide +kernel)
theorem ux_99_27 : pm_w d 99 27 ls st h Q ↔ pm_i st fun y s => pm_i s fun x s => pm_I32 (x + y) ∧ pm_w d 99 28 ls (.inl (x + y) :: s) h Q := pw_iadd (show decode (pm_b 99) 27 = .ok (.iadd, 1) by decide +kernel)
theorem ux_99_28 : pm_w d 99 28 ls st h Q ↔ pm_i st fun x s => pm_w d 99 29 (pm_s1 ls 2 (.inl x)) s h Q := pw_istore_n (show decode (pm_b 99) 28 = .ok (.istore_n 2, 1) by decide +kernel) (by decide)
theorem ux_99_29 : pm_w d 99 29 ls st h Q ↔ pm_li ls 3 fun x => pm_I32 (x + 1) ∧ pm_w d 99 32 (pm_s1 ls 3 (.inl (x + 1))) st h Q := pw_iinc (show decode (pm_b 99) 29 = .ok (.iinc 3 1, 3) by decide +kernel) (by decide)
theorem ux_99_32 : pm_w d 99 32 ls st h Q ↔ pm_w d 99 4 ls st h Q := pw_goto (show decode (pm_b 99) 32 = .ok (.goto (-28), 3) by decide +kernel) (by decide)
theorem ux_99_35 : pm_w d 99 35 ls st h Q ↔ pm_li ls 2 fun x => pm_w d 99 36 ls (.inl x :: st) h Q := pw_iload_n (show decode (pm_b 99) 35 = .ok (.iload_n 2, 1) by decide +kernel)
theorem ux_99_36 : pm_w d 99 36 ls st h Q ↔ pm_i st fun x s => s = [] ∧ Q (some (.inl x)) h := pw_ireturn (show decode (pm_b 99) 36 = .ok (.ireturn, 1) by decide +kernel) rfl
-- 100: LFrame.takesOf
theorem ux_100_0 : pm_w d 100 0 ls st h Q ↔ pm_w d 100 1 ls (.inl 0 :: st) h Q := pw_iconst (show decode (pm_b 100) 0 = .ok (.iconst 0, 1) by decide +kernel) (by unfold pm_I32; decide)
theorem ux_100_1 : pm_w d 100 1 ls st h Q ↔ pm_i st fun x s => pm_w d 100 2 (pm_s1 ls 2 (.inl x)) s h Q := pw_istore_n (show decode (pm_b 100) 1 = .ok (.istore_n 2, 1) by decide +kernel) (by decide)
theorem ux_100_2 : pm_w d 100 2 ls st h Q ↔ pm_w d 100 3 ls (.inl 0 :: st) h Q := pw_iconst (show decode (pm_b 100) 2 = .ok (.iconst 0, 1) by decide +kernel) (by unfold pm_I32; decide)
theorem ux_100_3 : pm_w d 100 3 ls st h Q ↔ pm_i st fun x s => pm_w d 100 4 (pm_s1 ls 3 (.inl x)) s h Q := pw_istore_n (show decode (pm_b 100) 3 = .ok (.istore_n 3, 1) by decide +kernel) (by decide)
theorem ux_100_4 : pm_w d 100 4 ls st h Q ↔ pm_li ls 3 fun x => pm_w d 100 5 ls (.inl x :: st) h Q := pw_iload_n (show decode (pm_b 100) 4 = .ok (.iload_n 3, 1) by decide +kernel)
theorem ux_100_5 : pm_w d 100 5 ls st h Q ↔ pm_lq ls 0 fun x => pm_w d 100 6 ls (.inr (.inr x) :: st) h Q := pw_aload_n (show decode (pm_b 100) 5 = .ok (.aload_n 0, 1) by decide +kernel)
theorem ux_100_6 : pm_w d 100 6 ls st h Q ↔ pm_r st fun a s => pm_tgs h a [1] ∧ pm_w d 100 9 ls (.inl (h.1 a 3) :: s) h Q := pw_get (show decode (pm_b 100) 6 = .ok (.getfield 55, 3) by decide +kernel) fx_1_55
theorem ux_100_9 : pm_w d 100 9 ls st h Q ↔ pm_i st fun y s => pm_i s fun x s => ((y ≤ x) → pm_w d 100 73 ls s h Q) ∧ (¬ (y ≤ x) → pm_w d 100 12 ls s h Q) := pw_ic_ge (show decode (pm_b 100) 9 = .ok (.if_icmp .ge 64, 3) by decide +kernel) (by decide)
theorem ux_100_12 : pm_w d 100 12 ls st h Q ↔ pm_w d 100 13 ls (.inl 0 :: st) h Q := pw_iconst (show decode (pm_b 100) 12 = .ok (.iconst 0, 1) by decide +kernel) (by unfold pm_I32; decide)
theorem ux_100_13 : pm_w d 100 13 ls st h Q ↔ pm_i st fun x s => pm_w d 100 15 (pm_s1 ls 4 (.inl x)) s h Q := pw_istore (show decode (pm_b 100) 13 = .ok (.istore 4, 2) by decide +kernel) (by decide)
theorem ux_100_15 : pm_w d 100 15 ls st h Q ↔ pm_w d 100 16 ls (.inl 0 :: st) h Q := pw_iconst (show decode (pm_b 100) 15 = .ok (.iconst 0, 1) by decide +kernel) (by unfold pm_I32; decide)
theorem ux_100_16 : pm_w d 100 16 ls st h Q ↔ pm_i st fun x s => pm_w d 100 18 (pm_s1 ls 5 (.inl x)) s h Q := pw_istore (show decode (pm_b 100) 16 = .ok (.istore 5, 2) by decide +kernel) (by decide)
theorem ux_100_18 : pm_w d 100 18 ls st h Q ↔ pm_li ls 5 fun x => pm_w d 100 20 ls (.inl x :: st) h Q := pw_iload (show decode (pm_b 100) 18 = .ok (.iload 5, 2) by decide +kernel)
theorem ux_100_20 : pm_w d 100 20 ls st h Q ↔ pm_lq ls 0 fun x => pm_w d 100 21 ls (.inr (.inr x) :: st) h Q := pw_aload_n (show decode (pm_b 100) 20 = .ok (.aload_n 0, 1) by decide +kernel)
theorem ux_100_21 : pm_w d 100 21 ls st h Q ↔ pm_r st fun a s => pm_tgs h a [1] ∧ pm_w d 100 24 ls (.inl (h.1 a 1) :: s) h Q := pw_get (show decode (pm_b 100) 21 = .ok (.getfield 34, 3) by decide +kernel) fx_1_34
theorem ux_100_24 : pm_w d 100 24 ls st h Q ↔ pm_i st fun y s => pm_i s fun x s => ((y ≤ x) → pm_w d 100 54 ls s h Q) ∧ (¬ (y ≤ x) → pm_w d 100 27 ls s h Q) := pw_ic_ge (show decode (pm_b 100) 24 = .ok (.if_icmp .ge 30, 3) by decide +kernel) (by decide)
theorem ux_100_27 : pm_w d 100 27 ls st h Q ↔ pm_li ls 1 fun x => pm_w d 100 28 ls (.inl x :: st) h Q := pw_iload_n (show decode (pm_b 100) 27 = .ok (.iload_n 1, 1) by decide +kernel)
theorem ux_100_28 : pm_w d 100 28 ls st h Q ↔ pm_li ls 5 fun x => pm_w d 100 30 ls (.inl x :: st) h Q := pw_iload (show decode (pm_b 100) 28 = .ok (.iload 5, 2) by decide +kernel)
theorem ux_100_30 : pm_w d 100 30 ls st h Q ↔ pm_i st fun y s => pm_i s fun x s => (0 ≤ y ∧ y < 32 ∧ 0 ≤ x) ∧ pm_w d 100 31 ls (.inl (x / 2 ^ y.toNat) :: s) h Q := pw_iushr (show decode (pm_b 100) 30 = .ok (.iushr, 1) by decide +kernel)
theorem ux_100_31 : pm_w d 100 31 ls st h Q ↔ pm_w d 100 32 ls (.inl 1 :: st) h Q := pw_iconst (show decode (pm_b 100) 31 = .ok (.iconst 1, 1) by decide +kernel) (by unfold pm_I32; decide)
theorem ux_100_32 : pm_w d 100 32 ls st h Q ↔ pm_i st fun y s => pm_i s fun x s => (0 ≤ y ∧ 0 ≤ x) ∧ pm_w d 100 33 ls (.inl ((x.toNat &&& y.toNat : Nat) : Int) :: s) h Q := pw_iand (show decode (pm_b 100) 32 = .ok (.iand, 1) by decide +kernel)
theorem ux_100_33 : pm_w d 100 33 ls st h Q ↔ pm_i st fun x s => ((x = 0) → pm_w d 100 48 ls s h Q) ∧ (¬ (x = 0) → pm_w d 100 36 ls s h Q) := pw_if_eq (show decode (pm_b 100) 33 = .ok (.ifCond .eq 15, 3) by decide +kernel) (by decide)
theorem ux_100_36 : pm_w d 100 36 ls st h Q ↔ pm_li ls 4 fun x => pm_w d 100 38 ls (.inl x :: st) h Q := pw_iload (show decode (pm_b 100) 36 = .ok (.iload 4, 2) by decide +kernel)
theorem ux_100_38 : pm_w d 100 38 ls st h Q ↔ pm_lq ls 0 fun x => pm_w d 100 39 ls (.inr (.inr x) :: st) h Q := pw_aload_n (show decode (pm_b 100) 38 = .ok (.aload_n 0, 1) by decide +kernel)
theorem ux_100_39 : pm_w d 100 39 ls st h Q ↔ pm_li ls 5 fun x => pm_w d 100 41 ls (.inl x :: st) h Q := pw_iload (show decode (pm_b 100) 39 = .ok (.iload 5, 2) by decide +kernel)
theorem ux_100_41 : pm_w d 100 41 ls st h Q ↔ pm_li ls 3 fun x => pm_w d 100 42 ls (.inl x :: st) h Q := pw_iload_n (show decode (pm_b 100) 41 = .ok (.iload_n 3, 1) by decide +kernel)
theorem ux_100_42 : pm_w d 100 42 ls st h Q ↔ pm_r (st.drop 2) fun a s => (2 ≤ st.length ∧ pm_wt s ≤ 8 ∧ pm_tg h a 1) ∧ pm_ok d 63 (.inr (.inr (some a)) :: (st.take 2).reverse) h fun r h1 => pm_w d 100 45 ls (pm_pu r s) h1 Q := pw_virt (show decode (pm_b 100) 42 = .ok (.invokevirtual 100, 3) by decide +kernel) mx_1_100
theorem ux_100_45 : pm_w d 100 45 ls st h Q ↔ pm_i st fun y s => pm_i s fun x s => pm_I32 (x + y) ∧ pm_w d 100 46 ls (.inl (x + y) :: s) h Q := pw_iadd (show decode (pm_b 100) 45 = .ok (.iadd, 1) by decide +kernel)
theorem ux_100_46 : pm_w d 100 46 ls st h Q ↔ pm_i st fun x s => pm_w d 100 48 (pm_s1 ls 4 (.inl x)) s h Q := pw_istore (show decode (pm_b 100) 46 = .ok (.istore 4, 2) by decide +kernel) (by decide)
theorem ux_100_48 : pm_w d 100 48 ls st h Q ↔ pm_li ls 5 fun x => pm_I32 (x + 1) ∧ pm_w d 100 51 (pm_s1 ls 5 (.inl (x + 1))) st h Q := pw_iinc (show decode (pm_b 100) 48 = .ok (.iinc 5 1, 3) by decide +kernel) (by decide)
theorem ux_100_51 : pm_w d 100 51 ls st h Q ↔ pm_w d 100 18 ls st h Q := pw_goto (show decode (pm_b 100) 51 = .ok (.goto (-33), 3) by decide +kernel) (by decide)
theorem ux_100_54 : pm_w d 100 54 ls st h Q ↔ pm_li ls 2 fun x => pm_w d 100 55 ls (.inl x :: st) h Q := pw_iload_n (show decode (pm_b 100) 54 = .ok (.iload_n 2, 1) by decide +kernel)
theorem ux_100_55 : pm_w d 100 55 ls st h Q ↔ pm_li ls 4 fun x => pm_w d 100 57 ls (.inl x :: st) h Q := pw_iload (show decode (pm_b 100) 55 = .ok (.iload 4, 2) by decide +kernel)
theorem ux_100_57 : pm_w d 100 57 ls st h Q ↔ pm_lq ls 0 fun x => pm_w d 100 58 ls (.inr (.inr x) :: st) h Q := pw_aload_n (show decode (pm_b 100) 57 = .ok (.aload_n 0, 1) by decide +kernel)
theorem ux_100_58 : pm_w d 100 58 ls st h Q ↔ pm_li ls 3 fun x => pm_w d 100 59 ls (.inl x :: st) h Q := pw_iload_n (show decode (pm_b 100) 58 = .ok (.iload_n 3, 1) by decide +kernel)
theorem ux_100_59 : pm_w d 100 59 ls st h Q ↔ pm_r (st.drop 1) fun a s => (1 ≤ st.length ∧ pm_wt s ≤ 8 ∧ pm_tg h a 1) ∧ pm_ok d 61 (.inr (.inr (some a)) :: (st.take 1).reverse) h fun r h1 => pm_w d 100 62 ls (pm_pu r s) h1 Q := pw_virt (show decode (pm_b 100) 59 = .ok (.invokevirtual 103, 3) by decide +kernel) mx_1_103
theorem ux_100_62 : pm_w d 100 62 ls st h Q ↔ pm_i st fun y s => pm_i s fun x s => pm_wt s ≤ 8 ∧ pm_w d 100 65 ls (.inl (min x y) :: s) h Q := pw_min (show decode (pm_b 100) 62 = .ok (.invokestatic 68, 3) by decide +kernel) mx_1_68
theorem ux_100_65 : pm_w d 100 65 ls st h Q ↔ pm_i st fun y s => pm_i s fun x s => pm_I32 (x + y) ∧ pm_w d 100 66 ls (.inl (x + y) :: s) h Q := pw_iadd (show decode (pm_b 100) 65 = .ok (.iadd, 1) by decide +kernel)
theorem ux_100_66 : pm_w d 100 66 ls st h Q ↔ pm_i st fun x s => pm_w d 100 67 (pm_s1 ls 2 (.inl x)) s h Q := pw_istore_n (show decode (pm_b 100) 66 = .ok (.istore_n 2, 1) by decide +kernel) (by decide)
theorem ux_100_67 : pm_w d 100 67 ls st h Q ↔ pm_li ls 3 fun x => pm_I32 (x + 1) ∧ pm_w d 100 70 (pm_s1 ls 3 (.inl (x + 1))) st h Q := pw_iinc (show decode (pm_b 100) 67 = .ok (.iinc 3 1, 3) by decide +kernel) (by decide)
theorem ux_100_70 : pm_w d 100 70 ls st h Q ↔ pm_w d 100 4 ls st h Q := pw_goto (show decode (pm_b 100) 70 = .ok (.goto (-66), 3) by decide +kernel) (by decide)
theorem ux_100_73 : pm_w d 100 73 ls st h Q ↔ pm_li ls 2 fun x => pm_w d 100 74 ls (.inl x :: st) h Q := pw_iload_n (show decode (pm_b 100) 73 = .ok (.iload_n 2, 1) by decide +kernel)
theorem ux_100_74 : pm_w d 100 74 ls st h Q ↔ pm_i st fun x s => s = [] ∧ Q (some (.inl x)) h := pw_ireturn (show decode (pm_b 100) 74 = .ok (.ireturn, 1) by decide +kernel) rfl
-- 101: L.commonDivisor
theorem ux_101_0 : pm_w d 101 0 ls st h Q ↔ pm_li ls 0 fun x => pm_w d 101 1 ls (.inl x :: st) h Q := pw_iload_n (show decode (pm_b 101) 0 = .ok (.iload_n 0, 1) by decide +kernel)
theorem ux_101_1 : pm_w d 101 1 ls st h Q ↔ pm_i st fun x s => pm_w d 101 2 (pm_s1 ls 2 (.inl x)) s h Q := pw_istore_n (show decode (pm_b 101) 1 = .ok (.istore_n 2, 1) by decide +kernel) (by decide)
theorem ux_101_2 : pm_w d 101 2 ls st h Q ↔ pm_li ls 1 fun x => pm_w d 101 3 ls (.inl x :: st) h Q := pw_iload_n (show decode (pm_b 101) 2 = .ok (.iload_n 1, 1) by decide +kernel)
theorem ux_101_3 : pm_w d 101 3 ls st h Q ↔ pm_i st fun x s => pm_w d 101 4 (pm_s1 ls 3 (.inl x)) s h Q := pw_istore_n (show decode (pm_b 101) 3 = .ok (.istore_n 3, 1) by decide +kernel) (by decide)
theorem ux_101_4 : pm_w d 101 4 ls st h Q ↔ pm_w d 101 5 ls (.inl 0 :: st) h Q := pw_iconst (show decode (pm_b 101) 4 = .ok (.iconst 0, 1) by decide +kernel) (by unfold pm_I32; decide)
theorem ux_101_5 : pm_w d 101 5 ls st h Q ↔ pm_i st fun x s => pm_w d 101 7 (pm_s1 ls 4 (.inl x)) s h Q := pw_istore (show decode (pm_b 101) 5 = .ok (.istore 4, 2) by decide +kernel) (by decide)
theorem ux_101_7 : pm_w d 101 7 ls st h Q ↔ pm_li ls 4 fun x => pm_w d 101 9 ls (.inl x :: st) h Q := pw_iload (show decode (pm_b 101) 7 = .ok (.iload 4, 2) by decide +kernel)
theorem ux_101_9 : pm_w d 101 9 ls st h Q ↔ pm_w d 101 12 ls (.inl 1000000 :: st) h Q := pw_ldc_w (show decode (pm_b 101) 9 = .ok (.ldc_w 303, 3) by decide +kernel) kx_11_303
theorem ux_101_12 : pm_w d 101 12 ls st h Q ↔ pm_i st fun y s => pm_i s fun x s => ((y ≤ x) → pm_w d 101 35 ls s h Q) ∧ (¬ (y ≤ x) → pm_w d 101 15 ls s h Q) := pw_ic_ge (show decode (pm_b 101) 12 = .ok (.if_icmp .ge 23, 3) by decide +kernel) (by decide)
theorem ux_101_15 : pm_w d 101 15 ls st h Q ↔ pm_li ls 3 fun x => pm_w d 101 16 ls (.inl x :: st) h Q := pw_iload_n (show decode (pm_b 101) 15 = .ok (.iload_n 3, 1) by decide +kernel)
theorem ux_101_16 : pm_w d 101 16 ls st h Q ↔ pm_i st fun x s => ((x ≤ 0) → pm_w d 101 35 ls s h Q) ∧ (¬ (x ≤ 0) → pm_w d 101 19 ls s h Q) := pw_if_le (show decode (pm_b 101) 16 = .ok (.ifCond .le 19, 3) by decide +kernel) (by decide)
theorem ux_101_19 : pm_w d 101 19 ls st h Q ↔ pm_li ls 2 fun x => pm_w d 101 20 ls (.inl x :: st) h Q := pw_iload_n (show decode (pm_b 101) 19 = .ok (.iload_n 2, 1) by decide +kernel)
theorem ux_101_20 : pm_w d 101 20 ls st h Q ↔ pm_li ls 3 fun x => pm_w d 101 21 ls (.inl x :: st) h Q := pw_iload_n (show decode (pm_b 101) 20 = .ok (.iload_n 3, 1) by decide +kernel)
theorem ux_101_21 : pm_w d 101 21 ls st h Q ↔ pm_i st fun y s => pm_i s fun x s => (0 ≤ x ∧ 0 < y) ∧ pm_w d 101 22 ls (.inl (x % y) :: s) h Q := pw_irem (show decode (pm_b 101) 21 = .ok (.irem, 1) by decide +kernel)
theorem ux_101_22 : pm_w d 101 22 ls st h Q ↔ pm_i st fun x s => pm_w d 101 24 (pm_s1 ls 5 (.inl x)) s h Q := pw_istore (show decode (pm_b 101) 22 = .ok (.istore 5, 2) by decide +kernel) (by decide)
theorem ux_101_24 : pm_w d 101 24 ls st h Q ↔ pm_li ls 3 fun x => pm_w d 101 25 ls (.inl x :: st) h Q := pw_iload_n (show decode (pm_b 101) 24 = .ok (.iload_n 3, 1) by decide +kernel)
theorem ux_101_25 : pm_w d 101 25 ls st h Q ↔ pm_i st fun x s => pm_w d 101 26 (pm_s1 ls 2 (.inl x)) s h Q := pw_istore_n (show decode (pm_b 101) 25 = .ok (.istore_n 2, 1) by decide +kernel) (by decide)
theorem ux_101_26 : pm_w d 101 26 ls st h Q ↔ pm_li ls 5 fun x => pm_w d 101 28 ls (.inl x :: st) h Q := pw_iload (show decode (pm_b 101) 26 = .ok (.iload 5, 2) by decide +kernel)
theorem ux_101_28 : pm_w d 101 28 ls st h Q ↔ pm_i st fun x s => pm_w d 101 29 (pm_s1 ls 3 (.inl x)) s h Q := pw_istore_n (show decode (pm_b 101) 28 = .ok (.istore_n 3, 1) by decide +kernel) (by decide)
theorem ux_101_29 : pm_w d 101 29 ls st h Q ↔ pm_li ls 4 fun x => pm_I32 (x + 1) ∧ pm_w d 101 32 (pm_s1 ls 4 (.inl (x + 1))) st h Q := pw_iinc (show decode (pm_b 101) 29 = .ok (.iinc 4 1, 3) by decide +kernel) (by decide)
theorem ux_101_32 : pm_w d 101 32 ls st h Q ↔ pm_w d 101 7 ls st h Q := pw_goto (show decode (pm_b 101) 32 = .ok (.goto (-25), 3) by decide +kernel) (by decide)
theorem ux_101_35 : pm_w d 101 35 ls st h Q ↔ pm_li ls 2 fun x => pm_w d 101 36 ls (.inl x :: st) h Q := pw_iload_n (show decode (pm_b 101) 35 = .ok (.iload_n 2, 1) by decide +kernel)
theorem ux_101_36 : pm_w d 101 36 ls st h Q ↔ pm_w d 101 37 ls (.inl 1 :: st) h Q := pw_iconst (show decode (pm_b 101) 36 = .ok (.iconst 1, 1) by decide +kernel) (by unfold pm_I32; decide)
theorem ux_101_37 : pm_w d 101 37 ls st h Q ↔ pm_i st fun y s => pm_i s fun x s => pm_wt s ≤ 8 ∧ pm_w d 101 40 ls (.inl (max x y) :: s) h Q := pw_max (show decode (pm_b 101) 37 = .ok (.invokestatic 310, 3) by decide +kernel) mx_11_310
theorem ux_101_40 : pm_w d 101 40 ls st h Q ↔ pm_i st fun x s => s = [] ∧ Q (some (.inl x)) h := pw_ireturn (show decode (pm_b 101) 40 = .ok (.ireturn, 1) by decide +kernel) rfl
-- 102: L.level
theorem ux_102_0 : pm_w d 102 0 ls st h Q ↔ pm_lq ls 0 fun x => pm_w d 102 1 ls (.inr (.inr x) :: st) h Q := pw_aload_n (show decode (pm_b 102) 0 = .ok (.aload_n 0, 1) by decide +kernel)
theorem ux_102_1 : pm_w d 102 1 ls st h Q ↔ pm_r st fun a s => pm_tgs h a [11] ∧ pm_w d 102 4 ls (.inr (.inr (h.2.1 a 0)) :: s) h Q := pw_get (show decode (pm_b 102) 1 = .ok (.getfield 12, 3) by decide +kernel) fx_11_12
theorem ux_102_4 : pm_w d 102 4 ls st h Q ↔ pm_li ls 1 fun x => pm_w d 102 5 ls (.inl x :: st) h Q := pw_iload_n (show decode (pm_b 102) 4 = .ok (.iload_n 1, 1) by decide +kernel)
theorem ux_102_5 : pm_w d 102 5 ls st h Q ↔ pm_r (st.drop 1) fun a s => (1 ≤ st.length ∧ pm_wt s ≤ 8 ∧ pm_tg h a 8) ∧ pm_ok d 24 (.inr (.inr (some a)) :: (st.take 1).reverse) h fun r h1 => pm_w d 102 8 ls (pm_pu r s) h1 Q := pw_virt (show decode (pm_b 102) 5 = .ok (.invokevirtual 82, 3) by decide +kernel) mx_11_82
theorem ux_102_8 : pm_w d 102 8 ls st h Q ↔ pm_i st fun x s => ((x = 0) → pm_w d 102 20 ls s h Q) ∧ (¬ (x = 0) → pm_w d 102 11 ls s h Q) := pw_if_eq (show decode (pm_b 102) 8 = .ok (.ifCond .eq 12, 3) by decide +kernel) (by decide)
theorem ux_102_11 : pm_w d 102 11 ls st h Q ↔ pm_li ls 2 fun x => pm_w d 102 12 ls (.inl x :: st) h Q := pw_iload_n (show decode (pm_b 102) 11 = .ok (.iload_n 2, 1) by decide +kernel)
theorem ux_102_12 : pm_w d 102 12 ls st h Q ↔ pm_i st fun x s => ((x < 0) → pm_w d 102 20 ls s h Q) ∧ (¬ (x < 0) → pm_w d 102 15 ls s h Q) := pw_if_lt (show decode (pm_b 102) 12 = .ok (.ifCond .lt 8, 3) by decide +kernel) (by decide)
theorem ux_102_15 : pm_w d 102 15 ls st h Q ↔ pm_li ls 2 fun x => pm_w d 102 16 ls (.inl x :: st) h Q := pw_iload_n (show decode (pm_b 102) 15 = .ok (.iload_n 2, 1) by decide +kernel)
theorem ux_102_16 : pm_w d 102 16 ls st h Q ↔ pm_w d 102 17 ls (.inl 1 :: st) h Q := pw_iconst (show decode (pm_b 102) 16 = .ok (.iconst 1, 1) by decide +kernel) (by unfold pm_I32; decide)
theorem ux_102_17 : pm_w d 102 17 ls st h Q ↔ pm_i st fun y s => pm_i s fun x s => ((x ≤ y) → pm_w d 102 22 ls s h Q) ∧ (¬ (x ≤ y) → pm_w d 102 20 ls s h Q) := pw_ic_le (show decode (pm_b 102) 17 = .ok (.if_icmp .le 5, 3) by decide +kernel) (by decide)
theorem ux_102_20 : pm_w d 102 20 ls st h Q ↔ pm_w d 102 21 ls (.inl (-1) :: st) h Q := pw_iconst (show decode (pm_b 102) 20 = .ok (.iconst (-1), 1) by decide +kernel) (by unfold pm_I32; decide)
theorem ux_102_21 : pm_w d 102 21 ls st h Q ↔ pm_i st fun x s => s = [] ∧ Q (some (.inl x)) h := pw_ireturn (show decode (pm_b 102) 21 = .ok (.ireturn, 1) by decide +kernel) rfl
theorem ux_102_22 : pm_w d 102 22 ls st h Q ↔ pm_lq ls 0 fun x => pm_w d 102 23 ls (.inr (.inr x) :: st) h Q := pw_aload_n (show decode (pm_b 102) 22 = .ok (.aload_n 0, 1) by decide +kernel)
theorem ux_102_23 : pm_w d 102 23 ls st h Q ↔ pm_r st fun a s => pm_tgs h a [11] ∧ pm_w d 102 26 ls (.inr (.inr (h.2.1 a 0)) :: s) h Q := pw_get (show decode (pm_b 102) 23 = .ok (.getfield 12, 3) by decide +kernel) fx_11_12
theorem ux_102_26 : pm_w d 102 26 ls st h Q ↔ pm_r (st.drop 0) fun a s => (0 ≤ st.length ∧ pm_wt s ≤ 8 ∧ pm_tg h a 8) ∧ pm_ok d 103 (.inr (.inr (some a)) :: (st.take 0).reverse) h fun r h1 => pm_w d 102 29 ls (pm_pu r s) h1 Q := pw_virt (show decode (pm_b 102) 26 = .ok (.invokevirtual 223, 3) by decide +kernel) mx_11_223
theorem ux_102_29 : pm_w d 102 29 ls st h Q ↔ pm_i st fun x s => ((x = 0) → pm_w d 102 35 ls s h Q) ∧ (¬ (x = 0) → pm_w d 102 32 ls s h Q) := pw_if_eq (show decode (pm_b 102) 29 = .ok (.ifCond .eq 6, 3) by decide +kernel) (by decide)
theorem ux_102_32 : pm_w d 102 32 ls st h Q ↔ pm_w d 102 34 ls (.inl (-13) :: st) h Q := pw_bipush (show decode (pm_b 102) 32 = .ok (.bipush (-13), 2) by decide +kernel) (by decide)
theorem ux_102_34 : pm_w d 102 34 ls st h Q ↔ pm_i st fun x s => s = [] ∧ Q (some (.inl x)) h := pw_ireturn (show decode (pm_b 102) 34 = .ok (.ireturn, 1) by decide +kernel) rfl
theorem ux_102_35 : pm_w d 102 35 ls st h Q ↔ pm_lq ls 0 fun x => pm_w d 102 36 ls (.inr (.inr x) :: st) h Q := pw_aload_n (show decode (pm_b 102) 35 = .ok (.aload_n 0, 1) by decide +kernel)
theorem ux_102_36 : pm_w d 102 36 ls st h Q ↔ pm_r st fun a s => pm_tgs h a [11] ∧ pm_w d 102 39 ls (.inr (.inr (h.2.1 a 11)) :: s) h Q := pw_get (show decode (pm_b 102) 36 = .ok (.getfield 46, 3) by decide +kernel) fx_11_46
theorem ux_102_39 : pm_w d 102 39 ls st h Q ↔ pm_lq ls 0 fun x => pm_w d 102 40 ls (.inr (.inr x) :: st) h Q := pw_aload_n (show decode (pm_b 102) 39 = .ok (.aload_n 0, 1) by decide +kernel)
theorem ux_102_40 : pm_w d 102 40 ls st h Q ↔ pm_r st fun a s => pm_tgs h a [11] ∧ pm_w d 102 43 ls (.inr (.inr (h.2.1 a 0)) :: s) h Q := pw_get (show decode (pm_b 102) 40 = .ok (.getfield 12, 3) by decide +kernel) fx_11_12
theorem ux_102_43 : pm_w d 102 43 ls st h Q ↔ pm_r (st.drop 1) fun a s => (1 ≤ st.length ∧ pm_wt s ≤ 8 ∧ pm_tg h a 5) ∧ pm_ok d 104 (.inr (.inr (some a)) :: (st.take 1).reverse) h fun r h1 => pm_w d 102 46 ls (pm_pu r s) h1 Q := pw_virt (show decode (pm_b 102) 43 = .ok (.invokevirtual 226, 3) by decide +kernel) mx_11_226
theorem ux_102_46 : pm_w d 102 46 ls st h Q ↔ pm_li ls 2 fun x => pm_w d 102 47 ls (.inl x :: st) h Q := pw_iload_n (show decode (pm_b 102) 46 = .ok (.iload_n 2, 1) by decide +kernel)
theorem ux_102_47 : pm_w d 102 47 ls st h Q ↔ pm_i st fun x s => ((x ≠ 0) → pm_w d 102 62 ls s h Q) ∧ (¬ (x ≠ 0) → pm_w d 102 50 ls s h Q) := pw_if_ne (show decode (pm_b 102) 47 = .ok (.ifCond .ne 15, 3) by decide +kernel) (by decide)
theorem ux_102_50 : pm_w d 102 50 ls st h Q ↔ pm_lq ls 0 fun x => pm_w d 102 51 ls (.inr (.inr x) :: st) h Q := pw_aload_n (show decode (pm_b 102) 50 = .ok (.aload_n 0, 1) by decide +kernel)
theorem ux_102_51 : pm_w d 102 51 ls st h Q ↔ pm_r st fun a s => pm_tgs h a [11] ∧ pm_w d 102 54 ls (.inr (.inr (h.2.1 a 11)) :: s) h Q := pw_get (show decode (pm_b 102) 51 = .ok (.getfield 46, 3) by decide +kernel) fx_11_46
theorem ux_102_54 : pm_w d 102 54 ls st h Q ↔ pm_r st fun a s => pm_tgs h a [5] ∧ pm_w d 102 57 ls (.inr (.inr (h.2.1 a 5)) :: s) h Q := pw_get (show decode (pm_b 102) 54 = .ok (.getfield 229, 3) by decide +kernel) fx_11_229
theorem ux_102_57 : pm_w d 102 57 ls st h Q ↔ pm_li ls 1 fun x => pm_w d 102 58 ls (.inl x :: st) h Q := pw_iload_n (show decode (pm_b 102) 57 = .ok (.iload_n 1, 1) by decide +kernel)
theorem ux_102_58 : pm_w d 102 58 ls st h Q ↔ pm_i st fun x s => pm_r s fun a s => pm_inb h a 20 x ∧ pm_w d 102 59 ls (.inl (h.1 a x.toNat) :: s) h Q := pw_iaload (show decode (pm_b 102) 58 = .ok (.iaload, 1) by decide +kernel)
theorem ux_102_59 : pm_w d 102 59 ls st h Q ↔ pm_w d 102 71 ls st h Q := pw_goto (show decode (pm_b 102) 59 = .ok (.goto 12, 3) by decide +kernel) (by decide)
theorem ux_102_62 : pm_w d 102 62 ls st h Q ↔ pm_lq ls 0 fun x => pm_w d 102 63 ls (.inr (.inr x) :: st) h Q := pw_aload_n (show decode (pm_b 102) 62 = .ok (.aload_n 0, 1) by decide +kernel)
theorem ux_102_63 : pm_w d 102 63 ls st h Q ↔ pm_r st fun a s => pm_tgs h a [11] ∧ pm_w d 102 66 ls (.inr (.inr (h.2.1 a 11)) :: s) h Q := pw_get (show decode (pm_b 102) 63 = .ok (.getfield 46, 3) by decide +kernel) fx_11_46
theorem ux_102_66 : pm_w d 102 66 ls st h Q ↔ pm_r st fun a s => pm_tgs h a [5] ∧ pm_w d 102 69 ls (.inr (.inr (h.2.1 a 6)) :: s) h Q := pw_get (show decode (pm_b 102) 66 = .ok (.getfield 232, 3) by decide +kernel) fx_11_232
theorem ux_102_69 : pm_w d 102 69 ls st h Q ↔ pm_li ls 1 fun x => pm_w d 102 70 ls (.inl x :: st) h Q := pw_iload_n (show decode (pm_b 102) 69 = .ok (.iload_n 1, 1) by decide +kernel)
theorem ux_102_70 : pm_w d 102 70 ls st h Q ↔ pm_i st fun x s => pm_r s fun a s => pm_inb h a 20 x ∧ pm_w d 102 71 ls (.inl (h.1 a x.toNat) :: s) h Q := pw_iaload (show decode (pm_b 102) 70 = .ok (.iaload, 1) by decide +kernel)
theorem ux_102_71 : pm_w d 102 71 ls st h Q ↔ pm_i st fun x s => s = [] ∧ Q (some (.inl x)) h := pw_ireturn (show decode (pm_b 102) 71 = .ok (.ireturn, 1) by decide +kernel) rfl
end
