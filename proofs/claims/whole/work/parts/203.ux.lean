section
variable {d : Nat} {ls : pm_L} {st : List pm_V} {h : pm_H} {Q : Option pm_V → pm_H → Prop}
-- 71: LLaying.layAlong
theorem ux_71_0 : pm_w d 71 0 ls st h Q ↔ pm_lq ls 0 fun x => pm_w d 71 1 ls (.inr (.inr x) :: st) h Q := pw_aload_n (show decode (pm_b 71) 0 = .ok (.aload_n 0, 1) by decide +kernel)
theorem ux_71_1 : pm_w d 71 1 ls st h Q ↔ pm_li ls 1 fun x => pm_w d 71 2 ls (.inl x :: st) h Q := pw_iload_n (show decode (pm_b 71) 1 = .ok (.iload_n 1, 1) by decide +kernel)
theorem ux_71_2 : pm_w d 71 2 ls st h Q ↔ pm_r (st.drop 1) fun a s => (1 ≤ st.length ∧ pm_wt s ≤ 8 ∧ pm_tg h a 4) ∧ pm_ok d 72 (.inr (.inr (some a)) :: (st.take 1).reverse) h fun r h1 => pm_w d 71 5 ls (pm_pu r s) h1 Q := pw_virt (show decode (pm_b 71) 2 = .ok (.invokevirtual 104, 3) by decide +kernel) mx_4_104
theorem ux_71_5 : pm_w d 71 5 ls st h Q ↔ pm_i st fun x s => pm_w d 71 6 (pm_s1 ls 2 (.inl x)) s h Q := pw_istore_n (show decode (pm_b 71) 5 = .ok (.istore_n 2, 1) by decide +kernel) (by decide)
theorem ux_71_6 : pm_w d 71 6 ls st h Q ↔ pm_li ls 2 fun x => pm_w d 71 7 ls (.inl x :: st) h Q := pw_iload_n (show decode (pm_b 71) 6 = .ok (.iload_n 2, 1) by decide +kernel)
theorem ux_71_7 : pm_w d 71 7 ls st h Q ↔ pm_i st fun x s => ((0 ≤ x) → pm_w d 71 11 ls s h Q) ∧ (¬ (0 ≤ x) → pm_w d 71 10 ls s h Q) := pw_if_ge (show decode (pm_b 71) 7 = .ok (.ifCond .ge 4, 3) by decide +kernel) (by decide)
theorem ux_71_10 : pm_w d 71 10 ls st h Q ↔ st = [] ∧ Q none h := pw_return (show decode (pm_b 71) 10 = .ok (.return_, 1) by decide +kernel) rfl
theorem ux_71_11 : pm_w d 71 11 ls st h Q ↔ pm_lq ls 0 fun x => pm_w d 71 12 ls (.inr (.inr x) :: st) h Q := pw_aload_n (show decode (pm_b 71) 11 = .ok (.aload_n 0, 1) by decide +kernel)
theorem ux_71_12 : pm_w d 71 12 ls st h Q ↔ pm_li ls 1 fun x => pm_w d 71 13 ls (.inl x :: st) h Q := pw_iload_n (show decode (pm_b 71) 12 = .ok (.iload_n 1, 1) by decide +kernel)
theorem ux_71_13 : pm_w d 71 13 ls st h Q ↔ pm_lq ls 0 fun x => pm_w d 71 14 ls (.inr (.inr x) :: st) h Q := pw_aload_n (show decode (pm_b 71) 13 = .ok (.aload_n 0, 1) by decide +kernel)
theorem ux_71_14 : pm_w d 71 14 ls st h Q ↔ pm_r st fun a s => pm_tgs h a [4] ∧ pm_w d 71 17 ls (.inr (.inr (h.2.1 a 3)) :: s) h Q := pw_get (show decode (pm_b 71) 14 = .ok (.getfield 9, 3) by decide +kernel) fx_4_9
theorem ux_71_17 : pm_w d 71 17 ls st h Q ↔ pm_li ls 2 fun x => pm_w d 71 18 ls (.inl x :: st) h Q := pw_iload_n (show decode (pm_b 71) 17 = .ok (.iload_n 2, 1) by decide +kernel)
theorem ux_71_18 : pm_w d 71 18 ls st h Q ↔ pm_i st fun x s => pm_r s fun a s => pm_inb h a 20 x ∧ pm_w d 71 19 ls (.inl (h.1 a x.toNat) :: s) h Q := pw_iaload (show decode (pm_b 71) 18 = .ok (.iaload, 1) by decide +kernel)
theorem ux_71_19 : pm_w d 71 19 ls st h Q ↔ pm_lq ls 0 fun x => pm_w d 71 20 ls (.inr (.inr x) :: st) h Q := pw_aload_n (show decode (pm_b 71) 19 = .ok (.aload_n 0, 1) by decide +kernel)
theorem ux_71_20 : pm_w d 71 20 ls st h Q ↔ pm_r st fun a s => pm_tgs h a [4] ∧ pm_w d 71 23 ls (.inr (.inr (h.2.1 a 4)) :: s) h Q := pw_get (show decode (pm_b 71) 20 = .ok (.getfield 15, 3) by decide +kernel) fx_4_15
theorem ux_71_23 : pm_w d 71 23 ls st h Q ↔ pm_li ls 1 fun x => pm_w d 71 24 ls (.inl x :: st) h Q := pw_iload_n (show decode (pm_b 71) 23 = .ok (.iload_n 1, 1) by decide +kernel)
theorem ux_71_24 : pm_w d 71 24 ls st h Q ↔ pm_i st fun x s => pm_r s fun a s => pm_inb h a 20 x ∧ pm_w d 71 25 ls (.inl (h.1 a x.toNat) :: s) h Q := pw_iaload (show decode (pm_b 71) 24 = .ok (.iaload, 1) by decide +kernel)
theorem ux_71_25 : pm_w d 71 25 ls st h Q ↔ pm_i st fun y s => pm_i s fun x s => pm_wt s ≤ 8 ∧ pm_w d 71 28 ls (.inl (min x y) :: s) h Q := pw_min (show decode (pm_b 71) 25 = .ok (.invokestatic 76, 3) by decide +kernel) mx_4_76
theorem ux_71_28 : pm_w d 71 28 ls st h Q ↔ pm_r (st.drop 2) fun a s => (2 ≤ st.length ∧ pm_wt s ≤ 8 ∧ pm_tg h a 4) ∧ pm_ok d 73 (.inr (.inr (some a)) :: (st.take 2).reverse) h fun r h1 => pm_w d 71 31 ls (pm_pu r s) h1 Q := pw_virt (show decode (pm_b 71) 28 = .ok (.invokevirtual 107, 3) by decide +kernel) mx_4_107
theorem ux_71_31 : pm_w d 71 31 ls st h Q ↔ pm_i st fun x s => pm_w d 71 32 (pm_s1 ls 3 (.inl x)) s h Q := pw_istore_n (show decode (pm_b 71) 31 = .ok (.istore_n 3, 1) by decide +kernel) (by decide)
theorem ux_71_32 : pm_w d 71 32 ls st h Q ↔ pm_lq ls 0 fun x => pm_w d 71 33 ls (.inr (.inr x) :: st) h Q := pw_aload_n (show decode (pm_b 71) 32 = .ok (.aload_n 0, 1) by decide +kernel)
theorem ux_71_33 : pm_w d 71 33 ls st h Q ↔ pm_li ls 1 fun x => pm_w d 71 34 ls (.inl x :: st) h Q := pw_iload_n (show decode (pm_b 71) 33 = .ok (.iload_n 1, 1) by decide +kernel)
theorem ux_71_34 : pm_w d 71 34 ls st h Q ↔ pm_li ls 3 fun x => pm_w d 71 35 ls (.inl x :: st) h Q := pw_iload_n (show decode (pm_b 71) 34 = .ok (.iload_n 3, 1) by decide +kernel)
theorem ux_71_35 : pm_w d 71 35 ls st h Q ↔ pm_r (st.drop 2) fun a s => (2 ≤ st.length ∧ pm_wt s ≤ 8 ∧ pm_tg h a 4) ∧ pm_ok d 74 (.inr (.inr (some a)) :: (st.take 2).reverse) h fun r h1 => pm_w d 71 38 ls (pm_pu r s) h1 Q := pw_virt (show decode (pm_b 71) 35 = .ok (.invokevirtual 110, 3) by decide +kernel) mx_4_110
theorem ux_71_38 : pm_w d 71 38 ls st h Q ↔ pm_lq ls 0 fun x => pm_w d 71 39 ls (.inr (.inr x) :: st) h Q := pw_aload_n (show decode (pm_b 71) 38 = .ok (.aload_n 0, 1) by decide +kernel)
theorem ux_71_39 : pm_w d 71 39 ls st h Q ↔ pm_r st fun a s => pm_tgs h a [4] ∧ pm_w d 71 42 ls (.inr (.inr (h.2.1 a 4)) :: s) h Q := pw_get (show decode (pm_b 71) 39 = .ok (.getfield 15, 3) by decide +kernel) fx_4_15
theorem ux_71_42 : pm_w d 71 42 ls st h Q ↔ pm_li ls 1 fun x => pm_w d 71 43 ls (.inl x :: st) h Q := pw_iload_n (show decode (pm_b 71) 42 = .ok (.iload_n 1, 1) by decide +kernel)
theorem ux_71_43 : pm_w d 71 43 ls st h Q ↔ pm_i st fun y s => pm_q s fun x s => pm_w d 71 44 ls (.inl y :: .inr (.inr x) :: .inl y :: .inr (.inr x) :: s) h Q := pw_dup2 (show decode (pm_b 71) 43 = .ok (.dup2, 1) by decide +kernel)
theorem ux_71_44 : pm_w d 71 44 ls st h Q ↔ pm_i st fun x s => pm_r s fun a s => pm_inb h a 20 x ∧ pm_w d 71 45 ls (.inl (h.1 a x.toNat) :: s) h Q := pw_iaload (show decode (pm_b 71) 44 = .ok (.iaload, 1) by decide +kernel)
theorem ux_71_45 : pm_w d 71 45 ls st h Q ↔ pm_li ls 3 fun x => pm_w d 71 46 ls (.inl x :: st) h Q := pw_iload_n (show decode (pm_b 71) 45 = .ok (.iload_n 3, 1) by decide +kernel)
theorem ux_71_46 : pm_w d 71 46 ls st h Q ↔ pm_i st fun y s => pm_i s fun x s => pm_I32 (x - y) ∧ pm_w d 71 47 ls (.inl (x - y) :: s) h Q := pw_isub (show decode (pm_b 71) 46 = .ok (.isub, 1) by decide +kernel)
theorem ux_71_47 : pm_w d 71 47 ls st h Q ↔ pm_i st fun v s => pm_i s fun x s => pm_r s fun a s => pm_inb h a 20 x ∧ pm_w d 71 48 ls s (pm_wI h a x.toNat v) Q := pw_iastore (show decode (pm_b 71) 47 = .ok (.iastore, 1) by decide +kernel)
theorem ux_71_48 : pm_w d 71 48 ls st h Q ↔ pm_lq ls 0 fun x => pm_w d 71 49 ls (.inr (.inr x) :: st) h Q := pw_aload_n (show decode (pm_b 71) 48 = .ok (.aload_n 0, 1) by decide +kernel)
theorem ux_71_49 : pm_w d 71 49 ls st h Q ↔ pm_r st fun a s => pm_tgs h a [4] ∧ pm_w d 71 52 ls (.inr (.inr (h.2.1 a 3)) :: s) h Q := pw_get (show decode (pm_b 71) 49 = .ok (.getfield 9, 3) by decide +kernel) fx_4_9
theorem ux_71_52 : pm_w d 71 52 ls st h Q ↔ pm_li ls 2 fun x => pm_w d 71 53 ls (.inl x :: st) h Q := pw_iload_n (show decode (pm_b 71) 52 = .ok (.iload_n 2, 1) by decide +kernel)
theorem ux_71_53 : pm_w d 71 53 ls st h Q ↔ pm_i st fun y s => pm_q s fun x s => pm_w d 71 54 ls (.inl y :: .inr (.inr x) :: .inl y :: .inr (.inr x) :: s) h Q := pw_dup2 (show decode (pm_b 71) 53 = .ok (.dup2, 1) by decide +kernel)
theorem ux_71_54 : pm_w d 71 54 ls st h Q ↔ pm_i st fun x s => pm_r s fun a s => pm_inb h a 20 x ∧ pm_w d 71 55 ls (.inl (h.1 a x.toNat) :: s) h Q := pw_iaload (show decode (pm_b 71) 54 = .ok (.iaload, 1) by decide +kernel)
theorem ux_71_55 : pm_w d 71 55 ls st h Q ↔ pm_li ls 3 fun x => pm_w d 71 56 ls (.inl x :: st) h Q := pw_iload_n (show decode (pm_b 71) 55 = .ok (.iload_n 3, 1) by decide +kernel)
theorem ux_71_56 : pm_w d 71 56 ls st h Q ↔ pm_i st fun y s => pm_i s fun x s => pm_I32 (x - y) ∧ pm_w d 71 57 ls (.inl (x - y) :: s) h Q := pw_isub (show decode (pm_b 71) 56 = .ok (.isub, 1) by decide +kernel)
theorem ux_71_57 : pm_w d 71 57 ls st h Q ↔ pm_i st fun v s => pm_i s fun x s => pm_r s fun a s => pm_inb h a 20 x ∧ pm_w d 71 58 ls s (pm_wI h a x.toNat v) Q := pw_iastore (show decode (pm_b 71) 57 = .ok (.iastore, 1) by decide +kernel)
theorem ux_71_58 : pm_w d 71 58 ls st h Q ↔ pm_lq ls 0 fun x => pm_w d 71 59 ls (.inr (.inr x) :: st) h Q := pw_aload_n (show decode (pm_b 71) 58 = .ok (.aload_n 0, 1) by decide +kernel)
theorem ux_71_59 : pm_w d 71 59 ls st h Q ↔ pm_q st fun x s => pm_w d 71 60 ls (.inr (.inr x) :: .inr (.inr x) :: s) h Q := pw_dup (show decode (pm_b 71) 59 = .ok (.dup, 1) by decide +kernel)
theorem ux_71_60 : pm_w d 71 60 ls st h Q ↔ pm_r st fun a s => pm_tgs h a [4] ∧ pm_w d 71 63 ls (.inl (h.1 a 2) :: s) h Q := pw_get (show decode (pm_b 71) 60 = .ok (.getfield 62, 3) by decide +kernel) fx_4_62
theorem ux_71_63 : pm_w d 71 63 ls st h Q ↔ pm_li ls 3 fun x => pm_w d 71 64 ls (.inl x :: st) h Q := pw_iload_n (show decode (pm_b 71) 63 = .ok (.iload_n 3, 1) by decide +kernel)
theorem ux_71_64 : pm_w d 71 64 ls st h Q ↔ pm_i st fun y s => pm_i s fun x s => pm_I32 (x - y) ∧ pm_w d 71 65 ls (.inl (x - y) :: s) h Q := pw_isub (show decode (pm_b 71) 64 = .ok (.isub, 1) by decide +kernel)
theorem ux_71_65 : pm_w d 71 65 ls st h Q ↔ pm_i st fun x s => pm_r s fun a s => (pm_tgs h a [4]) ∧ pm_w d 71 68 ls s (pm_wI h a 2 x) Q := pw_put0 (show decode (pm_b 71) 65 = .ok (.putfield 62, 3) by decide +kernel) fx_4_62 (Or.inl rfl)
theorem ux_71_68 : pm_w d 71 68 ls st h Q ↔ st = [] ∧ Q none h := pw_return (show decode (pm_b 71) 68 = .ok (.return_, 1) by decide +kernel) rfl
-- 72: LLaying.startOf
theorem ux_72_0 : pm_w d 72 0 ls st h Q ↔ pm_li ls 1 fun x => pm_w d 72 1 ls (.inl x :: st) h Q := pw_iload_n (show decode (pm_b 72) 0 = .ok (.iload_n 1, 1) by decide +kernel)
theorem ux_72_1 : pm_w d 72 1 ls st h Q ↔ pm_i st fun x s => pm_w d 72 2 (pm_s1 ls 2 (.inl x)) s h Q := pw_istore_n (show decode (pm_b 72) 1 = .ok (.istore_n 2, 1) by decide +kernel) (by decide)
theorem ux_72_2 : pm_w d 72 2 ls st h Q ↔ pm_w d 72 3 ls (.inl 0 :: st) h Q := pw_iconst (show decode (pm_b 72) 2 = .ok (.iconst 0, 1) by decide +kernel) (by unfold pm_I32; decide)
theorem ux_72_3 : pm_w d 72 3 ls st h Q ↔ pm_i st fun x s => pm_w d 72 4 (pm_s1 ls 3 (.inl x)) s h Q := pw_istore_n (show decode (pm_b 72) 3 = .ok (.istore_n 3, 1) by decide +kernel) (by decide)
theorem ux_72_4 : pm_w d 72 4 ls st h Q ↔ pm_li ls 3 fun x => pm_w d 72 5 ls (.inl x :: st) h Q := pw_iload_n (show decode (pm_b 72) 4 = .ok (.iload_n 3, 1) by decide +kernel)
theorem ux_72_5 : pm_w d 72 5 ls st h Q ↔ pm_w d 72 7 ls (.inl 47 :: st) h Q := pw_bipush (show decode (pm_b 72) 5 = .ok (.bipush 47, 2) by decide +kernel) (by decide)
theorem ux_72_7 : pm_w d 72 7 ls st h Q ↔ pm_i st fun y s => pm_i s fun x s => ((y ≤ x) → pm_w d 72 55 ls s h Q) ∧ (¬ (y ≤ x) → pm_w d 72 10 ls s h Q) := pw_ic_ge (show decode (pm_b 72) 7 = .ok (.if_icmp .ge 48, 3) by decide +kernel) (by decide)
theorem ux_72_10 : pm_w d 72 10 ls st h Q ↔ pm_li ls 2 fun x => pm_w d 72 11 ls (.inl x :: st) h Q := pw_iload_n (show decode (pm_b 72) 10 = .ok (.iload_n 2, 1) by decide +kernel)
theorem ux_72_11 : pm_w d 72 11 ls st h Q ↔ pm_i st fun x s => ((x < 0) → pm_w d 72 55 ls s h Q) ∧ (¬ (x < 0) → pm_w d 72 14 ls s h Q) := pw_if_lt (show decode (pm_b 72) 11 = .ok (.ifCond .lt 44, 3) by decide +kernel) (by decide)
theorem ux_72_14 : pm_w d 72 14 ls st h Q ↔ pm_lq ls 0 fun x => pm_w d 72 15 ls (.inr (.inr x) :: st) h Q := pw_aload_n (show decode (pm_b 72) 14 = .ok (.aload_n 0, 1) by decide +kernel)
theorem ux_72_15 : pm_w d 72 15 ls st h Q ↔ pm_r st fun a s => pm_tgs h a [4] ∧ pm_w d 72 18 ls (.inr (.inr (h.2.1 a 8)) :: s) h Q := pw_get (show decode (pm_b 72) 15 = .ok (.getfield 29, 3) by decide +kernel) fx_4_29
theorem ux_72_18 : pm_w d 72 18 ls st h Q ↔ pm_li ls 2 fun x => pm_w d 72 19 ls (.inl x :: st) h Q := pw_iload_n (show decode (pm_b 72) 18 = .ok (.iload_n 2, 1) by decide +kernel)
theorem ux_72_19 : pm_w d 72 19 ls st h Q ↔ pm_i st fun x s => pm_r s fun a s => pm_inb h a 20 x ∧ pm_w d 72 20 ls (.inl (h.1 a x.toNat) :: s) h Q := pw_iaload (show decode (pm_b 72) 19 = .ok (.iaload, 1) by decide +kernel)
theorem ux_72_20 : pm_w d 72 20 ls st h Q ↔ pm_i st fun x s => pm_w d 72 22 (pm_s1 ls 4 (.inl x)) s h Q := pw_istore (show decode (pm_b 72) 20 = .ok (.istore 4, 2) by decide +kernel) (by decide)
theorem ux_72_22 : pm_w d 72 22 ls st h Q ↔ pm_li ls 4 fun x => pm_w d 72 24 ls (.inl x :: st) h Q := pw_iload (show decode (pm_b 72) 22 = .ok (.iload 4, 2) by decide +kernel)
theorem ux_72_24 : pm_w d 72 24 ls st h Q ↔ pm_i st fun x s => ((x < 0) → pm_w d 72 38 ls s h Q) ∧ (¬ (x < 0) → pm_w d 72 27 ls s h Q) := pw_if_lt (show decode (pm_b 72) 24 = .ok (.ifCond .lt 14, 3) by decide +kernel) (by decide)
theorem ux_72_27 : pm_w d 72 27 ls st h Q ↔ pm_lq ls 0 fun x => pm_w d 72 28 ls (.inr (.inr x) :: st) h Q := pw_aload_n (show decode (pm_b 72) 27 = .ok (.aload_n 0, 1) by decide +kernel)
theorem ux_72_28 : pm_w d 72 28 ls st h Q ↔ pm_r st fun a s => pm_tgs h a [4] ∧ pm_w d 72 31 ls (.inr (.inr (h.2.1 a 7)) :: s) h Q := pw_get (show decode (pm_b 72) 28 = .ok (.getfield 26, 3) by decide +kernel) fx_4_26
theorem ux_72_31 : pm_w d 72 31 ls st h Q ↔ pm_li ls 4 fun x => pm_w d 72 33 ls (.inl x :: st) h Q := pw_iload (show decode (pm_b 72) 31 = .ok (.iload 4, 2) by decide +kernel)
theorem ux_72_33 : pm_w d 72 33 ls st h Q ↔ pm_i st fun x s => pm_r s fun a s => pm_inb h a 20 x ∧ pm_w d 72 34 ls (.inl (h.1 a x.toNat) :: s) h Q := pw_iaload (show decode (pm_b 72) 33 = .ok (.iaload, 1) by decide +kernel)
theorem ux_72_34 : pm_w d 72 34 ls st h Q ↔ pm_w d 72 35 ls (.inl (-1) :: st) h Q := pw_iconst (show decode (pm_b 72) 34 = .ok (.iconst (-1), 1) by decide +kernel) (by unfold pm_I32; decide)
theorem ux_72_35 : pm_w d 72 35 ls st h Q ↔ pm_i st fun y s => pm_i s fun x s => ((x ≠ y) → pm_w d 72 41 ls s h Q) ∧ (¬ (x ≠ y) → pm_w d 72 38 ls s h Q) := pw_ic_ne (show decode (pm_b 72) 35 = .ok (.if_icmp .ne 6, 3) by decide +kernel) (by decide)
theorem ux_72_38 : pm_w d 72 38 ls st h Q ↔ pm_li ls 4 fun x => pm_w d 72 40 ls (.inl x :: st) h Q := pw_iload (show decode (pm_b 72) 38 = .ok (.iload 4, 2) by decide +kernel)
theorem ux_72_40 : pm_w d 72 40 ls st h Q ↔ pm_i st fun x s => s = [] ∧ Q (some (.inl x)) h := pw_ireturn (show decode (pm_b 72) 40 = .ok (.ireturn, 1) by decide +kernel) rfl
theorem ux_72_41 : pm_w d 72 41 ls st h Q ↔ pm_lq ls 0 fun x => pm_w d 72 42 ls (.inr (.inr x) :: st) h Q := pw_aload_n (show decode (pm_b 72) 41 = .ok (.aload_n 0, 1) by decide +kernel)
theorem ux_72_42 : pm_w d 72 42 ls st h Q ↔ pm_r st fun a s => pm_tgs h a [4] ∧ pm_w d 72 45 ls (.inr (.inr (h.2.1 a 7)) :: s) h Q := pw_get (show decode (pm_b 72) 42 = .ok (.getfield 26, 3) by decide +kernel) fx_4_26
theorem ux_72_45 : pm_w d 72 45 ls st h Q ↔ pm_li ls 4 fun x => pm_w d 72 47 ls (.inl x :: st) h Q := pw_iload (show decode (pm_b 72) 45 = .ok (.iload 4, 2) by decide +kernel)
theorem ux_72_47 : pm_w d 72 47 ls st h Q ↔ pm_i st fun x s => pm_r s fun a s => pm_inb h a 20 x ∧ pm_w d 72 48 ls (.inl (h.1 a x.toNat) :: s) h Q := pw_iaload (show decode (pm_b 72) 47 = .ok (.iaload, 1) by decide +kernel)
theorem ux_72_48 : pm_w d 72 48 ls st h Q ↔ pm_i st fun x s => pm_w d 72 49 (pm_s1 ls 2 (.inl x)) s h Q := pw_istore_n (show decode (pm_b 72) 48 = .ok (.istore_n 2, 1) by decide +kernel) (by decide)
theorem ux_72_49 : pm_w d 72 49 ls st h Q ↔ pm_li ls 3 fun x => pm_I32 (x + 1) ∧ pm_w d 72 52 (pm_s1 ls 3 (.inl (x + 1))) st h Q := pw_iinc (show decode (pm_b 72) 49 = .ok (.iinc 3 1, 3) by decide +kernel) (by decide)
theorem ux_72_52 : pm_w d 72 52 ls st h Q ↔ pm_w d 72 4 ls st h Q := pw_goto (show decode (pm_b 72) 52 = .ok (.goto (-48), 3) by decide +kernel) (by decide)
theorem ux_72_55 : pm_w d 72 55 ls st h Q ↔ pm_w d 72 56 ls (.inl (-1) :: st) h Q := pw_iconst (show decode (pm_b 72) 55 = .ok (.iconst (-1), 1) by decide +kernel) (by unfold pm_I32; decide)
theorem ux_72_56 : pm_w d 72 56 ls st h Q ↔ pm_i st fun x s => s = [] ∧ Q (some (.inl x)) h := pw_ireturn (show decode (pm_b 72) 56 = .ok (.ireturn, 1) by decide +kernel) rfl
-- 73: LLaying.narrowest
theorem ux_73_0 : pm_w d 73 0 ls st h Q ↔ pm_li ls 2 fun x => pm_w d 73 1 ls (.inl x :: st) h Q := pw_iload_n (show decode (pm_b 73) 0 = .ok (.iload_n 2, 1) by decide +kernel)
theorem ux_73_1 : pm_w d 73 1 ls st h Q ↔ pm_i st fun x s => pm_w d 73 2 (pm_s1 ls 3 (.inl x)) s h Q := pw_istore_n (show decode (pm_b 73) 1 = .ok (.istore_n 3, 1) by decide +kernel) (by decide)
theorem ux_73_2 : pm_w d 73 2 ls st h Q ↔ pm_li ls 1 fun x => pm_w d 73 3 ls (.inl x :: st) h Q := pw_iload_n (show decode (pm_b 73) 2 = .ok (.iload_n 1, 1) by decide +kernel)
theorem ux_73_3 : pm_w d 73 3 ls st h Q ↔ pm_i st fun x s => pm_w d 73 5 (pm_s1 ls 4 (.inl x)) s h Q := pw_istore (show decode (pm_b 73) 3 = .ok (.istore 4, 2) by decide +kernel) (by decide)
theorem ux_73_5 : pm_w d 73 5 ls st h Q ↔ pm_w d 73 6 ls (.inl 0 :: st) h Q := pw_iconst (show decode (pm_b 73) 5 = .ok (.iconst 0, 1) by decide +kernel) (by unfold pm_I32; decide)
theorem ux_73_6 : pm_w d 73 6 ls st h Q ↔ pm_i st fun x s => pm_w d 73 8 (pm_s1 ls 5 (.inl x)) s h Q := pw_istore (show decode (pm_b 73) 6 = .ok (.istore 5, 2) by decide +kernel) (by decide)
theorem ux_73_8 : pm_w d 73 8 ls st h Q ↔ pm_li ls 5 fun x => pm_w d 73 10 ls (.inl x :: st) h Q := pw_iload (show decode (pm_b 73) 8 = .ok (.iload 5, 2) by decide +kernel)
theorem ux_73_10 : pm_w d 73 10 ls st h Q ↔ pm_w d 73 12 ls (.inl 47 :: st) h Q := pw_bipush (show decode (pm_b 73) 10 = .ok (.bipush 47, 2) by decide +kernel) (by decide)
theorem ux_73_12 : pm_w d 73 12 ls st h Q ↔ pm_i st fun y s => pm_i s fun x s => ((y ≤ x) → pm_w d 73 86 ls s h Q) ∧ (¬ (y ≤ x) → pm_w d 73 15 ls s h Q) := pw_ic_ge (show decode (pm_b 73) 12 = .ok (.if_icmp .ge 74, 3) by decide +kernel) (by decide)
theorem ux_73_15 : pm_w d 73 15 ls st h Q ↔ pm_li ls 4 fun x => pm_w d 73 17 ls (.inl x :: st) h Q := pw_iload (show decode (pm_b 73) 15 = .ok (.iload 4, 2) by decide +kernel)
theorem ux_73_17 : pm_w d 73 17 ls st h Q ↔ pm_i st fun x s => ((x < 0) → pm_w d 73 86 ls s h Q) ∧ (¬ (x < 0) → pm_w d 73 20 ls s h Q) := pw_if_lt (show decode (pm_b 73) 17 = .ok (.ifCond .lt 69, 3) by decide +kernel) (by decide)
theorem ux_73_20 : pm_w d 73 20 ls st h Q ↔ pm_lq ls 0 fun x => pm_w d 73 21 ls (.inr (.inr x) :: st) h Q := pw_aload_n (show decode (pm_b 73) 20 = .ok (.aload_n 0, 1) by decide +kernel)
theorem ux_73_21 : pm_w d 73 21 ls st h Q ↔ pm_r st fun a s => pm_tgs h a [4] ∧ pm_w d 73 24 ls (.inr (.inr (h.2.1 a 8)) :: s) h Q := pw_get (show decode (pm_b 73) 21 = .ok (.getfield 29, 3) by decide +kernel) fx_4_29
theorem ux_73_24 : pm_w d 73 24 ls st h Q ↔ pm_li ls 4 fun x => pm_w d 73 26 ls (.inl x :: st) h Q := pw_iload (show decode (pm_b 73) 24 = .ok (.iload 4, 2) by decide +kernel)
theorem ux_73_26 : pm_w d 73 26 ls st h Q ↔ pm_i st fun x s => pm_r s fun a s => pm_inb h a 20 x ∧ pm_w d 73 27 ls (.inl (h.1 a x.toNat) :: s) h Q := pw_iaload (show decode (pm_b 73) 26 = .ok (.iaload, 1) by decide +kernel)
theorem ux_73_27 : pm_w d 73 27 ls st h Q ↔ pm_i st fun x s => pm_w d 73 29 (pm_s1 ls 6 (.inl x)) s h Q := pw_istore (show decode (pm_b 73) 27 = .ok (.istore 6, 2) by decide +kernel) (by decide)
theorem ux_73_29 : pm_w d 73 29 ls st h Q ↔ pm_li ls 6 fun x => pm_w d 73 31 ls (.inl x :: st) h Q := pw_iload (show decode (pm_b 73) 29 = .ok (.iload 6, 2) by decide +kernel)
theorem ux_73_31 : pm_w d 73 31 ls st h Q ↔ pm_i st fun x s => ((0 ≤ x) → pm_w d 73 36 ls s h Q) ∧ (¬ (0 ≤ x) → pm_w d 73 34 ls s h Q) := pw_if_ge (show decode (pm_b 73) 31 = .ok (.ifCond .ge 5, 3) by decide +kernel) (by decide)
theorem ux_73_34 : pm_w d 73 34 ls st h Q ↔ pm_w d 73 35 ls (.inl 0 :: st) h Q := pw_iconst (show decode (pm_b 73) 34 = .ok (.iconst 0, 1) by decide +kernel) (by unfold pm_I32; decide)
theorem ux_73_35 : pm_w d 73 35 ls st h Q ↔ pm_i st fun x s => s = [] ∧ Q (some (.inl x)) h := pw_ireturn (show decode (pm_b 73) 35 = .ok (.ireturn, 1) by decide +kernel) rfl
theorem ux_73_36 : pm_w d 73 36 ls st h Q ↔ pm_li ls 3 fun x => pm_w d 73 37 ls (.inl x :: st) h Q := pw_iload_n (show decode (pm_b 73) 36 = .ok (.iload_n 3, 1) by decide +kernel)
theorem ux_73_37 : pm_w d 73 37 ls st h Q ↔ pm_lq ls 0 fun x => pm_w d 73 38 ls (.inr (.inr x) :: st) h Q := pw_aload_n (show decode (pm_b 73) 37 = .ok (.aload_n 0, 1) by decide +kernel)
theorem ux_73_38 : pm_w d 73 38 ls st h Q ↔ pm_r st fun a s => pm_tgs h a [4] ∧ pm_w d 73 41 ls (.inr (.inr (h.2.1 a 6)) :: s) h Q := pw_get (show decode (pm_b 73) 38 = .ok (.getfield 23, 3) by decide +kernel) fx_4_23
theorem ux_73_41 : pm_w d 73 41 ls st h Q ↔ pm_li ls 6 fun x => pm_w d 73 43 ls (.inl x :: st) h Q := pw_iload (show decode (pm_b 73) 41 = .ok (.iload 6, 2) by decide +kernel)
theorem ux_73_43 : pm_w d 73 43 ls st h Q ↔ pm_i st fun x s => pm_r s fun a s => (pm_inb h a 23 x ∨ pm_inb h a 24 x ∨ pm_inb h a 25 x) ∧ pm_w d 73 44 ls (.inr (.inr (h.2.1 a x.toNat)) :: s) h Q := pw_aaload (show decode (pm_b 73) 43 = .ok (.aaload, 1) by decide +kernel)
theorem ux_73_44 : pm_w d 73 44 ls st h Q ↔ pm_li ls 4 fun x => pm_w d 73 46 ls (.inl x :: st) h Q := pw_iload (show decode (pm_b 73) 44 = .ok (.iload 4, 2) by decide +kernel)
theorem ux_73_46 : pm_w d 73 46 ls st h Q ↔ pm_i st fun x s => pm_r s fun a s => pm_inb h a 20 x ∧ pm_w d 73 47 ls (.inl (h.1 a x.toNat) :: s) h Q := pw_iaload (show decode (pm_b 73) 46 = .ok (.iaload, 1) by decide +kernel)
theorem ux_73_47 : pm_w d 73 47 ls st h Q ↔ pm_i st fun y s => pm_i s fun x s => pm_wt s ≤ 8 ∧ pm_w d 73 50 ls (.inl (min x y) :: s) h Q := pw_min (show decode (pm_b 73) 47 = .ok (.invokestatic 76, 3) by decide +kernel) mx_4_76
theorem ux_73_50 : pm_w d 73 50 ls st h Q ↔ pm_i st fun x s => pm_w d 73 51 (pm_s1 ls 3 (.inl x)) s h Q := pw_istore_n (show decode (pm_b 73) 50 = .ok (.istore_n 3, 1) by decide +kernel) (by decide)
theorem ux_73_51 : pm_w d 73 51 ls st h Q ↔ pm_lq ls 0 fun x => pm_w d 73 52 ls (.inr (.inr x) :: st) h Q := pw_aload_n (show decode (pm_b 73) 51 = .ok (.aload_n 0, 1) by decide +kernel)
theorem ux_73_52 : pm_w d 73 52 ls st h Q ↔ pm_r st fun a s => pm_tgs h a [4] ∧ pm_w d 73 55 ls (.inr (.inr (h.2.1 a 7)) :: s) h Q := pw_get (show decode (pm_b 73) 52 = .ok (.getfield 26, 3) by decide +kernel) fx_4_26
theorem ux_73_55 : pm_w d 73 55 ls st h Q ↔ pm_li ls 6 fun x => pm_w d 73 57 ls (.inl x :: st) h Q := pw_iload (show decode (pm_b 73) 55 = .ok (.iload 6, 2) by decide +kernel)
theorem ux_73_57 : pm_w d 73 57 ls st h Q ↔ pm_i st fun x s => pm_r s fun a s => pm_inb h a 20 x ∧ pm_w d 73 58 ls (.inl (h.1 a x.toNat) :: s) h Q := pw_iaload (show decode (pm_b 73) 57 = .ok (.iaload, 1) by decide +kernel)
theorem ux_73_58 : pm_w d 73 58 ls st h Q ↔ pm_i st fun x s => pm_w d 73 60 (pm_s1 ls 4 (.inl x)) s h Q := pw_istore (show decode (pm_b 73) 58 = .ok (.istore 4, 2) by decide +kernel) (by decide)
theorem ux_73_60 : pm_w d 73 60 ls st h Q ↔ pm_li ls 4 fun x => pm_w d 73 62 ls (.inl x :: st) h Q := pw_iload (show decode (pm_b 73) 60 = .ok (.iload 4, 2) by decide +kernel)
theorem ux_73_62 : pm_w d 73 62 ls st h Q ↔ pm_i st fun x s => ((x < 0) → pm_w d 73 80 ls s h Q) ∧ (¬ (x < 0) → pm_w d 73 65 ls s h Q) := pw_if_lt (show decode (pm_b 73) 62 = .ok (.ifCond .lt 18, 3) by decide +kernel) (by decide)
theorem ux_73_65 : pm_w d 73 65 ls st h Q ↔ pm_li ls 3 fun x => pm_w d 73 66 ls (.inl x :: st) h Q := pw_iload_n (show decode (pm_b 73) 65 = .ok (.iload_n 3, 1) by decide +kernel)
theorem ux_73_66 : pm_w d 73 66 ls st h Q ↔ pm_lq ls 0 fun x => pm_w d 73 67 ls (.inr (.inr x) :: st) h Q := pw_aload_n (show decode (pm_b 73) 66 = .ok (.aload_n 0, 1) by decide +kernel)
theorem ux_73_67 : pm_w d 73 67 ls st h Q ↔ pm_r st fun a s => pm_tgs h a [4] ∧ pm_w d 73 70 ls (.inr (.inr (h.2.1 a 5)) :: s) h Q := pw_get (show decode (pm_b 73) 67 = .ok (.getfield 20, 3) by decide +kernel) fx_4_20
theorem ux_73_70 : pm_w d 73 70 ls st h Q ↔ pm_li ls 6 fun x => pm_w d 73 72 ls (.inl x :: st) h Q := pw_iload (show decode (pm_b 73) 70 = .ok (.iload 6, 2) by decide +kernel)
theorem ux_73_72 : pm_w d 73 72 ls st h Q ↔ pm_i st fun x s => pm_r s fun a s => (pm_inb h a 23 x ∨ pm_inb h a 24 x ∨ pm_inb h a 25 x) ∧ pm_w d 73 73 ls (.inr (.inr (h.2.1 a x.toNat)) :: s) h Q := pw_aaload (show decode (pm_b 73) 72 = .ok (.aaload, 1) by decide +kernel)
theorem ux_73_73 : pm_w d 73 73 ls st h Q ↔ pm_li ls 4 fun x => pm_w d 73 75 ls (.inl x :: st) h Q := pw_iload (show decode (pm_b 73) 73 = .ok (.iload 4, 2) by decide +kernel)
theorem ux_73_75 : pm_w d 73 75 ls st h Q ↔ pm_i st fun x s => pm_r s fun a s => pm_inb h a 20 x ∧ pm_w d 73 76 ls (.inl (h.1 a x.toNat) :: s) h Q := pw_iaload (show decode (pm_b 73) 75 = .ok (.iaload, 1) by decide +kernel)
theorem ux_73_76 : pm_w d 73 76 ls st h Q ↔ pm_i st fun y s => pm_i s fun x s => pm_wt s ≤ 8 ∧ pm_w d 73 79 ls (.inl (min x y) :: s) h Q := pw_min (show decode (pm_b 73) 76 = .ok (.invokestatic 76, 3) by decide +kernel) mx_4_76
theorem ux_73_79 : pm_w d 73 79 ls st h Q ↔ pm_i st fun x s => pm_w d 73 80 (pm_s1 ls 3 (.inl x)) s h Q := pw_istore_n (show decode (pm_b 73) 79 = .ok (.istore_n 3, 1) by decide +kernel) (by decide)
theorem ux_73_80 : pm_w d 73 80 ls st h Q ↔ pm_li ls 5 fun x => pm_I32 (x + 1) ∧ pm_w d 73 83 (pm_s1 ls 5 (.inl (x + 1))) st h Q := pw_iinc (show decode (pm_b 73) 80 = .ok (.iinc 5 1, 3) by decide +kernel) (by decide)
theorem ux_73_83 : pm_w d 73 83 ls st h Q ↔ pm_w d 73 8 ls st h Q := pw_goto (show decode (pm_b 73) 83 = .ok (.goto (-75), 3) by decide +kernel) (by decide)
theorem ux_73_86 : pm_w d 73 86 ls st h Q ↔ pm_li ls 3 fun x => pm_w d 73 87 ls (.inl x :: st) h Q := pw_iload_n (show decode (pm_b 73) 86 = .ok (.iload_n 3, 1) by decide +kernel)
theorem ux_73_87 : pm_w d 73 87 ls st h Q ↔ pm_i st fun x s => s = [] ∧ Q (some (.inl x)) h := pw_ireturn (show decode (pm_b 73) 87 = .ok (.ireturn, 1) by decide +kernel) rfl
-- 74: LLaying.moveAlong
theorem ux_74_0 : pm_w d 74 0 ls st h Q ↔ pm_li ls 1 fun x => pm_w d 74 1 ls (.inl x :: st) h Q := pw_iload_n (show decode (pm_b 74) 0 = .ok (.iload_n 1, 1) by decide +kernel)
theorem ux_74_1 : pm_w d 74 1 ls st h Q ↔ pm_i st fun x s => pm_w d 74 2 (pm_s1 ls 3 (.inl x)) s h Q := pw_istore_n (show decode (pm_b 74) 1 = .ok (.istore_n 3, 1) by decide +kernel) (by decide)
theorem ux_74_2 : pm_w d 74 2 ls st h Q ↔ pm_w d 74 3 ls (.inl 0 :: st) h Q := pw_iconst (show decode (pm_b 74) 2 = .ok (.iconst 0, 1) by decide +kernel) (by unfold pm_I32; decide)
theorem ux_74_3 : pm_w d 74 3 ls st h Q ↔ pm_i st fun x s => pm_w d 74 5 (pm_s1 ls 4 (.inl x)) s h Q := pw_istore (show decode (pm_b 74) 3 = .ok (.istore 4, 2) by decide +kernel) (by decide)
theorem ux_74_5 : pm_w d 74 5 ls st h Q ↔ pm_li ls 4 fun x => pm_w d 74 7 ls (.inl x :: st) h Q := pw_iload (show decode (pm_b 74) 5 = .ok (.iload 4, 2) by decide +kernel)
theorem ux_74_7 : pm_w d 74 7 ls st h Q ↔ pm_w d 74 9 ls (.inl 47 :: st) h Q := pw_bipush (show decode (pm_b 74) 7 = .ok (.bipush 47, 2) by decide +kernel) (by decide)
theorem ux_74_9 : pm_w d 74 9 ls st h Q ↔ pm_i st fun y s => pm_i s fun x s => ((y ≤ x) → pm_w d 74 65 ls s h Q) ∧ (¬ (y ≤ x) → pm_w d 74 12 ls s h Q) := pw_ic_ge (show decode (pm_b 74) 9 = .ok (.if_icmp .ge 56, 3) by decide +kernel) (by decide)
theorem ux_74_12 : pm_w d 74 12 ls st h Q ↔ pm_li ls 3 fun x => pm_w d 74 13 ls (.inl x :: st) h Q := pw_iload_n (show decode (pm_b 74) 12 = .ok (.iload_n 3, 1) by decide +kernel)
theorem ux_74_13 : pm_w d 74 13 ls st h Q ↔ pm_i st fun x s => ((x < 0) → pm_w d 74 65 ls s h Q) ∧ (¬ (x < 0) → pm_w d 74 16 ls s h Q) := pw_if_lt (show decode (pm_b 74) 13 = .ok (.ifCond .lt 52, 3) by decide +kernel) (by decide)
theorem ux_74_16 : pm_w d 74 16 ls st h Q ↔ pm_lq ls 0 fun x => pm_w d 74 17 ls (.inr (.inr x) :: st) h Q := pw_aload_n (show decode (pm_b 74) 16 = .ok (.aload_n 0, 1) by decide +kernel)
theorem ux_74_17 : pm_w d 74 17 ls st h Q ↔ pm_r st fun a s => pm_tgs h a [4] ∧ pm_w d 74 20 ls (.inr (.inr (h.2.1 a 8)) :: s) h Q := pw_get (show decode (pm_b 74) 17 = .ok (.getfield 29, 3) by decide +kernel) fx_4_29
theorem ux_74_20 : pm_w d 74 20 ls st h Q ↔ pm_li ls 3 fun x => pm_w d 74 21 ls (.inl x :: st) h Q := pw_iload_n (show decode (pm_b 74) 20 = .ok (.iload_n 3, 1) by decide +kernel)
theorem ux_74_21 : pm_w d 74 21 ls st h Q ↔ pm_i st fun x s => pm_r s fun a s => pm_inb h a 20 x ∧ pm_w d 74 22 ls (.inl (h.1 a x.toNat) :: s) h Q := pw_iaload (show decode (pm_b 74) 21 = .ok (.iaload, 1) by decide +kernel)
theorem ux_74_22 : pm_w d 74 22 ls st h Q ↔ pm_i st fun x s => pm_w d 74 24 (pm_s1 ls 5 (.inl x)) s h Q := pw_istore (show decode (pm_b 74) 22 = .ok (.istore 5, 2) by decide +kernel) (by decide)
theorem ux_74_24 : pm_w d 74 24 ls st h Q ↔ pm_li ls 5 fun x => pm_w d 74 26 ls (.inl x :: st) h Q := pw_iload (show decode (pm_b 74) 24 = .ok (.iload 5, 2) by decide +kernel)
theorem ux_74_26 : pm_w d 74 26 ls st h Q ↔ pm_i st fun x s => ((0 ≤ x) → pm_w d 74 30 ls s h Q) ∧ (¬ (0 ≤ x) → pm_w d 74 29 ls s h Q) := pw_if_ge (show decode (pm_b 74) 26 = .ok (.ifCond .ge 4, 3) by decide +kernel) (by decide)
theorem ux_74_29 : pm_w d 74 29 ls st h Q ↔ st = [] ∧ Q none h := pw_return (show decode (pm_b 74) 29 = .ok (.return_, 1) by decide +kernel) rfl
theorem ux_74_30 : pm_w d 74 30 ls st h Q ↔ pm_lq ls 0 fun x => pm_w d 74 31 ls (.inr (.inr x) :: st) h Q := pw_aload_n (show decode (pm_b 74) 30 = .ok (.aload_n 0, 1) by decide +kernel)
theorem ux_74_31 : pm_w d 74 31 ls st h Q ↔ pm_li ls 5 fun x => pm_w d 74 33 ls (.inl x :: st) h Q := pw_iload (show decode (pm_b 74) 31 = .ok (.iload 5, 2) by decide +kernel)
theorem ux_74_33 : pm_w d 74 33 ls st h Q ↔ pm_li ls 3 fun x => pm_w d 74 34 ls (.inl x :: st) h Q := pw_iload_n (show decode (pm_b 74) 33 = .ok (.iload_n 3, 1) by decide +kernel)
theorem ux_74_34 : pm_w d 74 34 ls st h Q ↔ pm_li ls 2 fun x => pm_w d 74 35 ls (.inl x :: st) h Q := pw_iload_n (show decode (pm_b 74) 34 = .ok (.iload_n 2, 1) by decide +kernel)
theorem ux_74_35 : pm_w d 74 35 ls st h Q ↔ pm_r (st.drop 3) fun a s => (3 ≤ st.length ∧ pm_wt s ≤ 8 ∧ pm_tg h a 4) ∧ pm_ok d 65 (.inr (.inr (some a)) :: (st.take 3).reverse) h fun r h1 => pm_w d 74 38 ls (pm_pu r s) h1 Q := pw_virt (show decode (pm_b 74) 35 = .ok (.invokevirtual 81, 3) by decide +kernel) mx_4_81
theorem ux_74_38 : pm_w d 74 38 ls st h Q ↔ pm_lq ls 0 fun x => pm_w d 74 39 ls (.inr (.inr x) :: st) h Q := pw_aload_n (show decode (pm_b 74) 38 = .ok (.aload_n 0, 1) by decide +kernel)
theorem ux_74_39 : pm_w d 74 39 ls st h Q ↔ pm_r st fun a s => pm_tgs h a [4] ∧ pm_w d 74 42 ls (.inr (.inr (h.2.1 a 7)) :: s) h Q := pw_get (show decode (pm_b 74) 39 = .ok (.getfield 26, 3) by decide +kernel) fx_4_26
theorem ux_74_42 : pm_w d 74 42 ls st h Q ↔ pm_li ls 5 fun x => pm_w d 74 44 ls (.inl x :: st) h Q := pw_iload (show decode (pm_b 74) 42 = .ok (.iload 5, 2) by decide +kernel)
theorem ux_74_44 : pm_w d 74 44 ls st h Q ↔ pm_i st fun x s => pm_r s fun a s => pm_inb h a 20 x ∧ pm_w d 74 45 ls (.inl (h.1 a x.toNat) :: s) h Q := pw_iaload (show decode (pm_b 74) 44 = .ok (.iaload, 1) by decide +kernel)
theorem ux_74_45 : pm_w d 74 45 ls st h Q ↔ pm_i st fun x s => pm_w d 74 46 (pm_s1 ls 3 (.inl x)) s h Q := pw_istore_n (show decode (pm_b 74) 45 = .ok (.istore_n 3, 1) by decide +kernel) (by decide)
theorem ux_74_46 : pm_w d 74 46 ls st h Q ↔ pm_li ls 3 fun x => pm_w d 74 47 ls (.inl x :: st) h Q := pw_iload_n (show decode (pm_b 74) 46 = .ok (.iload_n 3, 1) by decide +kernel)
theorem ux_74_47 : pm_w d 74 47 ls st h Q ↔ pm_i st fun x s => ((x < 0) → pm_w d 74 59 ls s h Q) ∧ (¬ (x < 0) → pm_w d 74 50 ls s h Q) := pw_if_lt (show decode (pm_b 74) 47 = .ok (.ifCond .lt 12, 3) by decide +kernel) (by decide)
theorem ux_74_50 : pm_w d 74 50 ls st h Q ↔ pm_lq ls 0 fun x => pm_w d 74 51 ls (.inr (.inr x) :: st) h Q := pw_aload_n (show decode (pm_b 74) 50 = .ok (.aload_n 0, 1) by decide +kernel)
theorem ux_74_51 : pm_w d 74 51 ls st h Q ↔ pm_li ls 5 fun x => pm_w d 74 53 ls (.inl x :: st) h Q := pw_iload (show decode (pm_b 74) 51 = .ok (.iload 5, 2) by decide +kernel)
theorem ux_74_53 : pm_w d 74 53 ls st h Q ↔ pm_li ls 3 fun x => pm_w d 74 54 ls (.inl x :: st) h Q := pw_iload_n (show decode (pm_b 74) 53 = .ok (.iload_n 3, 1) by decide +kernel)
theorem ux_74_54 : pm_w d 74 54 ls st h Q ↔ pm_li ls 2 fun x => pm_w d 74 55 ls (.inl x :: st) h Q := pw_iload_n (show decode (pm_b 74) 54 = .ok (.iload_n 2, 1) by decide +kernel)
theorem ux_74_55 : pm_w d 74 55 ls st h Q ↔ pm_i st fun x s => pm_I32 (-x) ∧ pm_w d 74 56 ls (.inl (-x) :: s) h Q := pw_ineg (show decode (pm_b 74) 55 = .ok (.ineg, 1) by decide +kernel)
theorem ux_74_56 : pm_w d 74 56 ls st h Q ↔ pm_r (st.drop 3) fun a s => (3 ≤ st.length ∧ pm_wt s ≤ 8 ∧ pm_tg h a 4) ∧ pm_ok d 65 (.inr (.inr (some a)) :: (st.take 3).reverse) h fun r h1 => pm_w d 74 59 ls (pm_pu r s) h1 Q := pw_virt (show decode (pm_b 74) 56 = .ok (.invokevirtual 81, 3) by decide +kernel) mx_4_81
theorem ux_74_59 : pm_w d 74 59 ls st h Q ↔ pm_li ls 4 fun x => pm_I32 (x + 1) ∧ pm_w d 74 62 (pm_s1 ls 4 (.inl (x + 1))) st h Q := pw_iinc (show decode (pm_b 74) 59 = .ok (.iinc 4 1, 3) by decide +kernel) (by decide)
theorem ux_74_62 : pm_w d 74 62 ls st h Q ↔ pm_w d 74 5 ls st h Q := pw_goto (show decode (pm_b 74) 62 = .ok (.goto (-57), 3) by decide +kernel) (by decide)
theorem ux_74_65 : pm_w d 74 65 ls st h Q ↔ st = [] ∧ Q none h := pw_return (show decode (pm_b 74) 65 = .ok (.return_, 1) by decide +kernel) rfl
-- 75: L.fits
theorem ux_75_0 : pm_w d 75 0 ls st h Q ↔ pm_lq ls 0 fun x => pm_w d 75 1 ls (.inr (.inr x) :: st) h Q := pw_aload_n (show decode (pm_b 75) 0 = .ok (.aload_n 0, 1) by decide +kernel)
theorem ux_75_1 : pm_w d 75 1 ls st h Q ↔ pm_r (st.drop 0) fun a s => (0 ≤ st.length ∧ pm_wt s ≤ 8 ∧ pm_tg h a 11) ∧ pm_ok d 76 (.inr (.inr (some a)) :: (st.take 0).reverse) h fun r h1 => pm_w d 75 4 ls (pm_pu r s) h1 Q := pw_virt (show decode (pm_b 75) 1 = .ok (.invokevirtual 182, 3) by decide +kernel) mx_11_182
theorem ux_75_4 : pm_w d 75 4 ls st h Q ↔ pm_i st fun x s => ((x = 0) → pm_w d 75 11 ls s h Q) ∧ (¬ (x = 0) → pm_w d 75 7 ls s h Q) := pw_if_eq (show decode (pm_b 75) 4 = .ok (.ifCond .eq 7, 3) by decide +kernel) (by decide)
theorem ux_75_7 : pm_w d 75 7 ls st h Q ↔ pm_w d 75 8 ls (.inl 1 :: st) h Q := pw_iconst (show decode (pm_b 75) 7 = .ok (.iconst 1, 1) by decide +kernel) (by unfold pm_I32; decide)
theorem ux_75_8 : pm_w d 75 8 ls st h Q ↔ pm_w d 75 12 ls st h Q := pw_goto (show decode (pm_b 75) 8 = .ok (.goto 4, 3) by decide +kernel) (by decide)
theorem ux_75_11 : pm_w d 75 11 ls st h Q ↔ pm_w d 75 12 ls (.inl 0 :: st) h Q := pw_iconst (show decode (pm_b 75) 11 = .ok (.iconst 0, 1) by decide +kernel) (by unfold pm_I32; decide)
theorem ux_75_12 : pm_w d 75 12 ls st h Q ↔ pm_i st fun x s => s = [] ∧ Q (some (.inl x)) h := pw_ireturn (show decode (pm_b 75) 12 = .ok (.ireturn, 1) by decide +kernel) rfl
-- 76: L.doAllFit
theorem ux_76_0 : pm_w d 76 0 ls st h Q ↔ pm_lq ls 0 fun x => pm_w d 76 1 ls (.inr (.inr x) :: st) h Q := pw_aload_n (show decode (pm_b 76) 0 = .ok (.aload_n 0, 1) by decide +kernel)
theorem ux_76_1 : pm_w d 76 1 ls st h Q ↔ pm_r (st.drop 0) fun a s => (0 ≤ st.length ∧ pm_wt s ≤ 8 ∧ pm_tg h a 11) ∧ pm_ok d 58 (.inr (.inr (some a)) :: (st.take 0).reverse) h fun r h1 => pm_w d 76 4 ls (pm_pu r s) h1 Q := pw_virt (show decode (pm_b 76) 1 = .ok (.invokevirtual 175, 3) by decide +kernel) mx_11_175
theorem ux_76_4 : pm_w d 76 4 ls st h Q ↔ pm_r st fun a s => pm_tgs h a [4] ∧ pm_w d 76 7 ls (.inl (h.1 a 2) :: s) h Q := pw_get (show decode (pm_b 76) 4 = .ok (.getfield 179, 3) by decide +kernel) fx_11_179
theorem ux_76_7 : pm_w d 76 7 ls st h Q ↔ pm_i st fun x s => ((x ≠ 0) → pm_w d 76 14 ls s h Q) ∧ (¬ (x ≠ 0) → pm_w d 76 10 ls s h Q) := pw_if_ne (show decode (pm_b 76) 7 = .ok (.ifCond .ne 7, 3) by decide +kernel) (by decide)
theorem ux_76_10 : pm_w d 76 10 ls st h Q ↔ pm_w d 76 11 ls (.inl 1 :: st) h Q := pw_iconst (show decode (pm_b 76) 10 = .ok (.iconst 1, 1) by decide +kernel) (by unfold pm_I32; decide)
theorem ux_76_11 : pm_w d 76 11 ls st h Q ↔ pm_w d 76 15 ls st h Q := pw_goto (show decode (pm_b 76) 11 = .ok (.goto 4, 3) by decide +kernel) (by decide)
theorem ux_76_14 : pm_w d 76 14 ls st h Q ↔ pm_w d 76 15 ls (.inl 0 :: st) h Q := pw_iconst (show decode (pm_b 76) 14 = .ok (.iconst 0, 1) by decide +kernel) (by unfold pm_I32; decide)
theorem ux_76_15 : pm_w d 76 15 ls st h Q ↔ pm_i st fun x s => (s = [] ∧ (x = 0 ∨ x = 1)) ∧ Q (some (.inl x)) h := pw_zreturn (show decode (pm_b 76) 15 = .ok (.ireturn, 1) by decide +kernel) rfl
-- 77: L.lies
theorem ux_77_0 : pm_w d 77 0 ls st h Q ↔ pm_lq ls 0 fun x => pm_w d 77 1 ls (.inr (.inr x) :: st) h Q := pw_aload_n (show decode (pm_b 77) 0 = .ok (.aload_n 0, 1) by decide +kernel)
theorem ux_77_1 : pm_w d 77 1 ls st h Q ↔ pm_r st fun a s => pm_tgs h a [11] ∧ pm_w d 77 4 ls (.inr (.inr (h.2.1 a 0)) :: s) h Q := pw_get (show decode (pm_b 77) 1 = .ok (.getfield 12, 3) by decide +kernel) fx_11_12
theorem ux_77_4 : pm_w d 77 4 ls st h Q ↔ pm_li ls 1 fun x => pm_w d 77 5 ls (.inl x :: st) h Q := pw_iload_n (show decode (pm_b 77) 4 = .ok (.iload_n 1, 1) by decide +kernel)
theorem ux_77_5 : pm_w d 77 5 ls st h Q ↔ pm_r (st.drop 1) fun a s => (1 ≤ st.length ∧ pm_wt s ≤ 8 ∧ pm_tg h a 8) ∧ pm_ok d 24 (.inr (.inr (some a)) :: (st.take 1).reverse) h fun r h1 => pm_w d 77 8 ls (pm_pu r s) h1 Q := pw_virt (show decode (pm_b 77) 5 = .ok (.invokevirtual 82, 3) by decide +kernel) mx_11_82
theorem ux_77_8 : pm_w d 77 8 ls st h Q ↔ pm_i st fun x s => ((x = 0) → pm_w d 77 26 ls s h Q) ∧ (¬ (x = 0) → pm_w d 77 11 ls s h Q) := pw_if_eq (show decode (pm_b 77) 8 = .ok (.ifCond .eq 18, 3) by decide +kernel) (by decide)
theorem ux_77_11 : pm_w d 77 11 ls st h Q ↔ pm_li ls 2 fun x => pm_w d 77 12 ls (.inl x :: st) h Q := pw_iload_n (show decode (pm_b 77) 11 = .ok (.iload_n 2, 1) by decide +kernel)
theorem ux_77_12 : pm_w d 77 12 ls st h Q ↔ pm_i st fun x s => ((x < 0) → pm_w d 77 26 ls s h Q) ∧ (¬ (x < 0) → pm_w d 77 15 ls s h Q) := pw_if_lt (show decode (pm_b 77) 12 = .ok (.ifCond .lt 14, 3) by decide +kernel) (by decide)
theorem ux_77_15 : pm_w d 77 15 ls st h Q ↔ pm_li ls 2 fun x => pm_w d 77 16 ls (.inl x :: st) h Q := pw_iload_n (show decode (pm_b 77) 15 = .ok (.iload_n 2, 1) by decide +kernel)
theorem ux_77_16 : pm_w d 77 16 ls st h Q ↔ pm_lq ls 0 fun x => pm_w d 77 17 ls (.inr (.inr x) :: st) h Q := pw_aload_n (show decode (pm_b 77) 16 = .ok (.aload_n 0, 1) by decide +kernel)
theorem ux_77_17 : pm_w d 77 17 ls st h Q ↔ pm_r (st.drop 0) fun a s => (0 ≤ st.length ∧ pm_wt s ≤ 8 ∧ pm_tg h a 11) ∧ pm_ok d 47 (.inr (.inr (some a)) :: (st.take 0).reverse) h fun r h1 => pm_w d 77 20 ls (pm_pu r s) h1 Q := pw_virt (show decode (pm_b 77) 17 = .ok (.invokevirtual 158, 3) by decide +kernel) mx_11_158
theorem ux_77_20 : pm_w d 77 20 ls st h Q ↔ pm_r st fun a s => pm_tgs h a [1] ∧ pm_w d 77 23 ls (.inl (h.1 a 3) :: s) h Q := pw_get (show decode (pm_b 77) 20 = .ok (.getfield 162, 3) by decide +kernel) fx_11_162
theorem ux_77_23 : pm_w d 77 23 ls st h Q ↔ pm_i st fun y s => pm_i s fun x s => ((x < y) → pm_w d 77 28 ls s h Q) ∧ (¬ (x < y) → pm_w d 77 26 ls s h Q) := pw_ic_lt (show decode (pm_b 77) 23 = .ok (.if_icmp .lt 5, 3) by decide +kernel) (by decide)
theorem ux_77_26 : pm_w d 77 26 ls st h Q ↔ pm_w d 77 27 ls (.inl (-1) :: st) h Q := pw_iconst (show decode (pm_b 77) 26 = .ok (.iconst (-1), 1) by decide +kernel) (by unfold pm_I32; decide)
theorem ux_77_27 : pm_w d 77 27 ls st h Q ↔ pm_i st fun x s => s = [] ∧ Q (some (.inl x)) h := pw_ireturn (show decode (pm_b 77) 27 = .ok (.ireturn, 1) by decide +kernel) rfl
theorem ux_77_28 : pm_w d 77 28 ls st h Q ↔ pm_lq ls 0 fun x => pm_w d 77 29 ls (.inr (.inr x) :: st) h Q := pw_aload_n (show decode (pm_b 77) 28 = .ok (.aload_n 0, 1) by decide +kernel)
theorem ux_77_29 : pm_w d 77 29 ls st h Q ↔ pm_r (st.drop 0) fun a s => (0 ≤ st.length ∧ pm_wt s ≤ 8 ∧ pm_tg h a 11) ∧ pm_ok d 76 (.inr (.inr (some a)) :: (st.take 0).reverse) h fun r h1 => pm_w d 77 32 ls (pm_pu r s) h1 Q := pw_virt (show decode (pm_b 77) 29 = .ok (.invokevirtual 182, 3) by decide +kernel) mx_11_182
theorem ux_77_32 : pm_w d 77 32 ls st h Q ↔ pm_i st fun x s => ((x ≠ 0) → pm_w d 77 38 ls s h Q) ∧ (¬ (x ≠ 0) → pm_w d 77 35 ls s h Q) := pw_if_ne (show decode (pm_b 77) 32 = .ok (.ifCond .ne 6, 3) by decide +kernel) (by decide)
theorem ux_77_35 : pm_w d 77 35 ls st h Q ↔ pm_w d 77 37 ls (.inl (-2) :: st) h Q := pw_bipush (show decode (pm_b 77) 35 = .ok (.bipush (-2), 2) by decide +kernel) (by decide)
theorem ux_77_37 : pm_w d 77 37 ls st h Q ↔ pm_i st fun x s => s = [] ∧ Q (some (.inl x)) h := pw_ireturn (show decode (pm_b 77) 37 = .ok (.ireturn, 1) by decide +kernel) rfl
theorem ux_77_38 : pm_w d 77 38 ls st h Q ↔ pm_lq ls 0 fun x => pm_w d 77 39 ls (.inr (.inr x) :: st) h Q := pw_aload_n (show decode (pm_b 77) 38 = .ok (.aload_n 0, 1) by decide +kernel)
theorem ux_77_39 : pm_w d 77 39 ls st h Q ↔ pm_r (st.drop 0) fun a s => (0 ≤ st.length ∧ pm_wt s ≤ 8 ∧ pm_tg h a 11) ∧ pm_ok d 78 (.inr (.inr (some a)) :: (st.take 0).reverse) h fun r h1 => pm_w d 77 42 ls (pm_pu r s) h1 Q := pw_virt (show decode (pm_b 77) 39 = .ok (.invokevirtual 186, 3) by decide +kernel) mx_11_186
theorem ux_77_42 : pm_w d 77 42 ls st h Q ↔ pm_r st fun a s => pm_tgs h a [4] ∧ pm_w d 77 45 ls (.inr (.inr (h.2.1 a 5)) :: s) h Q := pw_get (show decode (pm_b 77) 42 = .ok (.getfield 189, 3) by decide +kernel) fx_11_189
theorem ux_77_45 : pm_w d 77 45 ls st h Q ↔ pm_li ls 1 fun x => pm_w d 77 46 ls (.inl x :: st) h Q := pw_iload_n (show decode (pm_b 77) 45 = .ok (.iload_n 1, 1) by decide +kernel)
theorem ux_77_46 : pm_w d 77 46 ls st h Q ↔ pm_i st fun x s => pm_r s fun a s => (pm_inb h a 23 x ∨ pm_inb h a 24 x ∨ pm_inb h a 25 x) ∧ pm_w d 77 47 ls (.inr (.inr (h.2.1 a x.toNat)) :: s) h Q := pw_aaload (show decode (pm_b 77) 46 = .ok (.aaload, 1) by decide +kernel)
theorem ux_77_47 : pm_w d 77 47 ls st h Q ↔ pm_li ls 2 fun x => pm_w d 77 48 ls (.inl x :: st) h Q := pw_iload_n (show decode (pm_b 77) 47 = .ok (.iload_n 2, 1) by decide +kernel)
theorem ux_77_48 : pm_w d 77 48 ls st h Q ↔ pm_i st fun x s => pm_r s fun a s => pm_inb h a 20 x ∧ pm_w d 77 49 ls (.inl (h.1 a x.toNat) :: s) h Q := pw_iaload (show decode (pm_b 77) 48 = .ok (.iaload, 1) by decide +kernel)
theorem ux_77_49 : pm_w d 77 49 ls st h Q ↔ pm_i st fun x s => s = [] ∧ Q (some (.inl x)) h := pw_ireturn (show decode (pm_b 77) 49 = .ok (.ireturn, 1) by decide +kernel) rfl
-- 78: L.knownCloth
theorem ux_78_0 : pm_w d 78 0 ls st h Q ↔ pm_lq ls 0 fun x => pm_w d 78 1 ls (.inr (.inr x) :: st) h Q := pw_aload_n (show decode (pm_b 78) 0 = .ok (.aload_n 0, 1) by decide +kernel)
theorem ux_78_1 : pm_w d 78 1 ls st h Q ↔ pm_r (st.drop 0) fun a s => (0 ≤ st.length ∧ pm_wt s ≤ 8 ∧ pm_tg h a 11) ∧ pm_ok d 58 (.inr (.inr (some a)) :: (st.take 0).reverse) h fun r h1 => pm_w d 78 4 ls (pm_pu r s) h1 Q := pw_virt (show decode (pm_b 78) 1 = .ok (.invokevirtual 175, 3) by decide +kernel) mx_11_175
theorem ux_78_4 : pm_w d 78 4 ls st h Q ↔ pm_q st fun x s => pm_w d 78 5 (pm_s1 ls 1 (.inr (.inr x))) s h Q := pw_astore_n (show decode (pm_b 78) 4 = .ok (.astore_n 1, 1) by decide +kernel) (by decide)
theorem ux_78_5 : pm_w d 78 5 ls st h Q ↔ pm_lq ls 0 fun x => pm_w d 78 6 ls (.inr (.inr x) :: st) h Q := pw_aload_n (show decode (pm_b 78) 5 = .ok (.aload_n 0, 1) by decide +kernel)
theorem ux_78_6 : pm_w d 78 6 ls st h Q ↔ pm_r st fun a s => pm_tgs h a [11] ∧ pm_w d 78 9 ls (.inl (h.1 a 6) :: s) h Q := pw_get (show decode (pm_b 78) 6 = .ok (.getfield 258, 3) by decide +kernel) fx_11_258
theorem ux_78_9 : pm_w d 78 9 ls st h Q ↔ pm_i st fun x s => ((x ≠ 0) → pm_w d 78 21 ls s h Q) ∧ (¬ (x ≠ 0) → pm_w d 78 12 ls s h Q) := pw_if_ne (show decode (pm_b 78) 9 = .ok (.ifCond .ne 12, 3) by decide +kernel) (by decide)
theorem ux_78_12 : pm_w d 78 12 ls st h Q ↔ pm_lq ls 1 fun x => pm_w d 78 13 ls (.inr (.inr x) :: st) h Q := pw_aload_n (show decode (pm_b 78) 12 = .ok (.aload_n 1, 1) by decide +kernel)
theorem ux_78_13 : pm_w d 78 13 ls st h Q ↔ pm_r (st.drop 0) fun a s => (0 ≤ st.length ∧ pm_wt s ≤ 8 ∧ pm_tg h a 4) ∧ pm_ok d 79 (.inr (.inr (some a)) :: (st.take 0).reverse) h fun r h1 => pm_w d 78 16 ls (pm_pu r s) h1 Q := pw_virt (show decode (pm_b 78) 13 = .ok (.invokevirtual 287, 3) by decide +kernel) mx_11_287
theorem ux_78_16 : pm_w d 78 16 ls st h Q ↔ pm_lq ls 0 fun x => pm_w d 78 17 ls (.inr (.inr x) :: st) h Q := pw_aload_n (show decode (pm_b 78) 16 = .ok (.aload_n 0, 1) by decide +kernel)
theorem ux_78_17 : pm_w d 78 17 ls st h Q ↔ pm_w d 78 18 ls (.inl 1 :: st) h Q := pw_iconst (show decode (pm_b 78) 17 = .ok (.iconst 1, 1) by decide +kernel) (by unfold pm_I32; decide)
theorem ux_78_18 : pm_w d 78 18 ls st h Q ↔ pm_i st fun x s => pm_r s fun a s => ((x = 0 ∨ x = 1) ∧ pm_tgs h a [11]) ∧ pm_w d 78 21 ls s (pm_wI h a 6 x) Q := pw_put1 (show decode (pm_b 78) 18 = .ok (.putfield 258, 3) by decide +kernel) fx_11_258 (Or.inl rfl)
theorem ux_78_21 : pm_w d 78 21 ls st h Q ↔ pm_lq ls 1 fun x => pm_w d 78 22 ls (.inr (.inr x) :: st) h Q := pw_aload_n (show decode (pm_b 78) 21 = .ok (.aload_n 1, 1) by decide +kernel)
theorem ux_78_22 : pm_w d 78 22 ls st h Q ↔ pm_q st fun x s => s = [] ∧ Q (some (.inr (.inr x))) h := pw_areturn (show decode (pm_b 78) 22 = .ok (.areturn, 1) by decide +kernel) rfl
-- 79: LLaying.weave
theorem ux_79_0 : pm_w d 79 0 ls st h Q ↔ pm_w d 79 1 ls (.inl 0 :: st) h Q := pw_iconst (show decode (pm_b 79) 0 = .ok (.iconst 0, 1) by decide +kernel) (by unfold pm_I32; decide)
theorem ux_79_1 : pm_w d 79 1 ls st h Q ↔ pm_i st fun x s => pm_w d 79 2 (pm_s1 ls 1 (.inl x)) s h Q := pw_istore_n (show decode (pm_b 79) 1 = .ok (.istore_n 1, 1) by decide +kernel) (by decide)
theorem ux_79_2 : pm_w d 79 2 ls st h Q ↔ pm_li ls 1 fun x => pm_w d 79 3 ls (.inl x :: st) h Q := pw_iload_n (show decode (pm_b 79) 2 = .ok (.iload_n 1, 1) by decide +kernel)
theorem ux_79_3 : pm_w d 79 3 ls st h Q ↔ pm_lq ls 0 fun x => pm_w d 79 4 ls (.inr (.inr x) :: st) h Q := pw_aload_n (show decode (pm_b 79) 3 = .ok (.aload_n 0, 1) by decide +kernel)
theorem ux_79_4 : pm_w d 79 4 ls st h Q ↔ pm_r st fun a s => pm_tgs h a [4] ∧ pm_w d 79 7 ls (.inl (h.1 a 0) :: s) h Q := pw_get (show decode (pm_b 79) 4 = .ok (.getfield 39, 3) by decide +kernel) fx_4_39
theorem ux_79_7 : pm_w d 79 7 ls st h Q ↔ pm_i st fun y s => pm_i s fun x s => ((y ≤ x) → pm_w d 79 38 ls s h Q) ∧ (¬ (y ≤ x) → pm_w d 79 10 ls s h Q) := pw_ic_ge (show decode (pm_b 79) 7 = .ok (.if_icmp .ge 31, 3) by decide +kernel) (by decide)
theorem ux_79_10 : pm_w d 79 10 ls st h Q ↔ pm_w d 79 11 ls (.inl 0 :: st) h Q := pw_iconst (show decode (pm_b 79) 10 = .ok (.iconst 0, 1) by decide +kernel) (by unfold pm_I32; decide)
theorem ux_79_11 : pm_w d 79 11 ls st h Q ↔ pm_i st fun x s => pm_w d 79 12 (pm_s1 ls 2 (.inl x)) s h Q := pw_istore_n (show decode (pm_b 79) 11 = .ok (.istore_n 2, 1) by decide +kernel) (by decide)
theorem ux_79_12 : pm_w d 79 12 ls st h Q ↔ pm_li ls 2 fun x => pm_w d 79 13 ls (.inl x :: st) h Q := pw_iload_n (show decode (pm_b 79) 12 = .ok (.iload_n 2, 1) by decide +kernel)
theorem ux_79_13 : pm_w d 79 13 ls st h Q ↔ pm_lq ls 0 fun x => pm_w d 79 14 ls (.inr (.inr x) :: st) h Q := pw_aload_n (show decode (pm_b 79) 13 = .ok (.aload_n 0, 1) by decide +kernel)
theorem ux_79_14 : pm_w d 79 14 ls st h Q ↔ pm_r st fun a s => pm_tgs h a [4] ∧ pm_w d 79 17 ls (.inl (h.1 a 1) :: s) h Q := pw_get (show decode (pm_b 79) 14 = .ok (.getfield 61, 3) by decide +kernel) fx_4_61
theorem ux_79_17 : pm_w d 79 17 ls st h Q ↔ pm_i st fun y s => pm_i s fun x s => ((y ≤ x) → pm_w d 79 32 ls s h Q) ∧ (¬ (y ≤ x) → pm_w d 79 20 ls s h Q) := pw_ic_ge (show decode (pm_b 79) 17 = .ok (.if_icmp .ge 15, 3) by decide +kernel) (by decide)
theorem ux_79_20 : pm_w d 79 20 ls st h Q ↔ pm_lq ls 0 fun x => pm_w d 79 21 ls (.inr (.inr x) :: st) h Q := pw_aload_n (show decode (pm_b 79) 20 = .ok (.aload_n 0, 1) by decide +kernel)
theorem ux_79_21 : pm_w d 79 21 ls st h Q ↔ pm_li ls 1 fun x => pm_w d 79 22 ls (.inl x :: st) h Q := pw_iload_n (show decode (pm_b 79) 21 = .ok (.iload_n 1, 1) by decide +kernel)
theorem ux_79_22 : pm_w d 79 22 ls st h Q ↔ pm_li ls 2 fun x => pm_w d 79 23 ls (.inl x :: st) h Q := pw_iload_n (show decode (pm_b 79) 22 = .ok (.iload_n 2, 1) by decide +kernel)
theorem ux_79_23 : pm_w d 79 23 ls st h Q ↔ pm_r (st.drop 2) fun a s => (2 ≤ st.length ∧ pm_wt s ≤ 8 ∧ pm_tg h a 4) ∧ pm_ok d 80 (.inr (.inr (some a)) :: (st.take 2).reverse) h fun r h1 => pm_w d 79 26 ls (pm_pu r s) h1 Q := pw_virt (show decode (pm_b 79) 23 = .ok (.invokevirtual 113, 3) by decide +kernel) mx_4_113
theorem ux_79_26 : pm_w d 79 26 ls st h Q ↔ pm_li ls 2 fun x => pm_I32 (x + 1) ∧ pm_w d 79 29 (pm_s1 ls 2 (.inl (x + 1))) st h Q := pw_iinc (show decode (pm_b 79) 26 = .ok (.iinc 2 1, 3) by decide +kernel) (by decide)
theorem ux_79_29 : pm_w d 79 29 ls st h Q ↔ pm_w d 79 12 ls st h Q := pw_goto (show decode (pm_b 79) 29 = .ok (.goto (-17), 3) by decide +kernel) (by decide)
theorem ux_79_32 : pm_w d 79 32 ls st h Q ↔ pm_li ls 1 fun x => pm_I32 (x + 1) ∧ pm_w d 79 35 (pm_s1 ls 1 (.inl (x + 1))) st h Q := pw_iinc (show decode (pm_b 79) 32 = .ok (.iinc 1 1, 3) by decide +kernel) (by decide)
theorem ux_79_35 : pm_w d 79 35 ls st h Q ↔ pm_w d 79 2 ls st h Q := pw_goto (show decode (pm_b 79) 35 = .ok (.goto (-33), 3) by decide +kernel) (by decide)
theorem ux_79_38 : pm_w d 79 38 ls st h Q ↔ st = [] ∧ Q none h := pw_return (show decode (pm_b 79) 38 = .ok (.return_, 1) by decide +kernel) rfl
-- 80: LLaying.raise
theorem ux_80_0 : pm_w d 80 0 ls st h Q ↔ pm_lq ls 0 fun x => pm_w d 80 1 ls (.inr (.inr x) :: st) h Q := pw_aload_n (show decode (pm_b 80) 0 = .ok (.aload_n 0, 1) by decide +kernel)
theorem ux_80_1 : pm_w d 80 1 ls st h Q ↔ pm_li ls 1 fun x => pm_w d 80 2 ls (.inl x :: st) h Q := pw_iload_n (show decode (pm_b 80) 1 = .ok (.iload_n 1, 1) by decide +kernel)
theorem ux_80_2 : pm_w d 80 2 ls st h Q ↔ pm_li ls 2 fun x => pm_w d 80 3 ls (.inl x :: st) h Q := pw_iload_n (show decode (pm_b 80) 2 = .ok (.iload_n 2, 1) by decide +kernel)
theorem ux_80_3 : pm_w d 80 3 ls st h Q ↔ pm_r (st.drop 2) fun a s => (2 ≤ st.length ∧ pm_wt s ≤ 8 ∧ pm_tg h a 4) ∧ pm_ok d 81 (.inr (.inr (some a)) :: (st.take 2).reverse) h fun r h1 => pm_w d 80 6 ls (pm_pu r s) h1 Q := pw_virt (show decode (pm_b 80) 3 = .ok (.invokevirtual 116, 3) by decide +kernel) mx_4_116
theorem ux_80_6 : pm_w d 80 6 ls st h Q ↔ pm_i st fun x s => pm_w d 80 7 (pm_s1 ls 3 (.inl x)) s h Q := pw_istore_n (show decode (pm_b 80) 6 = .ok (.istore_n 3, 1) by decide +kernel) (by decide)
theorem ux_80_7 : pm_w d 80 7 ls st h Q ↔ pm_w d 80 8 ls (.inl 0 :: st) h Q := pw_iconst (show decode (pm_b 80) 7 = .ok (.iconst 0, 1) by decide +kernel) (by unfold pm_I32; decide)
theorem ux_80_8 : pm_w d 80 8 ls st h Q ↔ pm_i st fun x s => pm_w d 80 10 (pm_s1 ls 4 (.inl x)) s h Q := pw_istore (show decode (pm_b 80) 8 = .ok (.istore 4, 2) by decide +kernel) (by decide)
theorem ux_80_10 : pm_w d 80 10 ls st h Q ↔ pm_li ls 4 fun x => pm_w d 80 12 ls (.inl x :: st) h Q := pw_iload (show decode (pm_b 80) 10 = .ok (.iload 4, 2) by decide +kernel)
theorem ux_80_12 : pm_w d 80 12 ls st h Q ↔ pm_w d 80 14 ls (.inl 1000000 :: st) h Q := pw_ldc (show decode (pm_b 80) 12 = .ok (.ldc 51, 2) by decide +kernel) kx_4_51
theorem ux_80_14 : pm_w d 80 14 ls st h Q ↔ pm_i st fun y s => pm_i s fun x s => ((y ≤ x) → pm_w d 80 187 ls s h Q) ∧ (¬ (y ≤ x) → pm_w d 80 17 ls s h Q) := pw_ic_ge (show decode (pm_b 80) 14 = .ok (.if_icmp .ge 173, 3) by decide +kernel) (by decide)
theorem ux_80_17 : pm_w d 80 17 ls st h Q ↔ pm_li ls 3 fun x => pm_w d 80 18 ls (.inl x :: st) h Q := pw_iload_n (show decode (pm_b 80) 17 = .ok (.iload_n 3, 1) by decide +kernel)
theorem ux_80_18 : pm_w d 80 18 ls st h Q ↔ pm_i st fun x s => ((x < 0) → pm_w d 80 187 ls s h Q) ∧ (¬ (x < 0) → pm_w d 80 21 ls s h Q) := pw_if_lt (show decode (pm_b 80) 18 = .ok (.ifCond .lt 169, 3) by decide +kernel) (by decide)
theorem ux_80_21 : pm_w d 80 21 ls st h Q ↔ pm_lq ls 0 fun x => pm_w d 80 22 ls (.inr (.inr x) :: st) h Q := pw_aload_n (show decode (pm_b 80) 21 = .ok (.aload_n 0, 1) by decide +kernel)
theorem ux_80_22 : pm_w d 80 22 ls st h Q ↔ pm_r st fun a s => pm_tgs h a [4] ∧ pm_w d 80 25 ls (.inr (.inr (h.2.1 a 6)) :: s) h Q := pw_get (show decode (pm_b 80) 22 = .ok (.getfield 23, 3) by decide +kernel) fx_4_23
theorem ux_80_25 : pm_w d 80 25 ls st h Q ↔ pm_li ls 1 fun x => pm_w d 80 26 ls (.inl x :: st) h Q := pw_iload_n (show decode (pm_b 80) 25 = .ok (.iload_n 1, 1) by decide +kernel)
theorem ux_80_26 : pm_w d 80 26 ls st h Q ↔ pm_i st fun x s => pm_r s fun a s => (pm_inb h a 23 x ∨ pm_inb h a 24 x ∨ pm_inb h a 25 x) ∧ pm_w d 80 27 ls (.inr (.inr (h.2.1 a x.toNat)) :: s) h Q := pw_aaload (show decode (pm_b 80) 26 = .ok (.aaload, 1) by decide +kernel)
theorem ux_80_27 : pm_w d 80 27 ls st h Q ↔ pm_li ls 2 fun x => pm_w d 80 28 ls (.inl x :: st) h Q := pw_iload_n (show decode (pm_b 80) 27 = .ok (.iload_n 2, 1) by decide +kernel)
theorem ux_80_28 : pm_w d 80 28 ls st h Q ↔ pm_i st fun x s => pm_r s fun a s => pm_inb h a 20 x ∧ pm_w d 80 29 ls (.inl (h.1 a x.toNat) :: s) h Q := pw_iaload (show decode (pm_b 80) 28 = .ok (.iaload, 1) by decide +kernel)
theorem ux_80_29 : pm_w d 80 29 ls st h Q ↔ pm_i st fun x s => ((x ≤ 0) → pm_w d 80 187 ls s h Q) ∧ (¬ (x ≤ 0) → pm_w d 80 32 ls s h Q) := pw_if_le (show decode (pm_b 80) 29 = .ok (.ifCond .le 158, 3) by decide +kernel) (by decide)
theorem ux_80_32 : pm_w d 80 32 ls st h Q ↔ pm_lq ls 0 fun x => pm_w d 80 33 ls (.inr (.inr x) :: st) h Q := pw_aload_n (show decode (pm_b 80) 32 = .ok (.aload_n 0, 1) by decide +kernel)
theorem ux_80_33 : pm_w d 80 33 ls st h Q ↔ pm_li ls 1 fun x => pm_w d 80 34 ls (.inl x :: st) h Q := pw_iload_n (show decode (pm_b 80) 33 = .ok (.iload_n 1, 1) by decide +kernel)
theorem ux_80_34 : pm_w d 80 34 ls st h Q ↔ pm_li ls 2 fun x => pm_w d 80 35 ls (.inl x :: st) h Q := pw_iload_n (show decode (pm_b 80) 34 = .ok (.iload_n 2, 1) by decide +kernel)
theorem ux_80_35 : pm_w d 80 35 ls st h Q ↔ pm_r (st.drop 2) fun a s => (2 ≤ st.length ∧ pm_wt s ≤ 8 ∧ pm_tg h a 4) ∧ pm_ok d 82 (.inr (.inr (some a)) :: (st.take 2).reverse) h fun r h1 => pm_w d 80 38 ls (pm_pu r s) h1 Q := pw_virt (show decode (pm_b 80) 35 = .ok (.invokevirtual 119, 3) by decide +kernel) mx_4_119
theorem ux_80_38 : pm_w d 80 38 ls st h Q ↔ pm_i st fun x s => pm_w d 80 40 (pm_s1 ls 5 (.inl x)) s h Q := pw_istore (show decode (pm_b 80) 38 = .ok (.istore 5, 2) by decide +kernel) (by decide)
theorem ux_80_40 : pm_w d 80 40 ls st h Q ↔ pm_li ls 5 fun x => pm_w d 80 42 ls (.inl x :: st) h Q := pw_iload (show decode (pm_b 80) 40 = .ok (.iload 5, 2) by decide +kernel)
theorem ux_80_42 : pm_w d 80 42 ls st h Q ↔ pm_i st fun x s => ((0 ≤ x) → pm_w d 80 46 ls s h Q) ∧ (¬ (0 ≤ x) → pm_w d 80 45 ls s h Q) := pw_if_ge (show decode (pm_b 80) 42 = .ok (.ifCond .ge 4, 3) by decide +kernel) (by decide)
theorem ux_80_45 : pm_w d 80 45 ls st h Q ↔ st = [] ∧ Q none h := pw_return (show decode (pm_b 80) 45 = .ok (.return_, 1) by decide +kernel) rfl
theorem ux_80_46 : pm_w d 80 46 ls st h Q ↔ pm_li ls 5 fun x => pm_w d 80 48 ls (.inl x :: st) h Q := pw_iload (show decode (pm_b 80) 46 = .ok (.iload 5, 2) by decide +kernel)
theorem ux_80_48 : pm_w d 80 48 ls st h Q ↔ pm_li ls 2 fun x => pm_w d 80 49 ls (.inl x :: st) h Q := pw_iload_n (show decode (pm_b 80) 48 = .ok (.iload_n 2, 1) by decide +kernel)
theorem ux_80_49 : pm_w d 80 49 ls st h Q ↔ pm_i st fun y s => pm_i s fun x s => ((x ≤ y) → pm_w d 80 68 ls s h Q) ∧ (¬ (x ≤ y) → pm_w d 80 52 ls s h Q) := pw_ic_le (show decode (pm_b 80) 49 = .ok (.if_icmp .le 19, 3) by decide +kernel) (by decide)
theorem ux_80_52 : pm_w d 80 52 ls st h Q ↔ pm_lq ls 0 fun x => pm_w d 80 53 ls (.inr (.inr x) :: st) h Q := pw_aload_n (show decode (pm_b 80) 52 = .ok (.aload_n 0, 1) by decide +kernel)
theorem ux_80_53 : pm_w d 80 53 ls st h Q ↔ pm_r st fun a s => pm_tgs h a [4] ∧ pm_w d 80 56 ls (.inr (.inr (h.2.1 a 5)) :: s) h Q := pw_get (show decode (pm_b 80) 53 = .ok (.getfield 20, 3) by decide +kernel) fx_4_20
theorem ux_80_56 : pm_w d 80 56 ls st h Q ↔ pm_li ls 1 fun x => pm_w d 80 57 ls (.inl x :: st) h Q := pw_iload_n (show decode (pm_b 80) 56 = .ok (.iload_n 1, 1) by decide +kernel)
theorem ux_80_57 : pm_w d 80 57 ls st h Q ↔ pm_i st fun x s => pm_r s fun a s => (pm_inb h a 23 x ∨ pm_inb h a 24 x ∨ pm_inb h a 25 x) ∧ pm_w d 80 58 ls (.inr (.inr (h.2.1 a x.toNat)) :: s) h Q := pw_aaload (show decode (pm_b 80) 57 = .ok (.aaload, 1) by decide +kernel)
theorem ux_80_58 : pm_w d 80 58 ls st h Q ↔ pm_li ls 5 fun x => pm_w d 80 60 ls (.inl x :: st) h Q := pw_iload (show decode (pm_b 80) 58 = .ok (.iload 5, 2) by decide +kernel)
theorem ux_80_60 : pm_w d 80 60 ls st h Q ↔ pm_i st fun x s => pm_r s fun a s => pm_inb h a 20 x ∧ pm_w d 80 61 ls (.inl (h.1 a x.toNat) :: s) h Q := pw_iaload (show decode (pm_b 80) 60 = .ok (.iaload, 1) by decide +kernel)
theorem ux_80_61 : pm_w d 80 61 ls st h Q ↔ pm_i st fun x s => ((x ≤ 0) → pm_w d 80 68 ls s h Q) ∧ (¬ (x ≤ 0) → pm_w d 80 64 ls s h Q) := pw_if_le (show decode (pm_b 80) 61 = .ok (.ifCond .le 7, 3) by decide +kernel) (by decide)
theorem ux_80_64 : pm_w d 80 64 ls st h Q ↔ pm_w d 80 65 ls (.inl 1 :: st) h Q := pw_iconst (show decode (pm_b 80) 64 = .ok (.iconst 1, 1) by decide +kernel) (by unfold pm_I32; decide)
theorem ux_80_65 : pm_w d 80 65 ls st h Q ↔ pm_w d 80 69 ls st h Q := pw_goto (show decode (pm_b 80) 65 = .ok (.goto 4, 3) by decide +kernel) (by decide)
theorem ux_80_68 : pm_w d 80 68 ls st h Q ↔ pm_w d 80 69 ls (.inl 0 :: st) h Q := pw_iconst (show decode (pm_b 80) 68 = .ok (.iconst 0, 1) by decide +kernel) (by unfold pm_I32; decide)
theorem ux_80_69 : pm_w d 80 69 ls st h Q ↔ pm_i st fun x s => pm_w d 80 71 (pm_s1 ls 6 (.inl x)) s h Q := pw_istore (show decode (pm_b 80) 69 = .ok (.istore 6, 2) by decide +kernel) (by decide)
theorem ux_80_71 : pm_w d 80 71 ls st h Q ↔ pm_li ls 6 fun x => pm_w d 80 73 ls (.inl x :: st) h Q := pw_iload (show decode (pm_b 80) 71 = .ok (.iload 6, 2) by decide +kernel)
theorem ux_80_73 : pm_w d 80 73 ls st h Q ↔ pm_i st fun x s => ((x = 0) → pm_w d 80 81 ls s h Q) ∧ (¬ (x = 0) → pm_w d 80 76 ls s h Q) := pw_if_eq (show decode (pm_b 80) 73 = .ok (.ifCond .eq 8, 3) by decide +kernel) (by decide)
theorem ux_80_76 : pm_w d 80 76 ls st h Q ↔ pm_li ls 5 fun x => pm_w d 80 78 ls (.inl x :: st) h Q := pw_iload (show decode (pm_b 80) 76 = .ok (.iload 5, 2) by decide +kernel)
theorem ux_80_78 : pm_w d 80 78 ls st h Q ↔ pm_w d 80 82 ls st h Q := pw_goto (show decode (pm_b 80) 78 = .ok (.goto 4, 3) by decide +kernel) (by decide)
theorem ux_80_81 : pm_w d 80 81 ls st h Q ↔ pm_li ls 3 fun x => pm_w d 80 82 ls (.inl x :: st) h Q := pw_iload_n (show decode (pm_b 80) 81 = .ok (.iload_n 3, 1) by decide +kernel)
theorem ux_80_82 : pm_w d 80 82 ls st h Q ↔ pm_i st fun x s => pm_w d 80 84 (pm_s1 ls 7 (.inl x)) s h Q := pw_istore (show decode (pm_b 80) 82 = .ok (.istore 7, 2) by decide +kernel) (by decide)
theorem ux_80_84 : pm_w d 80 84 ls st h Q ↔ pm_li ls 6 fun x => pm_w d 80 86 ls (.inl x :: st) h Q := pw_iload (show decode (pm_b 80) 84 = .ok (.iload 6, 2) by decide +kernel)
theorem ux_80_86 : pm_w d 80 86 ls st h Q ↔ pm_i st fun x s => ((x = 0) → pm_w d 80 101 ls s h Q) ∧ (¬ (x = 0) → pm_w d 80 89 ls s h Q) := pw_if_eq (show decode (pm_b 80) 86 = .ok (.ifCond .eq 15, 3) by decide +kernel) (by decide)
theorem ux_80_89 : pm_w d 80 89 ls st h Q ↔ pm_lq ls 0 fun x => pm_w d 80 90 ls (.inr (.inr x) :: st) h Q := pw_aload_n (show decode (pm_b 80) 89 = .ok (.aload_n 0, 1) by decide +kernel)
theorem ux_80_90 : pm_w d 80 90 ls st h Q ↔ pm_r st fun a s => pm_tgs h a [4] ∧ pm_w d 80 93 ls (.inr (.inr (h.2.1 a 5)) :: s) h Q := pw_get (show decode (pm_b 80) 90 = .ok (.getfield 20, 3) by decide +kernel) fx_4_20
theorem ux_80_93 : pm_w d 80 93 ls st h Q ↔ pm_li ls 1 fun x => pm_w d 80 94 ls (.inl x :: st) h Q := pw_iload_n (show decode (pm_b 80) 93 = .ok (.iload_n 1, 1) by decide +kernel)
theorem ux_80_94 : pm_w d 80 94 ls st h Q ↔ pm_i st fun x s => pm_r s fun a s => (pm_inb h a 23 x ∨ pm_inb h a 24 x ∨ pm_inb h a 25 x) ∧ pm_w d 80 95 ls (.inr (.inr (h.2.1 a x.toNat)) :: s) h Q := pw_aaload (show decode (pm_b 80) 94 = .ok (.aaload, 1) by decide +kernel)
theorem ux_80_95 : pm_w d 80 95 ls st h Q ↔ pm_li ls 7 fun x => pm_w d 80 97 ls (.inl x :: st) h Q := pw_iload (show decode (pm_b 80) 95 = .ok (.iload 7, 2) by decide +kernel)
theorem ux_80_97 : pm_w d 80 97 ls st h Q ↔ pm_i st fun x s => pm_r s fun a s => pm_inb h a 20 x ∧ pm_w d 80 98 ls (.inl (h.1 a x.toNat) :: s) h Q := pw_iaload (show decode (pm_b 80) 97 = .ok (.iaload, 1) by decide +kernel)
theorem ux_80_98 : pm_w d 80 98 ls st h Q ↔ pm_w d 80 120 ls st h Q := pw_goto (show decode (pm_b 80) 98 = .ok (.goto 22, 3) by decide +kernel) (by decide)
theorem ux_80_101 : pm_w d 80 101 ls st h Q ↔ pm_lq ls 0 fun x => pm_w d 80 102 ls (.inr (.inr x) :: st) h Q := pw_aload_n (show decode (pm_b 80) 101 = .ok (.aload_n 0, 1) by decide +kernel)
theorem ux_80_102 : pm_w d 80 102 ls st h Q ↔ pm_r st fun a s => pm_tgs h a [4] ∧ pm_w d 80 105 ls (.inr (.inr (h.2.1 a 5)) :: s) h Q := pw_get (show decode (pm_b 80) 102 = .ok (.getfield 20, 3) by decide +kernel) fx_4_20
theorem ux_80_105 : pm_w d 80 105 ls st h Q ↔ pm_li ls 1 fun x => pm_w d 80 106 ls (.inl x :: st) h Q := pw_iload_n (show decode (pm_b 80) 105 = .ok (.iload_n 1, 1) by decide +kernel)
theorem ux_80_106 : pm_w d 80 106 ls st h Q ↔ pm_i st fun x s => pm_r s fun a s => (pm_inb h a 23 x ∨ pm_inb h a 24 x ∨ pm_inb h a 25 x) ∧ pm_w d 80 107 ls (.inr (.inr (h.2.1 a x.toNat)) :: s) h Q := pw_aaload (show decode (pm_b 80) 106 = .ok (.aaload, 1) by decide +kernel)
theorem ux_80_107 : pm_w d 80 107 ls st h Q ↔ pm_li ls 7 fun x => pm_w d 80 109 ls (.inl x :: st) h Q := pw_iload (show decode (pm_b 80) 107 = .ok (.iload 7, 2) by decide +kernel)
theorem ux_80_109 : pm_w d 80 109 ls st h Q ↔ pm_i st fun x s => pm_r s fun a s => pm_inb h a 20 x ∧ pm_w d 80 110 ls (.inl (h.1 a x.toNat) :: s) h Q := pw_iaload (show decode (pm_b 80) 109 = .ok (.iaload, 1) by decide +kernel)
theorem ux_80_110 : pm_w d 80 110 ls st h Q ↔ pm_lq ls 0 fun x => pm_w d 80 111 ls (.inr (.inr x) :: st) h Q := pw_aload_n (show decode (pm_b 80) 110 = .ok (.aload_n 0, 1) by decide +kernel)
theorem ux_80_111 : pm_w d 80 111 ls st h Q ↔ pm_r st fun a s => pm_tgs h a [4] ∧ pm_w d 80 114 ls (.inr (.inr (h.2.1 a 4)) :: s) h Q := pw_get (show decode (pm_b 80) 111 = .ok (.getfield 15, 3) by decide +kernel) fx_4_15
theorem ux_80_114 : pm_w d 80 114 ls st h Q ↔ pm_li ls 5 fun x => pm_w d 80 116 ls (.inl x :: st) h Q := pw_iload (show decode (pm_b 80) 114 = .ok (.iload 5, 2) by decide +kernel)
theorem ux_80_116 : pm_w d 80 116 ls st h Q ↔ pm_i st fun x s => pm_r s fun a s => pm_inb h a 20 x ∧ pm_w d 80 117 ls (.inl (h.1 a x.toNat) :: s) h Q := pw_iaload (show decode (pm_b 80) 116 = .ok (.iaload, 1) by decide +kernel)
theorem ux_80_117 : pm_w d 80 117 ls st h Q ↔ pm_i st fun y s => pm_i s fun x s => pm_wt s ≤ 8 ∧ pm_w d 80 120 ls (.inl (min x y) :: s) h Q := pw_min (show decode (pm_b 80) 117 = .ok (.invokestatic 76, 3) by decide +kernel) mx_4_76
theorem ux_80_120 : pm_w d 80 120 ls st h Q ↔ pm_i st fun x s => pm_w d 80 122 (pm_s1 ls 8 (.inl x)) s h Q := pw_istore (show decode (pm_b 80) 120 = .ok (.istore 8, 2) by decide +kernel) (by decide)
theorem ux_80_122 : pm_w d 80 122 ls st h Q ↔ pm_lq ls 0 fun x => pm_w d 80 123 ls (.inr (.inr x) :: st) h Q := pw_aload_n (show decode (pm_b 80) 122 = .ok (.aload_n 0, 1) by decide +kernel)
theorem ux_80_123 : pm_w d 80 123 ls st h Q ↔ pm_li ls 5 fun x => pm_w d 80 125 ls (.inl x :: st) h Q := pw_iload (show decode (pm_b 80) 123 = .ok (.iload 5, 2) by decide +kernel)
theorem ux_80_125 : pm_w d 80 125 ls st h Q ↔ pm_li ls 8 fun x => pm_w d 80 127 ls (.inl x :: st) h Q := pw_iload (show decode (pm_b 80) 125 = .ok (.iload 8, 2) by decide +kernel)
theorem ux_80_127 : pm_w d 80 127 ls st h Q ↔ pm_r (st.drop 2) fun a s => (2 ≤ st.length ∧ pm_wt s ≤ 8 ∧ pm_tg h a 4) ∧ pm_ok d 73 (.inr (.inr (some a)) :: (st.take 2).reverse) h fun r h1 => pm_w d 80 130 ls (pm_pu r s) h1 Q := pw_virt (show decode (pm_b 80) 127 = .ok (.invokevirtual 107, 3) by decide +kernel) mx_4_107
theorem ux_80_130 : pm_w d 80 130 ls st h Q ↔ pm_i st fun x s => pm_w d 80 132 (pm_s1 ls 8 (.inl x)) s h Q := pw_istore (show decode (pm_b 80) 130 = .ok (.istore 8, 2) by decide +kernel) (by decide)
theorem ux_80_132 : pm_w d 80 132 ls st h Q ↔ pm_lq ls 0 fun x => pm_w d 80 133 ls (.inr (.inr x) :: st) h Q := pw_aload_n (show decode (pm_b 80) 132 = .ok (.aload_n 0, 1) by decide +kernel)
theorem ux_80_133 : pm_w d 80 133 ls st h Q ↔ pm_li ls 5 fun x => pm_w d 80 135 ls (.inl x :: st) h Q := pw_iload (show decode (pm_b 80) 133 = .ok (.iload 5, 2) by decide +kernel)
theorem ux_80_135 : pm_w d 80 135 ls st h Q ↔ pm_li ls 8 fun x => pm_w d 80 137 ls (.inl x :: st) h Q := pw_iload (show decode (pm_b 80) 135 = .ok (.iload 8, 2) by decide +kernel)
theorem ux_80_137 : pm_w d 80 137 ls st h Q ↔ pm_r (st.drop 2) fun a s => (2 ≤ st.length ∧ pm_wt s ≤ 8 ∧ pm_tg h a 4) ∧ pm_ok d 74 (.inr (.inr (some a)) :: (st.take 2).reverse) h fun r h1 => pm_w d 80 140 ls (pm_pu r s) h1 Q := pw_virt (show decode (pm_b 80) 137 = .ok (.invokevirtual 110, 3) by decide +kernel) mx_4_110
theorem ux_80_140 : pm_w d 80 140 ls st h Q ↔ pm_lq ls 0 fun x => pm_w d 80 141 ls (.inr (.inr x) :: st) h Q := pw_aload_n (show decode (pm_b 80) 140 = .ok (.aload_n 0, 1) by decide +kernel)
theorem ux_80_141 : pm_w d 80 141 ls st h Q ↔ pm_r st fun a s => pm_tgs h a [4] ∧ pm_w d 80 144 ls (.inr (.inr (h.2.1 a 4)) :: s) h Q := pw_get (show decode (pm_b 80) 141 = .ok (.getfield 15, 3) by decide +kernel) fx_4_15
theorem ux_80_144 : pm_w d 80 144 ls st h Q ↔ pm_li ls 5 fun x => pm_w d 80 146 ls (.inl x :: st) h Q := pw_iload (show decode (pm_b 80) 144 = .ok (.iload 5, 2) by decide +kernel)
theorem ux_80_146 : pm_w d 80 146 ls st h Q ↔ pm_i st fun y s => pm_q s fun x s => pm_w d 80 147 ls (.inl y :: .inr (.inr x) :: .inl y :: .inr (.inr x) :: s) h Q := pw_dup2 (show decode (pm_b 80) 146 = .ok (.dup2, 1) by decide +kernel)
theorem ux_80_147 : pm_w d 80 147 ls st h Q ↔ pm_i st fun x s => pm_r s fun a s => pm_inb h a 20 x ∧ pm_w d 80 148 ls (.inl (h.1 a x.toNat) :: s) h Q := pw_iaload (show decode (pm_b 80) 147 = .ok (.iaload, 1) by decide +kernel)
theorem ux_80_148 : pm_w d 80 148 ls st h Q ↔ pm_li ls 8 fun x => pm_w d 80 150 ls (.inl x :: st) h Q := pw_iload (show decode (pm_b 80) 148 = .ok (.iload 8, 2) by decide +kernel)
theorem ux_80_150 : pm_w d 80 150 ls st h Q ↔ pm_i st fun y s => pm_i s fun x s => pm_I32 (x - y) ∧ pm_w d 80 151 ls (.inl (x - y) :: s) h Q := pw_isub (show decode (pm_b 80) 150 = .ok (.isub, 1) by decide +kernel)
theorem ux_80_151 : pm_w d 80 151 ls st h Q ↔ pm_i st fun v s => pm_i s fun x s => pm_r s fun a s => pm_inb h a 20 x ∧ pm_w d 80 152 ls s (pm_wI h a x.toNat v) Q := pw_iastore (show decode (pm_b 80) 151 = .ok (.iastore, 1) by decide +kernel)
theorem ux_80_152 : pm_w d 80 152 ls st h Q ↔ pm_lq ls 0 fun x => pm_w d 80 153 ls (.inr (.inr x) :: st) h Q := pw_aload_n (show decode (pm_b 80) 152 = .ok (.aload_n 0, 1) by decide +kernel)
theorem ux_80_153 : pm_w d 80 153 ls st h Q ↔ pm_li ls 1 fun x => pm_w d 80 154 ls (.inl x :: st) h Q := pw_iload_n (show decode (pm_b 80) 153 = .ok (.iload_n 1, 1) by decide +kernel)
theorem ux_80_154 : pm_w d 80 154 ls st h Q ↔ pm_li ls 7 fun x => pm_w d 80 156 ls (.inl x :: st) h Q := pw_iload (show decode (pm_b 80) 154 = .ok (.iload 7, 2) by decide +kernel)
theorem ux_80_156 : pm_w d 80 156 ls st h Q ↔ pm_li ls 8 fun x => pm_w d 80 158 ls (.inl x :: st) h Q := pw_iload (show decode (pm_b 80) 156 = .ok (.iload 8, 2) by decide +kernel)
theorem ux_80_158 : pm_w d 80 158 ls st h Q ↔ pm_i st fun x s => pm_I32 (-x) ∧ pm_w d 80 159 ls (.inl (-x) :: s) h Q := pw_ineg (show decode (pm_b 80) 158 = .ok (.ineg, 1) by decide +kernel)
theorem ux_80_159 : pm_w d 80 159 ls st h Q ↔ pm_r (st.drop 3) fun a s => (3 ≤ st.length ∧ pm_wt s ≤ 8 ∧ pm_tg h a 4) ∧ pm_ok d 65 (.inr (.inr (some a)) :: (st.take 3).reverse) h fun r h1 => pm_w d 80 162 ls (pm_pu r s) h1 Q := pw_virt (show decode (pm_b 80) 159 = .ok (.invokevirtual 81, 3) by decide +kernel) mx_4_81
theorem ux_80_162 : pm_w d 80 162 ls st h Q ↔ pm_lq ls 0 fun x => pm_w d 80 163 ls (.inr (.inr x) :: st) h Q := pw_aload_n (show decode (pm_b 80) 162 = .ok (.aload_n 0, 1) by decide +kernel)
theorem ux_80_163 : pm_w d 80 163 ls st h Q ↔ pm_r st fun a s => pm_tgs h a [4] ∧ pm_w d 80 166 ls (.inr (.inr (h.2.1 a 4)) :: s) h Q := pw_get (show decode (pm_b 80) 163 = .ok (.getfield 15, 3) by decide +kernel) fx_4_15
theorem ux_80_166 : pm_w d 80 166 ls st h Q ↔ pm_li ls 7 fun x => pm_w d 80 168 ls (.inl x :: st) h Q := pw_iload (show decode (pm_b 80) 166 = .ok (.iload 7, 2) by decide +kernel)
theorem ux_80_168 : pm_w d 80 168 ls st h Q ↔ pm_i st fun y s => pm_q s fun x s => pm_w d 80 169 ls (.inl y :: .inr (.inr x) :: .inl y :: .inr (.inr x) :: s) h Q := pw_dup2 (show decode (pm_b 80) 168 = .ok (.dup2, 1) by decide +kernel)
theorem ux_80_169 : pm_w d 80 169 ls st h Q ↔ pm_i st fun x s => pm_r s fun a s => pm_inb h a 20 x ∧ pm_w d 80 170 ls (.inl (h.1 a x.toNat) :: s) h Q := pw_iaload (show decode (pm_b 80) 169 = .ok (.iaload, 1) by decide +kernel)
theorem ux_80_170 : pm_w d 80 170 ls st h Q ↔ pm_li ls 8 fun x => pm_w d 80 172 ls (.inl x :: st) h Q := pw_iload (show decode (pm_b 80) 170 = .ok (.iload 8, 2) by decide +kernel)
theorem ux_80_172 : pm_w d 80 172 ls st h Q ↔ pm_i st fun y s => pm_i s fun x s => pm_I32 (x + y) ∧ pm_w d 80 173 ls (.inl (x + y) :: s) h Q := pw_iadd (show decode (pm_b 80) 172 = .ok (.iadd, 1) by decide +kernel)
theorem ux_80_173 : pm_w d 80 173 ls st h Q ↔ pm_i st fun v s => pm_i s fun x s => pm_r s fun a s => pm_inb h a 20 x ∧ pm_w d 80 174 ls s (pm_wI h a x.toNat v) Q := pw_iastore (show decode (pm_b 80) 173 = .ok (.iastore, 1) by decide +kernel)
theorem ux_80_174 : pm_w d 80 174 ls st h Q ↔ pm_lq ls 0 fun x => pm_w d 80 175 ls (.inr (.inr x) :: st) h Q := pw_aload_n (show decode (pm_b 80) 174 = .ok (.aload_n 0, 1) by decide +kernel)
theorem ux_80_175 : pm_w d 80 175 ls st h Q ↔ pm_li ls 1 fun x => pm_w d 80 176 ls (.inl x :: st) h Q := pw_iload_n (show decode (pm_b 80) 175 = .ok (.iload_n 1, 1) by decide +kernel)
theorem ux_80_176 : pm_w d 80 176 ls st h Q ↔ pm_li ls 2 fun x => pm_w d 80 177 ls (.inl x :: st) h Q := pw_iload_n (show decode (pm_b 80) 176 = .ok (.iload_n 2, 1) by decide +kernel)
theorem ux_80_177 : pm_w d 80 177 ls st h Q ↔ pm_r (st.drop 2) fun a s => (2 ≤ st.length ∧ pm_wt s ≤ 8 ∧ pm_tg h a 4) ∧ pm_ok d 81 (.inr (.inr (some a)) :: (st.take 2).reverse) h fun r h1 => pm_w d 80 180 ls (pm_pu r s) h1 Q := pw_virt (show decode (pm_b 80) 177 = .ok (.invokevirtual 116, 3) by decide +kernel) mx_4_116
theorem ux_80_180 : pm_w d 80 180 ls st h Q ↔ pm_i st fun x s => pm_w d 80 181 (pm_s1 ls 3 (.inl x)) s h Q := pw_istore_n (show decode (pm_b 80) 180 = .ok (.istore_n 3, 1) by decide +kernel) (by decide)
theorem ux_80_181 : pm_w d 80 181 ls st h Q ↔ pm_li ls 4 fun x => pm_I32 (x + 1) ∧ pm_w d 80 184 (pm_s1 ls 4 (.inl (x + 1))) st h Q := pw_iinc (show decode (pm_b 80) 181 = .ok (.iinc 4 1, 3) by decide +kernel) (by decide)
theorem ux_80_184 : pm_w d 80 184 ls st h Q ↔ pm_w d 80 10 ls st h Q := pw_goto (show decode (pm_b 80) 184 = .ok (.goto (-174), 3) by decide +kernel) (by decide)
theorem ux_80_187 : pm_w d 80 187 ls st h Q ↔ st = [] ∧ Q none h := pw_return (show decode (pm_b 80) 187 = .ok (.return_, 1) by decide +kernel) rfl
-- 81: LLaying.lastLaidBehind
theorem ux_81_0 : pm_w d 81 0 ls st h Q ↔ pm_lq ls 0 fun x => pm_w d 81 1 ls (.inr (.inr x) :: st) h Q := pw_aload_n (show decode (pm_b 81) 0 = .ok (.aload_n 0, 1) by decide +kernel)
theorem ux_81_1 : pm_w d 81 1 ls st h Q ↔ pm_r st fun a s => pm_tgs h a [4] ∧ pm_w d 81 4 ls (.inl (h.1 a 1) :: s) h Q := pw_get (show decode (pm_b 81) 1 = .ok (.getfield 61, 3) by decide +kernel) fx_4_61
theorem ux_81_4 : pm_w d 81 4 ls st h Q ↔ pm_w d 81 5 ls (.inl 1 :: st) h Q := pw_iconst (show decode (pm_b 81) 4 = .ok (.iconst 1, 1) by decide +kernel) (by unfold pm_I32; decide)
theorem ux_81_5 : pm_w d 81 5 ls st h Q ↔ pm_i st fun y s => pm_i s fun x s => pm_I32 (x - y) ∧ pm_w d 81 6 ls (.inl (x - y) :: s) h Q := pw_isub (show decode (pm_b 81) 5 = .ok (.isub, 1) by decide +kernel)
theorem ux_81_6 : pm_w d 81 6 ls st h Q ↔ pm_i st fun x s => pm_w d 81 7 (pm_s1 ls 3 (.inl x)) s h Q := pw_istore_n (show decode (pm_b 81) 6 = .ok (.istore_n 3, 1) by decide +kernel) (by decide)
theorem ux_81_7 : pm_w d 81 7 ls st h Q ↔ pm_li ls 3 fun x => pm_w d 81 8 ls (.inl x :: st) h Q := pw_iload_n (show decode (pm_b 81) 7 = .ok (.iload_n 3, 1) by decide +kernel)
theorem ux_81_8 : pm_w d 81 8 ls st h Q ↔ pm_li ls 2 fun x => pm_w d 81 9 ls (.inl x :: st) h Q := pw_iload_n (show decode (pm_b 81) 8 = .ok (.iload_n 2, 1) by decide +kernel)
theorem ux_81_9 : pm_w d 81 9 ls st h Q ↔ pm_i st fun y s => pm_i s fun x s => ((x ≤ y) → pm_w d 81 31 ls s h Q) ∧ (¬ (x ≤ y) → pm_w d 81 12 ls s h Q) := pw_ic_le (show decode (pm_b 81) 9 = .ok (.if_icmp .le 22, 3) by decide +kernel) (by decide)
theorem ux_81_12 : pm_w d 81 12 ls st h Q ↔ pm_lq ls 0 fun x => pm_w d 81 13 ls (.inr (.inr x) :: st) h Q := pw_aload_n (show decode (pm_b 81) 12 = .ok (.aload_n 0, 1) by decide +kernel)
theorem ux_81_13 : pm_w d 81 13 ls st h Q ↔ pm_r st fun a s => pm_tgs h a [4] ∧ pm_w d 81 16 ls (.inr (.inr (h.2.1 a 5)) :: s) h Q := pw_get (show decode (pm_b 81) 13 = .ok (.getfield 20, 3) by decide +kernel) fx_4_20
theorem ux_81_16 : pm_w d 81 16 ls st h Q ↔ pm_li ls 1 fun x => pm_w d 81 17 ls (.inl x :: st) h Q := pw_iload_n (show decode (pm_b 81) 16 = .ok (.iload_n 1, 1) by decide +kernel)
theorem ux_81_17 : pm_w d 81 17 ls st h Q ↔ pm_i st fun x s => pm_r s fun a s => (pm_inb h a 23 x ∨ pm_inb h a 24 x ∨ pm_inb h a 25 x) ∧ pm_w d 81 18 ls (.inr (.inr (h.2.1 a x.toNat)) :: s) h Q := pw_aaload (show decode (pm_b 81) 17 = .ok (.aaload, 1) by decide +kernel)
theorem ux_81_18 : pm_w d 81 18 ls st h Q ↔ pm_li ls 3 fun x => pm_w d 81 19 ls (.inl x :: st) h Q := pw_iload_n (show decode (pm_b 81) 18 = .ok (.iload_n 3, 1) by decide +kernel)
theorem ux_81_19 : pm_w d 81 19 ls st h Q ↔ pm_i st fun x s => pm_r s fun a s => pm_inb h a 20 x ∧ pm_w d 81 20 ls (.inl (h.1 a x.toNat) :: s) h Q := pw_iaload (show decode (pm_b 81) 19 = .ok (.iaload, 1) by decide +kernel)
theorem ux_81_20 : pm_w d 81 20 ls st h Q ↔ pm_i st fun x s => ((x ≤ 0) → pm_w d 81 25 ls s h Q) ∧ (¬ (x ≤ 0) → pm_w d 81 23 ls s h Q) := pw_if_le (show decode (pm_b 81) 20 = .ok (.ifCond .le 5, 3) by decide +kernel) (by decide)
theorem ux_81_23 : pm_w d 81 23 ls st h Q ↔ pm_li ls 3 fun x => pm_w d 81 24 ls (.inl x :: st) h Q := pw_iload_n (show decode (pm_b 81) 23 = .ok (.iload_n 3, 1) by decide +kernel)
theorem ux_81_24 : pm_w d 81 24 ls st h Q ↔ pm_i st fun x s => s = [] ∧ Q (some (.inl x)) h := pw_ireturn (show decode (pm_b 81) 24 = .ok (.ireturn, 1) by decide +kernel) rfl
theorem ux_81_25 : pm_w d 81 25 ls st h Q ↔ pm_li ls 3 fun x => pm_I32 (x + (-1)) ∧ pm_w d 81 28 (pm_s1 ls 3 (.inl (x + (-1)))) st h Q := pw_iinc (show decode (pm_b 81) 25 = .ok (.iinc 3 (-1), 3) by decide +kernel) (by decide)
theorem ux_81_28 : pm_w d 81 28 ls st h Q ↔ pm_w d 81 7 ls st h Q := pw_goto (show decode (pm_b 81) 28 = .ok (.goto (-21), 3) by decide +kernel) (by decide)
theorem ux_81_31 : pm_w d 81 31 ls st h Q ↔ pm_w d 81 32 ls (.inl (-1) :: st) h Q := pw_iconst (show decode (pm_b 81) 31 = .ok (.iconst (-1), 1) by decide +kernel) (by unfold pm_I32; decide)
theorem ux_81_32 : pm_w d 81 32 ls st h Q ↔ pm_i st fun x s => s = [] ∧ Q (some (.inl x)) h := pw_ireturn (show decode (pm_b 81) 32 = .ok (.ireturn, 1) by decide +kernel) rfl
-- 82: LLaying.findSwap
theorem ux_82_0 : pm_w d 82 0 ls st h Q ↔ pm_lq ls 0 fun x => pm_w d 82 1 ls (.inr (.inr x) :: st) h Q := pw_aload_n (show decode (pm_b 82) 0 = .ok (.aload_n 0, 1) by decide +kernel)
theorem ux_82_1 : pm_w d 82 1 ls st h Q ↔ pm_r (st.drop 0) fun a s => (0 ≤ st.length ∧ pm_wt s ≤ 8 ∧ pm_tg h a 4) ∧ pm_ok d 67 (.inr (.inr (some a)) :: (st.take 0).reverse) h fun r h1 => pm_w d 82 4 ls (pm_pu r s) h1 Q := pw_virt (show decode (pm_b 82) 1 = .ok (.invokevirtual 85, 3) by decide +kernel) mx_4_85
theorem ux_82_4 : pm_w d 82 4 ls st h Q ↔ pm_lq ls 0 fun x => pm_w d 82 5 ls (.inr (.inr x) :: st) h Q := pw_aload_n (show decode (pm_b 82) 4 = .ok (.aload_n 0, 1) by decide +kernel)
theorem ux_82_5 : pm_w d 82 5 ls st h Q ↔ pm_r st fun a s => pm_tgs h a [4] ∧ pm_w d 82 8 ls (.inr (.inr (h.2.1 a 7)) :: s) h Q := pw_get (show decode (pm_b 82) 5 = .ok (.getfield 26, 3) by decide +kernel) fx_4_26
theorem ux_82_8 : pm_w d 82 8 ls st h Q ↔ pm_li ls 1 fun x => pm_w d 82 9 ls (.inl x :: st) h Q := pw_iload_n (show decode (pm_b 82) 8 = .ok (.iload_n 1, 1) by decide +kernel)
theorem ux_82_9 : pm_w d 82 9 ls st h Q ↔ pm_w d 82 10 ls (.inl (-1) :: st) h Q := pw_iconst (show decode (pm_b 82) 9 = .ok (.iconst (-1), 1) by decide +kernel) (by unfold pm_I32; decide)
theorem ux_82_10 : pm_w d 82 10 ls st h Q ↔ pm_i st fun v s => pm_i s fun x s => pm_r s fun a s => pm_inb h a 20 x ∧ pm_w d 82 11 ls s (pm_wI h a x.toNat v) Q := pw_iastore (show decode (pm_b 82) 10 = .ok (.iastore, 1) by decide +kernel)
theorem ux_82_11 : pm_w d 82 11 ls st h Q ↔ pm_lq ls 0 fun x => pm_w d 82 12 ls (.inr (.inr x) :: st) h Q := pw_aload_n (show decode (pm_b 82) 11 = .ok (.aload_n 0, 1) by decide +kernel)
theorem ux_82_12 : pm_w d 82 12 ls st h Q ↔ pm_r st fun a s => pm_tgs h a [4] ∧ pm_w d 82 15 ls (.inr (.inr (h.2.1 a 8)) :: s) h Q := pw_get (show decode (pm_b 82) 12 = .ok (.getfield 29, 3) by decide +kernel) fx_4_29
theorem ux_82_15 : pm_w d 82 15 ls st h Q ↔ pm_li ls 2 fun x => pm_w d 82 16 ls (.inl x :: st) h Q := pw_iload_n (show decode (pm_b 82) 15 = .ok (.iload_n 2, 1) by decide +kernel)
theorem ux_82_16 : pm_w d 82 16 ls st h Q ↔ pm_li ls 1 fun x => pm_w d 82 17 ls (.inl x :: st) h Q := pw_iload_n (show decode (pm_b 82) 16 = .ok (.iload_n 1, 1) by decide +kernel)
theorem ux_82_17 : pm_w d 82 17 ls st h Q ↔ pm_i st fun v s => pm_i s fun x s => pm_r s fun a s => pm_inb h a 20 x ∧ pm_w d 82 18 ls s (pm_wI h a x.toNat v) Q := pw_iastore (show decode (pm_b 82) 17 = .ok (.iastore, 1) by decide +kernel)
theorem ux_82_18 : pm_w d 82 18 ls st h Q ↔ pm_lq ls 0 fun x => pm_w d 82 19 ls (.inr (.inr x) :: st) h Q := pw_aload_n (show decode (pm_b 82) 18 = .ok (.aload_n 0, 1) by decide +kernel)
theorem ux_82_19 : pm_w d 82 19 ls st h Q ↔ pm_r st fun a s => pm_tgs h a [4] ∧ pm_w d 82 22 ls (.inr (.inr (h.2.1 a 9)) :: s) h Q := pw_get (show decode (pm_b 82) 19 = .ok (.getfield 32, 3) by decide +kernel) fx_4_32
theorem ux_82_22 : pm_w d 82 22 ls st h Q ↔ pm_w d 82 23 ls (.inl 0 :: st) h Q := pw_iconst (show decode (pm_b 82) 22 = .ok (.iconst 0, 1) by decide +kernel) (by unfold pm_I32; decide)
theorem ux_82_23 : pm_w d 82 23 ls st h Q ↔ pm_li ls 2 fun x => pm_w d 82 24 ls (.inl x :: st) h Q := pw_iload_n (show decode (pm_b 82) 23 = .ok (.iload_n 2, 1) by decide +kernel)
theorem ux_82_24 : pm_w d 82 24 ls st h Q ↔ pm_i st fun v s => pm_i s fun x s => pm_r s fun a s => pm_inb h a 20 x ∧ pm_w d 82 25 ls s (pm_wI h a x.toNat v) Q := pw_iastore (show decode (pm_b 82) 24 = .ok (.iastore, 1) by decide +kernel)
theorem ux_82_25 : pm_w d 82 25 ls st h Q ↔ pm_lq ls 0 fun x => pm_w d 82 26 ls (.inr (.inr x) :: st) h Q := pw_aload_n (show decode (pm_b 82) 25 = .ok (.aload_n 0, 1) by decide +kernel)
theorem ux_82_26 : pm_w d 82 26 ls st h Q ↔ pm_w d 82 27 ls (.inl 1 :: st) h Q := pw_iconst (show decode (pm_b 82) 26 = .ok (.iconst 1, 1) by decide +kernel) (by unfold pm_I32; decide)
theorem ux_82_27 : pm_w d 82 27 ls st h Q ↔ pm_i st fun x s => pm_r s fun a s => (pm_tgs h a [4]) ∧ pm_w d 82 30 ls s (pm_wI h a 10 x) Q := pw_put0 (show decode (pm_b 82) 27 = .ok (.putfield 92, 3) by decide +kernel) fx_4_92 (Or.inl rfl)
theorem ux_82_30 : pm_w d 82 30 ls st h Q ↔ pm_w d 82 31 ls (.inl 0 :: st) h Q := pw_iconst (show decode (pm_b 82) 30 = .ok (.iconst 0, 1) by decide +kernel) (by unfold pm_I32; decide)
theorem ux_82_31 : pm_w d 82 31 ls st h Q ↔ pm_i st fun x s => pm_w d 82 32 (pm_s1 ls 3 (.inl x)) s h Q := pw_istore_n (show decode (pm_b 82) 31 = .ok (.istore_n 3, 1) by decide +kernel) (by decide)
theorem ux_82_32 : pm_w d 82 32 ls st h Q ↔ pm_li ls 3 fun x => pm_w d 82 33 ls (.inl x :: st) h Q := pw_iload_n (show decode (pm_b 82) 32 = .ok (.iload_n 3, 1) by decide +kernel)
theorem ux_82_33 : pm_w d 82 33 ls st h Q ↔ pm_lq ls 0 fun x => pm_w d 82 34 ls (.inr (.inr x) :: st) h Q := pw_aload_n (show decode (pm_b 82) 33 = .ok (.aload_n 0, 1) by decide +kernel)
theorem ux_82_34 : pm_w d 82 34 ls st h Q ↔ pm_r st fun a s => pm_tgs h a [4] ∧ pm_w d 82 37 ls (.inl (h.1 a 10) :: s) h Q := pw_get (show decode (pm_b 82) 34 = .ok (.getfield 92, 3) by decide +kernel) fx_4_92
theorem ux_82_37 : pm_w d 82 37 ls st h Q ↔ pm_i st fun y s => pm_i s fun x s => ((y ≤ x) → pm_w d 82 100 ls s h Q) ∧ (¬ (y ≤ x) → pm_w d 82 40 ls s h Q) := pw_ic_ge (show decode (pm_b 82) 37 = .ok (.if_icmp .ge 63, 3) by decide +kernel) (by decide)
theorem ux_82_40 : pm_w d 82 40 ls st h Q ↔ pm_li ls 3 fun x => pm_w d 82 41 ls (.inl x :: st) h Q := pw_iload_n (show decode (pm_b 82) 40 = .ok (.iload_n 3, 1) by decide +kernel)
theorem ux_82_41 : pm_w d 82 41 ls st h Q ↔ pm_w d 82 43 ls (.inl 47 :: st) h Q := pw_bipush (show decode (pm_b 82) 41 = .ok (.bipush 47, 2) by decide +kernel) (by decide)
theorem ux_82_43 : pm_w d 82 43 ls st h Q ↔ pm_i st fun y s => pm_i s fun x s => ((y ≤ x) → pm_w d 82 100 ls s h Q) ∧ (¬ (y ≤ x) → pm_w d 82 46 ls s h Q) := pw_ic_ge (show decode (pm_b 82) 43 = .ok (.if_icmp .ge 57, 3) by decide +kernel) (by decide)
theorem ux_82_46 : pm_w d 82 46 ls st h Q ↔ pm_lq ls 0 fun x => pm_w d 82 47 ls (.inr (.inr x) :: st) h Q := pw_aload_n (show decode (pm_b 82) 46 = .ok (.aload_n 0, 1) by decide +kernel)
theorem ux_82_47 : pm_w d 82 47 ls st h Q ↔ pm_r st fun a s => pm_tgs h a [4] ∧ pm_w d 82 50 ls (.inr (.inr (h.2.1 a 9)) :: s) h Q := pw_get (show decode (pm_b 82) 47 = .ok (.getfield 32, 3) by decide +kernel) fx_4_32
theorem ux_82_50 : pm_w d 82 50 ls st h Q ↔ pm_li ls 3 fun x => pm_w d 82 51 ls (.inl x :: st) h Q := pw_iload_n (show decode (pm_b 82) 50 = .ok (.iload_n 3, 1) by decide +kernel)
theorem ux_82_51 : pm_w d 82 51 ls st h Q ↔ pm_i st fun x s => pm_r s fun a s => pm_inb h a 20 x ∧ pm_w d 82 52 ls (.inl (h.1 a x.toNat) :: s) h Q := pw_iaload (show decode (pm_b 82) 51 = .ok (.iaload, 1) by decide +kernel)
theorem ux_82_52 : pm_w d 82 52 ls st h Q ↔ pm_i st fun x s => pm_w d 82 54 (pm_s1 ls 4 (.inl x)) s h Q := pw_istore (show decode (pm_b 82) 52 = .ok (.istore 4, 2) by decide +kernel) (by decide)
theorem ux_82_54 : pm_w d 82 54 ls st h Q ↔ pm_lq ls 0 fun x => pm_w d 82 55 ls (.inr (.inr x) :: st) h Q := pw_aload_n (show decode (pm_b 82) 54 = .ok (.aload_n 0, 1) by decide +kernel)
theorem ux_82_55 : pm_w d 82 55 ls st h Q ↔ pm_r st fun a s => pm_tgs h a [4] ∧ pm_w d 82 58 ls (.inr (.inr (h.2.1 a 4)) :: s) h Q := pw_get (show decode (pm_b 82) 55 = .ok (.getfield 15, 3) by decide +kernel) fx_4_15
theorem ux_82_58 : pm_w d 82 58 ls st h Q ↔ pm_li ls 4 fun x => pm_w d 82 60 ls (.inl x :: st) h Q := pw_iload (show decode (pm_b 82) 58 = .ok (.iload 4, 2) by decide +kernel)
theorem ux_82_60 : pm_w d 82 60 ls st h Q ↔ pm_i st fun x s => pm_r s fun a s => pm_inb h a 20 x ∧ pm_w d 82 61 ls (.inl (h.1 a x.toNat) :: s) h Q := pw_iaload (show decode (pm_b 82) 60 = .ok (.iaload, 1) by decide +kernel)
theorem ux_82_61 : pm_w d 82 61 ls st h Q ↔ pm_i st fun x s => ((0 < x) → pm_w d 82 82 ls s h Q) ∧ (¬ (0 < x) → pm_w d 82 64 ls s h Q) := pw_if_gt (show decode (pm_b 82) 61 = .ok (.ifCond .gt 21, 3) by decide +kernel) (by decide)
theorem ux_82_64 : pm_w d 82 64 ls st h Q ↔ pm_li ls 4 fun x => pm_w d 82 66 ls (.inl x :: st) h Q := pw_iload (show decode (pm_b 82) 64 = .ok (.iload 4, 2) by decide +kernel)
theorem ux_82_66 : pm_w d 82 66 ls st h Q ↔ pm_li ls 2 fun x => pm_w d 82 67 ls (.inl x :: st) h Q := pw_iload_n (show decode (pm_b 82) 66 = .ok (.iload_n 2, 1) by decide +kernel)
theorem ux_82_67 : pm_w d 82 67 ls st h Q ↔ pm_i st fun y s => pm_i s fun x s => ((x ≤ y) → pm_w d 82 85 ls s h Q) ∧ (¬ (x ≤ y) → pm_w d 82 70 ls s h Q) := pw_ic_le (show decode (pm_b 82) 67 = .ok (.if_icmp .le 18, 3) by decide +kernel) (by decide)
theorem ux_82_70 : pm_w d 82 70 ls st h Q ↔ pm_lq ls 0 fun x => pm_w d 82 71 ls (.inr (.inr x) :: st) h Q := pw_aload_n (show decode (pm_b 82) 70 = .ok (.aload_n 0, 1) by decide +kernel)
theorem ux_82_71 : pm_w d 82 71 ls st h Q ↔ pm_r st fun a s => pm_tgs h a [4] ∧ pm_w d 82 74 ls (.inr (.inr (h.2.1 a 5)) :: s) h Q := pw_get (show decode (pm_b 82) 71 = .ok (.getfield 20, 3) by decide +kernel) fx_4_20
theorem ux_82_74 : pm_w d 82 74 ls st h Q ↔ pm_li ls 1 fun x => pm_w d 82 75 ls (.inl x :: st) h Q := pw_iload_n (show decode (pm_b 82) 74 = .ok (.iload_n 1, 1) by decide +kernel)
theorem ux_82_75 : pm_w d 82 75 ls st h Q ↔ pm_i st fun x s => pm_r s fun a s => (pm_inb h a 23 x ∨ pm_inb h a 24 x ∨ pm_inb h a 25 x) ∧ pm_w d 82 76 ls (.inr (.inr (h.2.1 a x.toNat)) :: s) h Q := pw_aaload (show decode (pm_b 82) 75 = .ok (.aaload, 1) by decide +kernel)
theorem ux_82_76 : pm_w d 82 76 ls st h Q ↔ pm_li ls 4 fun x => pm_w d 82 78 ls (.inl x :: st) h Q := pw_iload (show decode (pm_b 82) 76 = .ok (.iload 4, 2) by decide +kernel)
theorem ux_82_78 : pm_w d 82 78 ls st h Q ↔ pm_i st fun x s => pm_r s fun a s => pm_inb h a 20 x ∧ pm_w d 82 79 ls (.inl (h.1 a x.toNat) :: s) h Q := pw_iaload (show decode (pm_b 82) 78 = .ok (.iaload, 1) by decide +kernel)
theorem ux_82_79 : pm_w d 82 79 ls st h Q ↔ pm_i st fun x s => ((x ≤ 0) → pm_w d 82 85 ls s h Q) ∧ (¬ (x ≤ 0) → pm_w d 82 82 ls s h Q) := pw_if_le (show decode (pm_b 82) 79 = .ok (.ifCond .le 6, 3) by decide +kernel) (by decide)
theorem ux_82_82 : pm_w d 82 82 ls st h Q ↔ pm_li ls 4 fun x => pm_w d 82 84 ls (.inl x :: st) h Q := pw_iload (show decode (pm_b 82) 82 = .ok (.iload 4, 2) by decide +kernel)
theorem ux_82_84 : pm_w d 82 84 ls st h Q ↔ pm_i st fun x s => s = [] ∧ Q (some (.inl x)) h := pw_ireturn (show decode (pm_b 82) 84 = .ok (.ireturn, 1) by decide +kernel) rfl
theorem ux_82_85 : pm_w d 82 85 ls st h Q ↔ pm_lq ls 0 fun x => pm_w d 82 86 ls (.inr (.inr x) :: st) h Q := pw_aload_n (show decode (pm_b 82) 85 = .ok (.aload_n 0, 1) by decide +kernel)
theorem ux_82_86 : pm_w d 82 86 ls st h Q ↔ pm_li ls 4 fun x => pm_w d 82 88 ls (.inl x :: st) h Q := pw_iload (show decode (pm_b 82) 86 = .ok (.iload 4, 2) by decide +kernel)
theorem ux_82_88 : pm_w d 82 88 ls st h Q ↔ pm_li ls 1 fun x => pm_w d 82 89 ls (.inl x :: st) h Q := pw_iload_n (show decode (pm_b 82) 88 = .ok (.iload_n 1, 1) by decide +kernel)
theorem ux_82_89 : pm_w d 82 89 ls st h Q ↔ pm_w d 82 90 ls (.inl 1 :: st) h Q := pw_iconst (show decode (pm_b 82) 89 = .ok (.iconst 1, 1) by decide +kernel) (by unfold pm_I32; decide)
theorem ux_82_90 : pm_w d 82 90 ls st h Q ↔ pm_i st fun y s => pm_i s fun x s => pm_I32 (x + y) ∧ pm_w d 82 91 ls (.inl (x + y) :: s) h Q := pw_iadd (show decode (pm_b 82) 90 = .ok (.iadd, 1) by decide +kernel)
theorem ux_82_91 : pm_w d 82 91 ls st h Q ↔ pm_r (st.drop 2) fun a s => (2 ≤ st.length ∧ pm_wt s ≤ 8 ∧ pm_tg h a 4) ∧ pm_ok d 70 (.inr (.inr (some a)) :: (st.take 2).reverse) h fun r h1 => pm_w d 82 94 ls (pm_pu r s) h1 Q := pw_virt (show decode (pm_b 82) 91 = .ok (.invokevirtual 95, 3) by decide +kernel) mx_4_95
theorem ux_82_94 : pm_w d 82 94 ls st h Q ↔ pm_li ls 3 fun x => pm_I32 (x + 1) ∧ pm_w d 82 97 (pm_s1 ls 3 (.inl (x + 1))) st h Q := pw_iinc (show decode (pm_b 82) 94 = .ok (.iinc 3 1, 3) by decide +kernel) (by decide)
theorem ux_82_97 : pm_w d 82 97 ls st h Q ↔ pm_w d 82 32 ls st h Q := pw_goto (show decode (pm_b 82) 97 = .ok (.goto (-65), 3) by decide +kernel) (by decide)
theorem ux_82_100 : pm_w d 82 100 ls st h Q ↔ pm_w d 82 101 ls (.inl (-1) :: st) h Q := pw_iconst (show decode (pm_b 82) 100 = .ok (.iconst (-1), 1) by decide +kernel) (by unfold pm_I32; decide)
theorem ux_82_101 : pm_w d 82 101 ls st h Q ↔ pm_i st fun x s => s = [] ∧ Q (some (.inl x)) h := pw_ireturn (show decode (pm_b 82) 101 = .ok (.ireturn, 1) by decide +kernel) rfl
-- 83: L.on
theorem ux_83_0 : pm_w d 83 0 ls st h Q ↔ pm_li ls 1 fun x => pm_w d 83 1 ls (.inl x :: st) h Q := pw_iload_n (show decode (pm_b 83) 0 = .ok (.iload_n 1, 1) by decide +kernel)
theorem ux_83_1 : pm_w d 83 1 ls st h Q ↔ pm_i st fun x s => ((x < 0) → pm_w d 83 25 ls s h Q) ∧ (¬ (x < 0) → pm_w d 83 4 ls s h Q) := pw_if_lt (show decode (pm_b 83) 1 = .ok (.ifCond .lt 24, 3) by decide +kernel) (by decide)
theorem ux_83_4 : pm_w d 83 4 ls st h Q ↔ pm_li ls 1 fun x => pm_w d 83 5 ls (.inl x :: st) h Q := pw_iload_n (show decode (pm_b 83) 4 = .ok (.iload_n 1, 1) by decide +kernel)
theorem ux_83_5 : pm_w d 83 5 ls st h Q ↔ pm_lq ls 0 fun x => pm_w d 83 6 ls (.inr (.inr x) :: st) h Q := pw_aload_n (show decode (pm_b 83) 5 = .ok (.aload_n 0, 1) by decide +kernel)
theorem ux_83_6 : pm_w d 83 6 ls st h Q ↔ pm_r st fun a s => pm_tgs h a [11] ∧ pm_w d 83 9 ls (.inr (.inr (h.2.1 a 0)) :: s) h Q := pw_get (show decode (pm_b 83) 6 = .ok (.getfield 12, 3) by decide +kernel) fx_11_12
theorem ux_83_9 : pm_w d 83 9 ls st h Q ↔ pm_r st fun a s => pm_tgs h a [8] ∧ pm_w d 83 12 ls (.inl (h.1 a 0) :: s) h Q := pw_get (show decode (pm_b 83) 9 = .ok (.getfield 57, 3) by decide +kernel) fx_11_57
theorem ux_83_12 : pm_w d 83 12 ls st h Q ↔ pm_i st fun y s => pm_i s fun x s => ((y ≤ x) → pm_w d 83 25 ls s h Q) ∧ (¬ (y ≤ x) → pm_w d 83 15 ls s h Q) := pw_ic_ge (show decode (pm_b 83) 12 = .ok (.if_icmp .ge 13, 3) by decide +kernel) (by decide)
theorem ux_83_15 : pm_w d 83 15 ls st h Q ↔ pm_li ls 2 fun x => pm_w d 83 16 ls (.inl x :: st) h Q := pw_iload_n (show decode (pm_b 83) 15 = .ok (.iload_n 2, 1) by decide +kernel)
theorem ux_83_16 : pm_w d 83 16 ls st h Q ↔ pm_i st fun x s => ((x < 0) → pm_w d 83 25 ls s h Q) ∧ (¬ (x < 0) → pm_w d 83 19 ls s h Q) := pw_if_lt (show decode (pm_b 83) 16 = .ok (.ifCond .lt 9, 3) by decide +kernel) (by decide)
theorem ux_83_19 : pm_w d 83 19 ls st h Q ↔ pm_li ls 2 fun x => pm_w d 83 20 ls (.inl x :: st) h Q := pw_iload_n (show decode (pm_b 83) 19 = .ok (.iload_n 2, 1) by decide +kernel)
theorem ux_83_20 : pm_w d 83 20 ls st h Q ↔ pm_w d 83 22 ls (.inl 60 :: st) h Q := pw_bipush (show decode (pm_b 83) 20 = .ok (.bipush 60, 2) by decide +kernel) (by decide)
theorem ux_83_22 : pm_w d 83 22 ls st h Q ↔ pm_i st fun y s => pm_i s fun x s => ((x < y) → pm_w d 83 27 ls s h Q) ∧ (¬ (x < y) → pm_w d 83 25 ls s h Q) := pw_ic_lt (show decode (pm_b 83) 22 = .ok (.if_icmp .lt 5, 3) by decide +kernel) (by decide)
theorem ux_83_25 : pm_w d 83 25 ls st h Q ↔ pm_w d 83 26 ls (.inl (-1) :: st) h Q := pw_iconst (show decode (pm_b 83) 25 = .ok (.iconst (-1), 1) by decide +kernel) (by unfold pm_I32; decide)
theorem ux_83_26 : pm_w d 83 26 ls st h Q ↔ pm_i st fun x s => s = [] ∧ Q (some (.inl x)) h := pw_ireturn (show decode (pm_b 83) 26 = .ok (.ireturn, 1) by decide +kernel) rfl
theorem ux_83_27 : pm_w d 83 27 ls st h Q ↔ pm_lq ls 0 fun x => pm_w d 83 28 ls (.inr (.inr x) :: st) h Q := pw_aload_n (show decode (pm_b 83) 27 = .ok (.aload_n 0, 1) by decide +kernel)
theorem ux_83_28 : pm_w d 83 28 ls st h Q ↔ pm_r (st.drop 0) fun a s => (0 ≤ st.length ∧ pm_wt s ≤ 8 ∧ pm_tg h a 11) ∧ pm_ok d 76 (.inr (.inr (some a)) :: (st.take 0).reverse) h fun r h1 => pm_w d 83 31 ls (pm_pu r s) h1 Q := pw_virt (show decode (pm_b 83) 28 = .ok (.invokevirtual 182, 3) by decide +kernel) mx_11_182
theorem ux_83_31 : pm_w d 83 31 ls st h Q ↔ pm_i st fun x s => ((x ≠ 0) → pm_w d 83 37 ls s h Q) ∧ (¬ (x ≠ 0) → pm_w d 83 34 ls s h Q) := pw_if_ne (show decode (pm_b 83) 31 = .ok (.ifCond .ne 6, 3) by decide +kernel) (by decide)
theorem ux_83_34 : pm_w d 83 34 ls st h Q ↔ pm_w d 83 36 ls (.inl (-2) :: st) h Q := pw_bipush (show decode (pm_b 83) 34 = .ok (.bipush (-2), 2) by decide +kernel) (by decide)
theorem ux_83_36 : pm_w d 83 36 ls st h Q ↔ pm_i st fun x s => s = [] ∧ Q (some (.inl x)) h := pw_ireturn (show decode (pm_b 83) 36 = .ok (.ireturn, 1) by decide +kernel) rfl
theorem ux_83_37 : pm_w d 83 37 ls st h Q ↔ pm_lq ls 0 fun x => pm_w d 83 38 ls (.inr (.inr x) :: st) h Q := pw_aload_n (show decode (pm_b 83) 37 = .ok (.aload_n 0, 1) by decide +kernel)
theorem ux_83_38 : pm_w d 83 38 ls st h Q ↔ pm_lq ls 0 fun x => pm_w d 83 39 ls (.inr (.inr x) :: st) h Q := pw_aload_n (show decode (pm_b 83) 38 = .ok (.aload_n 0, 1) by decide +kernel)
theorem ux_83_39 : pm_w d 83 39 ls st h Q ↔ pm_r (st.drop 0) fun a s => (0 ≤ st.length ∧ pm_wt s ≤ 8 ∧ pm_tg h a 11) ∧ pm_ok d 78 (.inr (.inr (some a)) :: (st.take 0).reverse) h fun r h1 => pm_w d 83 42 ls (pm_pu r s) h1 Q := pw_virt (show decode (pm_b 83) 39 = .ok (.invokevirtual 186, 3) by decide +kernel) mx_11_186
theorem ux_83_42 : pm_w d 83 42 ls st h Q ↔ pm_li ls 1 fun x => pm_w d 83 43 ls (.inl x :: st) h Q := pw_iload_n (show decode (pm_b 83) 42 = .ok (.iload_n 1, 1) by decide +kernel)
theorem ux_83_43 : pm_w d 83 43 ls st h Q ↔ pm_li ls 2 fun x => pm_w d 83 44 ls (.inl x :: st) h Q := pw_iload_n (show decode (pm_b 83) 43 = .ok (.iload_n 2, 1) by decide +kernel)
theorem ux_83_44 : pm_w d 83 44 ls st h Q ↔ pm_r (st.drop 3) fun a s => (3 ≤ st.length ∧ pm_wt s ≤ 8 ∧ pm_tg h a 11) ∧ pm_ok d 84 (.inr (.inr (some a)) :: (st.take 3).reverse) h fun r h1 => pm_w d 83 47 ls (pm_pu r s) h1 Q := pw_virt (show decode (pm_b 83) 44 = .ok (.invokevirtual 193, 3) by decide +kernel) mx_11_193
theorem ux_83_47 : pm_w d 83 47 ls st h Q ↔ pm_i st fun x s => s = [] ∧ Q (some (.inl x)) h := pw_ireturn (show decode (pm_b 83) 47 = .ok (.ireturn, 1) by decide +kernel) rfl
-- 84: L.pieceInHour
theorem ux_84_0 : pm_w d 84 0 ls st h Q ↔ pm_lq ls 0 fun x => pm_w d 84 1 ls (.inr (.inr x) :: st) h Q := pw_aload_n (show decode (pm_b 84) 0 = .ok (.aload_n 0, 1) by decide +kernel)
theorem ux_84_1 : pm_w d 84 1 ls st h Q ↔ pm_r st fun a s => pm_tgs h a [11] ∧ pm_w d 84 4 ls (.inr (.inr (h.2.1 a 2)) :: s) h Q := pw_get (show decode (pm_b 84) 1 = .ok (.getfield 26, 3) by decide +kernel) fx_11_26
theorem ux_84_4 : pm_w d 84 4 ls st h Q ↔ pm_li ls 3 fun x => pm_w d 84 5 ls (.inl x :: st) h Q := pw_iload_n (show decode (pm_b 84) 4 = .ok (.iload_n 3, 1) by decide +kernel)
theorem ux_84_5 : pm_w d 84 5 ls st h Q ↔ pm_r (st.drop 1) fun a s => (1 ≤ st.length ∧ pm_wt s ≤ 8 ∧ pm_tg h a 1) ∧ pm_ok d 85 (.inr (.inr (some a)) :: (st.take 1).reverse) h fun r h1 => pm_w d 84 8 ls (pm_pu r s) h1 Q := pw_virt (show decode (pm_b 84) 5 = .ok (.invokevirtual 290, 3) by decide +kernel) mx_11_290
theorem ux_84_8 : pm_w d 84 8 ls st h Q ↔ pm_i st fun x s => pm_w d 84 10 (pm_s1 ls 4 (.inl x)) s h Q := pw_istore (show decode (pm_b 84) 8 = .ok (.istore 4, 2) by decide +kernel) (by decide)
theorem ux_84_10 : pm_w d 84 10 ls st h Q ↔ pm_li ls 4 fun x => pm_w d 84 12 ls (.inl x :: st) h Q := pw_iload (show decode (pm_b 84) 10 = .ok (.iload 4, 2) by decide +kernel)
theorem ux_84_12 : pm_w d 84 12 ls st h Q ↔ pm_i st fun x s => ((0 ≤ x) → pm_w d 84 18 ls s h Q) ∧ (¬ (0 ≤ x) → pm_w d 84 15 ls s h Q) := pw_if_ge (show decode (pm_b 84) 12 = .ok (.ifCond .ge 6, 3) by decide +kernel) (by decide)
theorem ux_84_15 : pm_w d 84 15 ls st h Q ↔ pm_w d 84 17 ls (.inl (-3) :: st) h Q := pw_bipush (show decode (pm_b 84) 15 = .ok (.bipush (-3), 2) by decide +kernel) (by decide)
theorem ux_84_17 : pm_w d 84 17 ls st h Q ↔ pm_i st fun x s => s = [] ∧ Q (some (.inl x)) h := pw_ireturn (show decode (pm_b 84) 17 = .ok (.ireturn, 1) by decide +kernel) rfl
theorem ux_84_18 : pm_w d 84 18 ls st h Q ↔ pm_li ls 2 fun x => pm_w d 84 19 ls (.inl x :: st) h Q := pw_iload_n (show decode (pm_b 84) 18 = .ok (.iload_n 2, 1) by decide +kernel)
theorem ux_84_19 : pm_w d 84 19 ls st h Q ↔ pm_lq ls 0 fun x => pm_w d 84 20 ls (.inr (.inr x) :: st) h Q := pw_aload_n (show decode (pm_b 84) 19 = .ok (.aload_n 0, 1) by decide +kernel)
theorem ux_84_20 : pm_w d 84 20 ls st h Q ↔ pm_r st fun a s => pm_tgs h a [11] ∧ pm_w d 84 23 ls (.inr (.inr (h.2.1 a 2)) :: s) h Q := pw_get (show decode (pm_b 84) 20 = .ok (.getfield 26, 3) by decide +kernel) fx_11_26
theorem ux_84_23 : pm_w d 84 23 ls st h Q ↔ pm_li ls 4 fun x => pm_w d 84 25 ls (.inl x :: st) h Q := pw_iload (show decode (pm_b 84) 23 = .ok (.iload 4, 2) by decide +kernel)
theorem ux_84_25 : pm_w d 84 25 ls st h Q ↔ pm_r (st.drop 1) fun a s => (1 ≤ st.length ∧ pm_wt s ≤ 8 ∧ pm_tg h a 1) ∧ pm_ok d 62 (.inr (.inr (some a)) :: (st.take 1).reverse) h fun r h1 => pm_w d 84 28 ls (pm_pu r s) h1 Q := pw_virt (show decode (pm_b 84) 25 = .ok (.invokevirtual 293, 3) by decide +kernel) mx_11_293
theorem ux_84_28 : pm_w d 84 28 ls st h Q ↔ pm_i st fun y s => pm_i s fun x s => pm_I32 (x * y) ∧ pm_w d 84 29 ls (.inl (x * y) :: s) h Q := pw_imul (show decode (pm_b 84) 28 = .ok (.imul, 1) by decide +kernel)
theorem ux_84_29 : pm_w d 84 29 ls st h Q ↔ pm_li ls 3 fun x => pm_w d 84 30 ls (.inl x :: st) h Q := pw_iload_n (show decode (pm_b 84) 29 = .ok (.iload_n 3, 1) by decide +kernel)
theorem ux_84_30 : pm_w d 84 30 ls st h Q ↔ pm_i st fun y s => pm_i s fun x s => pm_I32 (x + y) ∧ pm_w d 84 31 ls (.inl (x + y) :: s) h Q := pw_iadd (show decode (pm_b 84) 30 = .ok (.iadd, 1) by decide +kernel)
theorem ux_84_31 : pm_w d 84 31 ls st h Q ↔ pm_lq ls 0 fun x => pm_w d 84 32 ls (.inr (.inr x) :: st) h Q := pw_aload_n (show decode (pm_b 84) 31 = .ok (.aload_n 0, 1) by decide +kernel)
theorem ux_84_32 : pm_w d 84 32 ls st h Q ↔ pm_r st fun a s => pm_tgs h a [11] ∧ pm_w d 84 35 ls (.inr (.inr (h.2.1 a 2)) :: s) h Q := pw_get (show decode (pm_b 84) 32 = .ok (.getfield 26, 3) by decide +kernel) fx_11_26
theorem ux_84_35 : pm_w d 84 35 ls st h Q ↔ pm_r st fun a s => pm_tgs h a [1] ∧ pm_w d 84 38 ls (.inr (.inr (h.2.1 a 4)) :: s) h Q := pw_get (show decode (pm_b 84) 35 = .ok (.getfield 171, 3) by decide +kernel) fx_11_171
theorem ux_84_38 : pm_w d 84 38 ls st h Q ↔ pm_li ls 4 fun x => pm_w d 84 40 ls (.inl x :: st) h Q := pw_iload (show decode (pm_b 84) 38 = .ok (.iload 4, 2) by decide +kernel)
theorem ux_84_40 : pm_w d 84 40 ls st h Q ↔ pm_i st fun x s => pm_r s fun a s => pm_inb h a 20 x ∧ pm_w d 84 41 ls (.inl (h.1 a x.toNat) :: s) h Q := pw_iaload (show decode (pm_b 84) 40 = .ok (.iaload, 1) by decide +kernel)
theorem ux_84_41 : pm_w d 84 41 ls st h Q ↔ pm_i st fun y s => pm_i s fun x s => pm_I32 (x - y) ∧ pm_w d 84 42 ls (.inl (x - y) :: s) h Q := pw_isub (show decode (pm_b 84) 41 = .ok (.isub, 1) by decide +kernel)
theorem ux_84_42 : pm_w d 84 42 ls st h Q ↔ pm_i st fun x s => pm_w d 84 44 (pm_s1 ls 5 (.inl x)) s h Q := pw_istore (show decode (pm_b 84) 42 = .ok (.istore 5, 2) by decide +kernel) (by decide)
theorem ux_84_44 : pm_w d 84 44 ls st h Q ↔ pm_lq ls 1 fun x => pm_w d 84 45 ls (.inr (.inr x) :: st) h Q := pw_aload_n (show decode (pm_b 84) 44 = .ok (.aload_n 1, 1) by decide +kernel)
theorem ux_84_45 : pm_w d 84 45 ls st h Q ↔ pm_li ls 4 fun x => pm_w d 84 47 ls (.inl x :: st) h Q := pw_iload (show decode (pm_b 84) 45 = .ok (.iload 4, 2) by decide +kernel)
theorem ux_84_47 : pm_w d 84 47 ls st h Q ↔ pm_li ls 5 fun x => pm_w d 84 49 ls (.inl x :: st) h Q := pw_iload (show decode (pm_b 84) 47 = .ok (.iload 5, 2) by decide +kernel)
theorem ux_84_49 : pm_w d 84 49 ls st h Q ↔ pm_r (st.drop 2) fun a s => (2 ≤ st.length ∧ pm_wt s ≤ 8 ∧ pm_tg h a 4) ∧ pm_ok d 86 (.inr (.inr (some a)) :: (st.take 2).reverse) h fun r h1 => pm_w d 84 52 ls (pm_pu r s) h1 Q := pw_virt (show decode (pm_b 84) 49 = .ok (.invokevirtual 296, 3) by decide +kernel) mx_11_296
theorem ux_84_52 : pm_w d 84 52 ls st h Q ↔ pm_i st fun x s => s = [] ∧ Q (some (.inl x)) h := pw_ireturn (show decode (pm_b 84) 52 = .ok (.ireturn, 1) by decide +kernel) rfl
-- 85: LFrame.stretchAt
theorem ux_85_0 : pm_w d 85 0 ls st h Q ↔ pm_w d 85 1 ls (.inl 0 :: st) h Q := pw_iconst (show decode (pm_b 85) 0 = .ok (.iconst 0, 1) by decide +kernel) (by unfold pm_I32; decide)
theorem ux_85_1 : pm_w d 85 1 ls st h Q ↔ pm_i st fun x s => pm_w d 85 2 (pm_s1 ls 2 (.inl x)) s h Q := pw_istore_n (show decode (pm_b 85) 1 = .ok (.istore_n 2, 1) by decide +kernel) (by decide)
theorem ux_85_2 : pm_w d 85 2 ls st h Q ↔ pm_li ls 2 fun x => pm_w d 85 3 ls (.inl x :: st) h Q := pw_iload_n (show decode (pm_b 85) 2 = .ok (.iload_n 2, 1) by decide +kernel)
theorem ux_85_3 : pm_w d 85 3 ls st h Q ↔ pm_lq ls 0 fun x => pm_w d 85 4 ls (.inr (.inr x) :: st) h Q := pw_aload_n (show decode (pm_b 85) 3 = .ok (.aload_n 0, 1) by decide +kernel)
theorem ux_85_4 : pm_w d 85 4 ls st h Q ↔ pm_r st fun a s => pm_tgs h a [1] ∧ pm_w d 85 7 ls (.inl (h.1 a 3) :: s) h Q := pw_get (show decode (pm_b 85) 4 = .ok (.getfield 55, 3) by decide +kernel) fx_1_55
theorem ux_85_7 : pm_w d 85 7 ls st h Q ↔ pm_i st fun y s => pm_i s fun x s => ((y ≤ x) → pm_w d 85 40 ls s h Q) ∧ (¬ (y ≤ x) → pm_w d 85 10 ls s h Q) := pw_ic_ge (show decode (pm_b 85) 7 = .ok (.if_icmp .ge 33, 3) by decide +kernel) (by decide)
theorem ux_85_10 : pm_w d 85 10 ls st h Q ↔ pm_lq ls 0 fun x => pm_w d 85 11 ls (.inr (.inr x) :: st) h Q := pw_aload_n (show decode (pm_b 85) 10 = .ok (.aload_n 0, 1) by decide +kernel)
theorem ux_85_11 : pm_w d 85 11 ls st h Q ↔ pm_r st fun a s => pm_tgs h a [1] ∧ pm_w d 85 14 ls (.inr (.inr (h.2.1 a 4)) :: s) h Q := pw_get (show decode (pm_b 85) 11 = .ok (.getfield 9, 3) by decide +kernel) fx_1_9
theorem ux_85_14 : pm_w d 85 14 ls st h Q ↔ pm_li ls 2 fun x => pm_w d 85 15 ls (.inl x :: st) h Q := pw_iload_n (show decode (pm_b 85) 14 = .ok (.iload_n 2, 1) by decide +kernel)
theorem ux_85_15 : pm_w d 85 15 ls st h Q ↔ pm_i st fun x s => pm_r s fun a s => pm_inb h a 20 x ∧ pm_w d 85 16 ls (.inl (h.1 a x.toNat) :: s) h Q := pw_iaload (show decode (pm_b 85) 15 = .ok (.iaload, 1) by decide +kernel)
theorem ux_85_16 : pm_w d 85 16 ls st h Q ↔ pm_li ls 1 fun x => pm_w d 85 17 ls (.inl x :: st) h Q := pw_iload_n (show decode (pm_b 85) 16 = .ok (.iload_n 1, 1) by decide +kernel)
theorem ux_85_17 : pm_w d 85 17 ls st h Q ↔ pm_i st fun y s => pm_i s fun x s => ((y < x) → pm_w d 85 34 ls s h Q) ∧ (¬ (y < x) → pm_w d 85 20 ls s h Q) := pw_ic_gt (show decode (pm_b 85) 17 = .ok (.if_icmp .gt 17, 3) by decide +kernel) (by decide)
theorem ux_85_20 : pm_w d 85 20 ls st h Q ↔ pm_li ls 1 fun x => pm_w d 85 21 ls (.inl x :: st) h Q := pw_iload_n (show decode (pm_b 85) 20 = .ok (.iload_n 1, 1) by decide +kernel)
theorem ux_85_21 : pm_w d 85 21 ls st h Q ↔ pm_lq ls 0 fun x => pm_w d 85 22 ls (.inr (.inr x) :: st) h Q := pw_aload_n (show decode (pm_b 85) 21 = .ok (.aload_n 0, 1) by decide +kernel)
theorem ux_85_22 : pm_w d 85 22 ls st h Q ↔ pm_r st fun a s => pm_tgs h a [1] ∧ pm_w d 85 25 ls (.inr (.inr (h.2.1 a 4)) :: s) h Q := pw_get (show decode (pm_b 85) 22 = .ok (.getfield 9, 3) by decide +kernel) fx_1_9
theorem ux_85_25 : pm_w d 85 25 ls st h Q ↔ pm_li ls 2 fun x => pm_w d 85 26 ls (.inl x :: st) h Q := pw_iload_n (show decode (pm_b 85) 25 = .ok (.iload_n 2, 1) by decide +kernel)
theorem ux_85_26 : pm_w d 85 26 ls st h Q ↔ pm_w d 85 27 ls (.inl 1 :: st) h Q := pw_iconst (show decode (pm_b 85) 26 = .ok (.iconst 1, 1) by decide +kernel) (by unfold pm_I32; decide)
theorem ux_85_27 : pm_w d 85 27 ls st h Q ↔ pm_i st fun y s => pm_i s fun x s => pm_I32 (x + y) ∧ pm_w d 85 28 ls (.inl (x + y) :: s) h Q := pw_iadd (show decode (pm_b 85) 27 = .ok (.iadd, 1) by decide +kernel)
theorem ux_85_28 : pm_w d 85 28 ls st h Q ↔ pm_i st fun x s => pm_r s fun a s => pm_inb h a 20 x ∧ pm_w d 85 29 ls (.inl (h.1 a x.toNat) :: s) h Q := pw_iaload (show decode (pm_b 85) 28 = .ok (.iaload, 1) by decide +kernel)
theorem ux_85_29 : pm_w d 85 29 ls st h Q ↔ pm_i st fun y s => pm_i s fun x s => ((y ≤ x) → pm_w d 85 34 ls s h Q) ∧ (¬ (y ≤ x) → pm_w d 85 32 ls s h Q) := pw_ic_ge (show decode (pm_b 85) 29 = .ok (.if_icmp .ge 5, 3) by decide +kernel) (by decide)
theorem ux_85_32 : pm_w d 85 32 ls st h Q ↔ pm_li ls 2 fun x => pm_w d 85 33 ls (.inl x :: st) h Q := pw_iload_n (show decode (pm_b 85) 32 = .ok (.iload_n 2, 1) by decide +kernel)
theorem ux_85_33 : pm_w d 85 33 ls st h Q ↔ pm_i st fun x s => s = [] ∧ Q (some (.inl x)) h := pw_ireturn (show decode (pm_b 85) 33 = .ok (.ireturn, 1) by decide +kernel) rfl
theorem ux_85_34 : pm_w d 85 34 ls st h Q ↔ pm_li ls 2 fun x => pm_I32 (x + 1) ∧ pm_w d 85 37 (pm_s1 ls 2 (.inl (x + 1))) st h Q := pw_iinc (show decode (pm_b 85) 34 = .ok (.iinc 2 1, 3) by decide +kernel) (by decide)
theorem ux_85_37 : pm_w d 85 37 ls st h Q ↔ pm_w d 85 2 ls st h Q := pw_goto (show decode (pm_b 85) 37 = .ok (.goto (-35), 3) by decide +kernel) (by decide)
theorem ux_85_40 : pm_w d 85 40 ls st h Q ↔ pm_w d 85 41 ls (.inl (-1) :: st) h Q := pw_iconst (show decode (pm_b 85) 40 = .ok (.iconst (-1), 1) by decide +kernel) (by unfold pm_I32; decide)
theorem ux_85_41 : pm_w d 85 41 ls st h Q ↔ pm_i st fun x s => s = [] ∧ Q (some (.inl x)) h := pw_ireturn (show decode (pm_b 85) 41 = .ok (.ireturn, 1) by decide +kernel) rfl
end
