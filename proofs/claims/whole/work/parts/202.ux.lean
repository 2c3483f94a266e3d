section
variable {d : Nat} {ls : pm_L} {st : List pm_V} {h : pm_H} {Q : Option pm_V → pm_H → Prop}
-- 52: LFrame.openFor
theorem ux_52_0 : pm_w d 52 0 ls st h Q ↔ pm_lq ls 1 fun x => pm_w d 52 1 ls (.inr (.inr x) :: st) h Q := pw_aload_n (show decode (pm_b 52) 0 = .ok (.aload_n 1, 1) by decide +kernel)
theorem ux_52_1 : pm_w d 52 1 ls st h Q ↔ pm_q st fun x s => (x ≠ none → pm_w d 52 6 ls s h Q) ∧ (¬ (x ≠ none) → pm_w d 52 4 ls s h Q) := pw_ifnonnull (show decode (pm_b 52) 1 = .ok (.ifnonnull 5, 3) by decide +kernel) (by decide)
theorem ux_52_4 : pm_w d 52 4 ls st h Q ↔ pm_w d 52 5 ls (.inr (.inl 0) :: st) h Q := pw_lconst (show decode (pm_b 52) 4 = .ok (.lconst 0, 1) by decide +kernel)
theorem ux_52_5 : pm_w d 52 5 ls st h Q ↔ pm_l st fun x s => s = [] ∧ Q (some (.inr (.inl x))) h := pw_lreturn (show decode (pm_b 52) 5 = .ok (.lreturn, 1) by decide +kernel) rfl
theorem ux_52_6 : pm_w d 52 6 ls st h Q ↔ pm_lq ls 1 fun x => pm_w d 52 7 ls (.inr (.inr x) :: st) h Q := pw_aload_n (show decode (pm_b 52) 6 = .ok (.aload_n 1, 1) by decide +kernel)
theorem ux_52_7 : pm_w d 52 7 ls st h Q ↔ pm_li ls 2 fun x => pm_w d 52 8 ls (.inl x :: st) h Q := pw_iload_n (show decode (pm_b 52) 7 = .ok (.iload_n 2, 1) by decide +kernel)
theorem ux_52_8 : pm_w d 52 8 ls st h Q ↔ pm_r (st.drop 1) fun a s => ∃ t n j, h.2.2[a]? = some (t, n) ∧ List.lookup t [(0, 37), (2, 36), (6, 37), (9, 37), (10, 37)] = some j ∧ (1 ≤ st.length ∧ pm_wt s ≤ 8) ∧ pm_ok d j (.inr (.inr (some a)) :: (st.take 1).reverse) h fun r h1 => pm_w d 52 11 ls (pm_pu r s) h1 Q := pw_virt3 (show decode (pm_b 52) 8 = .ok (.invokevirtual 82, 3) by decide +kernel) mx_1_82
theorem ux_52_11 : pm_w d 52 11 ls st h Q ↔ pm_li ls 3 fun x => pm_w d 52 12 ls (.inl x :: st) h Q := pw_iload_n (show decode (pm_b 52) 11 = .ok (.iload_n 3, 1) by decide +kernel)
theorem ux_52_12 : pm_w d 52 12 ls st h Q ↔ pm_i st fun y s => pm_i s fun x s => pm_I32 (x + y) ∧ pm_w d 52 13 ls (.inl (x + y) :: s) h Q := pw_iadd (show decode (pm_b 52) 12 = .ok (.iadd, 1) by decide +kernel)
theorem ux_52_13 : pm_w d 52 13 ls st h Q ↔ pm_i st fun x s => pm_w d 52 15 (pm_s1 ls 4 (.inl x)) s h Q := pw_istore (show decode (pm_b 52) 13 = .ok (.istore 4, 2) by decide +kernel) (by decide)
theorem ux_52_15 : pm_w d 52 15 ls st h Q ↔ pm_w d 52 16 ls (.inr (.inl 0) :: st) h Q := pw_lconst (show decode (pm_b 52) 15 = .ok (.lconst 0, 1) by decide +kernel)
theorem ux_52_16 : pm_w d 52 16 ls st h Q ↔ pm_l st fun x s => pm_w d 52 18 (pm_s2 ls 5 (.inr (.inl x))) s h Q := pw_lstore (show decode (pm_b 52) 16 = .ok (.lstore 5, 2) by decide +kernel) (by decide)
theorem ux_52_18 : pm_w d 52 18 ls st h Q ↔ pm_w d 52 19 ls (.inl 0 :: st) h Q := pw_iconst (show decode (pm_b 52) 18 = .ok (.iconst 0, 1) by decide +kernel) (by unfold pm_I32; decide)
theorem ux_52_19 : pm_w d 52 19 ls st h Q ↔ pm_i st fun x s => pm_w d 52 21 (pm_s1 ls 7 (.inl x)) s h Q := pw_istore (show decode (pm_b 52) 19 = .ok (.istore 7, 2) by decide +kernel) (by decide)
theorem ux_52_21 : pm_w d 52 21 ls st h Q ↔ pm_li ls 7 fun x => pm_w d 52 23 ls (.inl x :: st) h Q := pw_iload (show decode (pm_b 52) 21 = .ok (.iload 7, 2) by decide +kernel)
theorem ux_52_23 : pm_w d 52 23 ls st h Q ↔ pm_lq ls 0 fun x => pm_w d 52 24 ls (.inr (.inr x) :: st) h Q := pw_aload_n (show decode (pm_b 52) 23 = .ok (.aload_n 0, 1) by decide +kernel)
theorem ux_52_24 : pm_w d 52 24 ls st h Q ↔ pm_r st fun a s => pm_tgs h a [1] ∧ pm_w d 52 27 ls (.inl (h.1 a 3) :: s) h Q := pw_get (show decode (pm_b 52) 24 = .ok (.getfield 55, 3) by decide +kernel) fx_1_55
theorem ux_52_27 : pm_w d 52 27 ls st h Q ↔ pm_i st fun y s => pm_i s fun x s => ((y ≤ x) → pm_w d 52 92 ls s h Q) ∧ (¬ (y ≤ x) → pm_w d 52 30 ls s h Q) := pw_ic_ge (show decode (pm_b 52) 27 = .ok (.if_icmp .ge 65, 3) by decide +kernel) (by decide)
theorem ux_52_30 : pm_w d 52 30 ls st h Q ↔ pm_lq ls 0 fun x => pm_w d 52 31 ls (.inr (.inr x) :: st) h Q := pw_aload_n (show decode (pm_b 52) 30 = .ok (.aload_n 0, 1) by decide +kernel)
theorem ux_52_31 : pm_w d 52 31 ls st h Q ↔ pm_r st fun a s => pm_tgs h a [1] ∧ pm_w d 52 34 ls (.inr (.inr (h.2.1 a 4)) :: s) h Q := pw_get (show decode (pm_b 52) 31 = .ok (.getfield 9, 3) by decide +kernel) fx_1_9
theorem ux_52_34 : pm_w d 52 34 ls st h Q ↔ pm_li ls 7 fun x => pm_w d 52 36 ls (.inl x :: st) h Q := pw_iload (show decode (pm_b 52) 34 = .ok (.iload 7, 2) by decide +kernel)
theorem ux_52_36 : pm_w d 52 36 ls st h Q ↔ pm_i st fun x s => pm_r s fun a s => pm_inb h a 20 x ∧ pm_w d 52 37 ls (.inl (h.1 a x.toNat) :: s) h Q := pw_iaload (show decode (pm_b 52) 36 = .ok (.iaload, 1) by decide +kernel)
theorem ux_52_37 : pm_w d 52 37 ls st h Q ↔ pm_i st fun x s => pm_w d 52 39 (pm_s1 ls 8 (.inl x)) s h Q := pw_istore (show decode (pm_b 52) 37 = .ok (.istore 8, 2) by decide +kernel) (by decide)
theorem ux_52_39 : pm_w d 52 39 ls st h Q ↔ pm_lq ls 0 fun x => pm_w d 52 40 ls (.inr (.inr x) :: st) h Q := pw_aload_n (show decode (pm_b 52) 39 = .ok (.aload_n 0, 1) by decide +kernel)
theorem ux_52_40 : pm_w d 52 40 ls st h Q ↔ pm_r st fun a s => pm_tgs h a [1] ∧ pm_w d 52 43 ls (.inr (.inr (h.2.1 a 4)) :: s) h Q := pw_get (show decode (pm_b 52) 40 = .ok (.getfield 9, 3) by decide +kernel) fx_1_9
theorem ux_52_43 : pm_w d 52 43 ls st h Q ↔ pm_li ls 7 fun x => pm_w d 52 45 ls (.inl x :: st) h Q := pw_iload (show decode (pm_b 52) 43 = .ok (.iload 7, 2) by decide +kernel)
theorem ux_52_45 : pm_w d 52 45 ls st h Q ↔ pm_w d 52 46 ls (.inl 1 :: st) h Q := pw_iconst (show decode (pm_b 52) 45 = .ok (.iconst 1, 1) by decide +kernel) (by unfold pm_I32; decide)
theorem ux_52_46 : pm_w d 52 46 ls st h Q ↔ pm_i st fun y s => pm_i s fun x s => pm_I32 (x + y) ∧ pm_w d 52 47 ls (.inl (x + y) :: s) h Q := pw_iadd (show decode (pm_b 52) 46 = .ok (.iadd, 1) by decide +kernel)
theorem ux_52_47 : pm_w d 52 47 ls st h Q ↔ pm_i st fun x s => pm_r s fun a s => pm_inb h a 20 x ∧ pm_w d 52 48 ls (.inl (h.1 a x.toNat) :: s) h Q := pw_iaload (show decode (pm_b 52) 47 = .ok (.iaload, 1) by decide +kernel)
theorem ux_52_48 : pm_w d 52 48 ls st h Q ↔ pm_i st fun x s => pm_w d 52 50 (pm_s1 ls 9 (.inl x)) s h Q := pw_istore (show decode (pm_b 52) 48 = .ok (.istore 9, 2) by decide +kernel) (by decide)
theorem ux_52_50 : pm_w d 52 50 ls st h Q ↔ pm_lq ls 1 fun x => pm_w d 52 51 ls (.inr (.inr x) :: st) h Q := pw_aload_n (show decode (pm_b 52) 50 = .ok (.aload_n 1, 1) by decide +kernel)
theorem ux_52_51 : pm_w d 52 51 ls st h Q ↔ pm_r st fun a s => pm_tgs h a [0, 2, 6, 9, 10] ∧ pm_w d 52 54 ls (.inl (h.1 a 1) :: s) h Q := pw_get (show decode (pm_b 52) 51 = .ok (.getfield 75, 3) by decide +kernel) fx_1_75
theorem ux_52_54 : pm_w d 52 54 ls st h Q ↔ pm_li ls 8 fun x => pm_w d 52 56 ls (.inl x :: st) h Q := pw_iload (show decode (pm_b 52) 54 = .ok (.iload 8, 2) by decide +kernel)
theorem ux_52_56 : pm_w d 52 56 ls st h Q ↔ pm_i st fun y s => pm_i s fun x s => ((y < x) → pm_w d 52 86 ls s h Q) ∧ (¬ (y < x) → pm_w d 52 59 ls s h Q) := pw_ic_gt (show decode (pm_b 52) 56 = .ok (.if_icmp .gt 30, 3) by decide +kernel) (by decide)
theorem ux_52_59 : pm_w d 52 59 ls st h Q ↔ pm_li ls 9 fun x => pm_w d 52 61 ls (.inl x :: st) h Q := pw_iload (show decode (pm_b 52) 59 = .ok (.iload 9, 2) by decide +kernel)
theorem ux_52_61 : pm_w d 52 61 ls st h Q ↔ pm_li ls 4 fun x => pm_w d 52 63 ls (.inl x :: st) h Q := pw_iload (show decode (pm_b 52) 61 = .ok (.iload 4, 2) by decide +kernel)
theorem ux_52_63 : pm_w d 52 63 ls st h Q ↔ pm_i st fun y s => pm_i s fun x s => ((y < x) → pm_w d 52 86 ls s h Q) ∧ (¬ (y < x) → pm_w d 52 66 ls s h Q) := pw_ic_gt (show decode (pm_b 52) 63 = .ok (.if_icmp .gt 23, 3) by decide +kernel) (by decide)
theorem ux_52_66 : pm_w d 52 66 ls st h Q ↔ pm_lq ls 1 fun x => pm_w d 52 67 ls (.inr (.inr x) :: st) h Q := pw_aload_n (show decode (pm_b 52) 66 = .ok (.aload_n 1, 1) by decide +kernel)
theorem ux_52_67 : pm_w d 52 67 ls st h Q ↔ pm_li ls 8 fun x => pm_w d 52 69 ls (.inl x :: st) h Q := pw_iload (show decode (pm_b 52) 67 = .ok (.iload 8, 2) by decide +kernel)
theorem ux_52_69 : pm_w d 52 69 ls st h Q ↔ pm_li ls 9 fun x => pm_w d 52 71 ls (.inl x :: st) h Q := pw_iload (show decode (pm_b 52) 69 = .ok (.iload 9, 2) by decide +kernel)
theorem ux_52_71 : pm_w d 52 71 ls st h Q ↔ pm_r (st.drop 2) fun a s => ∃ t n j, h.2.2[a]? = some (t, n) ∧ List.lookup t [(0, 53), (2, 54), (6, 54), (9, 54), (10, 54)] = some j ∧ (2 ≤ st.length ∧ pm_wt s ≤ 8) ∧ pm_ok d j (.inr (.inr (some a)) :: (st.take 2).reverse) h fun r h1 => pm_w d 52 74 ls (pm_pu r s) h1 Q := pw_virt3 (show decode (pm_b 52) 71 = .ok (.invokevirtual 93, 3) by decide +kernel) mx_1_93
theorem ux_52_74 : pm_w d 52 74 ls st h Q ↔ pm_i st fun x s => ((x ≠ 0) → pm_w d 52 86 ls s h Q) ∧ (¬ (x ≠ 0) → pm_w d 52 77 ls s h Q) := pw_if_ne (show decode (pm_b 52) 74 = .ok (.ifCond .ne 12, 3) by decide +kernel) (by decide)
theorem ux_52_77 : pm_w d 52 77 ls st h Q ↔ pm_ll ls 5 fun x => pm_w d 52 79 ls (.inr (.inl x) :: st) h Q := pw_lload (show decode (pm_b 52) 77 = .ok (.lload 5, 2) by decide +kernel)
theorem ux_52_79 : pm_w d 52 79 ls st h Q ↔ pm_w d 52 80 ls (.inr (.inl 1) :: st) h Q := pw_lconst (show decode (pm_b 52) 79 = .ok (.lconst 1, 1) by decide +kernel)
theorem ux_52_80 : pm_w d 52 80 ls st h Q ↔ pm_li ls 7 fun x => pm_w d 52 82 ls (.inl x :: st) h Q := pw_iload (show decode (pm_b 52) 80 = .ok (.iload 7, 2) by decide +kernel)
theorem ux_52_82 : pm_w d 52 82 ls st h Q ↔ pm_i st fun y s => pm_l s fun x s => (0 ≤ y ∧ y < 64 ∧ 0 ≤ x ∧ x * 2 ^ y.toNat ≤ 9223372036854775807) ∧ pm_w d 52 83 ls (.inr (.inl (x * 2 ^ y.toNat)) :: s) h Q := pw_lshl (show decode (pm_b 52) 82 = .ok (.lshl, 1) by decide +kernel)
theorem ux_52_83 : pm_w d 52 83 ls st h Q ↔ pm_l st fun y s => pm_l s fun x s => (0 ≤ y ∧ 0 ≤ x) ∧ pm_w d 52 84 ls (.inr (.inl ((x.toNat ||| y.toNat : Nat) : Int)) :: s) h Q := pw_lor (show decode (pm_b 52) 83 = .ok (.lor, 1) by decide +kernel)
theorem ux_52_84 : pm_w d 52 84 ls st h Q ↔ pm_l st fun x s => pm_w d 52 86 (pm_s2 ls 5 (.inr (.inl x))) s h Q := pw_lstore (show decode (pm_b 52) 84 = .ok (.lstore 5, 2) by decide +kernel) (by decide)
theorem ux_52_86 : pm_w d 52 86 ls st h Q ↔ pm_li ls 7 fun x => pm_I32 (x + 1) ∧ pm_w d 52 89 (pm_s1 ls 7 (.inl (x + 1))) st h Q := pw_iinc (show decode (pm_b 52) 86 = .ok (.iinc 7 1, 3) by decide +kernel) (by decide)
theorem ux_52_89 : pm_w d 52 89 ls st h Q ↔ pm_w d 52 21 ls st h Q := pw_goto (show decode (pm_b 52) 89 = .ok (.goto (-68), 3) by decide +kernel) (by decide)
theorem ux_52_92 : pm_w d 52 92 ls st h Q ↔ pm_ll ls 5 fun x => pm_w d 52 94 ls (.inr (.inl x) :: st) h Q := pw_lload (show decode (pm_b 52) 92 = .ok (.lload 5, 2) by decide +kernel)
theorem ux_52_94 : pm_w d 52 94 ls st h Q ↔ pm_l st fun x s => s = [] ∧ Q (some (.inr (.inl x))) h := pw_lreturn (show decode (pm_b 52) 94 = .ok (.lreturn, 1) by decide +kernel) rfl
-- 53: LBarred.isBarredIn
theorem ux_53_0 : pm_w d 53 0 ls st h Q ↔ pm_lq ls 0 fun x => pm_w d 53 1 ls (.inr (.inr x) :: st) h Q := pw_aload_n (show decode (pm_b 53) 0 = .ok (.aload_n 0, 1) by decide +kernel)
theorem ux_53_1 : pm_w d 53 1 ls st h Q ↔ pm_r st fun a s => pm_tgs h a [0] ∧ pm_w d 53 4 ls (.inl (h.1 a 3) :: s) h Q := pw_get (show decode (pm_b 53) 1 = .ok (.getfield 9, 3) by decide +kernel) fx_0_9
theorem ux_53_4 : pm_w d 53 4 ls st h Q ↔ pm_li ls 2 fun x => pm_w d 53 5 ls (.inl x :: st) h Q := pw_iload_n (show decode (pm_b 53) 4 = .ok (.iload_n 2, 1) by decide +kernel)
theorem ux_53_5 : pm_w d 53 5 ls st h Q ↔ pm_i st fun y s => pm_i s fun x s => ((y ≤ x) → pm_w d 53 20 ls s h Q) ∧ (¬ (y ≤ x) → pm_w d 53 8 ls s h Q) := pw_ic_ge (show decode (pm_b 53) 5 = .ok (.if_icmp .ge 15, 3) by decide +kernel) (by decide)
theorem ux_53_8 : pm_w d 53 8 ls st h Q ↔ pm_li ls 1 fun x => pm_w d 53 9 ls (.inl x :: st) h Q := pw_iload_n (show decode (pm_b 53) 8 = .ok (.iload_n 1, 1) by decide +kernel)
theorem ux_53_9 : pm_w d 53 9 ls st h Q ↔ pm_lq ls 0 fun x => pm_w d 53 10 ls (.inr (.inr x) :: st) h Q := pw_aload_n (show decode (pm_b 53) 9 = .ok (.aload_n 0, 1) by decide +kernel)
theorem ux_53_10 : pm_w d 53 10 ls st h Q ↔ pm_r st fun a s => pm_tgs h a [0] ∧ pm_w d 53 13 ls (.inl (h.1 a 4) :: s) h Q := pw_get (show decode (pm_b 53) 10 = .ok (.getfield 15, 3) by decide +kernel) fx_0_15
theorem ux_53_13 : pm_w d 53 13 ls st h Q ↔ pm_i st fun y s => pm_i s fun x s => ((y ≤ x) → pm_w d 53 20 ls s h Q) ∧ (¬ (y ≤ x) → pm_w d 53 16 ls s h Q) := pw_ic_ge (show decode (pm_b 53) 13 = .ok (.if_icmp .ge 7, 3) by decide +kernel) (by decide)
theorem ux_53_16 : pm_w d 53 16 ls st h Q ↔ pm_w d 53 17 ls (.inl 1 :: st) h Q := pw_iconst (show decode (pm_b 53) 16 = .ok (.iconst 1, 1) by decide +kernel) (by unfold pm_I32; decide)
theorem ux_53_17 : pm_w d 53 17 ls st h Q ↔ pm_w d 53 21 ls st h Q := pw_goto (show decode (pm_b 53) 17 = .ok (.goto 4, 3) by decide +kernel) (by decide)
theorem ux_53_20 : pm_w d 53 20 ls st h Q ↔ pm_w d 53 21 ls (.inl 0 :: st) h Q := pw_iconst (show decode (pm_b 53) 20 = .ok (.iconst 0, 1) by decide +kernel) (by unfold pm_I32; decide)
theorem ux_53_21 : pm_w d 53 21 ls st h Q ↔ pm_i st fun x s => (s = [] ∧ (x = 0 ∨ x = 1)) ∧ Q (some (.inl x)) h := pw_zreturn (show decode (pm_b 53) 21 = .ok (.ireturn, 1) by decide +kernel) rfl
-- 54: LPiece.isBarredIn
theorem ux_54_0 : pm_w d 54 0 ls st h Q ↔ pm_w d 54 1 ls (.inl 0 :: st) h Q := pw_iconst (show decode (pm_b 54) 0 = .ok (.iconst 0, 1) by decide +kernel) (by unfold pm_I32; decide)
theorem ux_54_1 : pm_w d 54 1 ls st h Q ↔ pm_i st fun x s => (s = [] ∧ (x = 0 ∨ x = 1)) ∧ Q (some (.inl x)) h := pw_zreturn (show decode (pm_b 54) 1 = .ok (.ireturn, 1) by decide +kernel) rfl
-- 55: LShed.allLengths
theorem ux_55_0 : pm_w d 55 0 ls st h Q ↔ pm_w d 55 1 ls (.inl 0 :: st) h Q := pw_iconst (show decode (pm_b 55) 0 = .ok (.iconst 0, 1) by decide +kernel) (by unfold pm_I32; decide)
theorem ux_55_1 : pm_w d 55 1 ls st h Q ↔ pm_i st fun x s => pm_w d 55 2 (pm_s1 ls 1 (.inl x)) s h Q := pw_istore_n (show decode (pm_b 55) 1 = .ok (.istore_n 1, 1) by decide +kernel) (by decide)
theorem ux_55_2 : pm_w d 55 2 ls st h Q ↔ pm_w d 55 3 ls (.inl 0 :: st) h Q := pw_iconst (show decode (pm_b 55) 2 = .ok (.iconst 0, 1) by decide +kernel) (by unfold pm_I32; decide)
theorem ux_55_3 : pm_w d 55 3 ls st h Q ↔ pm_i st fun x s => pm_w d 55 4 (pm_s1 ls 2 (.inl x)) s h Q := pw_istore_n (show decode (pm_b 55) 3 = .ok (.istore_n 2, 1) by decide +kernel) (by decide)
theorem ux_55_4 : pm_w d 55 4 ls st h Q ↔ pm_li ls 2 fun x => pm_w d 55 5 ls (.inl x :: st) h Q := pw_iload_n (show decode (pm_b 55) 4 = .ok (.iload_n 2, 1) by decide +kernel)
theorem ux_55_5 : pm_w d 55 5 ls st h Q ↔ pm_lq ls 0 fun x => pm_w d 55 6 ls (.inr (.inr x) :: st) h Q := pw_aload_n (show decode (pm_b 55) 5 = .ok (.aload_n 0, 1) by decide +kernel)
theorem ux_55_6 : pm_w d 55 6 ls st h Q ↔ pm_r st fun a s => pm_tgs h a [8] ∧ pm_w d 55 9 ls (.inl (h.1 a 2) :: s) h Q := pw_get (show decode (pm_b 55) 6 = .ok (.getfield 28, 3) by decide +kernel) fx_8_28
theorem ux_55_9 : pm_w d 55 9 ls st h Q ↔ pm_i st fun y s => pm_i s fun x s => ((y ≤ x) → pm_w d 55 26 ls s h Q) ∧ (¬ (y ≤ x) → pm_w d 55 12 ls s h Q) := pw_ic_ge (show decode (pm_b 55) 9 = .ok (.if_icmp .ge 17, 3) by decide +kernel) (by decide)
theorem ux_55_12 : pm_w d 55 12 ls st h Q ↔ pm_li ls 1 fun x => pm_w d 55 13 ls (.inl x :: st) h Q := pw_iload_n (show decode (pm_b 55) 12 = .ok (.iload_n 1, 1) by decide +kernel)
theorem ux_55_13 : pm_w d 55 13 ls st h Q ↔ pm_lq ls 0 fun x => pm_w d 55 14 ls (.inr (.inr x) :: st) h Q := pw_aload_n (show decode (pm_b 55) 13 = .ok (.aload_n 0, 1) by decide +kernel)
theorem ux_55_14 : pm_w d 55 14 ls st h Q ↔ pm_li ls 2 fun x => pm_w d 55 15 ls (.inl x :: st) h Q := pw_iload_n (show decode (pm_b 55) 14 = .ok (.iload_n 2, 1) by decide +kernel)
theorem ux_55_15 : pm_w d 55 15 ls st h Q ↔ pm_r (st.drop 1) fun a s => (1 ≤ st.length ∧ pm_wt s ≤ 8 ∧ pm_tg h a 8) ∧ pm_ok d 51 (.inr (.inr (some a)) :: (st.take 1).reverse) h fun r h1 => pm_w d 55 18 ls (pm_pu r s) h1 Q := pw_virt (show decode (pm_b 55) 15 = .ok (.invokevirtual 38, 3) by decide +kernel) mx_8_38
theorem ux_55_18 : pm_w d 55 18 ls st h Q ↔ pm_i st fun y s => pm_i s fun x s => pm_I32 (x + y) ∧ pm_w d 55 19 ls (.inl (x + y) :: s) h Q := pw_iadd (show decode (pm_b 55) 18 = .ok (.iadd, 1) by decide +kernel)
theorem ux_55_19 : pm_w d 55 19 ls st h Q ↔ pm_i st fun x s => pm_w d 55 20 (pm_s1 ls 1 (.inl x)) s h Q := pw_istore_n (show decode (pm_b 55) 19 = .ok (.istore_n 1, 1) by decide +kernel) (by decide)
theorem ux_55_20 : pm_w d 55 20 ls st h Q ↔ pm_li ls 2 fun x => pm_I32 (x + 1) ∧ pm_w d 55 23 (pm_s1 ls 2 (.inl (x + 1))) st h Q := pw_iinc (show decode (pm_b 55) 20 = .ok (.iinc 2 1, 3) by decide +kernel) (by decide)
theorem ux_55_23 : pm_w d 55 23 ls st h Q ↔ pm_w d 55 4 ls st h Q := pw_goto (show decode (pm_b 55) 23 = .ok (.goto (-19), 3) by decide +kernel) (by decide)
theorem ux_55_26 : pm_w d 55 26 ls st h Q ↔ pm_li ls 1 fun x => pm_w d 55 27 ls (.inl x :: st) h Q := pw_iload_n (show decode (pm_b 55) 26 = .ok (.iload_n 1, 1) by decide +kernel)
theorem ux_55_27 : pm_w d 55 27 ls st h Q ↔ pm_i st fun x s => s = [] ∧ Q (some (.inl x)) h := pw_ireturn (show decode (pm_b 55) 27 = .ok (.ireturn, 1) by decide +kernel) rfl
-- 56: L.moment
theorem ux_56_0 : pm_w d 56 0 ls st h Q ↔ pm_lq ls 0 fun x => pm_w d 56 1 ls (.inr (.inr x) :: st) h Q := pw_aload_n (show decode (pm_b 56) 0 = .ok (.aload_n 0, 1) by decide +kernel)
theorem ux_56_1 : pm_w d 56 1 ls st h Q ↔ pm_r (st.drop 0) fun a s => (0 ≤ st.length ∧ pm_wt s ≤ 8 ∧ pm_tg h a 11) ∧ pm_ok d 47 (.inr (.inr (some a)) :: (st.take 0).reverse) h fun r h1 => pm_w d 56 4 ls (pm_pu r s) h1 Q := pw_virt (show decode (pm_b 56) 1 = .ok (.invokevirtual 158, 3) by decide +kernel) mx_11_158
theorem ux_56_4 : pm_w d 56 4 ls st h Q ↔ pm_q st fun x s => pm_w d 56 5 (pm_s1 ls 2 (.inr (.inr x))) s h Q := pw_astore_n (show decode (pm_b 56) 4 = .ok (.astore_n 2, 1) by decide +kernel) (by decide)
theorem ux_56_5 : pm_w d 56 5 ls st h Q ↔ pm_li ls 1 fun x => pm_w d 56 6 ls (.inl x :: st) h Q := pw_iload_n (show decode (pm_b 56) 5 = .ok (.iload_n 1, 1) by decide +kernel)
theorem ux_56_6 : pm_w d 56 6 ls st h Q ↔ pm_i st fun x s => ((x < 0) → pm_w d 56 17 ls s h Q) ∧ (¬ (x < 0) → pm_w d 56 9 ls s h Q) := pw_if_lt (show decode (pm_b 56) 6 = .ok (.ifCond .lt 11, 3) by decide +kernel) (by decide)
theorem ux_56_9 : pm_w d 56 9 ls st h Q ↔ pm_li ls 1 fun x => pm_w d 56 10 ls (.inl x :: st) h Q := pw_iload_n (show decode (pm_b 56) 9 = .ok (.iload_n 1, 1) by decide +kernel)
theorem ux_56_10 : pm_w d 56 10 ls st h Q ↔ pm_lq ls 2 fun x => pm_w d 56 11 ls (.inr (.inr x) :: st) h Q := pw_aload_n (show decode (pm_b 56) 10 = .ok (.aload_n 2, 1) by decide +kernel)
theorem ux_56_11 : pm_w d 56 11 ls st h Q ↔ pm_r st fun a s => pm_tgs h a [1] ∧ pm_w d 56 14 ls (.inl (h.1 a 2) :: s) h Q := pw_get (show decode (pm_b 56) 11 = .ok (.getfield 168, 3) by decide +kernel) fx_11_168
theorem ux_56_14 : pm_w d 56 14 ls st h Q ↔ pm_i st fun y s => pm_i s fun x s => ((x < y) → pm_w d 56 19 ls s h Q) ∧ (¬ (x < y) → pm_w d 56 17 ls s h Q) := pw_ic_lt (show decode (pm_b 56) 14 = .ok (.if_icmp .lt 5, 3) by decide +kernel) (by decide)
theorem ux_56_17 : pm_w d 56 17 ls st h Q ↔ pm_w d 56 18 ls (.inl (-1) :: st) h Q := pw_iconst (show decode (pm_b 56) 17 = .ok (.iconst (-1), 1) by decide +kernel) (by unfold pm_I32; decide)
theorem ux_56_18 : pm_w d 56 18 ls st h Q ↔ pm_i st fun x s => s = [] ∧ Q (some (.inl x)) h := pw_ireturn (show decode (pm_b 56) 18 = .ok (.ireturn, 1) by decide +kernel) rfl
theorem ux_56_19 : pm_w d 56 19 ls st h Q ↔ pm_lq ls 2 fun x => pm_w d 56 20 ls (.inr (.inr x) :: st) h Q := pw_aload_n (show decode (pm_b 56) 19 = .ok (.aload_n 2, 1) by decide +kernel)
theorem ux_56_20 : pm_w d 56 20 ls st h Q ↔ pm_r st fun a s => pm_tgs h a [1] ∧ pm_w d 56 23 ls (.inr (.inr (h.2.1 a 4)) :: s) h Q := pw_get (show decode (pm_b 56) 20 = .ok (.getfield 171, 3) by decide +kernel) fx_11_171
theorem ux_56_23 : pm_w d 56 23 ls st h Q ↔ pm_li ls 1 fun x => pm_w d 56 24 ls (.inl x :: st) h Q := pw_iload_n (show decode (pm_b 56) 23 = .ok (.iload_n 1, 1) by decide +kernel)
theorem ux_56_24 : pm_w d 56 24 ls st h Q ↔ pm_i st fun x s => pm_r s fun a s => pm_inb h a 20 x ∧ pm_w d 56 25 ls (.inl (h.1 a x.toNat) :: s) h Q := pw_iaload (show decode (pm_b 56) 24 = .ok (.iaload, 1) by decide +kernel)
theorem ux_56_25 : pm_w d 56 25 ls st h Q ↔ pm_i st fun x s => s = [] ∧ Q (some (.inl x)) h := pw_ireturn (show decode (pm_b 56) 25 = .ok (.ireturn, 1) by decide +kernel) rfl
-- 57: L.most
theorem ux_57_0 : pm_w d 57 0 ls st h Q ↔ pm_lq ls 0 fun x => pm_w d 57 1 ls (.inr (.inr x) :: st) h Q := pw_aload_n (show decode (pm_b 57) 0 = .ok (.aload_n 0, 1) by decide +kernel)
theorem ux_57_1 : pm_w d 57 1 ls st h Q ↔ pm_r st fun a s => pm_tgs h a [11] ∧ pm_w d 57 4 ls (.inr (.inr (h.2.1 a 0)) :: s) h Q := pw_get (show decode (pm_b 57) 1 = .ok (.getfield 12, 3) by decide +kernel) fx_11_12
theorem ux_57_4 : pm_w d 57 4 ls st h Q ↔ pm_r (st.drop 0) fun a s => (0 ≤ st.length ∧ pm_wt s ≤ 8 ∧ pm_tg h a 8) ∧ pm_ok d 55 (.inr (.inr (some a)) :: (st.take 0).reverse) h fun r h1 => pm_w d 57 7 ls (pm_pu r s) h1 Q := pw_virt (show decode (pm_b 57) 4 = .ok (.invokevirtual 165, 3) by decide +kernel) mx_11_165
theorem ux_57_7 : pm_w d 57 7 ls st h Q ↔ pm_lq ls 0 fun x => pm_w d 57 8 ls (.inr (.inr x) :: st) h Q := pw_aload_n (show decode (pm_b 57) 7 = .ok (.aload_n 0, 1) by decide +kernel)
theorem ux_57_8 : pm_w d 57 8 ls st h Q ↔ pm_r (st.drop 0) fun a s => (0 ≤ st.length ∧ pm_wt s ≤ 8 ∧ pm_tg h a 11) ∧ pm_ok d 58 (.inr (.inr (some a)) :: (st.take 0).reverse) h fun r h1 => pm_w d 57 11 ls (pm_pu r s) h1 Q := pw_virt (show decode (pm_b 57) 8 = .ok (.invokevirtual 175, 3) by decide +kernel) mx_11_175
theorem ux_57_11 : pm_w d 57 11 ls st h Q ↔ pm_r st fun a s => pm_tgs h a [4] ∧ pm_w d 57 14 ls (.inl (h.1 a 2) :: s) h Q := pw_get (show decode (pm_b 57) 11 = .ok (.getfield 179, 3) by decide +kernel) fx_11_179
theorem ux_57_14 : pm_w d 57 14 ls st h Q ↔ pm_i st fun y s => pm_i s fun x s => pm_I32 (x - y) ∧ pm_w d 57 15 ls (.inl (x - y) :: s) h Q := pw_isub (show decode (pm_b 57) 14 = .ok (.isub, 1) by decide +kernel)
theorem ux_57_15 : pm_w d 57 15 ls st h Q ↔ pm_i st fun x s => s = [] ∧ Q (some (.inl x)) h := pw_ireturn (show decode (pm_b 57) 15 = .ok (.ireturn, 1) by decide +kernel) rfl
-- 58: L.knownLaying
theorem ux_58_0 : pm_w d 58 0 ls st h Q ↔ pm_lq ls 0 fun x => pm_w d 58 1 ls (.inr (.inr x) :: st) h Q := pw_aload_n (show decode (pm_b 58) 0 = .ok (.aload_n 0, 1) by decide +kernel)
theorem ux_58_1 : pm_w d 58 1 ls st h Q ↔ pm_r st fun a s => pm_tgs h a [11] ∧ pm_w d 58 4 ls (.inl (h.1 a 5) :: s) h Q := pw_get (show decode (pm_b 58) 1 = .ok (.getfield 255, 3) by decide +kernel) fx_11_255
theorem ux_58_4 : pm_w d 58 4 ls st h Q ↔ pm_i st fun x s => ((x ≠ 0) → pm_w d 58 25 ls s h Q) ∧ (¬ (x ≠ 0) → pm_w d 58 7 ls s h Q) := pw_if_ne (show decode (pm_b 58) 4 = .ok (.ifCond .ne 21, 3) by decide +kernel) (by decide)
theorem ux_58_7 : pm_w d 58 7 ls st h Q ↔ pm_lq ls 0 fun x => pm_w d 58 8 ls (.inr (.inr x) :: st) h Q := pw_aload_n (show decode (pm_b 58) 7 = .ok (.aload_n 0, 1) by decide +kernel)
theorem ux_58_8 : pm_w d 58 8 ls st h Q ↔ pm_r st fun a s => pm_tgs h a [11] ∧ pm_w d 58 11 ls (.inr (.inr (h.2.1 a 3)) :: s) h Q := pw_get (show decode (pm_b 58) 8 = .ok (.getfield 33, 3) by decide +kernel) fx_11_33
theorem ux_58_11 : pm_w d 58 11 ls st h Q ↔ pm_lq ls 0 fun x => pm_w d 58 12 ls (.inr (.inr x) :: st) h Q := pw_aload_n (show decode (pm_b 58) 11 = .ok (.aload_n 0, 1) by decide +kernel)
theorem ux_58_12 : pm_w d 58 12 ls st h Q ↔ pm_r (st.drop 0) fun a s => (0 ≤ st.length ∧ pm_wt s ≤ 8 ∧ pm_tg h a 11) ∧ pm_ok d 47 (.inr (.inr (some a)) :: (st.take 0).reverse) h fun r h1 => pm_w d 58 15 ls (pm_pu r s) h1 Q := pw_virt (show decode (pm_b 58) 12 = .ok (.invokevirtual 158, 3) by decide +kernel) mx_11_158
theorem ux_58_15 : pm_w d 58 15 ls st h Q ↔ pm_w d 58 16 ls (.inl 1 :: st) h Q := pw_iconst (show decode (pm_b 58) 15 = .ok (.iconst 1, 1) by decide +kernel) (by unfold pm_I32; decide)
theorem ux_58_16 : pm_w d 58 16 ls st h Q ↔ pm_w d 58 17 ls (.inl 1 :: st) h Q := pw_iconst (show decode (pm_b 58) 16 = .ok (.iconst 1, 1) by decide +kernel) (by unfold pm_I32; decide)
theorem ux_58_17 : pm_w d 58 17 ls st h Q ↔ pm_r (st.drop 3) fun a s => (3 ≤ st.length ∧ pm_wt s ≤ 8 ∧ pm_tg h a 4) ∧ pm_ok d 59 (.inr (.inr (some a)) :: (st.take 3).reverse) h fun r h1 => pm_w d 58 20 ls (pm_pu r s) h1 Q := pw_virt (show decode (pm_b 58) 17 = .ok (.invokevirtual 283, 3) by decide +kernel) mx_11_283
theorem ux_58_20 : pm_w d 58 20 ls st h Q ↔ pm_lq ls 0 fun x => pm_w d 58 21 ls (.inr (.inr x) :: st) h Q := pw_aload_n (show decode (pm_b 58) 20 = .ok (.aload_n 0, 1) by decide +kernel)
theorem ux_58_21 : pm_w d 58 21 ls st h Q ↔ pm_w d 58 22 ls (.inl 1 :: st) h Q := pw_iconst (show decode (pm_b 58) 21 = .ok (.iconst 1, 1) by decide +kernel) (by unfold pm_I32; decide)
theorem ux_58_22 : pm_w d 58 22 ls st h Q ↔ pm_i st fun x s => pm_r s fun a s => ((x = 0 ∨ x = 1) ∧ pm_tgs h a [11]) ∧ pm_w d 58 25 ls s (pm_wI h a 5 x) Q := pw_put1 (show decode (pm_b 58) 22 = .ok (.putfield 255, 3) by decide +kernel) fx_11_255 (Or.inl rfl)
theorem ux_58_25 : pm_w d 58 25 ls st h Q ↔ pm_lq ls 0 fun x => pm_w d 58 26 ls (.inr (.inr x) :: st) h Q := pw_aload_n (show decode (pm_b 58) 25 = .ok (.aload_n 0, 1) by decide +kernel)
theorem ux_58_26 : pm_w d 58 26 ls st h Q ↔ pm_r st fun a s => pm_tgs h a [11] ∧ pm_w d 58 29 ls (.inr (.inr (h.2.1 a 3)) :: s) h Q := pw_get (show decode (pm_b 58) 26 = .ok (.getfield 33, 3) by decide +kernel) fx_11_33
theorem ux_58_29 : pm_w d 58 29 ls st h Q ↔ pm_q st fun x s => s = [] ∧ Q (some (.inr (.inr x))) h := pw_areturn (show decode (pm_b 58) 29 = .ok (.areturn, 1) by decide +kernel) rfl
-- 59: LLaying.layMost
theorem ux_59_0 : pm_w d 59 0 ls st h Q ↔ pm_lq ls 0 fun x => pm_w d 59 1 ls (.inr (.inr x) :: st) h Q := pw_aload_n (show decode (pm_b 59) 0 = .ok (.aload_n 0, 1) by decide +kernel)
theorem ux_59_1 : pm_w d 59 1 ls st h Q ↔ pm_lq ls 1 fun x => pm_w d 59 2 ls (.inr (.inr x) :: st) h Q := pw_aload_n (show decode (pm_b 59) 1 = .ok (.aload_n 1, 1) by decide +kernel)
theorem ux_59_2 : pm_w d 59 2 ls st h Q ↔ pm_li ls 2 fun x => pm_w d 59 3 ls (.inl x :: st) h Q := pw_iload_n (show decode (pm_b 59) 2 = .ok (.iload_n 2, 1) by decide +kernel)
theorem ux_59_3 : pm_w d 59 3 ls st h Q ↔ pm_li ls 3 fun x => pm_w d 59 4 ls (.inl x :: st) h Q := pw_iload_n (show decode (pm_b 59) 3 = .ok (.iload_n 3, 1) by decide +kernel)
theorem ux_59_4 : pm_w d 59 4 ls st h Q ↔ pm_r (st.drop 3) fun a s => (3 ≤ st.length ∧ pm_wt s ≤ 8 ∧ pm_tg h a 4) ∧ pm_ok d 60 (.inr (.inr (some a)) :: (st.take 3).reverse) h fun r h1 => pm_w d 59 7 ls (pm_pu r s) h1 Q := pw_virt (show decode (pm_b 59) 4 = .ok (.invokevirtual 35, 3) by decide +kernel) mx_4_35
theorem ux_59_7 : pm_w d 59 7 ls st h Q ↔ pm_w d 59 8 ls (.inl 0 :: st) h Q := pw_iconst (show decode (pm_b 59) 7 = .ok (.iconst 0, 1) by decide +kernel) (by unfold pm_I32; decide)
theorem ux_59_8 : pm_w d 59 8 ls st h Q ↔ pm_i st fun x s => pm_w d 59 10 (pm_s1 ls 4 (.inl x)) s h Q := pw_istore (show decode (pm_b 59) 8 = .ok (.istore 4, 2) by decide +kernel) (by decide)
theorem ux_59_10 : pm_w d 59 10 ls st h Q ↔ pm_li ls 4 fun x => pm_w d 59 12 ls (.inl x :: st) h Q := pw_iload (show decode (pm_b 59) 10 = .ok (.iload 4, 2) by decide +kernel)
theorem ux_59_12 : pm_w d 59 12 ls st h Q ↔ pm_lq ls 0 fun x => pm_w d 59 13 ls (.inr (.inr x) :: st) h Q := pw_aload_n (show decode (pm_b 59) 12 = .ok (.aload_n 0, 1) by decide +kernel)
theorem ux_59_13 : pm_w d 59 13 ls st h Q ↔ pm_r st fun a s => pm_tgs h a [4] ∧ pm_w d 59 16 ls (.inl (h.1 a 0) :: s) h Q := pw_get (show decode (pm_b 59) 13 = .ok (.getfield 39, 3) by decide +kernel) fx_4_39
theorem ux_59_16 : pm_w d 59 16 ls st h Q ↔ pm_i st fun y s => pm_i s fun x s => ((y ≤ x) → pm_w d 59 31 ls s h Q) ∧ (¬ (y ≤ x) → pm_w d 59 19 ls s h Q) := pw_ic_ge (show decode (pm_b 59) 16 = .ok (.if_icmp .ge 15, 3) by decide +kernel) (by decide)
theorem ux_59_19 : pm_w d 59 19 ls st h Q ↔ pm_lq ls 0 fun x => pm_w d 59 20 ls (.inr (.inr x) :: st) h Q := pw_aload_n (show decode (pm_b 59) 19 = .ok (.aload_n 0, 1) by decide +kernel)
theorem ux_59_20 : pm_w d 59 20 ls st h Q ↔ pm_li ls 4 fun x => pm_w d 59 22 ls (.inl x :: st) h Q := pw_iload (show decode (pm_b 59) 20 = .ok (.iload 4, 2) by decide +kernel)
theorem ux_59_22 : pm_w d 59 22 ls st h Q ↔ pm_r (st.drop 1) fun a s => (1 ≤ st.length ∧ pm_wt s ≤ 8 ∧ pm_tg h a 4) ∧ pm_ok d 64 (.inr (.inr (some a)) :: (st.take 1).reverse) h fun r h1 => pm_w d 59 25 ls (pm_pu r s) h1 Q := pw_virt (show decode (pm_b 59) 22 = .ok (.invokevirtual 43, 3) by decide +kernel) mx_4_43
theorem ux_59_25 : pm_w d 59 25 ls st h Q ↔ pm_li ls 4 fun x => pm_I32 (x + 1) ∧ pm_w d 59 28 (pm_s1 ls 4 (.inl (x + 1))) st h Q := pw_iinc (show decode (pm_b 59) 25 = .ok (.iinc 4 1, 3) by decide +kernel) (by decide)
theorem ux_59_28 : pm_w d 59 28 ls st h Q ↔ pm_w d 59 10 ls st h Q := pw_goto (show decode (pm_b 59) 28 = .ok (.goto (-18), 3) by decide +kernel) (by decide)
theorem ux_59_31 : pm_w d 59 31 ls st h Q ↔ pm_lq ls 0 fun x => pm_w d 59 32 ls (.inr (.inr x) :: st) h Q := pw_aload_n (show decode (pm_b 59) 31 = .ok (.aload_n 0, 1) by decide +kernel)
theorem ux_59_32 : pm_w d 59 32 ls st h Q ↔ pm_r (st.drop 0) fun a s => (0 ≤ st.length ∧ pm_wt s ≤ 8 ∧ pm_tg h a 4) ∧ pm_ok d 66 (.inr (.inr (some a)) :: (st.take 0).reverse) h fun r h1 => pm_w d 59 35 ls (pm_pu r s) h1 Q := pw_virt (show decode (pm_b 59) 32 = .ok (.invokevirtual 47, 3) by decide +kernel) mx_4_47
theorem ux_59_35 : pm_w d 59 35 ls st h Q ↔ pm_i st fun x s => pm_w d 59 37 (pm_s1 ls 4 (.inl x)) s h Q := pw_istore (show decode (pm_b 59) 35 = .ok (.istore 4, 2) by decide +kernel) (by decide)
theorem ux_59_37 : pm_w d 59 37 ls st h Q ↔ pm_w d 59 38 ls (.inl 0 :: st) h Q := pw_iconst (show decode (pm_b 59) 37 = .ok (.iconst 0, 1) by decide +kernel) (by unfold pm_I32; decide)
theorem ux_59_38 : pm_w d 59 38 ls st h Q ↔ pm_i st fun x s => pm_w d 59 40 (pm_s1 ls 5 (.inl x)) s h Q := pw_istore (show decode (pm_b 59) 38 = .ok (.istore 5, 2) by decide +kernel) (by decide)
theorem ux_59_40 : pm_w d 59 40 ls st h Q ↔ pm_li ls 5 fun x => pm_w d 59 42 ls (.inl x :: st) h Q := pw_iload (show decode (pm_b 59) 40 = .ok (.iload 5, 2) by decide +kernel)
theorem ux_59_42 : pm_w d 59 42 ls st h Q ↔ pm_w d 59 44 ls (.inl 1000000 :: st) h Q := pw_ldc (show decode (pm_b 59) 42 = .ok (.ldc 51, 2) by decide +kernel) kx_4_51
theorem ux_59_44 : pm_w d 59 44 ls st h Q ↔ pm_i st fun y s => pm_i s fun x s => ((y ≤ x) → pm_w d 59 70 ls s h Q) ∧ (¬ (y ≤ x) → pm_w d 59 47 ls s h Q) := pw_ic_ge (show decode (pm_b 59) 44 = .ok (.if_icmp .ge 26, 3) by decide +kernel) (by decide)
theorem ux_59_47 : pm_w d 59 47 ls st h Q ↔ pm_li ls 4 fun x => pm_w d 59 49 ls (.inl x :: st) h Q := pw_iload (show decode (pm_b 59) 47 = .ok (.iload 4, 2) by decide +kernel)
theorem ux_59_49 : pm_w d 59 49 ls st h Q ↔ pm_i st fun x s => ((x < 0) → pm_w d 59 70 ls s h Q) ∧ (¬ (x < 0) → pm_w d 59 52 ls s h Q) := pw_if_lt (show decode (pm_b 59) 49 = .ok (.ifCond .lt 21, 3) by decide +kernel) (by decide)
theorem ux_59_52 : pm_w d 59 52 ls st h Q ↔ pm_lq ls 0 fun x => pm_w d 59 53 ls (.inr (.inr x) :: st) h Q := pw_aload_n (show decode (pm_b 59) 52 = .ok (.aload_n 0, 1) by decide +kernel)
theorem ux_59_53 : pm_w d 59 53 ls st h Q ↔ pm_li ls 4 fun x => pm_w d 59 55 ls (.inl x :: st) h Q := pw_iload (show decode (pm_b 59) 53 = .ok (.iload 4, 2) by decide +kernel)
theorem ux_59_55 : pm_w d 59 55 ls st h Q ↔ pm_r (st.drop 1) fun a s => (1 ≤ st.length ∧ pm_wt s ≤ 8 ∧ pm_tg h a 4) ∧ pm_ok d 71 (.inr (.inr (some a)) :: (st.take 1).reverse) h fun r h1 => pm_w d 59 58 ls (pm_pu r s) h1 Q := pw_virt (show decode (pm_b 59) 55 = .ok (.invokevirtual 52, 3) by decide +kernel) mx_4_52
theorem ux_59_58 : pm_w d 59 58 ls st h Q ↔ pm_lq ls 0 fun x => pm_w d 59 59 ls (.inr (.inr x) :: st) h Q := pw_aload_n (show decode (pm_b 59) 58 = .ok (.aload_n 0, 1) by decide +kernel)
theorem ux_59_59 : pm_w d 59 59 ls st h Q ↔ pm_r (st.drop 0) fun a s => (0 ≤ st.length ∧ pm_wt s ≤ 8 ∧ pm_tg h a 4) ∧ pm_ok d 66 (.inr (.inr (some a)) :: (st.take 0).reverse) h fun r h1 => pm_w d 59 62 ls (pm_pu r s) h1 Q := pw_virt (show decode (pm_b 59) 59 = .ok (.invokevirtual 47, 3) by decide +kernel) mx_4_47
theorem ux_59_62 : pm_w d 59 62 ls st h Q ↔ pm_i st fun x s => pm_w d 59 64 (pm_s1 ls 4 (.inl x)) s h Q := pw_istore (show decode (pm_b 59) 62 = .ok (.istore 4, 2) by decide +kernel) (by decide)
theorem ux_59_64 : pm_w d 59 64 ls st h Q ↔ pm_li ls 5 fun x => pm_I32 (x + 1) ∧ pm_w d 59 67 (pm_s1 ls 5 (.inl (x + 1))) st h Q := pw_iinc (show decode (pm_b 59) 64 = .ok (.iinc 5 1, 3) by decide +kernel) (by decide)
theorem ux_59_67 : pm_w d 59 67 ls st h Q ↔ pm_w d 59 40 ls st h Q := pw_goto (show decode (pm_b 59) 67 = .ok (.goto (-27), 3) by decide +kernel) (by decide)
theorem ux_59_70 : pm_w d 59 70 ls st h Q ↔ st = [] ∧ Q none h := pw_return (show decode (pm_b 59) 70 = .ok (.return_, 1) by decide +kernel) rfl
-- 60: LLaying.prepare
theorem ux_60_0 : pm_w d 60 0 ls st h Q ↔ pm_lq ls 0 fun x => pm_w d 60 1 ls (.inr (.inr x) :: st) h Q := pw_aload_n (show decode (pm_b 60) 0 = .ok (.aload_n 0, 1) by decide +kernel)
theorem ux_60_1 : pm_w d 60 1 ls st h Q ↔ pm_lq ls 1 fun x => pm_w d 60 2 ls (.inr (.inr x) :: st) h Q := pw_aload_n (show decode (pm_b 60) 1 = .ok (.aload_n 1, 1) by decide +kernel)
theorem ux_60_2 : pm_w d 60 2 ls st h Q ↔ pm_r st fun a s => pm_tgs h a [1] ∧ pm_w d 60 5 ls (.inl (h.1 a 1) :: s) h Q := pw_get (show decode (pm_b 60) 2 = .ok (.getfield 55, 3) by decide +kernel) fx_4_55
theorem ux_60_5 : pm_w d 60 5 ls st h Q ↔ pm_i st fun x s => pm_r s fun a s => (pm_tgs h a [4]) ∧ pm_w d 60 8 ls s (pm_wI h a 0 x) Q := pw_put0 (show decode (pm_b 60) 5 = .ok (.putfield 39, 3) by decide +kernel) fx_4_39 (Or.inl rfl)
theorem ux_60_8 : pm_w d 60 8 ls st h Q ↔ pm_lq ls 0 fun x => pm_w d 60 9 ls (.inr (.inr x) :: st) h Q := pw_aload_n (show decode (pm_b 60) 8 = .ok (.aload_n 0, 1) by decide +kernel)
theorem ux_60_9 : pm_w d 60 9 ls st h Q ↔ pm_lq ls 1 fun x => pm_w d 60 10 ls (.inr (.inr x) :: st) h Q := pw_aload_n (show decode (pm_b 60) 9 = .ok (.aload_n 1, 1) by decide +kernel)
theorem ux_60_10 : pm_w d 60 10 ls st h Q ↔ pm_r st fun a s => pm_tgs h a [1] ∧ pm_w d 60 13 ls (.inl (h.1 a 3) :: s) h Q := pw_get (show decode (pm_b 60) 10 = .ok (.getfield 58, 3) by decide +kernel) fx_4_58
theorem ux_60_13 : pm_w d 60 13 ls st h Q ↔ pm_i st fun x s => pm_r s fun a s => (pm_tgs h a [4]) ∧ pm_w d 60 16 ls s (pm_wI h a 1 x) Q := pw_put0 (show decode (pm_b 60) 13 = .ok (.putfield 61, 3) by decide +kernel) fx_4_61 (Or.inl rfl)
theorem ux_60_16 : pm_w d 60 16 ls st h Q ↔ pm_lq ls 0 fun x => pm_w d 60 17 ls (.inr (.inr x) :: st) h Q := pw_aload_n (show decode (pm_b 60) 16 = .ok (.aload_n 0, 1) by decide +kernel)
theorem ux_60_17 : pm_w d 60 17 ls st h Q ↔ pm_w d 60 18 ls (.inl 0 :: st) h Q := pw_iconst (show decode (pm_b 60) 17 = .ok (.iconst 0, 1) by decide +kernel) (by unfold pm_I32; decide)
theorem ux_60_18 : pm_w d 60 18 ls st h Q ↔ pm_i st fun x s => pm_r s fun a s => (pm_tgs h a [4]) ∧ pm_w d 60 21 ls s (pm_wI h a 2 x) Q := pw_put0 (show decode (pm_b 60) 18 = .ok (.putfield 62, 3) by decide +kernel) fx_4_62 (Or.inl rfl)
theorem ux_60_21 : pm_w d 60 21 ls st h Q ↔ pm_w d 60 22 ls (.inl 0 :: st) h Q := pw_iconst (show decode (pm_b 60) 21 = .ok (.iconst 0, 1) by decide +kernel) (by unfold pm_I32; decide)
theorem ux_60_22 : pm_w d 60 22 ls st h Q ↔ pm_i st fun x s => pm_w d 60 24 (pm_s1 ls 4 (.inl x)) s h Q := pw_istore (show decode (pm_b 60) 22 = .ok (.istore 4, 2) by decide +kernel) (by decide)
theorem ux_60_24 : pm_w d 60 24 ls st h Q ↔ pm_li ls 4 fun x => pm_w d 60 26 ls (.inl x :: st) h Q := pw_iload (show decode (pm_b 60) 24 = .ok (.iload 4, 2) by decide +kernel)
theorem ux_60_26 : pm_w d 60 26 ls st h Q ↔ pm_lq ls 0 fun x => pm_w d 60 27 ls (.inr (.inr x) :: st) h Q := pw_aload_n (show decode (pm_b 60) 26 = .ok (.aload_n 0, 1) by decide +kernel)
theorem ux_60_27 : pm_w d 60 27 ls st h Q ↔ pm_r st fun a s => pm_tgs h a [4] ∧ pm_w d 60 30 ls (.inl (h.1 a 1) :: s) h Q := pw_get (show decode (pm_b 60) 27 = .ok (.getfield 61, 3) by decide +kernel) fx_4_61
theorem ux_60_30 : pm_w d 60 30 ls st h Q ↔ pm_i st fun y s => pm_i s fun x s => ((y ≤ x) → pm_w d 60 54 ls s h Q) ∧ (¬ (y ≤ x) → pm_w d 60 33 ls s h Q) := pw_ic_ge (show decode (pm_b 60) 30 = .ok (.if_icmp .ge 24, 3) by decide +kernel) (by decide)
theorem ux_60_33 : pm_w d 60 33 ls st h Q ↔ pm_lq ls 0 fun x => pm_w d 60 34 ls (.inr (.inr x) :: st) h Q := pw_aload_n (show decode (pm_b 60) 33 = .ok (.aload_n 0, 1) by decide +kernel)
theorem ux_60_34 : pm_w d 60 34 ls st h Q ↔ pm_r st fun a s => pm_tgs h a [4] ∧ pm_w d 60 37 ls (.inr (.inr (h.2.1 a 4)) :: s) h Q := pw_get (show decode (pm_b 60) 34 = .ok (.getfield 15, 3) by decide +kernel) fx_4_15
theorem ux_60_37 : pm_w d 60 37 ls st h Q ↔ pm_li ls 4 fun x => pm_w d 60 39 ls (.inl x :: st) h Q := pw_iload (show decode (pm_b 60) 37 = .ok (.iload 4, 2) by decide +kernel)
theorem ux_60_39 : pm_w d 60 39 ls st h Q ↔ pm_lq ls 1 fun x => pm_w d 60 40 ls (.inr (.inr x) :: st) h Q := pw_aload_n (show decode (pm_b 60) 39 = .ok (.aload_n 1, 1) by decide +kernel)
theorem ux_60_40 : pm_w d 60 40 ls st h Q ↔ pm_li ls 4 fun x => pm_w d 60 42 ls (.inl x :: st) h Q := pw_iload (show decode (pm_b 60) 40 = .ok (.iload 4, 2) by decide +kernel)
theorem ux_60_42 : pm_w d 60 42 ls st h Q ↔ pm_r (st.drop 1) fun a s => (1 ≤ st.length ∧ pm_wt s ≤ 8 ∧ pm_tg h a 1) ∧ pm_ok d 61 (.inr (.inr (some a)) :: (st.take 1).reverse) h fun r h1 => pm_w d 60 45 ls (pm_pu r s) h1 Q := pw_virt (show decode (pm_b 60) 42 = .ok (.invokevirtual 65, 3) by decide +kernel) mx_4_65
theorem ux_60_45 : pm_w d 60 45 ls st h Q ↔ pm_li ls 3 fun x => pm_w d 60 46 ls (.inl x :: st) h Q := pw_iload_n (show decode (pm_b 60) 45 = .ok (.iload_n 3, 1) by decide +kernel)
theorem ux_60_46 : pm_w d 60 46 ls st h Q ↔ pm_i st fun y s => pm_i s fun x s => pm_I32 (x * y) ∧ pm_w d 60 47 ls (.inl (x * y) :: s) h Q := pw_imul (show decode (pm_b 60) 46 = .ok (.imul, 1) by decide +kernel)
theorem ux_60_47 : pm_w d 60 47 ls st h Q ↔ pm_i st fun v s => pm_i s fun x s => pm_r s fun a s => pm_inb h a 20 x ∧ pm_w d 60 48 ls s (pm_wI h a x.toNat v) Q := pw_iastore (show decode (pm_b 60) 47 = .ok (.iastore, 1) by decide +kernel)
theorem ux_60_48 : pm_w d 60 48 ls st h Q ↔ pm_li ls 4 fun x => pm_I32 (x + 1) ∧ pm_w d 60 51 (pm_s1 ls 4 (.inl (x + 1))) st h Q := pw_iinc (show decode (pm_b 60) 48 = .ok (.iinc 4 1, 3) by decide +kernel) (by decide)
theorem ux_60_51 : pm_w d 60 51 ls st h Q ↔ pm_w d 60 24 ls st h Q := pw_goto (show decode (pm_b 60) 51 = .ok (.goto (-27), 3) by decide +kernel) (by decide)
theorem ux_60_54 : pm_w d 60 54 ls st h Q ↔ pm_w d 60 55 ls (.inl 0 :: st) h Q := pw_iconst (show decode (pm_b 60) 54 = .ok (.iconst 0, 1) by decide +kernel) (by unfold pm_I32; decide)
theorem ux_60_55 : pm_w d 60 55 ls st h Q ↔ pm_i st fun x s => pm_w d 60 57 (pm_s1 ls 4 (.inl x)) s h Q := pw_istore (show decode (pm_b 60) 55 = .ok (.istore 4, 2) by decide +kernel) (by decide)
theorem ux_60_57 : pm_w d 60 57 ls st h Q ↔ pm_li ls 4 fun x => pm_w d 60 59 ls (.inl x :: st) h Q := pw_iload (show decode (pm_b 60) 57 = .ok (.iload 4, 2) by decide +kernel)
theorem ux_60_59 : pm_w d 60 59 ls st h Q ↔ pm_lq ls 0 fun x => pm_w d 60 60 ls (.inr (.inr x) :: st) h Q := pw_aload_n (show decode (pm_b 60) 59 = .ok (.aload_n 0, 1) by decide +kernel)
theorem ux_60_60 : pm_w d 60 60 ls st h Q ↔ pm_r st fun a s => pm_tgs h a [4] ∧ pm_w d 60 63 ls (.inl (h.1 a 0) :: s) h Q := pw_get (show decode (pm_b 60) 60 = .ok (.getfield 39, 3) by decide +kernel) fx_4_39
theorem ux_60_63 : pm_w d 60 63 ls st h Q ↔ pm_i st fun y s => pm_i s fun x s => ((y ≤ x) → pm_w d 60 153 ls s h Q) ∧ (¬ (y ≤ x) → pm_w d 60 66 ls s h Q) := pw_ic_ge (show decode (pm_b 60) 63 = .ok (.if_icmp .ge 90, 3) by decide +kernel) (by decide)
theorem ux_60_66 : pm_w d 60 66 ls st h Q ↔ pm_lq ls 0 fun x => pm_w d 60 67 ls (.inr (.inr x) :: st) h Q := pw_aload_n (show decode (pm_b 60) 66 = .ok (.aload_n 0, 1) by decide +kernel)
theorem ux_60_67 : pm_w d 60 67 ls st h Q ↔ pm_r st fun a s => pm_tgs h a [4] ∧ pm_w d 60 70 ls (.inr (.inr (h.2.1 a 3)) :: s) h Q := pw_get (show decode (pm_b 60) 67 = .ok (.getfield 9, 3) by decide +kernel) fx_4_9
theorem ux_60_70 : pm_w d 60 70 ls st h Q ↔ pm_li ls 4 fun x => pm_w d 60 72 ls (.inl x :: st) h Q := pw_iload (show decode (pm_b 60) 70 = .ok (.iload 4, 2) by decide +kernel)
theorem ux_60_72 : pm_w d 60 72 ls st h Q ↔ pm_lq ls 1 fun x => pm_w d 60 73 ls (.inr (.inr x) :: st) h Q := pw_aload_n (show decode (pm_b 60) 72 = .ok (.aload_n 1, 1) by decide +kernel)
theorem ux_60_73 : pm_w d 60 73 ls st h Q ↔ pm_r st fun a s => pm_tgs h a [1] ∧ pm_w d 60 76 ls (.inr (.inr (h.2.1 a 5)) :: s) h Q := pw_get (show decode (pm_b 60) 73 = .ok (.getfield 69, 3) by decide +kernel) fx_4_69
theorem ux_60_76 : pm_w d 60 76 ls st h Q ↔ pm_li ls 4 fun x => pm_w d 60 78 ls (.inl x :: st) h Q := pw_iload (show decode (pm_b 60) 76 = .ok (.iload 4, 2) by decide +kernel)
theorem ux_60_78 : pm_w d 60 78 ls st h Q ↔ pm_i st fun x s => pm_r s fun a s => pm_inb h a 20 x ∧ pm_w d 60 79 ls (.inl (h.1 a x.toNat) :: s) h Q := pw_iaload (show decode (pm_b 60) 78 = .ok (.iaload, 1) by decide +kernel)
theorem ux_60_79 : pm_w d 60 79 ls st h Q ↔ pm_li ls 2 fun x => pm_w d 60 80 ls (.inl x :: st) h Q := pw_iload_n (show decode (pm_b 60) 79 = .ok (.iload_n 2, 1) by decide +kernel)
theorem ux_60_80 : pm_w d 60 80 ls st h Q ↔ pm_i st fun y s => pm_i s fun x s => pm_I32 (x * y) ∧ pm_w d 60 81 ls (.inl (x * y) :: s) h Q := pw_imul (show decode (pm_b 60) 80 = .ok (.imul, 1) by decide +kernel)
theorem ux_60_81 : pm_w d 60 81 ls st h Q ↔ pm_i st fun v s => pm_i s fun x s => pm_r s fun a s => pm_inb h a 20 x ∧ pm_w d 60 82 ls s (pm_wI h a x.toNat v) Q := pw_iastore (show decode (pm_b 60) 81 = .ok (.iastore, 1) by decide +kernel)
theorem ux_60_82 : pm_w d 60 82 ls st h Q ↔ pm_lq ls 0 fun x => pm_w d 60 83 ls (.inr (.inr x) :: st) h Q := pw_aload_n (show decode (pm_b 60) 82 = .ok (.aload_n 0, 1) by decide +kernel)
theorem ux_60_83 : pm_w d 60 83 ls st h Q ↔ pm_q st fun x s => pm_w d 60 84 ls (.inr (.inr x) :: .inr (.inr x) :: s) h Q := pw_dup (show decode (pm_b 60) 83 = .ok (.dup, 1) by decide +kernel)
theorem ux_60_84 : pm_w d 60 84 ls st h Q ↔ pm_r st fun a s => pm_tgs h a [4] ∧ pm_w d 60 87 ls (.inl (h.1 a 2) :: s) h Q := pw_get (show decode (pm_b 60) 84 = .ok (.getfield 62, 3) by decide +kernel) fx_4_62
theorem ux_60_87 : pm_w d 60 87 ls st h Q ↔ pm_lq ls 0 fun x => pm_w d 60 88 ls (.inr (.inr x) :: st) h Q := pw_aload_n (show decode (pm_b 60) 87 = .ok (.aload_n 0, 1) by decide +kernel)
theorem ux_60_88 : pm_w d 60 88 ls st h Q ↔ pm_r st fun a s => pm_tgs h a [4] ∧ pm_w d 60 91 ls (.inr (.inr (h.2.1 a 3)) :: s) h Q := pw_get (show decode (pm_b 60) 88 = .ok (.getfield 9, 3) by decide +kernel) fx_4_9
theorem ux_60_91 : pm_w d 60 91 ls st h Q ↔ pm_li ls 4 fun x => pm_w d 60 93 ls (.inl x :: st) h Q := pw_iload (show decode (pm_b 60) 91 = .ok (.iload 4, 2) by decide +kernel)
theorem ux_60_93 : pm_w d 60 93 ls st h Q ↔ pm_i st fun x s => pm_r s fun a s => pm_inb h a 20 x ∧ pm_w d 60 94 ls (.inl (h.1 a x.toNat) :: s) h Q := pw_iaload (show decode (pm_b 60) 93 = .ok (.iaload, 1) by decide +kernel)
theorem ux_60_94 : pm_w d 60 94 ls st h Q ↔ pm_i st fun y s => pm_i s fun x s => pm_I32 (x + y) ∧ pm_w d 60 95 ls (.inl (x + y) :: s) h Q := pw_iadd (show decode (pm_b 60) 94 = .ok (.iadd, 1) by decide +kernel)
theorem ux_60_95 : pm_w d 60 95 ls st h Q ↔ pm_i st fun x s => pm_r s fun a s => (pm_tgs h a [4]) ∧ pm_w d 60 98 ls s (pm_wI h a 2 x) Q := pw_put0 (show decode (pm_b 60) 95 = .ok (.putfield 62, 3) by decide +kernel) fx_4_62 (Or.inl rfl)
theorem ux_60_98 : pm_w d 60 98 ls st h Q ↔ pm_w d 60 99 ls (.inl 0 :: st) h Q := pw_iconst (show decode (pm_b 60) 98 = .ok (.iconst 0, 1) by decide +kernel) (by unfold pm_I32; decide)
theorem ux_60_99 : pm_w d 60 99 ls st h Q ↔ pm_i st fun x s => pm_w d 60 101 (pm_s1 ls 5 (.inl x)) s h Q := pw_istore (show decode (pm_b 60) 99 = .ok (.istore 5, 2) by decide +kernel) (by decide)
theorem ux_60_101 : pm_w d 60 101 ls st h Q ↔ pm_li ls 5 fun x => pm_w d 60 103 ls (.inl x :: st) h Q := pw_iload (show decode (pm_b 60) 101 = .ok (.iload 5, 2) by decide +kernel)
theorem ux_60_103 : pm_w d 60 103 ls st h Q ↔ pm_lq ls 0 fun x => pm_w d 60 104 ls (.inr (.inr x) :: st) h Q := pw_aload_n (show decode (pm_b 60) 103 = .ok (.aload_n 0, 1) by decide +kernel)
theorem ux_60_104 : pm_w d 60 104 ls st h Q ↔ pm_r st fun a s => pm_tgs h a [4] ∧ pm_w d 60 107 ls (.inl (h.1 a 1) :: s) h Q := pw_get (show decode (pm_b 60) 104 = .ok (.getfield 61, 3) by decide +kernel) fx_4_61
theorem ux_60_107 : pm_w d 60 107 ls st h Q ↔ pm_i st fun y s => pm_i s fun x s => ((y ≤ x) → pm_w d 60 147 ls s h Q) ∧ (¬ (y ≤ x) → pm_w d 60 110 ls s h Q) := pw_ic_ge (show decode (pm_b 60) 107 = .ok (.if_icmp .ge 40, 3) by decide +kernel) (by decide)
theorem ux_60_110 : pm_w d 60 110 ls st h Q ↔ pm_lq ls 0 fun x => pm_w d 60 111 ls (.inr (.inr x) :: st) h Q := pw_aload_n (show decode (pm_b 60) 110 = .ok (.aload_n 0, 1) by decide +kernel)
theorem ux_60_111 : pm_w d 60 111 ls st h Q ↔ pm_r st fun a s => pm_tgs h a [4] ∧ pm_w d 60 114 ls (.inr (.inr (h.2.1 a 5)) :: s) h Q := pw_get (show decode (pm_b 60) 111 = .ok (.getfield 20, 3) by decide +kernel) fx_4_20
theorem ux_60_114 : pm_w d 60 114 ls st h Q ↔ pm_li ls 4 fun x => pm_w d 60 116 ls (.inl x :: st) h Q := pw_iload (show decode (pm_b 60) 114 = .ok (.iload 4, 2) by decide +kernel)
theorem ux_60_116 : pm_w d 60 116 ls st h Q ↔ pm_i st fun x s => pm_r s fun a s => (pm_inb h a 23 x ∨ pm_inb h a 24 x ∨ pm_inb h a 25 x) ∧ pm_w d 60 117 ls (.inr (.inr (h.2.1 a x.toNat)) :: s) h Q := pw_aaload (show decode (pm_b 60) 116 = .ok (.aaload, 1) by decide +kernel)
theorem ux_60_117 : pm_w d 60 117 ls st h Q ↔ pm_li ls 5 fun x => pm_w d 60 119 ls (.inl x :: st) h Q := pw_iload (show decode (pm_b 60) 117 = .ok (.iload 5, 2) by decide +kernel)
theorem ux_60_119 : pm_w d 60 119 ls st h Q ↔ pm_w d 60 120 ls (.inl 0 :: st) h Q := pw_iconst (show decode (pm_b 60) 119 = .ok (.iconst 0, 1) by decide +kernel) (by unfold pm_I32; decide)
theorem ux_60_120 : pm_w d 60 120 ls st h Q ↔ pm_i st fun v s => pm_i s fun x s => pm_r s fun a s => pm_inb h a 20 x ∧ pm_w d 60 121 ls s (pm_wI h a x.toNat v) Q := pw_iastore (show decode (pm_b 60) 120 = .ok (.iastore, 1) by decide +kernel)
theorem ux_60_121 : pm_w d 60 121 ls st h Q ↔ pm_lq ls 0 fun x => pm_w d 60 122 ls (.inr (.inr x) :: st) h Q := pw_aload_n (show decode (pm_b 60) 121 = .ok (.aload_n 0, 1) by decide +kernel)
theorem ux_60_122 : pm_w d 60 122 ls st h Q ↔ pm_r st fun a s => pm_tgs h a [4] ∧ pm_w d 60 125 ls (.inr (.inr (h.2.1 a 6)) :: s) h Q := pw_get (show decode (pm_b 60) 122 = .ok (.getfield 23, 3) by decide +kernel) fx_4_23
theorem ux_60_125 : pm_w d 60 125 ls st h Q ↔ pm_li ls 4 fun x => pm_w d 60 127 ls (.inl x :: st) h Q := pw_iload (show decode (pm_b 60) 125 = .ok (.iload 4, 2) by decide +kernel)
theorem ux_60_127 : pm_w d 60 127 ls st h Q ↔ pm_i st fun x s => pm_r s fun a s => (pm_inb h a 23 x ∨ pm_inb h a 24 x ∨ pm_inb h a 25 x) ∧ pm_w d 60 128 ls (.inr (.inr (h.2.1 a x.toNat)) :: s) h Q := pw_aaload (show decode (pm_b 60) 127 = .ok (.aaload, 1) by decide +kernel)
theorem ux_60_128 : pm_w d 60 128 ls st h Q ↔ pm_li ls 5 fun x => pm_w d 60 130 ls (.inl x :: st) h Q := pw_iload (show decode (pm_b 60) 128 = .ok (.iload 5, 2) by decide +kernel)
theorem ux_60_130 : pm_w d 60 130 ls st h Q ↔ pm_lq ls 1 fun x => pm_w d 60 131 ls (.inr (.inr x) :: st) h Q := pw_aload_n (show decode (pm_b 60) 130 = .ok (.aload_n 1, 1) by decide +kernel)
theorem ux_60_131 : pm_w d 60 131 ls st h Q ↔ pm_li ls 4 fun x => pm_w d 60 133 ls (.inl x :: st) h Q := pw_iload (show decode (pm_b 60) 131 = .ok (.iload 4, 2) by decide +kernel)
theorem ux_60_133 : pm_w d 60 133 ls st h Q ↔ pm_li ls 5 fun x => pm_w d 60 135 ls (.inl x :: st) h Q := pw_iload (show decode (pm_b 60) 133 = .ok (.iload 5, 2) by decide +kernel)
theorem ux_60_135 : pm_w d 60 135 ls st h Q ↔ pm_r (st.drop 2) fun a s => (2 ≤ st.length ∧ pm_wt s ≤ 8 ∧ pm_tg h a 1) ∧ pm_ok d 63 (.inr (.inr (some a)) :: (st.take 2).reverse) h fun r h1 => pm_w d 60 138 ls (pm_pu r s) h1 Q := pw_virt (show decode (pm_b 60) 135 = .ok (.invokevirtual 72, 3) by decide +kernel) mx_4_72
theorem ux_60_138 : pm_w d 60 138 ls st h Q ↔ pm_li ls 3 fun x => pm_w d 60 139 ls (.inl x :: st) h Q := pw_iload_n (show decode (pm_b 60) 138 = .ok (.iload_n 3, 1) by decide +kernel)
theorem ux_60_139 : pm_w d 60 139 ls st h Q ↔ pm_i st fun y s => pm_i s fun x s => pm_I32 (x * y) ∧ pm_w d 60 140 ls (.inl (x * y) :: s) h Q := pw_imul (show decode (pm_b 60) 139 = .ok (.imul, 1) by decide +kernel)
theorem ux_60_140 : pm_w d 60 140 ls st h Q ↔ pm_i st fun v s => pm_i s fun x s => pm_r s fun a s => pm_inb h a 20 x ∧ pm_w d 60 141 ls s (pm_wI h a x.toNat v) Q := pw_iastore (show decode (pm_b 60) 140 = .ok (.iastore, 1) by decide +kernel)
theorem ux_60_141 : pm_w d 60 141 ls st h Q ↔ pm_li ls 5 fun x => pm_I32 (x + 1) ∧ pm_w d 60 144 (pm_s1 ls 5 (.inl (x + 1))) st h Q := pw_iinc (show decode (pm_b 60) 141 = .ok (.iinc 5 1, 3) by decide +kernel) (by decide)
theorem ux_60_144 : pm_w d 60 144 ls st h Q ↔ pm_w d 60 101 ls st h Q := pw_goto (show decode (pm_b 60) 144 = .ok (.goto (-43), 3) by decide +kernel) (by decide)
theorem ux_60_147 : pm_w d 60 147 ls st h Q ↔ pm_li ls 4 fun x => pm_I32 (x + 1) ∧ pm_w d 60 150 (pm_s1 ls 4 (.inl (x + 1))) st h Q := pw_iinc (show decode (pm_b 60) 147 = .ok (.iinc 4 1, 3) by decide +kernel) (by decide)
theorem ux_60_150 : pm_w d 60 150 ls st h Q ↔ pm_w d 60 57 ls st h Q := pw_goto (show decode (pm_b 60) 150 = .ok (.goto (-93), 3) by decide +kernel) (by decide)
theorem ux_60_153 : pm_w d 60 153 ls st h Q ↔ st = [] ∧ Q none h := pw_return (show decode (pm_b 60) 153 = .ok (.return_, 1) by decide +kernel) rfl
-- 61: LFrame.stretchTakes
theorem ux_61_0 : pm_w d 61 0 ls st h Q ↔ pm_lq ls 0 fun x => pm_w d 61 1 ls (.inr (.inr x) :: st) h Q := pw_aload_n (show decode (pm_b 61) 0 = .ok (.aload_n 0, 1) by decide +kernel)
theorem ux_61_1 : pm_w d 61 1 ls st h Q ↔ pm_r st fun a s => pm_tgs h a [1] ∧ pm_w d 61 4 ls (.inl (h.1 a 0) :: s) h Q := pw_get (show decode (pm_b 61) 1 = .ok (.getfield 25, 3) by decide +kernel) fx_1_25
theorem ux_61_4 : pm_w d 61 4 ls st h Q ↔ pm_lq ls 0 fun x => pm_w d 61 5 ls (.inr (.inr x) :: st) h Q := pw_aload_n (show decode (pm_b 61) 4 = .ok (.aload_n 0, 1) by decide +kernel)
theorem ux_61_5 : pm_w d 61 5 ls st h Q ↔ pm_li ls 1 fun x => pm_w d 61 6 ls (.inl x :: st) h Q := pw_iload_n (show decode (pm_b 61) 5 = .ok (.iload_n 1, 1) by decide +kernel)
theorem ux_61_6 : pm_w d 61 6 ls st h Q ↔ pm_r (st.drop 1) fun a s => (1 ≤ st.length ∧ pm_wt s ≤ 8 ∧ pm_tg h a 1) ∧ pm_ok d 62 (.inr (.inr (some a)) :: (st.take 1).reverse) h fun r h1 => pm_w d 61 9 ls (pm_pu r s) h1 Q := pw_virt (show decode (pm_b 61) 6 = .ok (.invokevirtual 97, 3) by decide +kernel) mx_1_97
theorem ux_61_9 : pm_w d 61 9 ls st h Q ↔ pm_i st fun y s => pm_i s fun x s => pm_I32 (x * y) ∧ pm_w d 61 10 ls (.inl (x * y) :: s) h Q := pw_imul (show decode (pm_b 61) 9 = .ok (.imul, 1) by decide +kernel)
theorem ux_61_10 : pm_w d 61 10 ls st h Q ↔ pm_i st fun x s => s = [] ∧ Q (some (.inl x)) h := pw_ireturn (show decode (pm_b 61) 10 = .ok (.ireturn, 1) by decide +kernel) rfl
-- 62: LFrame.stretchLength
theorem ux_62_0 : pm_w d 62 0 ls st h Q ↔ pm_lq ls 0 fun x => pm_w d 62 1 ls (.inr (.inr x) :: st) h Q := pw_aload_n (show decode (pm_b 62) 0 = .ok (.aload_n 0, 1) by decide +kernel)
theorem ux_62_1 : pm_w d 62 1 ls st h Q ↔ pm_r st fun a s => pm_tgs h a [1] ∧ pm_w d 62 4 ls (.inr (.inr (h.2.1 a 4)) :: s) h Q := pw_get (show decode (pm_b 62) 1 = .ok (.getfield 9, 3) by decide +kernel) fx_1_9
theorem ux_62_4 : pm_w d 62 4 ls st h Q ↔ pm_li ls 1 fun x => pm_w d 62 5 ls (.inl x :: st) h Q := pw_iload_n (show decode (pm_b 62) 4 = .ok (.iload_n 1, 1) by decide +kernel)
theorem ux_62_5 : pm_w d 62 5 ls st h Q ↔ pm_w d 62 6 ls (.inl 1 :: st) h Q := pw_iconst (show decode (pm_b 62) 5 = .ok (.iconst 1, 1) by decide +kernel) (by unfold pm_I32; decide)
theorem ux_62_6 : pm_w d 62 6 ls st h Q ↔ pm_i st fun y s => pm_i s fun x s => pm_I32 (x + y) ∧ pm_w d 62 7 ls (.inl (x + y) :: s) h Q := pw_iadd (show decode (pm_b 62) 6 = .ok (.iadd, 1) by decide +kernel)
theorem ux_62_7 : pm_w d 62 7 ls st h Q ↔ pm_i st fun x s => pm_r s fun a s => pm_inb h a 20 x ∧ pm_w d 62 8 ls (.inl (h.1 a x.toNat) :: s) h Q := pw_iaload (show decode (pm_b 62) 7 = .ok (.iaload, 1) by decide +kernel)
theorem ux_62_8 : pm_w d 62 8 ls st h Q ↔ pm_lq ls 0 fun x => pm_w d 62 9 ls (.inr (.inr x) :: st) h Q := pw_aload_n (show decode (pm_b 62) 8 = .ok (.aload_n 0, 1) by decide +kernel)
theorem ux_62_9 : pm_w d 62 9 ls st h Q ↔ pm_r st fun a s => pm_tgs h a [1] ∧ pm_w d 62 12 ls (.inr (.inr (h.2.1 a 4)) :: s) h Q := pw_get (show decode (pm_b 62) 9 = .ok (.getfield 9, 3) by decide +kernel) fx_1_9
theorem ux_62_12 : pm_w d 62 12 ls st h Q ↔ pm_li ls 1 fun x => pm_w d 62 13 ls (.inl x :: st) h Q := pw_iload_n (show decode (pm_b 62) 12 = .ok (.iload_n 1, 1) by decide +kernel)
theorem ux_62_13 : pm_w d 62 13 ls st h Q ↔ pm_i st fun x s => pm_r s fun a s => pm_inb h a 20 x ∧ pm_w d 62 14 ls (.inl (h.1 a x.toNat) :: s) h Q := pw_iaload (show decode (pm_b 62) 13 = .ok (.iaload, 1) by decide +kernel)
theorem ux_62_14 : pm_w d 62 14 ls st h Q ↔ pm_i st fun y s => pm_i s fun x s => pm_I32 (x - y) ∧ pm_w d 62 15 ls (.inl (x - y) :: s) h Q := pw_isub (show decode (pm_b 62) 14 = .ok (.isub, 1) by decide +kernel)
theorem ux_62_15 : pm_w d 62 15 ls st h Q ↔ pm_i st fun x s => s = [] ∧ Q (some (.inl x)) h := pw_ireturn (show decode (pm_b 62) 15 = .ok (.ireturn, 1) by decide +kernel) rfl
-- 63: LFrame.pieceTakes
theorem ux_63_0 : pm_w d 63 0 ls st h Q ↔ pm_lq ls 0 fun x => pm_w d 63 1 ls (.inr (.inr x) :: st) h Q := pw_aload_n (show decode (pm_b 63) 0 = .ok (.aload_n 0, 1) by decide +kernel)
theorem ux_63_1 : pm_w d 63 1 ls st h Q ↔ pm_r st fun a s => pm_tgs h a [1] ∧ pm_w d 63 4 ls (.inr (.inr (h.2.1 a 7)) :: s) h Q := pw_get (show decode (pm_b 63) 1 = .ok (.getfield 21, 3) by decide +kernel) fx_1_21
theorem ux_63_4 : pm_w d 63 4 ls st h Q ↔ pm_li ls 1 fun x => pm_w d 63 5 ls (.inl x :: st) h Q := pw_iload_n (show decode (pm_b 63) 4 = .ok (.iload_n 1, 1) by decide +kernel)
theorem ux_63_5 : pm_w d 63 5 ls st h Q ↔ pm_i st fun x s => pm_r s fun a s => pm_inb h a 21 x ∧ pm_w d 63 6 ls (.inr (.inl (h.1 a x.toNat)) :: s) h Q := pw_laload (show decode (pm_b 63) 5 = .ok (.laload, 1) by decide +kernel)
theorem ux_63_6 : pm_w d 63 6 ls st h Q ↔ pm_li ls 2 fun x => pm_w d 63 7 ls (.inl x :: st) h Q := pw_iload_n (show decode (pm_b 63) 6 = .ok (.iload_n 2, 1) by decide +kernel)
theorem ux_63_7 : pm_w d 63 7 ls st h Q ↔ pm_i st fun y s => pm_l s fun x s => (0 ≤ y ∧ y < 64 ∧ 0 ≤ x) ∧ pm_w d 63 8 ls (.inr (.inl (x / 2 ^ y.toNat)) :: s) h Q := pw_lushr (show decode (pm_b 63) 7 = .ok (.lushr, 1) by decide +kernel)
theorem ux_63_8 : pm_w d 63 8 ls st h Q ↔ pm_w d 63 9 ls (.inr (.inl 1) :: st) h Q := pw_lconst (show decode (pm_b 63) 8 = .ok (.lconst 1, 1) by decide +kernel)
theorem ux_63_9 : pm_w d 63 9 ls st h Q ↔ pm_l st fun y s => pm_l s fun x s => (0 ≤ y ∧ 0 ≤ x) ∧ pm_w d 63 10 ls (.inr (.inl ((x.toNat &&& y.toNat : Nat) : Int)) :: s) h Q := pw_land (show decode (pm_b 63) 9 = .ok (.land, 1) by decide +kernel)
theorem ux_63_10 : pm_w d 63 10 ls st h Q ↔ pm_w d 63 11 ls (.inr (.inl 0) :: st) h Q := pw_lconst (show decode (pm_b 63) 10 = .ok (.lconst 0, 1) by decide +kernel)
theorem ux_63_11 : pm_w d 63 11 ls st h Q ↔ pm_l st fun y s => pm_l s fun x s => pm_w d 63 12 ls (.inl (pm_lc x y) :: s) h Q := pw_lcmp (show decode (pm_b 63) 11 = .ok (.lcmp, 1) by decide +kernel)
theorem ux_63_12 : pm_w d 63 12 ls st h Q ↔ pm_i st fun x s => ((x = 0) → pm_w d 63 19 ls s h Q) ∧ (¬ (x = 0) → pm_w d 63 15 ls s h Q) := pw_if_eq (show decode (pm_b 63) 12 = .ok (.ifCond .eq 7, 3) by decide +kernel) (by decide)
theorem ux_63_15 : pm_w d 63 15 ls st h Q ↔ pm_w d 63 16 ls (.inl 1 :: st) h Q := pw_iconst (show decode (pm_b 63) 15 = .ok (.iconst 1, 1) by decide +kernel) (by unfold pm_I32; decide)
theorem ux_63_16 : pm_w d 63 16 ls st h Q ↔ pm_w d 63 20 ls st h Q := pw_goto (show decode (pm_b 63) 16 = .ok (.goto 4, 3) by decide +kernel) (by decide)
theorem ux_63_19 : pm_w d 63 19 ls st h Q ↔ pm_w d 63 20 ls (.inl 0 :: st) h Q := pw_iconst (show decode (pm_b 63) 19 = .ok (.iconst 0, 1) by decide +kernel) (by unfold pm_I32; decide)
theorem ux_63_20 : pm_w d 63 20 ls st h Q ↔ pm_i st fun x s => pm_w d 63 21 (pm_s1 ls 3 (.inl x)) s h Q := pw_istore_n (show decode (pm_b 63) 20 = .ok (.istore_n 3, 1) by decide +kernel) (by decide)
theorem ux_63_21 : pm_w d 63 21 ls st h Q ↔ pm_li ls 3 fun x => pm_w d 63 22 ls (.inl x :: st) h Q := pw_iload_n (show decode (pm_b 63) 21 = .ok (.iload_n 3, 1) by decide +kernel)
theorem ux_63_22 : pm_w d 63 22 ls st h Q ↔ pm_i st fun x s => ((x = 0) → pm_w d 63 40 ls s h Q) ∧ (¬ (x = 0) → pm_w d 63 25 ls s h Q) := pw_if_eq (show decode (pm_b 63) 22 = .ok (.ifCond .eq 18, 3) by decide +kernel) (by decide)
theorem ux_63_25 : pm_w d 63 25 ls st h Q ↔ pm_lq ls 0 fun x => pm_w d 63 26 ls (.inr (.inr x) :: st) h Q := pw_aload_n (show decode (pm_b 63) 25 = .ok (.aload_n 0, 1) by decide +kernel)
theorem ux_63_26 : pm_w d 63 26 ls st h Q ↔ pm_r st fun a s => pm_tgs h a [1] ∧ pm_w d 63 29 ls (.inr (.inr (h.2.1 a 6)) :: s) h Q := pw_get (show decode (pm_b 63) 26 = .ok (.getfield 18, 3) by decide +kernel) fx_1_18
theorem ux_63_29 : pm_w d 63 29 ls st h Q ↔ pm_li ls 1 fun x => pm_w d 63 30 ls (.inl x :: st) h Q := pw_iload_n (show decode (pm_b 63) 29 = .ok (.iload_n 1, 1) by decide +kernel)
theorem ux_63_30 : pm_w d 63 30 ls st h Q ↔ pm_i st fun x s => pm_r s fun a s => pm_inb h a 20 x ∧ pm_w d 63 31 ls (.inl (h.1 a x.toNat) :: s) h Q := pw_iaload (show decode (pm_b 63) 30 = .ok (.iaload, 1) by decide +kernel)
theorem ux_63_31 : pm_w d 63 31 ls st h Q ↔ pm_lq ls 0 fun x => pm_w d 63 32 ls (.inr (.inr x) :: st) h Q := pw_aload_n (show decode (pm_b 63) 31 = .ok (.aload_n 0, 1) by decide +kernel)
theorem ux_63_32 : pm_w d 63 32 ls st h Q ↔ pm_li ls 2 fun x => pm_w d 63 33 ls (.inl x :: st) h Q := pw_iload_n (show decode (pm_b 63) 32 = .ok (.iload_n 2, 1) by decide +kernel)
theorem ux_63_33 : pm_w d 63 33 ls st h Q ↔ pm_r (st.drop 1) fun a s => (1 ≤ st.length ∧ pm_wt s ≤ 8 ∧ pm_tg h a 1) ∧ pm_ok d 62 (.inr (.inr (some a)) :: (st.take 1).reverse) h fun r h1 => pm_w d 63 36 ls (pm_pu r s) h1 Q := pw_virt (show decode (pm_b 63) 33 = .ok (.invokevirtual 97, 3) by decide +kernel) mx_1_97
theorem ux_63_36 : pm_w d 63 36 ls st h Q ↔ pm_i st fun y s => pm_i s fun x s => pm_I32 (x * y) ∧ pm_w d 63 37 ls (.inl (x * y) :: s) h Q := pw_imul (show decode (pm_b 63) 36 = .ok (.imul, 1) by decide +kernel)
theorem ux_63_37 : pm_w d 63 37 ls st h Q ↔ pm_w d 63 41 ls st h Q := pw_goto (show decode (pm_b 63) 37 = .ok (.goto 4, 3) by decide +kernel) (by decide)
theorem ux_63_40 : pm_w d 63 40 ls st h Q ↔ pm_w d 63 41 ls (.inl 0 :: st) h Q := pw_iconst (show decode (pm_b 63) 40 = .ok (.iconst 0, 1) by decide +kernel) (by unfold pm_I32; decide)
theorem ux_63_41 : pm_w d 63 41 ls st h Q ↔ pm_i st fun x s => s = [] ∧ Q (some (.inl x)) h := pw_ireturn (show decode (pm_b 63) 41 = .ok (.ireturn, 1) by decide +kernel) rfl
-- 64: LLaying.layPlainly
theorem ux_64_0 : pm_w d 64 0 ls st h Q ↔ pm_w d 64 1 ls (.inl 0 :: st) h Q := pw_iconst (show decode (pm_b 64) 0 = .ok (.iconst 0, 1) by decide +kernel) (by unfold pm_I32; decide)
theorem ux_64_1 : pm_w d 64 1 ls st h Q ↔ pm_i st fun x s => pm_w d 64 2 (pm_s1 ls 2 (.inl x)) s h Q := pw_istore_n (show decode (pm_b 64) 1 = .ok (.istore_n 2, 1) by decide +kernel) (by decide)
theorem ux_64_2 : pm_w d 64 2 ls st h Q ↔ pm_li ls 2 fun x => pm_w d 64 3 ls (.inl x :: st) h Q := pw_iload_n (show decode (pm_b 64) 2 = .ok (.iload_n 2, 1) by decide +kernel)
theorem ux_64_3 : pm_w d 64 3 ls st h Q ↔ pm_lq ls 0 fun x => pm_w d 64 4 ls (.inr (.inr x) :: st) h Q := pw_aload_n (show decode (pm_b 64) 3 = .ok (.aload_n 0, 1) by decide +kernel)
theorem ux_64_4 : pm_w d 64 4 ls st h Q ↔ pm_r st fun a s => pm_tgs h a [4] ∧ pm_w d 64 7 ls (.inl (h.1 a 1) :: s) h Q := pw_get (show decode (pm_b 64) 4 = .ok (.getfield 61, 3) by decide +kernel) fx_4_61
theorem ux_64_7 : pm_w d 64 7 ls st h Q ↔ pm_i st fun y s => pm_i s fun x s => ((y ≤ x) → pm_w d 64 89 ls s h Q) ∧ (¬ (y ≤ x) → pm_w d 64 10 ls s h Q) := pw_ic_ge (show decode (pm_b 64) 7 = .ok (.if_icmp .ge 82, 3) by decide +kernel) (by decide)
theorem ux_64_10 : pm_w d 64 10 ls st h Q ↔ pm_lq ls 0 fun x => pm_w d 64 11 ls (.inr (.inr x) :: st) h Q := pw_aload_n (show decode (pm_b 64) 10 = .ok (.aload_n 0, 1) by decide +kernel)
theorem ux_64_11 : pm_w d 64 11 ls st h Q ↔ pm_r st fun a s => pm_tgs h a [4] ∧ pm_w d 64 14 ls (.inr (.inr (h.2.1 a 3)) :: s) h Q := pw_get (show decode (pm_b 64) 11 = .ok (.getfield 9, 3) by decide +kernel) fx_4_9
theorem ux_64_14 : pm_w d 64 14 ls st h Q ↔ pm_li ls 1 fun x => pm_w d 64 15 ls (.inl x :: st) h Q := pw_iload_n (show decode (pm_b 64) 14 = .ok (.iload_n 1, 1) by decide +kernel)
theorem ux_64_15 : pm_w d 64 15 ls st h Q ↔ pm_i st fun x s => pm_r s fun a s => pm_inb h a 20 x ∧ pm_w d 64 16 ls (.inl (h.1 a x.toNat) :: s) h Q := pw_iaload (show decode (pm_b 64) 15 = .ok (.iaload, 1) by decide +kernel)
theorem ux_64_16 : pm_w d 64 16 ls st h Q ↔ pm_i st fun x s => ((x ≤ 0) → pm_w d 64 89 ls s h Q) ∧ (¬ (x ≤ 0) → pm_w d 64 19 ls s h Q) := pw_if_le (show decode (pm_b 64) 16 = .ok (.ifCond .le 73, 3) by decide +kernel) (by decide)
theorem ux_64_19 : pm_w d 64 19 ls st h Q ↔ pm_lq ls 0 fun x => pm_w d 64 20 ls (.inr (.inr x) :: st) h Q := pw_aload_n (show decode (pm_b 64) 19 = .ok (.aload_n 0, 1) by decide +kernel)
theorem ux_64_20 : pm_w d 64 20 ls st h Q ↔ pm_r st fun a s => pm_tgs h a [4] ∧ pm_w d 64 23 ls (.inr (.inr (h.2.1 a 3)) :: s) h Q := pw_get (show decode (pm_b 64) 20 = .ok (.getfield 9, 3) by decide +kernel) fx_4_9
theorem ux_64_23 : pm_w d 64 23 ls st h Q ↔ pm_li ls 1 fun x => pm_w d 64 24 ls (.inl x :: st) h Q := pw_iload_n (show decode (pm_b 64) 23 = .ok (.iload_n 1, 1) by decide +kernel)
theorem ux_64_24 : pm_w d 64 24 ls st h Q ↔ pm_i st fun x s => pm_r s fun a s => pm_inb h a 20 x ∧ pm_w d 64 25 ls (.inl (h.1 a x.toNat) :: s) h Q := pw_iaload (show decode (pm_b 64) 24 = .ok (.iaload, 1) by decide +kernel)
theorem ux_64_25 : pm_w d 64 25 ls st h Q ↔ pm_lq ls 0 fun x => pm_w d 64 26 ls (.inr (.inr x) :: st) h Q := pw_aload_n (show decode (pm_b 64) 25 = .ok (.aload_n 0, 1) by decide +kernel)
theorem ux_64_26 : pm_w d 64 26 ls st h Q ↔ pm_r st fun a s => pm_tgs h a [4] ∧ pm_w d 64 29 ls (.inr (.inr (h.2.1 a 4)) :: s) h Q := pw_get (show decode (pm_b 64) 26 = .ok (.getfield 15, 3) by decide +kernel) fx_4_15
theorem ux_64_29 : pm_w d 64 29 ls st h Q ↔ pm_li ls 2 fun x => pm_w d 64 30 ls (.inl x :: st) h Q := pw_iload_n (show decode (pm_b 64) 29 = .ok (.iload_n 2, 1) by decide +kernel)
theorem ux_64_30 : pm_w d 64 30 ls st h Q ↔ pm_i st fun x s => pm_r s fun a s => pm_inb h a 20 x ∧ pm_w d 64 31 ls (.inl (h.1 a x.toNat) :: s) h Q := pw_iaload (show decode (pm_b 64) 30 = .ok (.iaload, 1) by decide +kernel)
theorem ux_64_31 : pm_w d 64 31 ls st h Q ↔ pm_lq ls 0 fun x => pm_w d 64 32 ls (.inr (.inr x) :: st) h Q := pw_aload_n (show decode (pm_b 64) 31 = .ok (.aload_n 0, 1) by decide +kernel)
theorem ux_64_32 : pm_w d 64 32 ls st h Q ↔ pm_r st fun a s => pm_tgs h a [4] ∧ pm_w d 64 35 ls (.inr (.inr (h.2.1 a 6)) :: s) h Q := pw_get (show decode (pm_b 64) 32 = .ok (.getfield 23, 3) by decide +kernel) fx_4_23
theorem ux_64_35 : pm_w d 64 35 ls st h Q ↔ pm_li ls 1 fun x => pm_w d 64 36 ls (.inl x :: st) h Q := pw_iload_n (show decode (pm_b 64) 35 = .ok (.iload_n 1, 1) by decide +kernel)
theorem ux_64_36 : pm_w d 64 36 ls st h Q ↔ pm_i st fun x s => pm_r s fun a s => (pm_inb h a 23 x ∨ pm_inb h a 24 x ∨ pm_inb h a 25 x) ∧ pm_w d 64 37 ls (.inr (.inr (h.2.1 a x.toNat)) :: s) h Q := pw_aaload (show decode (pm_b 64) 36 = .ok (.aaload, 1) by decide +kernel)
theorem ux_64_37 : pm_w d 64 37 ls st h Q ↔ pm_li ls 2 fun x => pm_w d 64 38 ls (.inl x :: st) h Q := pw_iload_n (show decode (pm_b 64) 37 = .ok (.iload_n 2, 1) by decide +kernel)
theorem ux_64_38 : pm_w d 64 38 ls st h Q ↔ pm_i st fun x s => pm_r s fun a s => pm_inb h a 20 x ∧ pm_w d 64 39 ls (.inl (h.1 a x.toNat) :: s) h Q := pw_iaload (show decode (pm_b 64) 38 = .ok (.iaload, 1) by decide +kernel)
theorem ux_64_39 : pm_w d 64 39 ls st h Q ↔ pm_i st fun y s => pm_i s fun x s => pm_wt s ≤ 8 ∧ pm_w d 64 42 ls (.inl (min x y) :: s) h Q := pw_min (show decode (pm_b 64) 39 = .ok (.invokestatic 76, 3) by decide +kernel) mx_4_76
theorem ux_64_42 : pm_w d 64 42 ls st h Q ↔ pm_i st fun y s => pm_i s fun x s => pm_wt s ≤ 8 ∧ pm_w d 64 45 ls (.inl (min x y) :: s) h Q := pw_min (show decode (pm_b 64) 42 = .ok (.invokestatic 76, 3) by decide +kernel) mx_4_76
theorem ux_64_45 : pm_w d 64 45 ls st h Q ↔ pm_i st fun x s => pm_w d 64 46 (pm_s1 ls 3 (.inl x)) s h Q := pw_istore_n (show decode (pm_b 64) 45 = .ok (.istore_n 3, 1) by decide +kernel) (by decide)
theorem ux_64_46 : pm_w d 64 46 ls st h Q ↔ pm_lq ls 0 fun x => pm_w d 64 47 ls (.inr (.inr x) :: st) h Q := pw_aload_n (show decode (pm_b 64) 46 = .ok (.aload_n 0, 1) by decide +kernel)
theorem ux_64_47 : pm_w d 64 47 ls st h Q ↔ pm_li ls 1 fun x => pm_w d 64 48 ls (.inl x :: st) h Q := pw_iload_n (show decode (pm_b 64) 47 = .ok (.iload_n 1, 1) by decide +kernel)
theorem ux_64_48 : pm_w d 64 48 ls st h Q ↔ pm_li ls 2 fun x => pm_w d 64 49 ls (.inl x :: st) h Q := pw_iload_n (show decode (pm_b 64) 48 = .ok (.iload_n 2, 1) by decide +kernel)
theorem ux_64_49 : pm_w d 64 49 ls st h Q ↔ pm_li ls 3 fun x => pm_w d 64 50 ls (.inl x :: st) h Q := pw_iload_n (show decode (pm_b 64) 49 = .ok (.iload_n 3, 1) by decide +kernel)
theorem ux_64_50 : pm_w d 64 50 ls st h Q ↔ pm_r (st.drop 3) fun a s => (3 ≤ st.length ∧ pm_wt s ≤ 8 ∧ pm_tg h a 4) ∧ pm_ok d 65 (.inr (.inr (some a)) :: (st.take 3).reverse) h fun r h1 => pm_w d 64 53 ls (pm_pu r s) h1 Q := pw_virt (show decode (pm_b 64) 50 = .ok (.invokevirtual 81, 3) by decide +kernel) mx_4_81
theorem ux_64_53 : pm_w d 64 53 ls st h Q ↔ pm_lq ls 0 fun x => pm_w d 64 54 ls (.inr (.inr x) :: st) h Q := pw_aload_n (show decode (pm_b 64) 53 = .ok (.aload_n 0, 1) by decide +kernel)
theorem ux_64_54 : pm_w d 64 54 ls st h Q ↔ pm_r st fun a s => pm_tgs h a [4] ∧ pm_w d 64 57 ls (.inr (.inr (h.2.1 a 4)) :: s) h Q := pw_get (show decode (pm_b 64) 54 = .ok (.getfield 15, 3) by decide +kernel) fx_4_15
theorem ux_64_57 : pm_w d 64 57 ls st h Q ↔ pm_li ls 2 fun x => pm_w d 64 58 ls (.inl x :: st) h Q := pw_iload_n (show decode (pm_b 64) 57 = .ok (.iload_n 2, 1) by decide +kernel)
theorem ux_64_58 : pm_w d 64 58 ls st h Q ↔ pm_i st fun y s => pm_q s fun x s => pm_w d 64 59 ls (.inl y :: .inr (.inr x) :: .inl y :: .inr (.inr x) :: s) h Q := pw_dup2 (show decode (pm_b 64) 58 = .ok (.dup2, 1) by decide +kernel)
theorem ux_64_59 : pm_w d 64 59 ls st h Q ↔ pm_i st fun x s => pm_r s fun a s => pm_inb h a 20 x ∧ pm_w d 64 60 ls (.inl (h.1 a x.toNat) :: s) h Q := pw_iaload (show decode (pm_b 64) 59 = .ok (.iaload, 1) by decide +kernel)
theorem ux_64_60 : pm_w d 64 60 ls st h Q ↔ pm_li ls 3 fun x => pm_w d 64 61 ls (.inl x :: st) h Q := pw_iload_n (show decode (pm_b 64) 60 = .ok (.iload_n 3, 1) by decide +kernel)
theorem ux_64_61 : pm_w d 64 61 ls st h Q ↔ pm_i st fun y s => pm_i s fun x s => pm_I32 (x - y) ∧ pm_w d 64 62 ls (.inl (x - y) :: s) h Q := pw_isub (show decode (pm_b 64) 61 = .ok (.isub, 1) by decide +kernel)
theorem ux_64_62 : pm_w d 64 62 ls st h Q ↔ pm_i st fun v s => pm_i s fun x s => pm_r s fun a s => pm_inb h a 20 x ∧ pm_w d 64 63 ls s (pm_wI h a x.toNat v) Q := pw_iastore (show decode (pm_b 64) 62 = .ok (.iastore, 1) by decide +kernel)
theorem ux_64_63 : pm_w d 64 63 ls st h Q ↔ pm_lq ls 0 fun x => pm_w d 64 64 ls (.inr (.inr x) :: st) h Q := pw_aload_n (show decode (pm_b 64) 63 = .ok (.aload_n 0, 1) by decide +kernel)
theorem ux_64_64 : pm_w d 64 64 ls st h Q ↔ pm_r st fun a s => pm_tgs h a [4] ∧ pm_w d 64 67 ls (.inr (.inr (h.2.1 a 3)) :: s) h Q := pw_get (show decode (pm_b 64) 64 = .ok (.getfield 9, 3) by decide +kernel) fx_4_9
theorem ux_64_67 : pm_w d 64 67 ls st h Q ↔ pm_li ls 1 fun x => pm_w d 64 68 ls (.inl x :: st) h Q := pw_iload_n (show decode (pm_b 64) 67 = .ok (.iload_n 1, 1) by decide +kernel)
theorem ux_64_68 : pm_w d 64 68 ls st h Q ↔ pm_i st fun y s => pm_q s fun x s => pm_w d 64 69 ls (.inl y :: .inr (.inr x) :: .inl y :: .inr (.inr x) :: s) h Q := pw_dup2 (show decode (pm_b 64) 68 = .ok (.dup2, 1) by decide +kernel)
theorem ux_64_69 : pm_w d 64 69 ls st h Q ↔ pm_i st fun x s => pm_r s fun a s => pm_inb h a 20 x ∧ pm_w d 64 70 ls (.inl (h.1 a x.toNat) :: s) h Q := pw_iaload (show decode (pm_b 64) 69 = .ok (.iaload, 1) by decide +kernel)
theorem ux_64_70 : pm_w d 64 70 ls st h Q ↔ pm_li ls 3 fun x => pm_w d 64 71 ls (.inl x :: st) h Q := pw_iload_n (show decode (pm_b 64) 70 = .ok (.iload_n 3, 1) by decide +kernel)
theorem ux_64_71 : pm_w d 64 71 ls st h Q ↔ pm_i st fun y s => pm_i s fun x s => pm_I32 (x - y) ∧ pm_w d 64 72 ls (.inl (x - y) :: s) h Q := pw_isub (show decode (pm_b 64) 71 = .ok (.isub, 1) by decide +kernel)
theorem ux_64_72 : pm_w d 64 72 ls st h Q ↔ pm_i st fun v s => pm_i s fun x s => pm_r s fun a s => pm_inb h a 20 x ∧ pm_w d 64 73 ls s (pm_wI h a x.toNat v) Q := pw_iastore (show decode (pm_b 64) 72 = .ok (.iastore, 1) by decide +kernel)
theorem ux_64_73 : pm_w d 64 73 ls st h Q ↔ pm_lq ls 0 fun x => pm_w d 64 74 ls (.inr (.inr x) :: st) h Q := pw_aload_n (show decode (pm_b 64) 73 = .ok (.aload_n 0, 1) by decide +kernel)
theorem ux_64_74 : pm_w d 64 74 ls st h Q ↔ pm_q st fun x s => pm_w d 64 75 ls (.inr (.inr x) :: .inr (.inr x) :: s) h Q := pw_dup (show decode (pm_b 64) 74 = .ok (.dup, 1) by decide +kernel)
theorem ux_64_75 : pm_w d 64 75 ls st h Q ↔ pm_r st fun a s => pm_tgs h a [4] ∧ pm_w d 64 78 ls (.inl (h.1 a 2) :: s) h Q := pw_get (show decode (pm_b 64) 75 = .ok (.getfield 62, 3) by decide +kernel) fx_4_62
theorem ux_64_78 : pm_w d 64 78 ls st h Q ↔ pm_li ls 3 fun x => pm_w d 64 79 ls (.inl x :: st) h Q := pw_iload_n (show decode (pm_b 64) 78 = .ok (.iload_n 3, 1) by decide +kernel)
theorem ux_64_79 : pm_w d 64 79 ls st h Q ↔ pm_i st fun y s => pm_i s fun x s => pm_I32 (x - y) ∧ pm_w d 64 80 ls (.inl (x - y) :: s) h Q := pw_isub (show decode (pm_b 64) 79 = .ok (.isub, 1) by decide +kernel)
theorem ux_64_80 : pm_w d 64 80 ls st h Q ↔ pm_i st fun x s => pm_r s fun a s => (pm_tgs h a [4]) ∧ pm_w d 64 83 ls s (pm_wI h a 2 x) Q := pw_put0 (show decode (pm_b 64) 80 = .ok (.putfield 62, 3) by decide +kernel) fx_4_62 (Or.inl rfl)
theorem ux_64_83 : pm_w d 64 83 ls st h Q ↔ pm_li ls 2 fun x => pm_I32 (x + 1) ∧ pm_w d 64 86 (pm_s1 ls 2 (.inl (x + 1))) st h Q := pw_iinc (show decode (pm_b 64) 83 = .ok (.iinc 2 1, 3) by decide +kernel) (by decide)
theorem ux_64_86 : pm_w d 64 86 ls st h Q ↔ pm_w d 64 2 ls st h Q := pw_goto (show decode (pm_b 64) 86 = .ok (.goto (-84), 3) by decide +kernel) (by decide)
theorem ux_64_89 : pm_w d 64 89 ls st h Q ↔ st = [] ∧ Q none h := pw_return (show decode (pm_b 64) 89 = .ok (.return_, 1) by decide +kernel) rfl
-- 65: LLaying.move
theorem ux_65_0 : pm_w d 65 0 ls st h Q ↔ pm_lq ls 0 fun x => pm_w d 65 1 ls (.inr (.inr x) :: st) h Q := pw_aload_n (show decode (pm_b 65) 0 = .ok (.aload_n 0, 1) by decide +kernel)
theorem ux_65_1 : pm_w d 65 1 ls st h Q ↔ pm_r st fun a s => pm_tgs h a [4] ∧ pm_w d 65 4 ls (.inr (.inr (h.2.1 a 5)) :: s) h Q := pw_get (show decode (pm_b 65) 1 = .ok (.getfield 20, 3) by decide +kernel) fx_4_20
theorem ux_65_4 : pm_w d 65 4 ls st h Q ↔ pm_li ls 1 fun x => pm_w d 65 5 ls (.inl x :: st) h Q := pw_iload_n (show decode (pm_b 65) 4 = .ok (.iload_n 1, 1) by decide +kernel)
theorem ux_65_5 : pm_w d 65 5 ls st h Q ↔ pm_i st fun x s => pm_r s fun a s => (pm_inb h a 23 x ∨ pm_inb h a 24 x ∨ pm_inb h a 25 x) ∧ pm_w d 65 6 ls (.inr (.inr (h.2.1 a x.toNat)) :: s) h Q := pw_aaload (show decode (pm_b 65) 5 = .ok (.aaload, 1) by decide +kernel)
theorem ux_65_6 : pm_w d 65 6 ls st h Q ↔ pm_li ls 2 fun x => pm_w d 65 7 ls (.inl x :: st) h Q := pw_iload_n (show decode (pm_b 65) 6 = .ok (.iload_n 2, 1) by decide +kernel)
theorem ux_65_7 : pm_w d 65 7 ls st h Q ↔ pm_i st fun y s => pm_q s fun x s => pm_w d 65 8 ls (.inl y :: .inr (.inr x) :: .inl y :: .inr (.inr x) :: s) h Q := pw_dup2 (show decode (pm_b 65) 7 = .ok (.dup2, 1) by decide +kernel)
theorem ux_65_8 : pm_w d 65 8 ls st h Q ↔ pm_i st fun x s => pm_r s fun a s => pm_inb h a 20 x ∧ pm_w d 65 9 ls (.inl (h.1 a x.toNat) :: s) h Q := pw_iaload (show decode (pm_b 65) 8 = .ok (.iaload, 1) by decide +kernel)
theorem ux_65_9 : pm_w d 65 9 ls st h Q ↔ pm_li ls 3 fun x => pm_w d 65 10 ls (.inl x :: st) h Q := pw_iload_n (show decode (pm_b 65) 9 = .ok (.iload_n 3, 1) by decide +kernel)
theorem ux_65_10 : pm_w d 65 10 ls st h Q ↔ pm_i st fun y s => pm_i s fun x s => pm_I32 (x + y) ∧ pm_w d 65 11 ls (.inl (x + y) :: s) h Q := pw_iadd (show decode (pm_b 65) 10 = .ok (.iadd, 1) by decide +kernel)
theorem ux_65_11 : pm_w d 65 11 ls st h Q ↔ pm_i st fun v s => pm_i s fun x s => pm_r s fun a s => pm_inb h a 20 x ∧ pm_w d 65 12 ls s (pm_wI h a x.toNat v) Q := pw_iastore (show decode (pm_b 65) 11 = .ok (.iastore, 1) by decide +kernel)
theorem ux_65_12 : pm_w d 65 12 ls st h Q ↔ pm_lq ls 0 fun x => pm_w d 65 13 ls (.inr (.inr x) :: st) h Q := pw_aload_n (show decode (pm_b 65) 12 = .ok (.aload_n 0, 1) by decide +kernel)
theorem ux_65_13 : pm_w d 65 13 ls st h Q ↔ pm_r st fun a s => pm_tgs h a [4] ∧ pm_w d 65 16 ls (.inr (.inr (h.2.1 a 6)) :: s) h Q := pw_get (show decode (pm_b 65) 13 = .ok (.getfield 23, 3) by decide +kernel) fx_4_23
theorem ux_65_16 : pm_w d 65 16 ls st h Q ↔ pm_li ls 1 fun x => pm_w d 65 17 ls (.inl x :: st) h Q := pw_iload_n (show decode (pm_b 65) 16 = .ok (.iload_n 1, 1) by decide +kernel)
theorem ux_65_17 : pm_w d 65 17 ls st h Q ↔ pm_i st fun x s => pm_r s fun a s => (pm_inb h a 23 x ∨ pm_inb h a 24 x ∨ pm_inb h a 25 x) ∧ pm_w d 65 18 ls (.inr (.inr (h.2.1 a x.toNat)) :: s) h Q := pw_aaload (show decode (pm_b 65) 17 = .ok (.aaload, 1) by decide +kernel)
theorem ux_65_18 : pm_w d 65 18 ls st h Q ↔ pm_li ls 2 fun x => pm_w d 65 19 ls (.inl x :: st) h Q := pw_iload_n (show decode (pm_b 65) 18 = .ok (.iload_n 2, 1) by decide +kernel)
theorem ux_65_19 : pm_w d 65 19 ls st h Q ↔ pm_i st fun y s => pm_q s fun x s => pm_w d 65 20 ls (.inl y :: .inr (.inr x) :: .inl y :: .inr (.inr x) :: s) h Q := pw_dup2 (show decode (pm_b 65) 19 = .ok (.dup2, 1) by decide +kernel)
theorem ux_65_20 : pm_w d 65 20 ls st h Q ↔ pm_i st fun x s => pm_r s fun a s => pm_inb h a 20 x ∧ pm_w d 65 21 ls (.inl (h.1 a x.toNat) :: s) h Q := pw_iaload (show decode (pm_b 65) 20 = .ok (.iaload, 1) by decide +kernel)
theorem ux_65_21 : pm_w d 65 21 ls st h Q ↔ pm_li ls 3 fun x => pm_w d 65 22 ls (.inl x :: st) h Q := pw_iload_n (show decode (pm_b 65) 21 = .ok (.iload_n 3, 1) by decide +kernel)
theorem ux_65_22 : pm_w d 65 22 ls st h Q ↔ pm_i st fun y s => pm_i s fun x s => pm_I32 (x - y) ∧ pm_w d 65 23 ls (.inl (x - y) :: s) h Q := pw_isub (show decode (pm_b 65) 22 = .ok (.isub, 1) by decide +kernel)
theorem ux_65_23 : pm_w d 65 23 ls st h Q ↔ pm_i st fun v s => pm_i s fun x s => pm_r s fun a s => pm_inb h a 20 x ∧ pm_w d 65 24 ls s (pm_wI h a x.toNat v) Q := pw_iastore (show decode (pm_b 65) 23 = .ok (.iastore, 1) by decide +kernel)
theorem ux_65_24 : pm_w d 65 24 ls st h Q ↔ st = [] ∧ Q none h := pw_return (show decode (pm_b 65) 24 = .ok (.return_, 1) by decide +kernel) rfl
-- 66: LLaying.findRoom
theorem ux_66_0 : pm_w d 66 0 ls st h Q ↔ pm_lq ls 0 fun x => pm_w d 66 1 ls (.inr (.inr x) :: st) h Q := pw_aload_n (show decode (pm_b 66) 0 = .ok (.aload_n 0, 1) by decide +kernel)
theorem ux_66_1 : pm_w d 66 1 ls st h Q ↔ pm_r (st.drop 0) fun a s => (0 ≤ st.length ∧ pm_wt s ≤ 8 ∧ pm_tg h a 4) ∧ pm_ok d 67 (.inr (.inr (some a)) :: (st.take 0).reverse) h fun r h1 => pm_w d 66 4 ls (pm_pu r s) h1 Q := pw_virt (show decode (pm_b 66) 1 = .ok (.invokevirtual 85, 3) by decide +kernel) mx_4_85
theorem ux_66_4 : pm_w d 66 4 ls st h Q ↔ pm_w d 66 5 ls (.inl 0 :: st) h Q := pw_iconst (show decode (pm_b 66) 4 = .ok (.iconst 0, 1) by decide +kernel) (by unfold pm_I32; decide)
theorem ux_66_5 : pm_w d 66 5 ls st h Q ↔ pm_i st fun x s => pm_w d 66 6 (pm_s1 ls 1 (.inl x)) s h Q := pw_istore_n (show decode (pm_b 66) 5 = .ok (.istore_n 1, 1) by decide +kernel) (by decide)
theorem ux_66_6 : pm_w d 66 6 ls st h Q ↔ pm_li ls 1 fun x => pm_w d 66 7 ls (.inl x :: st) h Q := pw_iload_n (show decode (pm_b 66) 6 = .ok (.iload_n 1, 1) by decide +kernel)
theorem ux_66_7 : pm_w d 66 7 ls st h Q ↔ pm_lq ls 0 fun x => pm_w d 66 8 ls (.inr (.inr x) :: st) h Q := pw_aload_n (show decode (pm_b 66) 7 = .ok (.aload_n 0, 1) by decide +kernel)
theorem ux_66_8 : pm_w d 66 8 ls st h Q ↔ pm_r st fun a s => pm_tgs h a [4] ∧ pm_w d 66 11 ls (.inl (h.1 a 0) :: s) h Q := pw_get (show decode (pm_b 66) 8 = .ok (.getfield 39, 3) by decide +kernel) fx_4_39
theorem ux_66_11 : pm_w d 66 11 ls st h Q ↔ pm_i st fun y s => pm_i s fun x s => ((y ≤ x) → pm_w d 66 35 ls s h Q) ∧ (¬ (y ≤ x) → pm_w d 66 14 ls s h Q) := pw_ic_ge (show decode (pm_b 66) 11 = .ok (.if_icmp .ge 24, 3) by decide +kernel) (by decide)
theorem ux_66_14 : pm_w d 66 14 ls st h Q ↔ pm_lq ls 0 fun x => pm_w d 66 15 ls (.inr (.inr x) :: st) h Q := pw_aload_n (show decode (pm_b 66) 14 = .ok (.aload_n 0, 1) by decide +kernel)
theorem ux_66_15 : pm_w d 66 15 ls st h Q ↔ pm_r st fun a s => pm_tgs h a [4] ∧ pm_w d 66 18 ls (.inr (.inr (h.2.1 a 3)) :: s) h Q := pw_get (show decode (pm_b 66) 15 = .ok (.getfield 9, 3) by decide +kernel) fx_4_9
theorem ux_66_18 : pm_w d 66 18 ls st h Q ↔ pm_li ls 1 fun x => pm_w d 66 19 ls (.inl x :: st) h Q := pw_iload_n (show decode (pm_b 66) 18 = .ok (.iload_n 1, 1) by decide +kernel)
theorem ux_66_19 : pm_w d 66 19 ls st h Q ↔ pm_i st fun x s => pm_r s fun a s => pm_inb h a 20 x ∧ pm_w d 66 20 ls (.inl (h.1 a x.toNat) :: s) h Q := pw_iaload (show decode (pm_b 66) 19 = .ok (.iaload, 1) by decide +kernel)
theorem ux_66_20 : pm_w d 66 20 ls st h Q ↔ pm_i st fun x s => ((x ≤ 0) → pm_w d 66 29 ls s h Q) ∧ (¬ (x ≤ 0) → pm_w d 66 23 ls s h Q) := pw_if_le (show decode (pm_b 66) 20 = .ok (.ifCond .le 9, 3) by decide +kernel) (by decide)
theorem ux_66_23 : pm_w d 66 23 ls st h Q ↔ pm_lq ls 0 fun x => pm_w d 66 24 ls (.inr (.inr x) :: st) h Q := pw_aload_n (show decode (pm_b 66) 23 = .ok (.aload_n 0, 1) by decide +kernel)
theorem ux_66_24 : pm_w d 66 24 ls st h Q ↔ pm_li ls 1 fun x => pm_w d 66 25 ls (.inl x :: st) h Q := pw_iload_n (show decode (pm_b 66) 24 = .ok (.iload_n 1, 1) by decide +kernel)
theorem ux_66_25 : pm_w d 66 25 ls st h Q ↔ pm_w d 66 26 ls (.inl (-1) :: st) h Q := pw_iconst (show decode (pm_b 66) 25 = .ok (.iconst (-1), 1) by decide +kernel) (by unfold pm_I32; decide)
theorem ux_66_26 : pm_w d 66 26 ls st h Q ↔ pm_r (st.drop 2) fun a s => (2 ≤ st.length ∧ pm_wt s ≤ 8 ∧ pm_tg h a 4) ∧ pm_ok d 69 (.inr (.inr (some a)) :: (st.take 2).reverse) h fun r h1 => pm_w d 66 29 ls (pm_pu r s) h1 Q := pw_virt (show decode (pm_b 66) 26 = .ok (.invokevirtual 88, 3) by decide +kernel) mx_4_88
theorem ux_66_29 : pm_w d 66 29 ls st h Q ↔ pm_li ls 1 fun x => pm_I32 (x + 1) ∧ pm_w d 66 32 (pm_s1 ls 1 (.inl (x + 1))) st h Q := pw_iinc (show decode (pm_b 66) 29 = .ok (.iinc 1 1, 3) by decide +kernel) (by decide)
theorem ux_66_32 : pm_w d 66 32 ls st h Q ↔ pm_w d 66 6 ls st h Q := pw_goto (show decode (pm_b 66) 32 = .ok (.goto (-26), 3) by decide +kernel) (by decide)
theorem ux_66_35 : pm_w d 66 35 ls st h Q ↔ pm_w d 66 36 ls (.inl 0 :: st) h Q := pw_iconst (show decode (pm_b 66) 35 = .ok (.iconst 0, 1) by decide +kernel) (by unfold pm_I32; decide)
theorem ux_66_36 : pm_w d 66 36 ls st h Q ↔ pm_i st fun x s => pm_w d 66 37 (pm_s1 ls 1 (.inl x)) s h Q := pw_istore_n (show decode (pm_b 66) 36 = .ok (.istore_n 1, 1) by decide +kernel) (by decide)
theorem ux_66_37 : pm_w d 66 37 ls st h Q ↔ pm_li ls 1 fun x => pm_w d 66 38 ls (.inl x :: st) h Q := pw_iload_n (show decode (pm_b 66) 37 = .ok (.iload_n 1, 1) by decide +kernel)
theorem ux_66_38 : pm_w d 66 38 ls st h Q ↔ pm_lq ls 0 fun x => pm_w d 66 39 ls (.inr (.inr x) :: st) h Q := pw_aload_n (show decode (pm_b 66) 38 = .ok (.aload_n 0, 1) by decide +kernel)
theorem ux_66_39 : pm_w d 66 39 ls st h Q ↔ pm_r st fun a s => pm_tgs h a [4] ∧ pm_w d 66 42 ls (.inl (h.1 a 10) :: s) h Q := pw_get (show decode (pm_b 66) 39 = .ok (.getfield 92, 3) by decide +kernel) fx_4_92
theorem ux_66_42 : pm_w d 66 42 ls st h Q ↔ pm_i st fun y s => pm_i s fun x s => ((y ≤ x) → pm_w d 66 81 ls s h Q) ∧ (¬ (y ≤ x) → pm_w d 66 45 ls s h Q) := pw_ic_ge (show decode (pm_b 66) 42 = .ok (.if_icmp .ge 39, 3) by decide +kernel) (by decide)
theorem ux_66_45 : pm_w d 66 45 ls st h Q ↔ pm_li ls 1 fun x => pm_w d 66 46 ls (.inl x :: st) h Q := pw_iload_n (show decode (pm_b 66) 45 = .ok (.iload_n 1, 1) by decide +kernel)
theorem ux_66_46 : pm_w d 66 46 ls st h Q ↔ pm_w d 66 48 ls (.inl 47 :: st) h Q := pw_bipush (show decode (pm_b 66) 46 = .ok (.bipush 47, 2) by decide +kernel) (by decide)
theorem ux_66_48 : pm_w d 66 48 ls st h Q ↔ pm_i st fun y s => pm_i s fun x s => ((y ≤ x) → pm_w d 66 81 ls s h Q) ∧ (¬ (y ≤ x) → pm_w d 66 51 ls s h Q) := pw_ic_ge (show decode (pm_b 66) 48 = .ok (.if_icmp .ge 33, 3) by decide +kernel) (by decide)
theorem ux_66_51 : pm_w d 66 51 ls st h Q ↔ pm_lq ls 0 fun x => pm_w d 66 52 ls (.inr (.inr x) :: st) h Q := pw_aload_n (show decode (pm_b 66) 51 = .ok (.aload_n 0, 1) by decide +kernel)
theorem ux_66_52 : pm_w d 66 52 ls st h Q ↔ pm_r st fun a s => pm_tgs h a [4] ∧ pm_w d 66 55 ls (.inr (.inr (h.2.1 a 9)) :: s) h Q := pw_get (show decode (pm_b 66) 52 = .ok (.getfield 32, 3) by decide +kernel) fx_4_32
theorem ux_66_55 : pm_w d 66 55 ls st h Q ↔ pm_li ls 1 fun x => pm_w d 66 56 ls (.inl x :: st) h Q := pw_iload_n (show decode (pm_b 66) 55 = .ok (.iload_n 1, 1) by decide +kernel)
theorem ux_66_56 : pm_w d 66 56 ls st h Q ↔ pm_i st fun x s => pm_r s fun a s => pm_inb h a 20 x ∧ pm_w d 66 57 ls (.inl (h.1 a x.toNat) :: s) h Q := pw_iaload (show decode (pm_b 66) 56 = .ok (.iaload, 1) by decide +kernel)
theorem ux_66_57 : pm_w d 66 57 ls st h Q ↔ pm_i st fun x s => pm_w d 66 58 (pm_s1 ls 2 (.inl x)) s h Q := pw_istore_n (show decode (pm_b 66) 57 = .ok (.istore_n 2, 1) by decide +kernel) (by decide)
theorem ux_66_58 : pm_w d 66 58 ls st h Q ↔ pm_lq ls 0 fun x => pm_w d 66 59 ls (.inr (.inr x) :: st) h Q := pw_aload_n (show decode (pm_b 66) 58 = .ok (.aload_n 0, 1) by decide +kernel)
theorem ux_66_59 : pm_w d 66 59 ls st h Q ↔ pm_r st fun a s => pm_tgs h a [4] ∧ pm_w d 66 62 ls (.inr (.inr (h.2.1 a 4)) :: s) h Q := pw_get (show decode (pm_b 66) 59 = .ok (.getfield 15, 3) by decide +kernel) fx_4_15
theorem ux_66_62 : pm_w d 66 62 ls st h Q ↔ pm_li ls 2 fun x => pm_w d 66 63 ls (.inl x :: st) h Q := pw_iload_n (show decode (pm_b 66) 62 = .ok (.iload_n 2, 1) by decide +kernel)
theorem ux_66_63 : pm_w d 66 63 ls st h Q ↔ pm_i st fun x s => pm_r s fun a s => pm_inb h a 20 x ∧ pm_w d 66 64 ls (.inl (h.1 a x.toNat) :: s) h Q := pw_iaload (show decode (pm_b 66) 63 = .ok (.iaload, 1) by decide +kernel)
theorem ux_66_64 : pm_w d 66 64 ls st h Q ↔ pm_i st fun x s => ((x ≤ 0) → pm_w d 66 69 ls s h Q) ∧ (¬ (x ≤ 0) → pm_w d 66 67 ls s h Q) := pw_if_le (show decode (pm_b 66) 64 = .ok (.ifCond .le 5, 3) by decide +kernel) (by decide)
theorem ux_66_67 : pm_w d 66 67 ls st h Q ↔ pm_li ls 2 fun x => pm_w d 66 68 ls (.inl x :: st) h Q := pw_iload_n (show decode (pm_b 66) 67 = .ok (.iload_n 2, 1) by decide +kernel)
theorem ux_66_68 : pm_w d 66 68 ls st h Q ↔ pm_i st fun x s => s = [] ∧ Q (some (.inl x)) h := pw_ireturn (show decode (pm_b 66) 68 = .ok (.ireturn, 1) by decide +kernel) rfl
theorem ux_66_69 : pm_w d 66 69 ls st h Q ↔ pm_lq ls 0 fun x => pm_w d 66 70 ls (.inr (.inr x) :: st) h Q := pw_aload_n (show decode (pm_b 66) 69 = .ok (.aload_n 0, 1) by decide +kernel)
theorem ux_66_70 : pm_w d 66 70 ls st h Q ↔ pm_li ls 2 fun x => pm_w d 66 71 ls (.inl x :: st) h Q := pw_iload_n (show decode (pm_b 66) 70 = .ok (.iload_n 2, 1) by decide +kernel)
theorem ux_66_71 : pm_w d 66 71 ls st h Q ↔ pm_w d 66 72 ls (.inl 0 :: st) h Q := pw_iconst (show decode (pm_b 66) 71 = .ok (.iconst 0, 1) by decide +kernel) (by unfold pm_I32; decide)
theorem ux_66_72 : pm_w d 66 72 ls st h Q ↔ pm_r (st.drop 2) fun a s => (2 ≤ st.length ∧ pm_wt s ≤ 8 ∧ pm_tg h a 4) ∧ pm_ok d 70 (.inr (.inr (some a)) :: (st.take 2).reverse) h fun r h1 => pm_w d 66 75 ls (pm_pu r s) h1 Q := pw_virt (show decode (pm_b 66) 72 = .ok (.invokevirtual 95, 3) by decide +kernel) mx_4_95
theorem ux_66_75 : pm_w d 66 75 ls st h Q ↔ pm_li ls 1 fun x => pm_I32 (x + 1) ∧ pm_w d 66 78 (pm_s1 ls 1 (.inl (x + 1))) st h Q := pw_iinc (show decode (pm_b 66) 75 = .ok (.iinc 1 1, 3) by decide +kernel) (by decide)
theorem ux_66_78 : pm_w d 66 78 ls st h Q ↔ pm_w d 66 37 ls st h Q := pw_goto (show decode (pm_b 66) 78 = .ok (.goto (-41), 3) by decide +kernel) (by decide)
theorem ux_66_81 : pm_w d 66 81 ls st h Q ↔ pm_w d 66 82 ls (.inl (-1) :: st) h Q := pw_iconst (show decode (pm_b 66) 81 = .ok (.iconst (-1), 1) by decide +kernel) (by unfold pm_I32; decide)
theorem ux_66_82 : pm_w d 66 82 ls st h Q ↔ pm_i st fun x s => s = [] ∧ Q (some (.inl x)) h := pw_ireturn (show decode (pm_b 66) 82 = .ok (.ireturn, 1) by decide +kernel) rfl
-- 67: LLaying.clearSearch
theorem ux_67_0 : pm_w d 67 0 ls st h Q ↔ pm_lq ls 0 fun x => pm_w d 67 1 ls (.inr (.inr x) :: st) h Q := pw_aload_n (show decode (pm_b 67) 0 = .ok (.aload_n 0, 1) by decide +kernel)
theorem ux_67_1 : pm_w d 67 1 ls st h Q ↔ pm_r st fun a s => pm_tgs h a [4] ∧ pm_w d 67 4 ls (.inr (.inr (h.2.1 a 7)) :: s) h Q := pw_get (show decode (pm_b 67) 1 = .ok (.getfield 26, 3) by decide +kernel) fx_4_26
theorem ux_67_4 : pm_w d 67 4 ls st h Q ↔ pm_w d 67 6 ls (.inl (-2) :: st) h Q := pw_bipush (show decode (pm_b 67) 4 = .ok (.bipush (-2), 2) by decide +kernel) (by decide)
theorem ux_67_6 : pm_w d 67 6 ls st h Q ↔ (2 ≤ st.length ∧ pm_wt (st.drop 2) ≤ 8) ∧ pm_ok d 68 (st.take 2).reverse h fun r h1 => pm_w d 67 9 ls (pm_pu r (st.drop 2)) h1 Q := pw_static (show decode (pm_b 67) 6 = .ok (.invokestatic 98, 3) by decide +kernel) mx_4_98
theorem ux_67_9 : pm_w d 67 9 ls st h Q ↔ pm_lq ls 0 fun x => pm_w d 67 10 ls (.inr (.inr x) :: st) h Q := pw_aload_n (show decode (pm_b 67) 9 = .ok (.aload_n 0, 1) by decide +kernel)
theorem ux_67_10 : pm_w d 67 10 ls st h Q ↔ pm_r st fun a s => pm_tgs h a [4] ∧ pm_w d 67 13 ls (.inr (.inr (h.2.1 a 8)) :: s) h Q := pw_get (show decode (pm_b 67) 10 = .ok (.getfield 29, 3) by decide +kernel) fx_4_29
theorem ux_67_13 : pm_w d 67 13 ls st h Q ↔ pm_w d 67 15 ls (.inl (-2) :: st) h Q := pw_bipush (show decode (pm_b 67) 13 = .ok (.bipush (-2), 2) by decide +kernel) (by decide)
theorem ux_67_15 : pm_w d 67 15 ls st h Q ↔ (2 ≤ st.length ∧ pm_wt (st.drop 2) ≤ 8) ∧ pm_ok d 68 (st.take 2).reverse h fun r h1 => pm_w d 67 18 ls (pm_pu r (st.drop 2)) h1 Q := pw_static (show decode (pm_b 67) 15 = .ok (.invokestatic 98, 3) by decide +kernel) mx_4_98
theorem ux_67_18 : pm_w d 67 18 ls st h Q ↔ pm_lq ls 0 fun x => pm_w d 67 19 ls (.inr (.inr x) :: st) h Q := pw_aload_n (show decode (pm_b 67) 18 = .ok (.aload_n 0, 1) by decide +kernel)
theorem ux_67_19 : pm_w d 67 19 ls st h Q ↔ pm_w d 67 20 ls (.inl 0 :: st) h Q := pw_iconst (show decode (pm_b 67) 19 = .ok (.iconst 0, 1) by decide +kernel) (by unfold pm_I32; decide)
theorem ux_67_20 : pm_w d 67 20 ls st h Q ↔ pm_i st fun x s => pm_r s fun a s => (pm_tgs h a [4]) ∧ pm_w d 67 23 ls s (pm_wI h a 10 x) Q := pw_put0 (show decode (pm_b 67) 20 = .ok (.putfield 92, 3) by decide +kernel) fx_4_92 (Or.inl rfl)
theorem ux_67_23 : pm_w d 67 23 ls st h Q ↔ st = [] ∧ Q none h := pw_return (show decode (pm_b 67) 23 = .ok (.return_, 1) by decide +kernel) rfl
-- 68: java/util/Arrays.fill
theorem ux_68_0 : pm_w d 68 0 ls st h Q ↔ pm_w d 68 1 ls (.inl 0 :: st) h Q := pw_iconst (show decode (pm_b 68) 0 = .ok (.iconst 0, 1) by decide +kernel) (by unfold pm_I32; decide)
theorem ux_68_1 : pm_w d 68 1 ls st h Q ↔ pm_i st fun x s => pm_w d 68 2 (pm_s1 ls 2 (.inl x)) s h Q := pw_istore_n (show decode (pm_b 68) 1 = .ok (.istore_n 2, 1) by decide +kernel) (by decide)
theorem ux_68_2 : pm_w d 68 2 ls st h Q ↔ pm_lq ls 0 fun x => pm_w d 68 3 ls (.inr (.inr x) :: st) h Q := pw_aload_n (show decode (pm_b 68) 2 = .ok (.aload_n 0, 1) by decide +kernel)
theorem ux_68_3 : pm_w d 68 3 ls st h Q ↔ pm_r st fun a s => ∃ n, h.2.2[a]? = some (20, n) ∧ pm_w d 68 4 ls (.inl (n : Int) :: s) h Q := pw_arraylength (show decode (pm_b 68) 3 = .ok (.arraylength, 1) by decide +kernel)
theorem ux_68_4 : pm_w d 68 4 ls st h Q ↔ pm_i st fun x s => pm_w d 68 5 (pm_s1 ls 3 (.inl x)) s h Q := pw_istore_n (show decode (pm_b 68) 4 = .ok (.istore_n 3, 1) by decide +kernel) (by decide)
theorem ux_68_5 : pm_w d 68 5 ls st h Q ↔ pm_li ls 2 fun x => pm_w d 68 6 ls (.inl x :: st) h Q := pw_iload_n (show decode (pm_b 68) 5 = .ok (.iload_n 2, 1) by decide +kernel)
theorem ux_68_6 : pm_w d 68 6 ls st h Q ↔ pm_li ls 3 fun x => pm_w d 68 7 ls (.inl x :: st) h Q := pw_iload_n (show decode (pm_b 68) 6 = .ok (.iload_n 3, 1) by decide +kernel)
theorem ux_68_7 : pm_w d 68 7 ls st h Q ↔ pm_i st fun y s => pm_i s fun x s => ((y ≤ x) → pm_w d 68 20 ls s h Q) ∧ (¬ (y ≤ x) → pm_w d 68 10 ls s h Q) := pw_ic_ge (show decode (pm_b 68) 7 = .ok (.if_icmp .ge 13, 3) by decide +kernel) (by decide)
theorem ux_68_10 : pm_w d 68 10 ls st h Q ↔ pm_lq ls 0 fun x => pm_w d 68 11 ls (.inr (.inr x) :: st) h Q := pw_aload_n (show decode (pm_b 68) 10 = .ok (.aload_n 0, 1) by decide +kernel)
theorem ux_68_11 : pm_w d 68 11 ls st h Q ↔ pm_li ls 2 fun x => pm_w d 68 12 ls (.inl x :: st) h Q := pw_iload_n (show decode (pm_b 68) 11 = .ok (.iload_n 2, 1) by decide +kernel)
theorem ux_68_12 : pm_w d 68 12 ls st h Q ↔ pm_li ls 1 fun x => pm_w d 68 13 ls (.inl x :: st) h Q := pw_iload_n (show decode (pm_b 68) 12 = .ok (.iload_n 1, 1) by decide +kernel)
theorem ux_68_13 : pm_w d 68 13 ls st h Q ↔ pm_i st fun v s => pm_i s fun x s => pm_r s fun a s => pm_inb h a 20 x ∧ pm_w d 68 14 ls s (pm_wI h a x.toNat v) Q := pw_iastore (show decode (pm_b 68) 13 = .ok (.iastore, 1) by decide +kernel)
theorem ux_68_14 : pm_w d 68 14 ls st h Q ↔ pm_li ls 2 fun x => pm_I32 (x + 1) ∧ pm_w d 68 17 (pm_s1 ls 2 (.inl (x + 1))) st h Q := pw_iinc (show decode (pm_b 68) 14 = .ok (.iinc 2 1, 3) by decide +kernel) (by decide)
theorem ux_68_17 : pm_w d 68 17 ls st h Q ↔ pm_w d 68 5 ls st h Q := pw_goto (show decode (pm_b 68) 17 = .ok (.goto (-12), 3) by decide +kernel) (by decide)
theorem ux_68_20 : pm_w d 68 20 ls st h Q ↔ st = [] ∧ Q none h := pw_return (show decode (pm_b 68) 20 = .ok (.return_, 1) by decide +kernel) rfl
-- 69: LLaying.reachFromPiece
theorem ux_69_0 : pm_w d 69 0 ls st h Q ↔ pm_lq ls 0 fun x => pm_w d 69 1 ls (.inr (.inr x) :: st) h Q := pw_aload_n (show decode (pm_b 69) 0 = .ok (.aload_n 0, 1) by decide +kernel)
theorem ux_69_1 : pm_w d 69 1 ls st h Q ↔ pm_r st fun a s => pm_tgs h a [4] ∧ pm_w d 69 4 ls (.inr (.inr (h.2.1 a 7)) :: s) h Q := pw_get (show decode (pm_b 69) 1 = .ok (.getfield 26, 3) by decide +kernel) fx_4_26
theorem ux_69_4 : pm_w d 69 4 ls st h Q ↔ pm_li ls 1 fun x => pm_w d 69 5 ls (.inl x :: st) h Q := pw_iload_n (show decode (pm_b 69) 4 = .ok (.iload_n 1, 1) by decide +kernel)
theorem ux_69_5 : pm_w d 69 5 ls st h Q ↔ pm_li ls 2 fun x => pm_w d 69 6 ls (.inl x :: st) h Q := pw_iload_n (show decode (pm_b 69) 5 = .ok (.iload_n 2, 1) by decide +kernel)
theorem ux_69_6 : pm_w d 69 6 ls st h Q ↔ pm_i st fun v s => pm_i s fun x s => pm_r s fun a s => pm_inb h a 20 x ∧ pm_w d 69 7 ls s (pm_wI h a x.toNat v) Q := pw_iastore (show decode (pm_b 69) 6 = .ok (.iastore, 1) by decide +kernel)
theorem ux_69_7 : pm_w d 69 7 ls st h Q ↔ pm_w d 69 8 ls (.inl 0 :: st) h Q := pw_iconst (show decode (pm_b 69) 7 = .ok (.iconst 0, 1) by decide +kernel) (by unfold pm_I32; decide)
theorem ux_69_8 : pm_w d 69 8 ls st h Q ↔ pm_i st fun x s => pm_w d 69 9 (pm_s1 ls 3 (.inl x)) s h Q := pw_istore_n (show decode (pm_b 69) 8 = .ok (.istore_n 3, 1) by decide +kernel) (by decide)
theorem ux_69_9 : pm_w d 69 9 ls st h Q ↔ pm_li ls 3 fun x => pm_w d 69 10 ls (.inl x :: st) h Q := pw_iload_n (show decode (pm_b 69) 9 = .ok (.iload_n 3, 1) by decide +kernel)
theorem ux_69_10 : pm_w d 69 10 ls st h Q ↔ pm_lq ls 0 fun x => pm_w d 69 11 ls (.inr (.inr x) :: st) h Q := pw_aload_n (show decode (pm_b 69) 10 = .ok (.aload_n 0, 1) by decide +kernel)
theorem ux_69_11 : pm_w d 69 11 ls st h Q ↔ pm_r st fun a s => pm_tgs h a [4] ∧ pm_w d 69 14 ls (.inl (h.1 a 1) :: s) h Q := pw_get (show decode (pm_b 69) 11 = .ok (.getfield 61, 3) by decide +kernel) fx_4_61
theorem ux_69_14 : pm_w d 69 14 ls st h Q ↔ pm_i st fun y s => pm_i s fun x s => ((y ≤ x) → pm_w d 69 81 ls s h Q) ∧ (¬ (y ≤ x) → pm_w d 69 17 ls s h Q) := pw_ic_ge (show decode (pm_b 69) 14 = .ok (.if_icmp .ge 67, 3) by decide +kernel) (by decide)
theorem ux_69_17 : pm_w d 69 17 ls st h Q ↔ pm_lq ls 0 fun x => pm_w d 69 18 ls (.inr (.inr x) :: st) h Q := pw_aload_n (show decode (pm_b 69) 17 = .ok (.aload_n 0, 1) by decide +kernel)
theorem ux_69_18 : pm_w d 69 18 ls st h Q ↔ pm_r st fun a s => pm_tgs h a [4] ∧ pm_w d 69 21 ls (.inr (.inr (h.2.1 a 6)) :: s) h Q := pw_get (show decode (pm_b 69) 18 = .ok (.getfield 23, 3) by decide +kernel) fx_4_23
theorem ux_69_21 : pm_w d 69 21 ls st h Q ↔ pm_li ls 1 fun x => pm_w d 69 22 ls (.inl x :: st) h Q := pw_iload_n (show decode (pm_b 69) 21 = .ok (.iload_n 1, 1) by decide +kernel)
theorem ux_69_22 : pm_w d 69 22 ls st h Q ↔ pm_i st fun x s => pm_r s fun a s => (pm_inb h a 23 x ∨ pm_inb h a 24 x ∨ pm_inb h a 25 x) ∧ pm_w d 69 23 ls (.inr (.inr (h.2.1 a x.toNat)) :: s) h Q := pw_aaload (show decode (pm_b 69) 22 = .ok (.aaload, 1) by decide +kernel)
theorem ux_69_23 : pm_w d 69 23 ls st h Q ↔ pm_li ls 3 fun x => pm_w d 69 24 ls (.inl x :: st) h Q := pw_iload_n (show decode (pm_b 69) 23 = .ok (.iload_n 3, 1) by decide +kernel)
theorem ux_69_24 : pm_w d 69 24 ls st h Q ↔ pm_i st fun x s => pm_r s fun a s => pm_inb h a 20 x ∧ pm_w d 69 25 ls (.inl (h.1 a x.toNat) :: s) h Q := pw_iaload (show decode (pm_b 69) 24 = .ok (.iaload, 1) by decide +kernel)
theorem ux_69_25 : pm_w d 69 25 ls st h Q ↔ pm_i st fun x s => ((x ≤ 0) → pm_w d 69 75 ls s h Q) ∧ (¬ (x ≤ 0) → pm_w d 69 28 ls s h Q) := pw_if_le (show decode (pm_b 69) 25 = .ok (.ifCond .le 50, 3) by decide +kernel) (by decide)
theorem ux_69_28 : pm_w d 69 28 ls st h Q ↔ pm_lq ls 0 fun x => pm_w d 69 29 ls (.inr (.inr x) :: st) h Q := pw_aload_n (show decode (pm_b 69) 28 = .ok (.aload_n 0, 1) by decide +kernel)
theorem ux_69_29 : pm_w d 69 29 ls st h Q ↔ pm_r st fun a s => pm_tgs h a [4] ∧ pm_w d 69 32 ls (.inr (.inr (h.2.1 a 8)) :: s) h Q := pw_get (show decode (pm_b 69) 29 = .ok (.getfield 29, 3) by decide +kernel) fx_4_29
theorem ux_69_32 : pm_w d 69 32 ls st h Q ↔ pm_li ls 3 fun x => pm_w d 69 33 ls (.inl x :: st) h Q := pw_iload_n (show decode (pm_b 69) 32 = .ok (.iload_n 3, 1) by decide +kernel)
theorem ux_69_33 : pm_w d 69 33 ls st h Q ↔ pm_i st fun x s => pm_r s fun a s => pm_inb h a 20 x ∧ pm_w d 69 34 ls (.inl (h.1 a x.toNat) :: s) h Q := pw_iaload (show decode (pm_b 69) 33 = .ok (.iaload, 1) by decide +kernel)
theorem ux_69_34 : pm_w d 69 34 ls st h Q ↔ pm_w d 69 36 ls (.inl (-2) :: st) h Q := pw_bipush (show decode (pm_b 69) 34 = .ok (.bipush (-2), 2) by decide +kernel) (by decide)
theorem ux_69_36 : pm_w d 69 36 ls st h Q ↔ pm_i st fun y s => pm_i s fun x s => ((x ≠ y) → pm_w d 69 75 ls s h Q) ∧ (¬ (x ≠ y) → pm_w d 69 39 ls s h Q) := pw_ic_ne (show decode (pm_b 69) 36 = .ok (.if_icmp .ne 39, 3) by decide +kernel) (by decide)
theorem ux_69_39 : pm_w d 69 39 ls st h Q ↔ pm_lq ls 0 fun x => pm_w d 69 40 ls (.inr (.inr x) :: st) h Q := pw_aload_n (show decode (pm_b 69) 39 = .ok (.aload_n 0, 1) by decide +kernel)
theorem ux_69_40 : pm_w d 69 40 ls st h Q ↔ pm_r st fun a s => pm_tgs h a [4] ∧ pm_w d 69 43 ls (.inl (h.1 a 10) :: s) h Q := pw_get (show decode (pm_b 69) 40 = .ok (.getfield 92, 3) by decide +kernel) fx_4_92
theorem ux_69_43 : pm_w d 69 43 ls st h Q ↔ pm_w d 69 45 ls (.inl 47 :: st) h Q := pw_bipush (show decode (pm_b 69) 43 = .ok (.bipush 47, 2) by decide +kernel) (by decide)
theorem ux_69_45 : pm_w d 69 45 ls st h Q ↔ pm_i st fun y s => pm_i s fun x s => ((y ≤ x) → pm_w d 69 75 ls s h Q) ∧ (¬ (y ≤ x) → pm_w d 69 48 ls s h Q) := pw_ic_ge (show decode (pm_b 69) 45 = .ok (.if_icmp .ge 30, 3) by decide +kernel) (by decide)
theorem ux_69_48 : pm_w d 69 48 ls st h Q ↔ pm_lq ls 0 fun x => pm_w d 69 49 ls (.inr (.inr x) :: st) h Q := pw_aload_n (show decode (pm_b 69) 48 = .ok (.aload_n 0, 1) by decide +kernel)
theorem ux_69_49 : pm_w d 69 49 ls st h Q ↔ pm_r st fun a s => pm_tgs h a [4] ∧ pm_w d 69 52 ls (.inr (.inr (h.2.1 a 8)) :: s) h Q := pw_get (show decode (pm_b 69) 49 = .ok (.getfield 29, 3) by decide +kernel) fx_4_29
theorem ux_69_52 : pm_w d 69 52 ls st h Q ↔ pm_li ls 3 fun x => pm_w d 69 53 ls (.inl x :: st) h Q := pw_iload_n (show decode (pm_b 69) 52 = .ok (.iload_n 3, 1) by decide +kernel)
theorem ux_69_53 : pm_w d 69 53 ls st h Q ↔ pm_li ls 1 fun x => pm_w d 69 54 ls (.inl x :: st) h Q := pw_iload_n (show decode (pm_b 69) 53 = .ok (.iload_n 1, 1) by decide +kernel)
theorem ux_69_54 : pm_w d 69 54 ls st h Q ↔ pm_i st fun v s => pm_i s fun x s => pm_r s fun a s => pm_inb h a 20 x ∧ pm_w d 69 55 ls s (pm_wI h a x.toNat v) Q := pw_iastore (show decode (pm_b 69) 54 = .ok (.iastore, 1) by decide +kernel)
theorem ux_69_55 : pm_w d 69 55 ls st h Q ↔ pm_lq ls 0 fun x => pm_w d 69 56 ls (.inr (.inr x) :: st) h Q := pw_aload_n (show decode (pm_b 69) 55 = .ok (.aload_n 0, 1) by decide +kernel)
theorem ux_69_56 : pm_w d 69 56 ls st h Q ↔ pm_r st fun a s => pm_tgs h a [4] ∧ pm_w d 69 59 ls (.inr (.inr (h.2.1 a 9)) :: s) h Q := pw_get (show decode (pm_b 69) 56 = .ok (.getfield 32, 3) by decide +kernel) fx_4_32
theorem ux_69_59 : pm_w d 69 59 ls st h Q ↔ pm_lq ls 0 fun x => pm_w d 69 60 ls (.inr (.inr x) :: st) h Q := pw_aload_n (show decode (pm_b 69) 59 = .ok (.aload_n 0, 1) by decide +kernel)
theorem ux_69_60 : pm_w d 69 60 ls st h Q ↔ pm_r st fun a s => pm_tgs h a [4] ∧ pm_w d 69 63 ls (.inl (h.1 a 10) :: s) h Q := pw_get (show decode (pm_b 69) 60 = .ok (.getfield 92, 3) by decide +kernel) fx_4_92
theorem ux_69_63 : pm_w d 69 63 ls st h Q ↔ pm_li ls 3 fun x => pm_w d 69 64 ls (.inl x :: st) h Q := pw_iload_n (show decode (pm_b 69) 63 = .ok (.iload_n 3, 1) by decide +kernel)
theorem ux_69_64 : pm_w d 69 64 ls st h Q ↔ pm_i st fun v s => pm_i s fun x s => pm_r s fun a s => pm_inb h a 20 x ∧ pm_w d 69 65 ls s (pm_wI h a x.toNat v) Q := pw_iastore (show decode (pm_b 69) 64 = .ok (.iastore, 1) by decide +kernel)
theorem ux_69_65 : pm_w d 69 65 ls st h Q ↔ pm_lq ls 0 fun x => pm_w d 69 66 ls (.inr (.inr x) :: st) h Q := pw_aload_n (show decode (pm_b 69) 65 = .ok (.aload_n 0, 1) by decide +kernel)
theorem ux_69_66 : pm_w d 69 66 ls st h Q ↔ pm_q st fun x s => pm_w d 69 67 ls (.inr (.inr x) :: .inr (.inr x) :: s) h Q := pw_dup (show decode (pm_b 69) 66 = .ok (.dup, 1) by decide +kernel)
theorem ux_69_67 : pm_w d 69 67 ls st h Q ↔ pm_r st fun a s => pm_tgs h a [4] ∧ pm_w d 69 70 ls (.inl (h.1 a 10) :: s) h Q := pw_get (show decode (pm_b 69) 67 = .ok (.getfield 92, 3) by decide +kernel) fx_4_92
theorem ux_69_70 : pm_w d 69 70 ls st h Q ↔ pm_w d 69 71 ls (.inl 1 :: st) h Q := pw_iconst (show decode (pm_b 69) 70 = .ok (.iconst 1, 1) by decide +kernel) (by unfold pm_I32; decide)
theorem ux_69_71 : pm_w d 69 71 ls st h Q ↔ pm_i st fun y s => pm_i s fun x s => pm_I32 (x + y) ∧ pm_w d 69 72 ls (.inl (x + y) :: s) h Q := pw_iadd (show decode (pm_b 69) 71 = .ok (.iadd, 1) by decide +kernel)
theorem ux_69_72 : pm_w d 69 72 ls st h Q ↔ pm_i st fun x s => pm_r s fun a s => (pm_tgs h a [4]) ∧ pm_w d 69 75 ls s (pm_wI h a 10 x) Q := pw_put0 (show decode (pm_b 69) 72 = .ok (.putfield 92, 3) by decide +kernel) fx_4_92 (Or.inl rfl)
theorem ux_69_75 : pm_w d 69 75 ls st h Q ↔ pm_li ls 3 fun x => pm_I32 (x + 1) ∧ pm_w d 69 78 (pm_s1 ls 3 (.inl (x + 1))) st h Q := pw_iinc (show decode (pm_b 69) 75 = .ok (.iinc 3 1, 3) by decide +kernel) (by decide)
theorem ux_69_78 : pm_w d 69 78 ls st h Q ↔ pm_w d 69 9 ls st h Q := pw_goto (show decode (pm_b 69) 78 = .ok (.goto (-69), 3) by decide +kernel) (by decide)
theorem ux_69_81 : pm_w d 69 81 ls st h Q ↔ st = [] ∧ Q none h := pw_return (show decode (pm_b 69) 81 = .ok (.return_, 1) by decide +kernel) rfl
-- 70: LLaying.reachFromStretch
theorem ux_70_0 : pm_w d 70 0 ls st h Q ↔ pm_li ls 2 fun x => pm_w d 70 1 ls (.inl x :: st) h Q := pw_iload_n (show decode (pm_b 70) 0 = .ok (.iload_n 2, 1) by decide +kernel)
theorem ux_70_1 : pm_w d 70 1 ls st h Q ↔ pm_i st fun x s => pm_w d 70 2 (pm_s1 ls 3 (.inl x)) s h Q := pw_istore_n (show decode (pm_b 70) 1 = .ok (.istore_n 3, 1) by decide +kernel) (by decide)
theorem ux_70_2 : pm_w d 70 2 ls st h Q ↔ pm_li ls 3 fun x => pm_w d 70 3 ls (.inl x :: st) h Q := pw_iload_n (show decode (pm_b 70) 2 = .ok (.iload_n 3, 1) by decide +kernel)
theorem ux_70_3 : pm_w d 70 3 ls st h Q ↔ pm_lq ls 0 fun x => pm_w d 70 4 ls (.inr (.inr x) :: st) h Q := pw_aload_n (show decode (pm_b 70) 3 = .ok (.aload_n 0, 1) by decide +kernel)
theorem ux_70_4 : pm_w d 70 4 ls st h Q ↔ pm_r st fun a s => pm_tgs h a [4] ∧ pm_w d 70 7 ls (.inl (h.1 a 0) :: s) h Q := pw_get (show decode (pm_b 70) 4 = .ok (.getfield 39, 3) by decide +kernel) fx_4_39
theorem ux_70_7 : pm_w d 70 7 ls st h Q ↔ pm_i st fun y s => pm_i s fun x s => ((y ≤ x) → pm_w d 70 44 ls s h Q) ∧ (¬ (y ≤ x) → pm_w d 70 10 ls s h Q) := pw_ic_ge (show decode (pm_b 70) 7 = .ok (.if_icmp .ge 37, 3) by decide +kernel) (by decide)
theorem ux_70_10 : pm_w d 70 10 ls st h Q ↔ pm_lq ls 0 fun x => pm_w d 70 11 ls (.inr (.inr x) :: st) h Q := pw_aload_n (show decode (pm_b 70) 10 = .ok (.aload_n 0, 1) by decide +kernel)
theorem ux_70_11 : pm_w d 70 11 ls st h Q ↔ pm_r st fun a s => pm_tgs h a [4] ∧ pm_w d 70 14 ls (.inr (.inr (h.2.1 a 7)) :: s) h Q := pw_get (show decode (pm_b 70) 11 = .ok (.getfield 26, 3) by decide +kernel) fx_4_26
theorem ux_70_14 : pm_w d 70 14 ls st h Q ↔ pm_li ls 3 fun x => pm_w d 70 15 ls (.inl x :: st) h Q := pw_iload_n (show decode (pm_b 70) 14 = .ok (.iload_n 3, 1) by decide +kernel)
theorem ux_70_15 : pm_w d 70 15 ls st h Q ↔ pm_i st fun x s => pm_r s fun a s => pm_inb h a 20 x ∧ pm_w d 70 16 ls (.inl (h.1 a x.toNat) :: s) h Q := pw_iaload (show decode (pm_b 70) 15 = .ok (.iaload, 1) by decide +kernel)
theorem ux_70_16 : pm_w d 70 16 ls st h Q ↔ pm_w d 70 18 ls (.inl (-2) :: st) h Q := pw_bipush (show decode (pm_b 70) 16 = .ok (.bipush (-2), 2) by decide +kernel) (by decide)
theorem ux_70_18 : pm_w d 70 18 ls st h Q ↔ pm_i st fun y s => pm_i s fun x s => ((x ≠ y) → pm_w d 70 38 ls s h Q) ∧ (¬ (x ≠ y) → pm_w d 70 21 ls s h Q) := pw_ic_ne (show decode (pm_b 70) 18 = .ok (.if_icmp .ne 20, 3) by decide +kernel) (by decide)
theorem ux_70_21 : pm_w d 70 21 ls st h Q ↔ pm_lq ls 0 fun x => pm_w d 70 22 ls (.inr (.inr x) :: st) h Q := pw_aload_n (show decode (pm_b 70) 21 = .ok (.aload_n 0, 1) by decide +kernel)
theorem ux_70_22 : pm_w d 70 22 ls st h Q ↔ pm_r st fun a s => pm_tgs h a [4] ∧ pm_w d 70 25 ls (.inr (.inr (h.2.1 a 5)) :: s) h Q := pw_get (show decode (pm_b 70) 22 = .ok (.getfield 20, 3) by decide +kernel) fx_4_20
theorem ux_70_25 : pm_w d 70 25 ls st h Q ↔ pm_li ls 3 fun x => pm_w d 70 26 ls (.inl x :: st) h Q := pw_iload_n (show decode (pm_b 70) 25 = .ok (.iload_n 3, 1) by decide +kernel)
theorem ux_70_26 : pm_w d 70 26 ls st h Q ↔ pm_i st fun x s => pm_r s fun a s => (pm_inb h a 23 x ∨ pm_inb h a 24 x ∨ pm_inb h a 25 x) ∧ pm_w d 70 27 ls (.inr (.inr (h.2.1 a x.toNat)) :: s) h Q := pw_aaload (show decode (pm_b 70) 26 = .ok (.aaload, 1) by decide +kernel)
theorem ux_70_27 : pm_w d 70 27 ls st h Q ↔ pm_li ls 1 fun x => pm_w d 70 28 ls (.inl x :: st) h Q := pw_iload_n (show decode (pm_b 70) 27 = .ok (.iload_n 1, 1) by decide +kernel)
theorem ux_70_28 : pm_w d 70 28 ls st h Q ↔ pm_i st fun x s => pm_r s fun a s => pm_inb h a 20 x ∧ pm_w d 70 29 ls (.inl (h.1 a x.toNat) :: s) h Q := pw_iaload (show decode (pm_b 70) 28 = .ok (.iaload, 1) by decide +kernel)
theorem ux_70_29 : pm_w d 70 29 ls st h Q ↔ pm_i st fun x s => ((x ≤ 0) → pm_w d 70 38 ls s h Q) ∧ (¬ (x ≤ 0) → pm_w d 70 32 ls s h Q) := pw_if_le (show decode (pm_b 70) 29 = .ok (.ifCond .le 9, 3) by decide +kernel) (by decide)
theorem ux_70_32 : pm_w d 70 32 ls st h Q ↔ pm_lq ls 0 fun x => pm_w d 70 33 ls (.inr (.inr x) :: st) h Q := pw_aload_n (show decode (pm_b 70) 32 = .ok (.aload_n 0, 1) by decide +kernel)
theorem ux_70_33 : pm_w d 70 33 ls st h Q ↔ pm_li ls 3 fun x => pm_w d 70 34 ls (.inl x :: st) h Q := pw_iload_n (show decode (pm_b 70) 33 = .ok (.iload_n 3, 1) by decide +kernel)
theorem ux_70_34 : pm_w d 70 34 ls st h Q ↔ pm_li ls 1 fun x => pm_w d 70 35 ls (.inl x :: st) h Q := pw_iload_n (show decode (pm_b 70) 34 = .ok (.iload_n 1, 1) by decide +kernel)
theorem ux_70_35 : pm_w d 70 35 ls st h Q ↔ pm_r (st.drop 2) fun a s => (2 ≤ st.length ∧ pm_wt s ≤ 8 ∧ pm_tg h a 4) ∧ pm_ok d 69 (.inr (.inr (some a)) :: (st.take 2).reverse) h fun r h1 => pm_w d 70 38 ls (pm_pu r s) h1 Q := pw_virt (show decode (pm_b 70) 35 = .ok (.invokevirtual 88, 3) by decide +kernel) mx_4_88
theorem ux_70_38 : pm_w d 70 38 ls st h Q ↔ pm_li ls 3 fun x => pm_I32 (x + 1) ∧ pm_w d 70 41 (pm_s1 ls 3 (.inl (x + 1))) st h Q := pw_iinc (show decode (pm_b 70) 38 = .ok (.iinc 3 1, 3) by decide +kernel) (by decide)
theorem ux_70_41 : pm_w d 70 41 ls st h Q ↔ pm_w d 70 2 ls st h Q := pw_goto (show decode (pm_b 70) 41 = .ok (.goto (-39), 3) by decide +kernel) (by decide)
theorem ux_70_44 : pm_w d 70 44 ls st h Q ↔ st = [] ∧ Q none h := pw_return (show decode (pm_b 70) 44 = .ok (.return_, 1) by decide +kernel) rfl
end
