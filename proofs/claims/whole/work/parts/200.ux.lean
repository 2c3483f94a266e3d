section
variable {d : Nat} {ls : pm_L} {st : List pm_V} {h : pm_H} {Q : Option pm_V → pm_H → Prop}
-- 0: L.<init>
theorem ux_0_0 : pm_w d 0 0 ls st h Q ↔ pm_lq ls 0 fun x => pm_w d 0 1 ls (.inr (.inr x) :: st) h Q := pw_aload_n (show decode (pm_b 0) 0 = .ok (.aload_n 0, 1) by decide +kernel)
theorem ux_0_1 : pm_w d 0 1 ls st h Q ↔ pm_r st fun _ s => pm_wt s ≤ 8 ∧ pm_w d 0 4 ls s h Q := pw_objInit (show decode (pm_b 0) 1 = .ok (.invokespecial 3, 3) by decide +kernel) mx_11_3
theorem ux_0_4 : pm_w d 0 4 ls st h Q ↔ pm_lq ls 0 fun x => pm_w d 0 5 ls (.inr (.inr x) :: st) h Q := pw_aload_n (show decode (pm_b 0) 4 = .ok (.aload_n 0, 1) by decide +kernel)
theorem ux_0_5 : pm_w d 0 5 ls st h Q ↔ pm_w d 0 8 ls (.inr (.inr (some h.2.2.length)) :: st) (pm_nw h 8 4) Q := pw_new (t := 8) (show decode (pm_b 0) 5 = .ok (.new 9, 3) by decide +kernel) cx_11_9 (by decide +kernel)
theorem ux_0_8 : pm_w d 0 8 ls st h Q ↔ pm_q st fun x s => pm_w d 0 9 ls (.inr (.inr x) :: .inr (.inr x) :: s) h Q := pw_dup (show decode (pm_b 0) 8 = .ok (.dup, 1) by decide +kernel)
theorem ux_0_9 : pm_w d 0 9 ls st h Q ↔ pm_r (st.drop 0) fun a s => (0 ≤ st.length ∧ pm_wt s ≤ 8) ∧ pm_ok d 1 (.inr (.inr (some a)) :: (st.take 0).reverse) h fun r h1 => pm_w d 0 12 ls (pm_pu r s) h1 Q := pw_special (show decode (pm_b 0) 9 = .ok (.invokespecial 11, 3) by decide +kernel) mx_11_11
theorem ux_0_12 : pm_w d 0 12 ls st h Q ↔ pm_q st fun x s => pm_r s fun a s => (pm_tgs h a [11]) ∧ pm_w d 0 15 ls s (pm_wR h a 0 x) Q := pw_put3 (show decode (pm_b 0) 12 = .ok (.putfield 12, 3) by decide +kernel) fx_11_12 (Or.inr ⟨rfl, by decide⟩)
theorem ux_0_15 : pm_w d 0 15 ls st h Q ↔ pm_lq ls 0 fun x => pm_w d 0 16 ls (.inr (.inr x) :: st) h Q := pw_aload_n (show decode (pm_b 0) 15 = .ok (.aload_n 0, 1) by decide +kernel)
theorem ux_0_16 : pm_w d 0 16 ls st h Q ↔ pm_w d 0 19 ls (.inr (.inr (some h.2.2.length)) :: st) (pm_nw h 3 3) Q := pw_new (t := 3) (show decode (pm_b 0) 16 = .ok (.new 16, 3) by decide +kernel) cx_11_16 (by decide +kernel)
theorem ux_0_19 : pm_w d 0 19 ls st h Q ↔ pm_q st fun x s => pm_w d 0 20 ls (.inr (.inr x) :: .inr (.inr x) :: s) h Q := pw_dup (show decode (pm_b 0) 19 = .ok (.dup, 1) by decide +kernel)
theorem ux_0_20 : pm_w d 0 20 ls st h Q ↔ pm_r (st.drop 0) fun a s => (0 ≤ st.length ∧ pm_wt s ≤ 8) ∧ pm_ok d 2 (.inr (.inr (some a)) :: (st.take 0).reverse) h fun r h1 => pm_w d 0 23 ls (pm_pu r s) h1 Q := pw_special (show decode (pm_b 0) 20 = .ok (.invokespecial 18, 3) by decide +kernel) mx_11_18
theorem ux_0_23 : pm_w d 0 23 ls st h Q ↔ pm_q st fun x s => pm_r s fun a s => (pm_tgs h a [11]) ∧ pm_w d 0 26 ls s (pm_wR h a 1 x) Q := pw_put3 (show decode (pm_b 0) 23 = .ok (.putfield 19, 3) by decide +kernel) fx_11_19 (Or.inr ⟨rfl, by decide⟩)
theorem ux_0_26 : pm_w d 0 26 ls st h Q ↔ pm_lq ls 0 fun x => pm_w d 0 27 ls (.inr (.inr x) :: st) h Q := pw_aload_n (show decode (pm_b 0) 26 = .ok (.aload_n 0, 1) by decide +kernel)
theorem ux_0_27 : pm_w d 0 27 ls st h Q ↔ pm_w d 0 30 ls (.inr (.inr (some h.2.2.length)) :: st) (pm_nw h 1 8) Q := pw_new (t := 1) (show decode (pm_b 0) 27 = .ok (.new 23, 3) by decide +kernel) cx_11_23 (by decide +kernel)
theorem ux_0_30 : pm_w d 0 30 ls st h Q ↔ pm_q st fun x s => pm_w d 0 31 ls (.inr (.inr x) :: .inr (.inr x) :: s) h Q := pw_dup (show decode (pm_b 0) 30 = .ok (.dup, 1) by decide +kernel)
theorem ux_0_31 : pm_w d 0 31 ls st h Q ↔ pm_r (st.drop 0) fun a s => (0 ≤ st.length ∧ pm_wt s ≤ 8) ∧ pm_ok d 3 (.inr (.inr (some a)) :: (st.take 0).reverse) h fun r h1 => pm_w d 0 34 ls (pm_pu r s) h1 Q := pw_special (show decode (pm_b 0) 31 = .ok (.invokespecial 25, 3) by decide +kernel) mx_11_25
theorem ux_0_34 : pm_w d 0 34 ls st h Q ↔ pm_q st fun x s => pm_r s fun a s => (pm_tgs h a [11]) ∧ pm_w d 0 37 ls s (pm_wR h a 2 x) Q := pw_put3 (show decode (pm_b 0) 34 = .ok (.putfield 26, 3) by decide +kernel) fx_11_26 (Or.inr ⟨rfl, by decide⟩)
theorem ux_0_37 : pm_w d 0 37 ls st h Q ↔ pm_lq ls 0 fun x => pm_w d 0 38 ls (.inr (.inr x) :: st) h Q := pw_aload_n (show decode (pm_b 0) 37 = .ok (.aload_n 0, 1) by decide +kernel)
theorem ux_0_38 : pm_w d 0 38 ls st h Q ↔ pm_w d 0 41 ls (.inr (.inr (some h.2.2.length)) :: st) (pm_nw h 4 11) Q := pw_new (t := 4) (show decode (pm_b 0) 38 = .ok (.new 30, 3) by decide +kernel) cx_11_30 (by decide +kernel)
theorem ux_0_41 : pm_w d 0 41 ls st h Q ↔ pm_q st fun x s => pm_w d 0 42 ls (.inr (.inr x) :: .inr (.inr x) :: s) h Q := pw_dup (show decode (pm_b 0) 41 = .ok (.dup, 1) by decide +kernel)
theorem ux_0_42 : pm_w d 0 42 ls st h Q ↔ pm_r (st.drop 0) fun a s => (0 ≤ st.length ∧ pm_wt s ≤ 8) ∧ pm_ok d 4 (.inr (.inr (some a)) :: (st.take 0).reverse) h fun r h1 => pm_w d 0 45 ls (pm_pu r s) h1 Q := pw_special (show decode (pm_b 0) 42 = .ok (.invokespecial 32, 3) by decide +kernel) mx_11_32
theorem ux_0_45 : pm_w d 0 45 ls st h Q ↔ pm_q st fun x s => pm_r s fun a s => (pm_tgs h a [11]) ∧ pm_w d 0 48 ls s (pm_wR h a 3 x) Q := pw_put3 (show decode (pm_b 0) 45 = .ok (.putfield 33, 3) by decide +kernel) fx_11_33 (Or.inr ⟨rfl, by decide⟩)
theorem ux_0_48 : pm_w d 0 48 ls st h Q ↔ pm_lq ls 0 fun x => pm_w d 0 49 ls (.inr (.inr x) :: st) h Q := pw_aload_n (show decode (pm_b 0) 48 = .ok (.aload_n 0, 1) by decide +kernel)
theorem ux_0_49 : pm_w d 0 49 ls st h Q ↔ pm_w d 0 52 ls (.inr (.inr (some h.2.2.length)) :: st) (pm_nw h 1 8) Q := pw_new (t := 1) (show decode (pm_b 0) 49 = .ok (.new 23, 3) by decide +kernel) cx_11_23 (by decide +kernel)
theorem ux_0_52 : pm_w d 0 52 ls st h Q ↔ pm_q st fun x s => pm_w d 0 53 ls (.inr (.inr x) :: .inr (.inr x) :: s) h Q := pw_dup (show decode (pm_b 0) 52 = .ok (.dup, 1) by decide +kernel)
theorem ux_0_53 : pm_w d 0 53 ls st h Q ↔ pm_r (st.drop 0) fun a s => (0 ≤ st.length ∧ pm_wt s ≤ 8) ∧ pm_ok d 3 (.inr (.inr (some a)) :: (st.take 0).reverse) h fun r h1 => pm_w d 0 56 ls (pm_pu r s) h1 Q := pw_special (show decode (pm_b 0) 53 = .ok (.invokespecial 25, 3) by decide +kernel) mx_11_25
theorem ux_0_56 : pm_w d 0 56 ls st h Q ↔ pm_q st fun x s => pm_r s fun a s => (pm_tgs h a [11]) ∧ pm_w d 0 59 ls s (pm_wR h a 7 x) Q := pw_put3 (show decode (pm_b 0) 56 = .ok (.putfield 37, 3) by decide +kernel) fx_11_37 (Or.inr ⟨rfl, by decide⟩)
theorem ux_0_59 : pm_w d 0 59 ls st h Q ↔ pm_lq ls 0 fun x => pm_w d 0 60 ls (.inr (.inr x) :: st) h Q := pw_aload_n (show decode (pm_b 0) 59 = .ok (.aload_n 0, 1) by decide +kernel)
theorem ux_0_60 : pm_w d 0 60 ls st h Q ↔ pm_w d 0 63 ls (.inr (.inr (some h.2.2.length)) :: st) (pm_nw h 4 11) Q := pw_new (t := 4) (show decode (pm_b 0) 60 = .ok (.new 30, 3) by decide +kernel) cx_11_30 (by decide +kernel)
theorem ux_0_63 : pm_w d 0 63 ls st h Q ↔ pm_q st fun x s => pm_w d 0 64 ls (.inr (.inr x) :: .inr (.inr x) :: s) h Q := pw_dup (show decode (pm_b 0) 63 = .ok (.dup, 1) by decide +kernel)
theorem ux_0_64 : pm_w d 0 64 ls st h Q ↔ pm_r (st.drop 0) fun a s => (0 ≤ st.length ∧ pm_wt s ≤ 8) ∧ pm_ok d 4 (.inr (.inr (some a)) :: (st.take 0).reverse) h fun r h1 => pm_w d 0 67 ls (pm_pu r s) h1 Q := pw_special (show decode (pm_b 0) 64 = .ok (.invokespecial 32, 3) by decide +kernel) mx_11_32
theorem ux_0_67 : pm_w d 0 67 ls st h Q ↔ pm_q st fun x s => pm_r s fun a s => (pm_tgs h a [11]) ∧ pm_w d 0 70 ls s (pm_wR h a 8 x) Q := pw_put3 (show decode (pm_b 0) 67 = .ok (.putfield 40, 3) by decide +kernel) fx_11_40 (Or.inr ⟨rfl, by decide⟩)
theorem ux_0_70 : pm_w d 0 70 ls st h Q ↔ pm_lq ls 0 fun x => pm_w d 0 71 ls (.inr (.inr x) :: st) h Q := pw_aload_n (show decode (pm_b 0) 70 = .ok (.aload_n 0, 1) by decide +kernel)
theorem ux_0_71 : pm_w d 0 71 ls st h Q ↔ pm_w d 0 74 ls (.inr (.inr (some h.2.2.length)) :: st) (pm_nw h 5 10) Q := pw_new (t := 5) (show decode (pm_b 0) 71 = .ok (.new 43, 3) by decide +kernel) cx_11_43 (by decide +kernel)
theorem ux_0_74 : pm_w d 0 74 ls st h Q ↔ pm_q st fun x s => pm_w d 0 75 ls (.inr (.inr x) :: .inr (.inr x) :: s) h Q := pw_dup (show decode (pm_b 0) 74 = .ok (.dup, 1) by decide +kernel)
theorem ux_0_75 : pm_w d 0 75 ls st h Q ↔ pm_r (st.drop 0) fun a s => (0 ≤ st.length ∧ pm_wt s ≤ 8) ∧ pm_ok d 5 (.inr (.inr (some a)) :: (st.take 0).reverse) h fun r h1 => pm_w d 0 78 ls (pm_pu r s) h1 Q := pw_special (show decode (pm_b 0) 75 = .ok (.invokespecial 45, 3) by decide +kernel) mx_11_45
theorem ux_0_78 : pm_w d 0 78 ls st h Q ↔ pm_q st fun x s => pm_r s fun a s => (pm_tgs h a [11]) ∧ pm_w d 0 81 ls s (pm_wR h a 11 x) Q := pw_put3 (show decode (pm_b 0) 78 = .ok (.putfield 46, 3) by decide +kernel) fx_11_46 (Or.inr ⟨rfl, by decide⟩)
theorem ux_0_81 : pm_w d 0 81 ls st h Q ↔ pm_lq ls 0 fun x => pm_w d 0 82 ls (.inr (.inr x) :: st) h Q := pw_aload_n (show decode (pm_b 0) 81 = .ok (.aload_n 0, 1) by decide +kernel)
theorem ux_0_82 : pm_w d 0 82 ls st h Q ↔ pm_w d 0 85 ls (.inr (.inr (some h.2.2.length)) :: st) (pm_nw h 7 10) Q := pw_new (t := 7) (show decode (pm_b 0) 82 = .ok (.new 50, 3) by decide +kernel) cx_11_50 (by decide +kernel)
theorem ux_0_85 : pm_w d 0 85 ls st h Q ↔ pm_q st fun x s => pm_w d 0 86 ls (.inr (.inr x) :: .inr (.inr x) :: s) h Q := pw_dup (show decode (pm_b 0) 85 = .ok (.dup, 1) by decide +kernel)
theorem ux_0_86 : pm_w d 0 86 ls st h Q ↔ pm_r (st.drop 0) fun a s => (0 ≤ st.length ∧ pm_wt s ≤ 8) ∧ pm_ok d 6 (.inr (.inr (some a)) :: (st.take 0).reverse) h fun r h1 => pm_w d 0 89 ls (pm_pu r s) h1 Q := pw_special (show decode (pm_b 0) 86 = .ok (.invokespecial 52, 3) by decide +kernel) mx_11_52
theorem ux_0_89 : pm_w d 0 89 ls st h Q ↔ pm_q st fun x s => pm_r s fun a s => (pm_tgs h a [11]) ∧ pm_w d 0 92 ls s (pm_wR h a 12 x) Q := pw_put3 (show decode (pm_b 0) 89 = .ok (.putfield 53, 3) by decide +kernel) fx_11_53 (Or.inr ⟨rfl, by decide⟩)
theorem ux_0_92 : pm_w d 0 92 ls st h Q ↔ st = [] ∧ Q none h := pw_return (show decode (pm_b 0) 92 = .ok (.return_, 1) by decide +kernel) rfl
-- 1: LShed.<init>
theorem ux_1_0 : pm_w d 1 0 ls st h Q ↔ pm_lq ls 0 fun x => pm_w d 1 1 ls (.inr (.inr x) :: st) h Q := pw_aload_n (show decode (pm_b 1) 0 = .ok (.aload_n 0, 1) by decide +kernel)
theorem ux_1_1 : pm_w d 1 1 ls st h Q ↔ pm_r st fun _ s => pm_wt s ≤ 8 ∧ pm_w d 1 4 ls s h Q := pw_objInit (show decode (pm_b 1) 1 = .ok (.invokespecial 3, 3) by decide +kernel) mx_8_3
theorem ux_1_4 : pm_w d 1 4 ls st h Q ↔ pm_lq ls 0 fun x => pm_w d 1 5 ls (.inr (.inr x) :: st) h Q := pw_aload_n (show decode (pm_b 1) 4 = .ok (.aload_n 0, 1) by decide +kernel)
theorem ux_1_5 : pm_w d 1 5 ls st h Q ↔ pm_w d 1 6 ls (.inl 1 :: st) h Q := pw_iconst (show decode (pm_b 1) 5 = .ok (.iconst 1, 1) by decide +kernel) (by unfold pm_I32; decide)
theorem ux_1_6 : pm_w d 1 6 ls st h Q ↔ pm_i st fun x s => pm_r s fun a s => (pm_tgs h a [8]) ∧ pm_w d 1 9 ls s (pm_wI h a 0 x) Q := pw_put0 (show decode (pm_b 1) 6 = .ok (.putfield 9, 3) by decide +kernel) fx_8_9 (Or.inl rfl)
theorem ux_1_9 : pm_w d 1 9 ls st h Q ↔ pm_lq ls 0 fun x => pm_w d 1 10 ls (.inr (.inr x) :: st) h Q := pw_aload_n (show decode (pm_b 1) 9 = .ok (.aload_n 0, 1) by decide +kernel)
theorem ux_1_10 : pm_w d 1 10 ls st h Q ↔ pm_w d 1 12 ls (.inl 24 :: st) h Q := pw_bipush (show decode (pm_b 1) 10 = .ok (.bipush 24, 2) by decide +kernel) (by decide)
theorem ux_1_12 : pm_w d 1 12 ls st h Q ↔ pm_i st fun x s => pm_r s fun a s => (pm_tgs h a [8]) ∧ pm_w d 1 15 ls s (pm_wI h a 1 x) Q := pw_put0 (show decode (pm_b 1) 12 = .ok (.putfield 15, 3) by decide +kernel) fx_8_15 (Or.inl rfl)
theorem ux_1_15 : pm_w d 1 15 ls st h Q ↔ pm_lq ls 0 fun x => pm_w d 1 16 ls (.inr (.inr x) :: st) h Q := pw_aload_n (show decode (pm_b 1) 15 = .ok (.aload_n 0, 1) by decide +kernel)
theorem ux_1_16 : pm_w d 1 16 ls st h Q ↔ pm_w d 1 18 ls (.inl 12 :: st) h Q := pw_bipush (show decode (pm_b 1) 16 = .ok (.bipush 12, 2) by decide +kernel) (by decide)
theorem ux_1_18 : pm_w d 1 18 ls st h Q ↔ pm_i st fun x s => (0 ≤ x ∧ x ≤ 4000) ∧ pm_w d 1 21 ls (.inr (.inr (some h.2.2.length)) :: s) (pm_nw h 24 x.toNat) Q := pw_anewP (show decode (pm_b 1) 18 = .ok (.anewarray 18, 3) by decide +kernel) cx_8_18
theorem ux_1_21 : pm_w d 1 21 ls st h Q ↔ pm_q st fun x s => pm_r s fun a s => (pm_tgs h a [8]) ∧ pm_w d 1 24 ls s (pm_wR h a 3 x) Q := pw_put3 (show decode (pm_b 1) 21 = .ok (.putfield 20, 3) by decide +kernel) fx_8_20 (Or.inr ⟨rfl, by decide⟩)
theorem ux_1_24 : pm_w d 1 24 ls st h Q ↔ st = [] ∧ Q none h := pw_return (show decode (pm_b 1) 24 = .ok (.return_, 1) by decide +kernel) rfl
-- 2: LHistory.<init>
theorem ux_2_0 : pm_w d 2 0 ls st h Q ↔ pm_lq ls 0 fun x => pm_w d 2 1 ls (.inr (.inr x) :: st) h Q := pw_aload_n (show decode (pm_b 2) 0 = .ok (.aload_n 0, 1) by decide +kernel)
theorem ux_2_1 : pm_w d 2 1 ls st h Q ↔ pm_r st fun _ s => pm_wt s ≤ 8 ∧ pm_w d 2 4 ls s h Q := pw_objInit (show decode (pm_b 2) 1 = .ok (.invokespecial 3, 3) by decide +kernel) mx_3_3
theorem ux_2_4 : pm_w d 2 4 ls st h Q ↔ pm_lq ls 0 fun x => pm_w d 2 5 ls (.inr (.inr x) :: st) h Q := pw_aload_n (show decode (pm_b 2) 4 = .ok (.aload_n 0, 1) by decide +kernel)
theorem ux_2_5 : pm_w d 2 5 ls st h Q ↔ pm_w d 2 7 ls (.inl 20 :: st) h Q := pw_bipush (show decode (pm_b 2) 5 = .ok (.bipush 20, 2) by decide +kernel) (by decide)
theorem ux_2_7 : pm_w d 2 7 ls st h Q ↔ pm_i st fun x s => (0 ≤ x ∧ x ≤ 4000) ∧ pm_w d 2 10 ls (.inr (.inr (some h.2.2.length)) :: s) (pm_nw h 25 x.toNat) Q := pw_anewS (show decode (pm_b 2) 7 = .ok (.anewarray 9, 3) by decide +kernel) cx_3_9
theorem ux_2_10 : pm_w d 2 10 ls st h Q ↔ pm_q st fun x s => pm_r s fun a s => (pm_tgs h a [3]) ∧ pm_w d 2 13 ls s (pm_wR h a 0 x) Q := pw_put3 (show decode (pm_b 2) 10 = .ok (.putfield 11, 3) by decide +kernel) fx_3_11 (Or.inr ⟨rfl, by decide⟩)
theorem ux_2_13 : pm_w d 2 13 ls st h Q ↔ pm_w d 2 14 ls (.inl 0 :: st) h Q := pw_iconst (show decode (pm_b 2) 13 = .ok (.iconst 0, 1) by decide +kernel) (by unfold pm_I32; decide)
theorem ux_2_14 : pm_w d 2 14 ls st h Q ↔ pm_i st fun x s => pm_w d 2 15 (pm_s1 ls 1 (.inl x)) s h Q := pw_istore_n (show decode (pm_b 2) 14 = .ok (.istore_n 1, 1) by decide +kernel) (by decide)
theorem ux_2_15 : pm_w d 2 15 ls st h Q ↔ pm_li ls 1 fun x => pm_w d 2 16 ls (.inl x :: st) h Q := pw_iload_n (show decode (pm_b 2) 15 = .ok (.iload_n 1, 1) by decide +kernel)
theorem ux_2_16 : pm_w d 2 16 ls st h Q ↔ pm_w d 2 18 ls (.inl 20 :: st) h Q := pw_bipush (show decode (pm_b 2) 16 = .ok (.bipush 20, 2) by decide +kernel) (by decide)
theorem ux_2_18 : pm_w d 2 18 ls st h Q ↔ pm_i st fun y s => pm_i s fun x s => ((y ≤ x) → pm_w d 2 40 ls s h Q) ∧ (¬ (y ≤ x) → pm_w d 2 21 ls s h Q) := pw_ic_ge (show decode (pm_b 2) 18 = .ok (.if_icmp .ge 22, 3) by decide +kernel) (by decide)
theorem ux_2_21 : pm_w d 2 21 ls st h Q ↔ pm_lq ls 0 fun x => pm_w d 2 22 ls (.inr (.inr x) :: st) h Q := pw_aload_n (show decode (pm_b 2) 21 = .ok (.aload_n 0, 1) by decide +kernel)
theorem ux_2_22 : pm_w d 2 22 ls st h Q ↔ pm_r st fun a s => pm_tgs h a [3] ∧ pm_w d 2 25 ls (.inr (.inr (h.2.1 a 0)) :: s) h Q := pw_get (show decode (pm_b 2) 22 = .ok (.getfield 11, 3) by decide +kernel) fx_3_11
theorem ux_2_25 : pm_w d 2 25 ls st h Q ↔ pm_li ls 1 fun x => pm_w d 2 26 ls (.inl x :: st) h Q := pw_iload_n (show decode (pm_b 2) 25 = .ok (.iload_n 1, 1) by decide +kernel)
theorem ux_2_26 : pm_w d 2 26 ls st h Q ↔ pm_w d 2 29 ls (.inr (.inr (some h.2.2.length)) :: st) (pm_nw h 8 4) Q := pw_new (t := 8) (show decode (pm_b 2) 26 = .ok (.new 9, 3) by decide +kernel) cx_3_9 (by decide +kernel)
theorem ux_2_29 : pm_w d 2 29 ls st h Q ↔ pm_q st fun x s => pm_w d 2 30 ls (.inr (.inr x) :: .inr (.inr x) :: s) h Q := pw_dup (show decode (pm_b 2) 29 = .ok (.dup, 1) by decide +kernel)
theorem ux_2_30 : pm_w d 2 30 ls st h Q ↔ pm_r (st.drop 0) fun a s => (0 ≤ st.length ∧ pm_wt s ≤ 8) ∧ pm_ok d 1 (.inr (.inr (some a)) :: (st.take 0).reverse) h fun r h1 => pm_w d 2 33 ls (pm_pu r s) h1 Q := pw_special (show decode (pm_b 2) 30 = .ok (.invokespecial 17, 3) by decide +kernel) mx_3_17
theorem ux_2_33 : pm_w d 2 33 ls st h Q ↔ pm_q st fun v s => pm_i s fun x s => pm_r s fun a s => ((pm_inb h a 24 x ∧ ∀ q, v = some q → pm_tgs h q [0, 2, 6, 9, 10]) ∨ (pm_inb h a 25 x ∧ ∀ q, v = some q → pm_tgs h q [8])) ∧ pm_w d 2 34 ls s (pm_wR h a x.toNat v) Q := pw_aastore (show decode (pm_b 2) 33 = .ok (.aastore, 1) by decide +kernel)
theorem ux_2_34 : pm_w d 2 34 ls st h Q ↔ pm_li ls 1 fun x => pm_I32 (x + 1) ∧ pm_w d 2 37 (pm_s1 ls 1 (.inl (x + 1))) st h Q := pw_iinc (show decode (pm_b 2) 34 = .ok (.iinc 1 1, 3) by decide +kernel) (by decide)
theorem ux_2_37 : pm_w d 2 37 ls st h Q ↔ pm_w d 2 15 ls st h Q := pw_goto (show decode (pm_b 2) 37 = .ok (.goto (-22), 3) by decide +kernel) (by decide)
theorem ux_2_40 : pm_w d 2 40 ls st h Q ↔ st = [] ∧ Q none h := pw_return (show decode (pm_b 2) 40 = .ok (.return_, 1) by decide +kernel) rfl
-- 3: LFrame.<init>
theorem ux_3_0 : pm_w d 3 0 ls st h Q ↔ pm_lq ls 0 fun x => pm_w d 3 1 ls (.inr (.inr x) :: st) h Q := pw_aload_n (show decode (pm_b 3) 0 = .ok (.aload_n 0, 1) by decide +kernel)
theorem ux_3_1 : pm_w d 3 1 ls st h Q ↔ pm_r st fun _ s => pm_wt s ≤ 8 ∧ pm_w d 3 4 ls s h Q := pw_objInit (show decode (pm_b 3) 1 = .ok (.invokespecial 3, 3) by decide +kernel) mx_1_3
theorem ux_3_4 : pm_w d 3 4 ls st h Q ↔ pm_lq ls 0 fun x => pm_w d 3 5 ls (.inr (.inr x) :: st) h Q := pw_aload_n (show decode (pm_b 3) 4 = .ok (.aload_n 0, 1) by decide +kernel)
theorem ux_3_5 : pm_w d 3 5 ls st h Q ↔ pm_w d 3 7 ls (.inl 48 :: st) h Q := pw_bipush (show decode (pm_b 3) 5 = .ok (.bipush 48, 2) by decide +kernel) (by decide)
theorem ux_3_7 : pm_w d 3 7 ls st h Q ↔ pm_i st fun x s => (0 ≤ x ∧ x ≤ 4000) ∧ pm_w d 3 9 ls (.inr (.inr (some h.2.2.length)) :: s) (pm_nw h 20 x.toNat) Q := pw_newarray_int (show decode (pm_b 3) 7 = .ok (.newarray .int, 2) by decide +kernel)
theorem ux_3_9 : pm_w d 3 9 ls st h Q ↔ pm_q st fun x s => pm_r s fun a s => (pm_tgs h a [1]) ∧ pm_w d 3 12 ls s (pm_wR h a 4 x) Q := pw_put3 (show decode (pm_b 3) 9 = .ok (.putfield 9, 3) by decide +kernel) fx_1_9 (Or.inr ⟨rfl, by decide⟩)
theorem ux_3_12 : pm_w d 3 12 ls st h Q ↔ pm_lq ls 0 fun x => pm_w d 3 13 ls (.inr (.inr x) :: st) h Q := pw_aload_n (show decode (pm_b 3) 12 = .ok (.aload_n 0, 1) by decide +kernel)
theorem ux_3_13 : pm_w d 3 13 ls st h Q ↔ pm_w d 3 15 ls (.inl 12 :: st) h Q := pw_bipush (show decode (pm_b 3) 13 = .ok (.bipush 12, 2) by decide +kernel) (by decide)
theorem ux_3_15 : pm_w d 3 15 ls st h Q ↔ pm_i st fun x s => (0 ≤ x ∧ x ≤ 4000) ∧ pm_w d 3 17 ls (.inr (.inr (some h.2.2.length)) :: s) (pm_nw h 20 x.toNat) Q := pw_newarray_int (show decode (pm_b 3) 15 = .ok (.newarray .int, 2) by decide +kernel)
theorem ux_3_17 : pm_w d 3 17 ls st h Q ↔ pm_q st fun x s => pm_r s fun a s => (pm_tgs h a [1]) ∧ pm_w d 3 20 ls s (pm_wR h a 5 x) Q := pw_put3 (show decode (pm_b 3) 17 = .ok (.putfield 15, 3) by decide +kernel) fx_1_15 (Or.inr ⟨rfl, by decide⟩)
theorem ux_3_20 : pm_w d 3 20 ls st h Q ↔ pm_lq ls 0 fun x => pm_w d 3 21 ls (.inr (.inr x) :: st) h Q := pw_aload_n (show decode (pm_b 3) 20 = .ok (.aload_n 0, 1) by decide +kernel)
theorem ux_3_21 : pm_w d 3 21 ls st h Q ↔ pm_w d 3 23 ls (.inl 12 :: st) h Q := pw_bipush (show decode (pm_b 3) 21 = .ok (.bipush 12, 2) by decide +kernel) (by decide)
theorem ux_3_23 : pm_w d 3 23 ls st h Q ↔ pm_i st fun x s => (0 ≤ x ∧ x ≤ 4000) ∧ pm_w d 3 25 ls (.inr (.inr (some h.2.2.length)) :: s) (pm_nw h 20 x.toNat) Q := pw_newarray_int (show decode (pm_b 3) 23 = .ok (.newarray .int, 2) by decide +kernel)
theorem ux_3_25 : pm_w d 3 25 ls st h Q ↔ pm_q st fun x s => pm_r s fun a s => (pm_tgs h a [1]) ∧ pm_w d 3 28 ls s (pm_wR h a 6 x) Q := pw_put3 (show decode (pm_b 3) 25 = .ok (.putfield 18, 3) by decide +kernel) fx_1_18 (Or.inr ⟨rfl, by decide⟩)
theorem ux_3_28 : pm_w d 3 28 ls st h Q ↔ pm_lq ls 0 fun x => pm_w d 3 29 ls (.inr (.inr x) :: st) h Q := pw_aload_n (show decode (pm_b 3) 28 = .ok (.aload_n 0, 1) by decide +kernel)
theorem ux_3_29 : pm_w d 3 29 ls st h Q ↔ pm_w d 3 31 ls (.inl 12 :: st) h Q := pw_bipush (show decode (pm_b 3) 29 = .ok (.bipush 12, 2) by decide +kernel) (by decide)
theorem ux_3_31 : pm_w d 3 31 ls st h Q ↔ pm_i st fun x s => (0 ≤ x ∧ x ≤ 4000) ∧ pm_w d 3 33 ls (.inr (.inr (some h.2.2.length)) :: s) (pm_nw h 21 x.toNat) Q := pw_newarray_long (show decode (pm_b 3) 31 = .ok (.newarray .long, 2) by decide +kernel)
theorem ux_3_33 : pm_w d 3 33 ls st h Q ↔ pm_q st fun x s => pm_r s fun a s => (pm_tgs h a [1]) ∧ pm_w d 3 36 ls s (pm_wR h a 7 x) Q := pw_put3 (show decode (pm_b 3) 33 = .ok (.putfield 21, 3) by decide +kernel) fx_1_21 (Or.inr ⟨rfl, by decide⟩)
theorem ux_3_36 : pm_w d 3 36 ls st h Q ↔ st = [] ∧ Q none h := pw_return (show decode (pm_b 3) 36 = .ok (.return_, 1) by decide +kernel) rfl
-- 4: LLaying.<init>
theorem ux_4_0 : pm_w d 4 0 ls st h Q ↔ pm_lq ls 0 fun x => pm_w d 4 1 ls (.inr (.inr x) :: st) h Q := pw_aload_n (show decode (pm_b 4) 0 = .ok (.aload_n 0, 1) by decide +kernel)
theorem ux_4_1 : pm_w d 4 1 ls st h Q ↔ pm_r st fun _ s => pm_wt s ≤ 8 ∧ pm_w d 4 4 ls s h Q := pw_objInit (show decode (pm_b 4) 1 = .ok (.invokespecial 3, 3) by decide +kernel) mx_4_3
theorem ux_4_4 : pm_w d 4 4 ls st h Q ↔ pm_lq ls 0 fun x => pm_w d 4 5 ls (.inr (.inr x) :: st) h Q := pw_aload_n (show decode (pm_b 4) 4 = .ok (.aload_n 0, 1) by decide +kernel)
theorem ux_4_5 : pm_w d 4 5 ls st h Q ↔ pm_w d 4 7 ls (.inl 12 :: st) h Q := pw_bipush (show decode (pm_b 4) 5 = .ok (.bipush 12, 2) by decide +kernel) (by decide)
theorem ux_4_7 : pm_w d 4 7 ls st h Q ↔ pm_i st fun x s => (0 ≤ x ∧ x ≤ 4000) ∧ pm_w d 4 9 ls (.inr (.inr (some h.2.2.length)) :: s) (pm_nw h 20 x.toNat) Q := pw_newarray_int (show decode (pm_b 4) 7 = .ok (.newarray .int, 2) by decide +kernel)
theorem ux_4_9 : pm_w d 4 9 ls st h Q ↔ pm_q st fun x s => pm_r s fun a s => (pm_tgs h a [4]) ∧ pm_w d 4 12 ls s (pm_wR h a 3 x) Q := pw_put3 (show decode (pm_b 4) 9 = .ok (.putfield 9, 3) by decide +kernel) fx_4_9 (Or.inr ⟨rfl, by decide⟩)
theorem ux_4_12 : pm_w d 4 12 ls st h Q ↔ pm_lq ls 0 fun x => pm_w d 4 13 ls (.inr (.inr x) :: st) h Q := pw_aload_n (show decode (pm_b 4) 12 = .ok (.aload_n 0, 1) by decide +kernel)
theorem ux_4_13 : pm_w d 4 13 ls st h Q ↔ pm_w d 4 15 ls (.inl 47 :: st) h Q := pw_bipush (show decode (pm_b 4) 13 = .ok (.bipush 47, 2) by decide +kernel) (by decide)
theorem ux_4_15 : pm_w d 4 15 ls st h Q ↔ pm_i st fun x s => (0 ≤ x ∧ x ≤ 4000) ∧ pm_w d 4 17 ls (.inr (.inr (some h.2.2.length)) :: s) (pm_nw h 20 x.toNat) Q := pw_newarray_int (show decode (pm_b 4) 15 = .ok (.newarray .int, 2) by decide +kernel)
theorem ux_4_17 : pm_w d 4 17 ls st h Q ↔ pm_q st fun x s => pm_r s fun a s => (pm_tgs h a [4]) ∧ pm_w d 4 20 ls s (pm_wR h a 4 x) Q := pw_put3 (show decode (pm_b 4) 17 = .ok (.putfield 15, 3) by decide +kernel) fx_4_15 (Or.inr ⟨rfl, by decide⟩)
theorem ux_4_20 : pm_w d 4 20 ls st h Q ↔ pm_lq ls 0 fun x => pm_w d 4 21 ls (.inr (.inr x) :: st) h Q := pw_aload_n (show decode (pm_b 4) 20 = .ok (.aload_n 0, 1) by decide +kernel)
theorem ux_4_21 : pm_w d 4 21 ls st h Q ↔ pm_w d 4 23 ls (.inl 12 :: st) h Q := pw_bipush (show decode (pm_b 4) 21 = .ok (.bipush 12, 2) by decide +kernel) (by decide)
theorem ux_4_23 : pm_w d 4 23 ls st h Q ↔ pm_w d 4 25 ls (.inl 47 :: st) h Q := pw_bipush (show decode (pm_b 4) 23 = .ok (.bipush 47, 2) by decide +kernel) (by decide)
theorem ux_4_25 : pm_w d 4 25 ls st h Q ↔ pm_i st fun y s => pm_i s fun x s => (0 ≤ x ∧ x ≤ 4000 ∧ 0 ≤ y ∧ y ≤ 4000) ∧ pm_w d 4 29 ls (.inr (.inr (some h.2.2.length)) :: s) (pm_mn h x.toNat y.toNat) Q := pw_mnew (show decode (pm_b 4) 25 = .ok (.multianewarray 18 2, 4) by decide +kernel) cx_4_18
theorem ux_4_29 : pm_w d 4 29 ls st h Q ↔ pm_q st fun x s => pm_r s fun a s => (pm_tgs h a [4]) ∧ pm_w d 4 32 ls s (pm_wR h a 5 x) Q := pw_put3 (show decode (pm_b 4) 29 = .ok (.putfield 20, 3) by decide +kernel) fx_4_20 (Or.inr ⟨rfl, by decide⟩)
theorem ux_4_32 : pm_w d 4 32 ls st h Q ↔ pm_lq ls 0 fun x => pm_w d 4 33 ls (.inr (.inr x) :: st) h Q := pw_aload_n (show decode (pm_b 4) 32 = .ok (.aload_n 0, 1) by decide +kernel)
theorem ux_4_33 : pm_w d 4 33 ls st h Q ↔ pm_w d 4 35 ls (.inl 12 :: st) h Q := pw_bipush (show decode (pm_b 4) 33 = .ok (.bipush 12, 2) by decide +kernel) (by decide)
theorem ux_4_35 : pm_w d 4 35 ls st h Q ↔ pm_w d 4 37 ls (.inl 47 :: st) h Q := pw_bipush (show decode (pm_b 4) 35 = .ok (.bipush 47, 2) by decide +kernel) (by decide)
theorem ux_4_37 : pm_w d 4 37 ls st h Q ↔ pm_i st fun y s => pm_i s fun x s => (0 ≤ x ∧ x ≤ 4000 ∧ 0 ≤ y ∧ y ≤ 4000) ∧ pm_w d 4 41 ls (.inr (.inr (some h.2.2.length)) :: s) (pm_mn h x.toNat y.toNat) Q := pw_mnew (show decode (pm_b 4) 37 = .ok (.multianewarray 18 2, 4) by decide +kernel) cx_4_18
theorem ux_4_41 : pm_w d 4 41 ls st h Q ↔ pm_q st fun x s => pm_r s fun a s => (pm_tgs h a [4]) ∧ pm_w d 4 44 ls s (pm_wR h a 6 x) Q := pw_put3 (show decode (pm_b 4) 41 = .ok (.putfield 23, 3) by decide +kernel) fx_4_23 (Or.inr ⟨rfl, by decide⟩)
theorem ux_4_44 : pm_w d 4 44 ls st h Q ↔ pm_lq ls 0 fun x => pm_w d 4 45 ls (.inr (.inr x) :: st) h Q := pw_aload_n (show decode (pm_b 4) 44 = .ok (.aload_n 0, 1) by decide +kernel)
theorem ux_4_45 : pm_w d 4 45 ls st h Q ↔ pm_w d 4 47 ls (.inl 12 :: st) h Q := pw_bipush (show decode (pm_b 4) 45 = .ok (.bipush 12, 2) by decide +kernel) (by decide)
theorem ux_4_47 : pm_w d 4 47 ls st h Q ↔ pm_i st fun x s => (0 ≤ x ∧ x ≤ 4000) ∧ pm_w d 4 49 ls (.inr (.inr (some h.2.2.length)) :: s) (pm_nw h 20 x.toNat) Q := pw_newarray_int (show decode (pm_b 4) 47 = .ok (.newarray .int, 2) by decide +kernel)
theorem ux_4_49 : pm_w d 4 49 ls st h Q ↔ pm_q st fun x s => pm_r s fun a s => (pm_tgs h a [4]) ∧ pm_w d 4 52 ls s (pm_wR h a 7 x) Q := pw_put3 (show decode (pm_b 4) 49 = .ok (.putfield 26, 3) by decide +kernel) fx_4_26 (Or.inr ⟨rfl, by decide⟩)
theorem ux_4_52 : pm_w d 4 52 ls st h Q ↔ pm_lq ls 0 fun x => pm_w d 4 53 ls (.inr (.inr x) :: st) h Q := pw_aload_n (show decode (pm_b 4) 52 = .ok (.aload_n 0, 1) by decide +kernel)
theorem ux_4_53 : pm_w d 4 53 ls st h Q ↔ pm_w d 4 55 ls (.inl 47 :: st) h Q := pw_bipush (show decode (pm_b 4) 53 = .ok (.bipush 47, 2) by decide +kernel) (by decide)
theorem ux_4_55 : pm_w d 4 55 ls st h Q ↔ pm_i st fun x s => (0 ≤ x ∧ x ≤ 4000) ∧ pm_w d 4 57 ls (.inr (.inr (some h.2.2.length)) :: s) (pm_nw h 20 x.toNat) Q := pw_newarray_int (show decode (pm_b 4) 55 = .ok (.newarray .int, 2) by decide +kernel)
theorem ux_4_57 : pm_w d 4 57 ls st h Q ↔ pm_q st fun x s => pm_r s fun a s => (pm_tgs h a [4]) ∧ pm_w d 4 60 ls s (pm_wR h a 8 x) Q := pw_put3 (show decode (pm_b 4) 57 = .ok (.putfield 29, 3) by decide +kernel) fx_4_29 (Or.inr ⟨rfl, by decide⟩)
theorem ux_4_60 : pm_w d 4 60 ls st h Q ↔ pm_lq ls 0 fun x => pm_w d 4 61 ls (.inr (.inr x) :: st) h Q := pw_aload_n (show decode (pm_b 4) 60 = .ok (.aload_n 0, 1) by decide +kernel)
theorem ux_4_61 : pm_w d 4 61 ls st h Q ↔ pm_w d 4 63 ls (.inl 47 :: st) h Q := pw_bipush (show decode (pm_b 4) 61 = .ok (.bipush 47, 2) by decide +kernel) (by decide)
theorem ux_4_63 : pm_w d 4 63 ls st h Q ↔ pm_i st fun x s => (0 ≤ x ∧ x ≤ 4000) ∧ pm_w d 4 65 ls (.inr (.inr (some h.2.2.length)) :: s) (pm_nw h 20 x.toNat) Q := pw_newarray_int (show decode (pm_b 4) 63 = .ok (.newarray .int, 2) by decide +kernel)
theorem ux_4_65 : pm_w d 4 65 ls st h Q ↔ pm_q st fun x s => pm_r s fun a s => (pm_tgs h a [4]) ∧ pm_w d 4 68 ls s (pm_wR h a 9 x) Q := pw_put3 (show decode (pm_b 4) 65 = .ok (.putfield 32, 3) by decide +kernel) fx_4_32 (Or.inr ⟨rfl, by decide⟩)
theorem ux_4_68 : pm_w d 4 68 ls st h Q ↔ st = [] ∧ Q none h := pw_return (show decode (pm_b 4) 68 = .ok (.return_, 1) by decide +kernel) rfl
-- 5: LLevelling.<init>
theorem ux_5_0 : pm_w d 5 0 ls st h Q ↔ pm_lq ls 0 fun x => pm_w d 5 1 ls (.inr (.inr x) :: st) h Q := pw_aload_n (show decode (pm_b 5) 0 = .ok (.aload_n 0, 1) by decide +kernel)
theorem ux_5_1 : pm_w d 5 1 ls st h Q ↔ pm_r st fun _ s => pm_wt s ≤ 8 ∧ pm_w d 5 4 ls s h Q := pw_objInit (show decode (pm_b 5) 1 = .ok (.invokespecial 3, 3) by decide +kernel) mx_5_3
theorem ux_5_4 : pm_w d 5 4 ls st h Q ↔ pm_lq ls 0 fun x => pm_w d 5 5 ls (.inr (.inr x) :: st) h Q := pw_aload_n (show decode (pm_b 5) 4 = .ok (.aload_n 0, 1) by decide +kernel)
theorem ux_5_5 : pm_w d 5 5 ls st h Q ↔ pm_w d 5 7 ls (.inl 12 :: st) h Q := pw_bipush (show decode (pm_b 5) 5 = .ok (.bipush 12, 2) by decide +kernel) (by decide)
theorem ux_5_7 : pm_w d 5 7 ls st h Q ↔ pm_i st fun x s => (0 ≤ x ∧ x ≤ 4000) ∧ pm_w d 5 9 ls (.inr (.inr (some h.2.2.length)) :: s) (pm_nw h 20 x.toNat) Q := pw_newarray_int (show decode (pm_b 5) 7 = .ok (.newarray .int, 2) by decide +kernel)
theorem ux_5_9 : pm_w d 5 9 ls st h Q ↔ pm_q st fun x s => pm_r s fun a s => (pm_tgs h a [5]) ∧ pm_w d 5 12 ls s (pm_wR h a 2 x) Q := pw_put3 (show decode (pm_b 5) 9 = .ok (.putfield 9, 3) by decide +kernel) fx_5_9 (Or.inr ⟨rfl, by decide⟩)
theorem ux_5_12 : pm_w d 5 12 ls st h Q ↔ pm_lq ls 0 fun x => pm_w d 5 13 ls (.inr (.inr x) :: st) h Q := pw_aload_n (show decode (pm_b 5) 12 = .ok (.aload_n 0, 1) by decide +kernel)
theorem ux_5_13 : pm_w d 5 13 ls st h Q ↔ pm_w d 5 15 ls (.inl 12 :: st) h Q := pw_bipush (show decode (pm_b 5) 13 = .ok (.bipush 12, 2) by decide +kernel) (by decide)
theorem ux_5_15 : pm_w d 5 15 ls st h Q ↔ pm_i st fun x s => (0 ≤ x ∧ x ≤ 4000) ∧ pm_w d 5 17 ls (.inr (.inr (some h.2.2.length)) :: s) (pm_nw h 20 x.toNat) Q := pw_newarray_int (show decode (pm_b 5) 15 = .ok (.newarray .int, 2) by decide +kernel)
theorem ux_5_17 : pm_w d 5 17 ls st h Q ↔ pm_q st fun x s => pm_r s fun a s => (pm_tgs h a [5]) ∧ pm_w d 5 20 ls s (pm_wR h a 3 x) Q := pw_put3 (show decode (pm_b 5) 17 = .ok (.putfield 15, 3) by decide +kernel) fx_5_15 (Or.inr ⟨rfl, by decide⟩)
theorem ux_5_20 : pm_w d 5 20 ls st h Q ↔ pm_lq ls 0 fun x => pm_w d 5 21 ls (.inr (.inr x) :: st) h Q := pw_aload_n (show decode (pm_b 5) 20 = .ok (.aload_n 0, 1) by decide +kernel)
theorem ux_5_21 : pm_w d 5 21 ls st h Q ↔ pm_w d 5 23 ls (.inl 12 :: st) h Q := pw_bipush (show decode (pm_b 5) 21 = .ok (.bipush 12, 2) by decide +kernel) (by decide)
theorem ux_5_23 : pm_w d 5 23 ls st h Q ↔ pm_i st fun x s => (0 ≤ x ∧ x ≤ 4000) ∧ pm_w d 5 25 ls (.inr (.inr (some h.2.2.length)) :: s) (pm_nw h 20 x.toNat) Q := pw_newarray_int (show decode (pm_b 5) 23 = .ok (.newarray .int, 2) by decide +kernel)
theorem ux_5_25 : pm_w d 5 25 ls st h Q ↔ pm_q st fun x s => pm_r s fun a s => (pm_tgs h a [5]) ∧ pm_w d 5 28 ls s (pm_wR h a 4 x) Q := pw_put3 (show decode (pm_b 5) 25 = .ok (.putfield 18, 3) by decide +kernel) fx_5_18 (Or.inr ⟨rfl, by decide⟩)
theorem ux_5_28 : pm_w d 5 28 ls st h Q ↔ pm_lq ls 0 fun x => pm_w d 5 29 ls (.inr (.inr x) :: st) h Q := pw_aload_n (show decode (pm_b 5) 28 = .ok (.aload_n 0, 1) by decide +kernel)
theorem ux_5_29 : pm_w d 5 29 ls st h Q ↔ pm_w d 5 31 ls (.inl 12 :: st) h Q := pw_bipush (show decode (pm_b 5) 29 = .ok (.bipush 12, 2) by decide +kernel) (by decide)
theorem ux_5_31 : pm_w d 5 31 ls st h Q ↔ pm_i st fun x s => (0 ≤ x ∧ x ≤ 4000) ∧ pm_w d 5 33 ls (.inr (.inr (some h.2.2.length)) :: s) (pm_nw h 20 x.toNat) Q := pw_newarray_int (show decode (pm_b 5) 31 = .ok (.newarray .int, 2) by decide +kernel)
theorem ux_5_33 : pm_w d 5 33 ls st h Q ↔ pm_q st fun x s => pm_r s fun a s => (pm_tgs h a [5]) ∧ pm_w d 5 36 ls s (pm_wR h a 5 x) Q := pw_put3 (show decode (pm_b 5) 33 = .ok (.putfield 21, 3) by decide +kernel) fx_5_21 (Or.inr ⟨rfl, by decide⟩)
theorem ux_5_36 : pm_w d 5 36 ls st h Q ↔ pm_lq ls 0 fun x => pm_w d 5 37 ls (.inr (.inr x) :: st) h Q := pw_aload_n (show decode (pm_b 5) 36 = .ok (.aload_n 0, 1) by decide +kernel)
theorem ux_5_37 : pm_w d 5 37 ls st h Q ↔ pm_w d 5 39 ls (.inl 12 :: st) h Q := pw_bipush (show decode (pm_b 5) 37 = .ok (.bipush 12, 2) by decide +kernel) (by decide)
theorem ux_5_39 : pm_w d 5 39 ls st h Q ↔ pm_i st fun x s => (0 ≤ x ∧ x ≤ 4000) ∧ pm_w d 5 41 ls (.inr (.inr (some h.2.2.length)) :: s) (pm_nw h 20 x.toNat) Q := pw_newarray_int (show decode (pm_b 5) 39 = .ok (.newarray .int, 2) by decide +kernel)
theorem ux_5_41 : pm_w d 5 41 ls st h Q ↔ pm_q st fun x s => pm_r s fun a s => (pm_tgs h a [5]) ∧ pm_w d 5 44 ls s (pm_wR h a 6 x) Q := pw_put3 (show decode (pm_b 5) 41 = .ok (.putfield 24, 3) by decide +kernel) fx_5_24 (Or.inr ⟨rfl, by decide⟩)
theorem ux_5_44 : pm_w d 5 44 ls st h Q ↔ st = [] ∧ Q none h := pw_return (show decode (pm_b 5) 44 = .ok (.return_, 1) by decide +kernel) rfl
-- 6: LSharing.<init>
theorem ux_6_0 : pm_w d 6 0 ls st h Q ↔ pm_lq ls 0 fun x => pm_w d 6 1 ls (.inr (.inr x) :: st) h Q := pw_aload_n (show decode (pm_b 6) 0 = .ok (.aload_n 0, 1) by decide +kernel)
theorem ux_6_1 : pm_w d 6 1 ls st h Q ↔ pm_r st fun _ s => pm_wt s ≤ 8 ∧ pm_w d 6 4 ls s h Q := pw_objInit (show decode (pm_b 6) 1 = .ok (.invokespecial 3, 3) by decide +kernel) mx_7_3
theorem ux_6_4 : pm_w d 6 4 ls st h Q ↔ pm_lq ls 0 fun x => pm_w d 6 5 ls (.inr (.inr x) :: st) h Q := pw_aload_n (show decode (pm_b 6) 4 = .ok (.aload_n 0, 1) by decide +kernel)
theorem ux_6_5 : pm_w d 6 5 ls st h Q ↔ pm_w d 6 7 ls (.inl 8 :: st) h Q := pw_bipush (show decode (pm_b 6) 5 = .ok (.bipush 8, 2) by decide +kernel) (by decide)
theorem ux_6_7 : pm_w d 6 7 ls st h Q ↔ pm_i st fun x s => (0 ≤ x ∧ x ≤ 4000) ∧ pm_w d 6 9 ls (.inr (.inr (some h.2.2.length)) :: s) (pm_nw h 20 x.toNat) Q := pw_newarray_int (show decode (pm_b 6) 7 = .ok (.newarray .int, 2) by decide +kernel)
theorem ux_6_9 : pm_w d 6 9 ls st h Q ↔ pm_q st fun x s => pm_r s fun a s => (pm_tgs h a [7]) ∧ pm_w d 6 12 ls s (pm_wR h a 4 x) Q := pw_put3 (show decode (pm_b 6) 9 = .ok (.putfield 9, 3) by decide +kernel) fx_7_9 (Or.inr ⟨rfl, by decide⟩)
theorem ux_6_12 : pm_w d 6 12 ls st h Q ↔ pm_lq ls 0 fun x => pm_w d 6 13 ls (.inr (.inr x) :: st) h Q := pw_aload_n (show decode (pm_b 6) 12 = .ok (.aload_n 0, 1) by decide +kernel)
theorem ux_6_13 : pm_w d 6 13 ls st h Q ↔ pm_w d 6 14 ls (.inl 4 :: st) h Q := pw_iconst (show decode (pm_b 6) 13 = .ok (.iconst 4, 1) by decide +kernel) (by unfold pm_I32; decide)
theorem ux_6_14 : pm_w d 6 14 ls st h Q ↔ pm_i st fun x s => (0 ≤ x ∧ x ≤ 4000) ∧ pm_w d 6 16 ls (.inr (.inr (some h.2.2.length)) :: s) (pm_nw h 20 x.toNat) Q := pw_newarray_int (show decode (pm_b 6) 14 = .ok (.newarray .int, 2) by decide +kernel)
theorem ux_6_16 : pm_w d 6 16 ls st h Q ↔ pm_q st fun x s => pm_r s fun a s => (pm_tgs h a [7]) ∧ pm_w d 6 19 ls s (pm_wR h a 5 x) Q := pw_put3 (show decode (pm_b 6) 16 = .ok (.putfield 15, 3) by decide +kernel) fx_7_15 (Or.inr ⟨rfl, by decide⟩)
theorem ux_6_19 : pm_w d 6 19 ls st h Q ↔ pm_lq ls 0 fun x => pm_w d 6 20 ls (.inr (.inr x) :: st) h Q := pw_aload_n (show decode (pm_b 6) 19 = .ok (.aload_n 0, 1) by decide +kernel)
theorem ux_6_20 : pm_w d 6 20 ls st h Q ↔ pm_w d 6 21 ls (.inl 4 :: st) h Q := pw_iconst (show decode (pm_b 6) 20 = .ok (.iconst 4, 1) by decide +kernel) (by unfold pm_I32; decide)
theorem ux_6_21 : pm_w d 6 21 ls st h Q ↔ pm_i st fun x s => (0 ≤ x ∧ x ≤ 4000) ∧ pm_w d 6 23 ls (.inr (.inr (some h.2.2.length)) :: s) (pm_nw h 20 x.toNat) Q := pw_newarray_int (show decode (pm_b 6) 21 = .ok (.newarray .int, 2) by decide +kernel)
theorem ux_6_23 : pm_w d 6 23 ls st h Q ↔ pm_q st fun x s => pm_r s fun a s => (pm_tgs h a [7]) ∧ pm_w d 6 26 ls s (pm_wR h a 6 x) Q := pw_put3 (show decode (pm_b 6) 23 = .ok (.putfield 18, 3) by decide +kernel) fx_7_18 (Or.inr ⟨rfl, by decide⟩)
theorem ux_6_26 : pm_w d 6 26 ls st h Q ↔ pm_lq ls 0 fun x => pm_w d 6 27 ls (.inr (.inr x) :: st) h Q := pw_aload_n (show decode (pm_b 6) 26 = .ok (.aload_n 0, 1) by decide +kernel)
theorem ux_6_27 : pm_w d 6 27 ls st h Q ↔ pm_w d 6 29 ls (.inl 8 :: st) h Q := pw_bipush (show decode (pm_b 6) 27 = .ok (.bipush 8, 2) by decide +kernel) (by decide)
theorem ux_6_29 : pm_w d 6 29 ls st h Q ↔ pm_i st fun x s => (0 ≤ x ∧ x ≤ 4000) ∧ pm_w d 6 31 ls (.inr (.inr (some h.2.2.length)) :: s) (pm_nw h 20 x.toNat) Q := pw_newarray_int (show decode (pm_b 6) 29 = .ok (.newarray .int, 2) by decide +kernel)
theorem ux_6_31 : pm_w d 6 31 ls st h Q ↔ pm_q st fun x s => pm_r s fun a s => (pm_tgs h a [7]) ∧ pm_w d 6 34 ls s (pm_wR h a 7 x) Q := pw_put3 (show decode (pm_b 6) 31 = .ok (.putfield 21, 3) by decide +kernel) fx_7_21 (Or.inr ⟨rfl, by decide⟩)
theorem ux_6_34 : pm_w d 6 34 ls st h Q ↔ pm_lq ls 0 fun x => pm_w d 6 35 ls (.inr (.inr x) :: st) h Q := pw_aload_n (show decode (pm_b 6) 34 = .ok (.aload_n 0, 1) by decide +kernel)
theorem ux_6_35 : pm_w d 6 35 ls st h Q ↔ pm_w d 6 37 ls (.inl 8 :: st) h Q := pw_bipush (show decode (pm_b 6) 35 = .ok (.bipush 8, 2) by decide +kernel) (by decide)
theorem ux_6_37 : pm_w d 6 37 ls st h Q ↔ pm_i st fun x s => (0 ≤ x ∧ x ≤ 4000) ∧ pm_w d 6 39 ls (.inr (.inr (some h.2.2.length)) :: s) (pm_nw h 20 x.toNat) Q := pw_newarray_int (show decode (pm_b 6) 37 = .ok (.newarray .int, 2) by decide +kernel)
theorem ux_6_39 : pm_w d 6 39 ls st h Q ↔ pm_q st fun x s => pm_r s fun a s => (pm_tgs h a [7]) ∧ pm_w d 6 42 ls s (pm_wR h a 8 x) Q := pw_put3 (show decode (pm_b 6) 39 = .ok (.putfield 24, 3) by decide +kernel) fx_7_24 (Or.inr ⟨rfl, by decide⟩)
theorem ux_6_42 : pm_w d 6 42 ls st h Q ↔ st = [] ∧ Q none h := pw_return (show decode (pm_b 6) 42 = .ok (.return_, 1) by decide +kernel) rfl
-- 7: L.looms
theorem ux_7_0 : pm_w d 7 0 ls st h Q ↔ pm_li ls 1 fun x => pm_w d 7 1 ls (.inl x :: st) h Q := pw_iload_n (show decode (pm_b 7) 0 = .ok (.iload_n 1, 1) by decide +kernel)
theorem ux_7_1 : pm_w d 7 1 ls st h Q ↔ pm_w d 7 2 ls (.inl 1 :: st) h Q := pw_iconst (show decode (pm_b 7) 1 = .ok (.iconst 1, 1) by decide +kernel) (by unfold pm_I32; decide)
theorem ux_7_2 : pm_w d 7 2 ls st h Q ↔ pm_i st fun y s => pm_i s fun x s => ((x < y) → pm_w d 7 11 ls s h Q) ∧ (¬ (x < y) → pm_w d 7 5 ls s h Q) := pw_ic_lt (show decode (pm_b 7) 2 = .ok (.if_icmp .lt 9, 3) by decide +kernel) (by decide)
theorem ux_7_5 : pm_w d 7 5 ls st h Q ↔ pm_li ls 1 fun x => pm_w d 7 6 ls (.inl x :: st) h Q := pw_iload_n (show decode (pm_b 7) 5 = .ok (.iload_n 1, 1) by decide +kernel)
theorem ux_7_6 : pm_w d 7 6 ls st h Q ↔ pm_w d 7 8 ls (.inl 6 :: st) h Q := pw_bipush (show decode (pm_b 7) 6 = .ok (.bipush 6, 2) by decide +kernel) (by decide)
theorem ux_7_8 : pm_w d 7 8 ls st h Q ↔ pm_i st fun y s => pm_i s fun x s => ((x ≤ y) → pm_w d 7 13 ls s h Q) ∧ (¬ (x ≤ y) → pm_w d 7 11 ls s h Q) := pw_ic_le (show decode (pm_b 7) 8 = .ok (.if_icmp .le 5, 3) by decide +kernel) (by decide)
theorem ux_7_11 : pm_w d 7 11 ls st h Q ↔ pm_w d 7 12 ls (.inl (-1) :: st) h Q := pw_iconst (show decode (pm_b 7) 11 = .ok (.iconst (-1), 1) by decide +kernel) (by unfold pm_I32; decide)
theorem ux_7_12 : pm_w d 7 12 ls st h Q ↔ pm_i st fun x s => s = [] ∧ Q (some (.inl x)) h := pw_ireturn (show decode (pm_b 7) 12 = .ok (.ireturn, 1) by decide +kernel) rfl
theorem ux_7_13 : pm_w d 7 13 ls st h Q ↔ pm_lq ls 0 fun x => pm_w d 7 14 ls (.inr (.inr x) :: st) h Q := pw_aload_n (show decode (pm_b 7) 13 = .ok (.aload_n 0, 1) by decide +kernel)
theorem ux_7_14 : pm_w d 7 14 ls st h Q ↔ pm_r st fun a s => pm_tgs h a [11] ∧ pm_w d 7 17 ls (.inr (.inr (h.2.1 a 0)) :: s) h Q := pw_get (show decode (pm_b 7) 14 = .ok (.getfield 12, 3) by decide +kernel) fx_11_12
theorem ux_7_17 : pm_w d 7 17 ls st h Q ↔ pm_r st fun a s => pm_tgs h a [8] ∧ pm_w d 7 20 ls (.inl (h.1 a 0) :: s) h Q := pw_get (show decode (pm_b 7) 17 = .ok (.getfield 57, 3) by decide +kernel) fx_11_57
theorem ux_7_20 : pm_w d 7 20 ls st h Q ↔ pm_i st fun x s => pm_w d 7 21 (pm_s1 ls 2 (.inl x)) s h Q := pw_istore_n (show decode (pm_b 7) 20 = .ok (.istore_n 2, 1) by decide +kernel) (by decide)
theorem ux_7_21 : pm_w d 7 21 ls st h Q ↔ pm_lq ls 0 fun x => pm_w d 7 22 ls (.inr (.inr x) :: st) h Q := pw_aload_n (show decode (pm_b 7) 21 = .ok (.aload_n 0, 1) by decide +kernel)
theorem ux_7_22 : pm_w d 7 22 ls st h Q ↔ pm_r (st.drop 0) fun a s => (0 ≤ st.length ∧ pm_wt s ≤ 8 ∧ pm_tg h a 11) ∧ pm_ok d 8 (.inr (.inr (some a)) :: (st.take 0).reverse) h fun r h1 => pm_w d 7 25 ls (pm_pu r s) h1 Q := pw_virt (show decode (pm_b 7) 22 = .ok (.invokevirtual 61, 3) by decide +kernel) mx_11_61
theorem ux_7_25 : pm_w d 7 25 ls st h Q ↔ pm_lq ls 0 fun x => pm_w d 7 26 ls (.inr (.inr x) :: st) h Q := pw_aload_n (show decode (pm_b 7) 25 = .ok (.aload_n 0, 1) by decide +kernel)
theorem ux_7_26 : pm_w d 7 26 ls st h Q ↔ pm_r st fun a s => pm_tgs h a [11] ∧ pm_w d 7 29 ls (.inr (.inr (h.2.1 a 0)) :: s) h Q := pw_get (show decode (pm_b 7) 26 = .ok (.getfield 12, 3) by decide +kernel) fx_11_12
theorem ux_7_29 : pm_w d 7 29 ls st h Q ↔ pm_li ls 1 fun x => pm_w d 7 30 ls (.inl x :: st) h Q := pw_iload_n (show decode (pm_b 7) 29 = .ok (.iload_n 1, 1) by decide +kernel)
theorem ux_7_30 : pm_w d 7 30 ls st h Q ↔ pm_i st fun x s => pm_r s fun a s => (pm_tgs h a [8]) ∧ pm_w d 7 33 ls s (pm_wI h a 0 x) Q := pw_put0 (show decode (pm_b 7) 30 = .ok (.putfield 57, 3) by decide +kernel) fx_11_57 (Or.inl rfl)
theorem ux_7_33 : pm_w d 7 33 ls st h Q ↔ pm_li ls 2 fun x => pm_w d 7 34 ls (.inl x :: st) h Q := pw_iload_n (show decode (pm_b 7) 33 = .ok (.iload_n 2, 1) by decide +kernel)
theorem ux_7_34 : pm_w d 7 34 ls st h Q ↔ pm_i st fun x s => s = [] ∧ Q (some (.inl x)) h := pw_ireturn (show decode (pm_b 7) 34 = .ok (.ireturn, 1) by decide +kernel) rfl
-- 8: L.startChange
theorem ux_8_0 : pm_w d 8 0 ls st h Q ↔ pm_lq ls 0 fun x => pm_w d 8 1 ls (.inr (.inr x) :: st) h Q := pw_aload_n (show decode (pm_b 8) 0 = .ok (.aload_n 0, 1) by decide +kernel)
theorem ux_8_1 : pm_w d 8 1 ls st h Q ↔ pm_r st fun a s => pm_tgs h a [11] ∧ pm_w d 8 4 ls (.inr (.inr (h.2.1 a 1)) :: s) h Q := pw_get (show decode (pm_b 8) 1 = .ok (.getfield 19, 3) by decide +kernel) fx_11_19
theorem ux_8_4 : pm_w d 8 4 ls st h Q ↔ pm_lq ls 0 fun x => pm_w d 8 5 ls (.inr (.inr x) :: st) h Q := pw_aload_n (show decode (pm_b 8) 4 = .ok (.aload_n 0, 1) by decide +kernel)
theorem ux_8_5 : pm_w d 8 5 ls st h Q ↔ pm_r st fun a s => pm_tgs h a [11] ∧ pm_w d 8 8 ls (.inr (.inr (h.2.1 a 0)) :: s) h Q := pw_get (show decode (pm_b 8) 5 = .ok (.getfield 12, 3) by decide +kernel) fx_11_12
theorem ux_8_8 : pm_w d 8 8 ls st h Q ↔ pm_r (st.drop 1) fun a s => (1 ≤ st.length ∧ pm_wt s ≤ 8 ∧ pm_tg h a 3) ∧ pm_ok d 9 (.inr (.inr (some a)) :: (st.take 1).reverse) h fun r h1 => pm_w d 8 11 ls (pm_pu r s) h1 Q := pw_virt (show decode (pm_b 8) 8 = .ok (.invokevirtual 248, 3) by decide +kernel) mx_11_248
theorem ux_8_11 : pm_w d 8 11 ls st h Q ↔ pm_lq ls 0 fun x => pm_w d 8 12 ls (.inr (.inr x) :: st) h Q := pw_aload_n (show decode (pm_b 8) 11 = .ok (.aload_n 0, 1) by decide +kernel)
theorem ux_8_12 : pm_w d 8 12 ls st h Q ↔ pm_r (st.drop 0) fun a s => (0 ≤ st.length ∧ pm_wt s ≤ 8 ∧ pm_tg h a 11) ∧ pm_ok d 11 (.inr (.inr (some a)) :: (st.take 0).reverse) h fun r h1 => pm_w d 8 15 ls (pm_pu r s) h1 Q := pw_virt (show decode (pm_b 8) 12 = .ok (.invokevirtual 155, 3) by decide +kernel) mx_11_155
theorem ux_8_15 : pm_w d 8 15 ls st h Q ↔ st = [] ∧ Q none h := pw_return (show decode (pm_b 8) 15 = .ok (.return_, 1) by decide +kernel) rfl
-- 9: LHistory.keep
theorem ux_9_0 : pm_w d 9 0 ls st h Q ↔ pm_lq ls 0 fun x => pm_w d 9 1 ls (.inr (.inr x) :: st) h Q := pw_aload_n (show decode (pm_b 9) 0 = .ok (.aload_n 0, 1) by decide +kernel)
theorem ux_9_1 : pm_w d 9 1 ls st h Q ↔ pm_r st fun a s => pm_tgs h a [3] ∧ pm_w d 9 4 ls (.inr (.inr (h.2.1 a 0)) :: s) h Q := pw_get (show decode (pm_b 9) 1 = .ok (.getfield 11, 3) by decide +kernel) fx_3_11
theorem ux_9_4 : pm_w d 9 4 ls st h Q ↔ pm_lq ls 0 fun x => pm_w d 9 5 ls (.inr (.inr x) :: st) h Q := pw_aload_n (show decode (pm_b 9) 4 = .ok (.aload_n 0, 1) by decide +kernel)
theorem ux_9_5 : pm_w d 9 5 ls st h Q ↔ pm_r st fun a s => pm_tgs h a [3] ∧ pm_w d 9 8 ls (.inl (h.1 a 1) :: s) h Q := pw_get (show decode (pm_b 9) 5 = .ok (.getfield 18, 3) by decide +kernel) fx_3_18
theorem ux_9_8 : pm_w d 9 8 ls st h Q ↔ pm_i st fun x s => pm_r s fun a s => (pm_inb h a 23 x ∨ pm_inb h a 24 x ∨ pm_inb h a 25 x) ∧ pm_w d 9 9 ls (.inr (.inr (h.2.1 a x.toNat)) :: s) h Q := pw_aaload (show decode (pm_b 9) 8 = .ok (.aaload, 1) by decide +kernel)
theorem ux_9_9 : pm_w d 9 9 ls st h Q ↔ pm_q st fun x s => pm_w d 9 10 (pm_s1 ls 2 (.inr (.inr x))) s h Q := pw_astore_n (show decode (pm_b 9) 9 = .ok (.astore_n 2, 1) by decide +kernel) (by decide)
theorem ux_9_10 : pm_w d 9 10 ls st h Q ↔ pm_lq ls 2 fun x => pm_w d 9 11 ls (.inr (.inr x) :: st) h Q := pw_aload_n (show decode (pm_b 9) 10 = .ok (.aload_n 2, 1) by decide +kernel)
theorem ux_9_11 : pm_w d 9 11 ls st h Q ↔ pm_q st fun x s => (x = none → pm_w d 9 19 ls s h Q) ∧ (¬ (x = none) → pm_w d 9 14 ls s h Q) := pw_ifnull (show decode (pm_b 9) 11 = .ok (.ifnull 8, 3) by decide +kernel) (by decide)
theorem ux_9_14 : pm_w d 9 14 ls st h Q ↔ pm_lq ls 2 fun x => pm_w d 9 15 ls (.inr (.inr x) :: st) h Q := pw_aload_n (show decode (pm_b 9) 14 = .ok (.aload_n 2, 1) by decide +kernel)
theorem ux_9_15 : pm_w d 9 15 ls st h Q ↔ pm_lq ls 1 fun x => pm_w d 9 16 ls (.inr (.inr x) :: st) h Q := pw_aload_n (show decode (pm_b 9) 15 = .ok (.aload_n 1, 1) by decide +kernel)
theorem ux_9_16 : pm_w d 9 16 ls st h Q ↔ pm_r (st.drop 1) fun a s => (1 ≤ st.length ∧ pm_wt s ≤ 8 ∧ pm_tg h a 8) ∧ pm_ok d 10 (.inr (.inr (some a)) :: (st.take 1).reverse) h fun r h1 => pm_w d 9 19 ls (pm_pu r s) h1 Q := pw_virt (show decode (pm_b 9) 16 = .ok (.invokevirtual 22, 3) by decide +kernel) mx_3_22
theorem ux_9_19 : pm_w d 9 19 ls st h Q ↔ pm_lq ls 0 fun x => pm_w d 9 20 ls (.inr (.inr x) :: st) h Q := pw_aload_n (show decode (pm_b 9) 19 = .ok (.aload_n 0, 1) by decide +kernel)
theorem ux_9_20 : pm_w d 9 20 ls st h Q ↔ pm_lq ls 0 fun x => pm_w d 9 21 ls (.inr (.inr x) :: st) h Q := pw_aload_n (show decode (pm_b 9) 20 = .ok (.aload_n 0, 1) by decide +kernel)
theorem ux_9_21 : pm_w d 9 21 ls st h Q ↔ pm_r st fun a s => pm_tgs h a [3] ∧ pm_w d 9 24 ls (.inl (h.1 a 1) :: s) h Q := pw_get (show decode (pm_b 9) 21 = .ok (.getfield 18, 3) by decide +kernel) fx_3_18
theorem ux_9_24 : pm_w d 9 24 ls st h Q ↔ pm_w d 9 25 ls (.inl 1 :: st) h Q := pw_iconst (show decode (pm_b 9) 24 = .ok (.iconst 1, 1) by decide +kernel) (by unfold pm_I32; decide)
theorem ux_9_25 : pm_w d 9 25 ls st h Q ↔ pm_i st fun y s => pm_i s fun x s => pm_I32 (x + y) ∧ pm_w d 9 26 ls (.inl (x + y) :: s) h Q := pw_iadd (show decode (pm_b 9) 25 = .ok (.iadd, 1) by decide +kernel)
theorem ux_9_26 : pm_w d 9 26 ls st h Q ↔ pm_w d 9 28 ls (.inl 20 :: st) h Q := pw_bipush (show decode (pm_b 9) 26 = .ok (.bipush 20, 2) by decide +kernel) (by decide)
theorem ux_9_28 : pm_w d 9 28 ls st h Q ↔ pm_i st fun y s => pm_i s fun x s => (0 ≤ x ∧ 0 < y) ∧ pm_w d 9 29 ls (.inl (x % y) :: s) h Q := pw_irem (show decode (pm_b 9) 28 = .ok (.irem, 1) by decide +kernel)
theorem ux_9_29 : pm_w d 9 29 ls st h Q ↔ pm_i st fun x s => pm_r s fun a s => (pm_tgs h a [3]) ∧ pm_w d 9 32 ls s (pm_wI h a 1 x) Q := pw_put0 (show decode (pm_b 9) 29 = .ok (.putfield 18, 3) by decide +kernel) fx_3_18 (Or.inl rfl)
theorem ux_9_32 : pm_w d 9 32 ls st h Q ↔ pm_lq ls 0 fun x => pm_w d 9 33 ls (.inr (.inr x) :: st) h Q := pw_aload_n (show decode (pm_b 9) 32 = .ok (.aload_n 0, 1) by decide +kernel)
theorem ux_9_33 : pm_w d 9 33 ls st h Q ↔ pm_lq ls 0 fun x => pm_w d 9 34 ls (.inr (.inr x) :: st) h Q := pw_aload_n (show decode (pm_b 9) 33 = .ok (.aload_n 0, 1) by decide +kernel)
theorem ux_9_34 : pm_w d 9 34 ls st h Q ↔ pm_r st fun a s => pm_tgs h a [3] ∧ pm_w d 9 37 ls (.inl (h.1 a 2) :: s) h Q := pw_get (show decode (pm_b 9) 34 = .ok (.getfield 26, 3) by decide +kernel) fx_3_26
theorem ux_9_37 : pm_w d 9 37 ls st h Q ↔ pm_w d 9 38 ls (.inl 1 :: st) h Q := pw_iconst (show decode (pm_b 9) 37 = .ok (.iconst 1, 1) by decide +kernel) (by unfold pm_I32; decide)
theorem ux_9_38 : pm_w d 9 38 ls st h Q ↔ pm_i st fun y s => pm_i s fun x s => pm_I32 (x + y) ∧ pm_w d 9 39 ls (.inl (x + y) :: s) h Q := pw_iadd (show decode (pm_b 9) 38 = .ok (.iadd, 1) by decide +kernel)
theorem ux_9_39 : pm_w d 9 39 ls st h Q ↔ pm_w d 9 41 ls (.inl 20 :: st) h Q := pw_bipush (show decode (pm_b 9) 39 = .ok (.bipush 20, 2) by decide +kernel) (by decide)
theorem ux_9_41 : pm_w d 9 41 ls st h Q ↔ pm_i st fun y s => pm_i s fun x s => pm_wt s ≤ 8 ∧ pm_w d 9 44 ls (.inl (min x y) :: s) h Q := pw_min (show decode (pm_b 9) 41 = .ok (.invokestatic 29, 3) by decide +kernel) mx_3_29
theorem ux_9_44 : pm_w d 9 44 ls st h Q ↔ pm_i st fun x s => pm_r s fun a s => (pm_tgs h a [3]) ∧ pm_w d 9 47 ls s (pm_wI h a 2 x) Q := pw_put0 (show decode (pm_b 9) 44 = .ok (.putfield 26, 3) by decide +kernel) fx_3_26 (Or.inl rfl)
theorem ux_9_47 : pm_w d 9 47 ls st h Q ↔ st = [] ∧ Q none h := pw_return (show decode (pm_b 9) 47 = .ok (.return_, 1) by decide +kernel) rfl
-- 10: LShed.copyFrom
theorem ux_10_0 : pm_w d 10 0 ls st h Q ↔ pm_lq ls 0 fun x => pm_w d 10 1 ls (.inr (.inr x) :: st) h Q := pw_aload_n (show decode (pm_b 10) 0 = .ok (.aload_n 0, 1) by decide +kernel)
theorem ux_10_1 : pm_w d 10 1 ls st h Q ↔ pm_lq ls 1 fun x => pm_w d 10 2 ls (.inr (.inr x) :: st) h Q := pw_aload_n (show decode (pm_b 10) 1 = .ok (.aload_n 1, 1) by decide +kernel)
theorem ux_10_2 : pm_w d 10 2 ls st h Q ↔ pm_r st fun a s => pm_tgs h a [8] ∧ pm_w d 10 5 ls (.inl (h.1 a 0) :: s) h Q := pw_get (show decode (pm_b 10) 2 = .ok (.getfield 9, 3) by decide +kernel) fx_8_9
theorem ux_10_5 : pm_w d 10 5 ls st h Q ↔ pm_i st fun x s => pm_r s fun a s => (pm_tgs h a [8]) ∧ pm_w d 10 8 ls s (pm_wI h a 0 x) Q := pw_put0 (show decode (pm_b 10) 5 = .ok (.putfield 9, 3) by decide +kernel) fx_8_9 (Or.inl rfl)
theorem ux_10_8 : pm_w d 10 8 ls st h Q ↔ pm_lq ls 0 fun x => pm_w d 10 9 ls (.inr (.inr x) :: st) h Q := pw_aload_n (show decode (pm_b 10) 8 = .ok (.aload_n 0, 1) by decide +kernel)
theorem ux_10_9 : pm_w d 10 9 ls st h Q ↔ pm_lq ls 1 fun x => pm_w d 10 10 ls (.inr (.inr x) :: st) h Q := pw_aload_n (show decode (pm_b 10) 9 = .ok (.aload_n 1, 1) by decide +kernel)
theorem ux_10_10 : pm_w d 10 10 ls st h Q ↔ pm_r st fun a s => pm_tgs h a [8] ∧ pm_w d 10 13 ls (.inl (h.1 a 1) :: s) h Q := pw_get (show decode (pm_b 10) 10 = .ok (.getfield 15, 3) by decide +kernel) fx_8_15
theorem ux_10_13 : pm_w d 10 13 ls st h Q ↔ pm_i st fun x s => pm_r s fun a s => (pm_tgs h a [8]) ∧ pm_w d 10 16 ls s (pm_wI h a 1 x) Q := pw_put0 (show decode (pm_b 10) 13 = .ok (.putfield 15, 3) by decide +kernel) fx_8_15 (Or.inl rfl)
theorem ux_10_16 : pm_w d 10 16 ls st h Q ↔ pm_lq ls 0 fun x => pm_w d 10 17 ls (.inr (.inr x) :: st) h Q := pw_aload_n (show decode (pm_b 10) 16 = .ok (.aload_n 0, 1) by decide +kernel)
theorem ux_10_17 : pm_w d 10 17 ls st h Q ↔ pm_lq ls 1 fun x => pm_w d 10 18 ls (.inr (.inr x) :: st) h Q := pw_aload_n (show decode (pm_b 10) 17 = .ok (.aload_n 1, 1) by decide +kernel)
theorem ux_10_18 : pm_w d 10 18 ls st h Q ↔ pm_r st fun a s => pm_tgs h a [8] ∧ pm_w d 10 21 ls (.inl (h.1 a 2) :: s) h Q := pw_get (show decode (pm_b 10) 18 = .ok (.getfield 28, 3) by decide +kernel) fx_8_28
theorem ux_10_21 : pm_w d 10 21 ls st h Q ↔ pm_i st fun x s => pm_r s fun a s => (pm_tgs h a [8]) ∧ pm_w d 10 24 ls s (pm_wI h a 2 x) Q := pw_put0 (show decode (pm_b 10) 21 = .ok (.putfield 28, 3) by decide +kernel) fx_8_28 (Or.inl rfl)
theorem ux_10_24 : pm_w d 10 24 ls st h Q ↔ pm_w d 10 25 ls (.inl 0 :: st) h Q := pw_iconst (show decode (pm_b 10) 24 = .ok (.iconst 0, 1) by decide +kernel) (by unfold pm_I32; decide)
theorem ux_10_25 : pm_w d 10 25 ls st h Q ↔ pm_i st fun x s => pm_w d 10 26 (pm_s1 ls 2 (.inl x)) s h Q := pw_istore_n (show decode (pm_b 10) 25 = .ok (.istore_n 2, 1) by decide +kernel) (by decide)
theorem ux_10_26 : pm_w d 10 26 ls st h Q ↔ pm_li ls 2 fun x => pm_w d 10 27 ls (.inl x :: st) h Q := pw_iload_n (show decode (pm_b 10) 26 = .ok (.iload_n 2, 1) by decide +kernel)
theorem ux_10_27 : pm_w d 10 27 ls st h Q ↔ pm_w d 10 29 ls (.inl 12 :: st) h Q := pw_bipush (show decode (pm_b 10) 27 = .ok (.bipush 12, 2) by decide +kernel) (by decide)
theorem ux_10_29 : pm_w d 10 29 ls st h Q ↔ pm_i st fun y s => pm_i s fun x s => ((y ≤ x) → pm_w d 10 50 ls s h Q) ∧ (¬ (y ≤ x) → pm_w d 10 32 ls s h Q) := pw_ic_ge (show decode (pm_b 10) 29 = .ok (.if_icmp .ge 21, 3) by decide +kernel) (by decide)
theorem ux_10_32 : pm_w d 10 32 ls st h Q ↔ pm_lq ls 0 fun x => pm_w d 10 33 ls (.inr (.inr x) :: st) h Q := pw_aload_n (show decode (pm_b 10) 32 = .ok (.aload_n 0, 1) by decide +kernel)
theorem ux_10_33 : pm_w d 10 33 ls st h Q ↔ pm_r st fun a s => pm_tgs h a [8] ∧ pm_w d 10 36 ls (.inr (.inr (h.2.1 a 3)) :: s) h Q := pw_get (show decode (pm_b 10) 33 = .ok (.getfield 20, 3) by decide +kernel) fx_8_20
theorem ux_10_36 : pm_w d 10 36 ls st h Q ↔ pm_li ls 2 fun x => pm_w d 10 37 ls (.inl x :: st) h Q := pw_iload_n (show decode (pm_b 10) 36 = .ok (.iload_n 2, 1) by decide +kernel)
theorem ux_10_37 : pm_w d 10 37 ls st h Q ↔ pm_lq ls 1 fun x => pm_w d 10 38 ls (.inr (.inr x) :: st) h Q := pw_aload_n (show decode (pm_b 10) 37 = .ok (.aload_n 1, 1) by decide +kernel)
theorem ux_10_38 : pm_w d 10 38 ls st h Q ↔ pm_r st fun a s => pm_tgs h a [8] ∧ pm_w d 10 41 ls (.inr (.inr (h.2.1 a 3)) :: s) h Q := pw_get (show decode (pm_b 10) 38 = .ok (.getfield 20, 3) by decide +kernel) fx_8_20
theorem ux_10_41 : pm_w d 10 41 ls st h Q ↔ pm_li ls 2 fun x => pm_w d 10 42 ls (.inl x :: st) h Q := pw_iload_n (show decode (pm_b 10) 41 = .ok (.iload_n 2, 1) by decide +kernel)
theorem ux_10_42 : pm_w d 10 42 ls st h Q ↔ pm_i st fun x s => pm_r s fun a s => (pm_inb h a 23 x ∨ pm_inb h a 24 x ∨ pm_inb h a 25 x) ∧ pm_w d 10 43 ls (.inr (.inr (h.2.1 a x.toNat)) :: s) h Q := pw_aaload (show decode (pm_b 10) 42 = .ok (.aaload, 1) by decide +kernel)
theorem ux_10_43 : pm_w d 10 43 ls st h Q ↔ pm_q st fun v s => pm_i s fun x s => pm_r s fun a s => ((pm_inb h a 24 x ∧ ∀ q, v = some q → pm_tgs h q [0, 2, 6, 9, 10]) ∨ (pm_inb h a 25 x ∧ ∀ q, v = some q → pm_tgs h q [8])) ∧ pm_w d 10 44 ls s (pm_wR h a x.toNat v) Q := pw_aastore (show decode (pm_b 10) 43 = .ok (.aastore, 1) by decide +kernel)
theorem ux_10_44 : pm_w d 10 44 ls st h Q ↔ pm_li ls 2 fun x => pm_I32 (x + 1) ∧ pm_w d 10 47 (pm_s1 ls 2 (.inl (x + 1))) st h Q := pw_iinc (show decode (pm_b 10) 44 = .ok (.iinc 2 1, 3) by decide +kernel) (by decide)
theorem ux_10_47 : pm_w d 10 47 ls st h Q ↔ pm_w d 10 26 ls st h Q := pw_goto (show decode (pm_b 10) 47 = .ok (.goto (-21), 3) by decide +kernel) (by decide)
theorem ux_10_50 : pm_w d 10 50 ls st h Q ↔ st = [] ∧ Q none h := pw_return (show decode (pm_b 10) 50 = .ok (.return_, 1) by decide +kernel) rfl
-- 11: L.forgetAnswers
theorem ux_11_0 : pm_w d 11 0 ls st h Q ↔ pm_lq ls 0 fun x => pm_w d 11 1 ls (.inr (.inr x) :: st) h Q := pw_aload_n (show decode (pm_b 11) 0 = .ok (.aload_n 0, 1) by decide +kernel)
theorem ux_11_1 : pm_w d 11 1 ls st h Q ↔ pm_w d 11 2 ls (.inl 0 :: st) h Q := pw_iconst (show decode (pm_b 11) 1 = .ok (.iconst 0, 1) by decide +kernel) (by unfold pm_I32; decide)
theorem ux_11_2 : pm_w d 11 2 ls st h Q ↔ pm_i st fun x s => pm_r s fun a s => ((x = 0 ∨ x = 1) ∧ pm_tgs h a [11]) ∧ pm_w d 11 5 ls s (pm_wI h a 4 x) Q := pw_put1 (show decode (pm_b 11) 2 = .ok (.putfield 251, 3) by decide +kernel) fx_11_251 (Or.inl rfl)
theorem ux_11_5 : pm_w d 11 5 ls st h Q ↔ pm_lq ls 0 fun x => pm_w d 11 6 ls (.inr (.inr x) :: st) h Q := pw_aload_n (show decode (pm_b 11) 5 = .ok (.aload_n 0, 1) by decide +kernel)
theorem ux_11_6 : pm_w d 11 6 ls st h Q ↔ pm_w d 11 7 ls (.inl 0 :: st) h Q := pw_iconst (show decode (pm_b 11) 6 = .ok (.iconst 0, 1) by decide +kernel) (by unfold pm_I32; decide)
theorem ux_11_7 : pm_w d 11 7 ls st h Q ↔ pm_i st fun x s => pm_r s fun a s => ((x = 0 ∨ x = 1) ∧ pm_tgs h a [11]) ∧ pm_w d 11 10 ls s (pm_wI h a 5 x) Q := pw_put1 (show decode (pm_b 11) 7 = .ok (.putfield 255, 3) by decide +kernel) fx_11_255 (Or.inl rfl)
theorem ux_11_10 : pm_w d 11 10 ls st h Q ↔ pm_lq ls 0 fun x => pm_w d 11 11 ls (.inr (.inr x) :: st) h Q := pw_aload_n (show decode (pm_b 11) 10 = .ok (.aload_n 0, 1) by decide +kernel)
theorem ux_11_11 : pm_w d 11 11 ls st h Q ↔ pm_w d 11 12 ls (.inl 0 :: st) h Q := pw_iconst (show decode (pm_b 11) 11 = .ok (.iconst 0, 1) by decide +kernel) (by unfold pm_I32; decide)
theorem ux_11_12 : pm_w d 11 12 ls st h Q ↔ pm_i st fun x s => pm_r s fun a s => ((x = 0 ∨ x = 1) ∧ pm_tgs h a [11]) ∧ pm_w d 11 15 ls s (pm_wI h a 6 x) Q := pw_put1 (show decode (pm_b 11) 12 = .ok (.putfield 258, 3) by decide +kernel) fx_11_258 (Or.inl rfl)
theorem ux_11_15 : pm_w d 11 15 ls st h Q ↔ pm_lq ls 0 fun x => pm_w d 11 16 ls (.inr (.inr x) :: st) h Q := pw_aload_n (show decode (pm_b 11) 15 = .ok (.aload_n 0, 1) by decide +kernel)
theorem ux_11_16 : pm_w d 11 16 ls st h Q ↔ pm_w d 11 17 ls (.inl 0 :: st) h Q := pw_iconst (show decode (pm_b 11) 16 = .ok (.iconst 0, 1) by decide +kernel) (by unfold pm_I32; decide)
theorem ux_11_17 : pm_w d 11 17 ls st h Q ↔ pm_i st fun x s => pm_r s fun a s => (pm_tgs h a [11]) ∧ pm_w d 11 20 ls s (pm_wI h a 10 x) Q := pw_put0 (show decode (pm_b 11) 17 = .ok (.putfield 220, 3) by decide +kernel) fx_11_220 (Or.inl rfl)
theorem ux_11_20 : pm_w d 11 20 ls st h Q ↔ pm_lq ls 0 fun x => pm_w d 11 21 ls (.inr (.inr x) :: st) h Q := pw_aload_n (show decode (pm_b 11) 20 = .ok (.aload_n 0, 1) by decide +kernel)
theorem ux_11_21 : pm_w d 11 21 ls st h Q ↔ pm_r st fun a s => pm_tgs h a [11] ∧ pm_w d 11 24 ls (.inr (.inr (h.2.1 a 11)) :: s) h Q := pw_get (show decode (pm_b 11) 21 = .ok (.getfield 46, 3) by decide +kernel) fx_11_46
theorem ux_11_24 : pm_w d 11 24 ls st h Q ↔ pm_w d 11 25 ls (.inl 0 :: st) h Q := pw_iconst (show decode (pm_b 11) 24 = .ok (.iconst 0, 1) by decide +kernel) (by unfold pm_I32; decide)
theorem ux_11_25 : pm_w d 11 25 ls st h Q ↔ pm_i st fun x s => pm_r s fun a s => ((x = 0 ∨ x = 1) ∧ pm_tgs h a [5]) ∧ pm_w d 11 28 ls s (pm_wI h a 0 x) Q := pw_put1 (show decode (pm_b 11) 25 = .ok (.putfield 261, 3) by decide +kernel) fx_11_261 (Or.inl rfl)
theorem ux_11_28 : pm_w d 11 28 ls st h Q ↔ pm_lq ls 0 fun x => pm_w d 11 29 ls (.inr (.inr x) :: st) h Q := pw_aload_n (show decode (pm_b 11) 28 = .ok (.aload_n 0, 1) by decide +kernel)
theorem ux_11_29 : pm_w d 11 29 ls st h Q ↔ pm_r st fun a s => pm_tgs h a [11] ∧ pm_w d 11 32 ls (.inr (.inr (h.2.1 a 12)) :: s) h Q := pw_get (show decode (pm_b 11) 29 = .ok (.getfield 53, 3) by decide +kernel) fx_11_53
theorem ux_11_32 : pm_w d 11 32 ls st h Q ↔ pm_w d 11 33 ls (.inl 0 :: st) h Q := pw_iconst (show decode (pm_b 11) 32 = .ok (.iconst 0, 1) by decide +kernel) (by unfold pm_I32; decide)
theorem ux_11_33 : pm_w d 11 33 ls st h Q ↔ pm_i st fun x s => pm_r s fun a s => (pm_tgs h a [7]) ∧ pm_w d 11 36 ls s (pm_wI h a 0 x) Q := pw_put0 (show decode (pm_b 11) 33 = .ok (.putfield 264, 3) by decide +kernel) fx_11_264 (Or.inl rfl)
theorem ux_11_36 : pm_w d 11 36 ls st h Q ↔ st = [] ∧ Q none h := pw_return (show decode (pm_b 11) 36 = .ok (.return_, 1) by decide +kernel) rfl
-- 12: L.end
theorem ux_12_0 : pm_w d 12 0 ls st h Q ↔ pm_li ls 1 fun x => pm_w d 12 1 ls (.inl x :: st) h Q := pw_iload_n (show decode (pm_b 12) 0 = .ok (.iload_n 1, 1) by decide +kernel)
theorem ux_12_1 : pm_w d 12 1 ls st h Q ↔ pm_w d 12 2 ls (.inl 1 :: st) h Q := pw_iconst (show decode (pm_b 12) 1 = .ok (.iconst 1, 1) by decide +kernel) (by unfold pm_I32; decide)
theorem ux_12_2 : pm_w d 12 2 ls st h Q ↔ pm_i st fun y s => pm_i s fun x s => ((x < y) → pm_w d 12 11 ls s h Q) ∧ (¬ (x < y) → pm_w d 12 5 ls s h Q) := pw_ic_lt (show decode (pm_b 12) 2 = .ok (.if_icmp .lt 9, 3) by decide +kernel) (by decide)
theorem ux_12_5 : pm_w d 12 5 ls st h Q ↔ pm_li ls 1 fun x => pm_w d 12 6 ls (.inl x :: st) h Q := pw_iload_n (show decode (pm_b 12) 5 = .ok (.iload_n 1, 1) by decide +kernel)
theorem ux_12_6 : pm_w d 12 6 ls st h Q ↔ pm_w d 12 8 ls (.inl 60 :: st) h Q := pw_bipush (show decode (pm_b 12) 6 = .ok (.bipush 60, 2) by decide +kernel) (by decide)
theorem ux_12_8 : pm_w d 12 8 ls st h Q ↔ pm_i st fun y s => pm_i s fun x s => ((x ≤ y) → pm_w d 12 13 ls s h Q) ∧ (¬ (x ≤ y) → pm_w d 12 11 ls s h Q) := pw_ic_le (show decode (pm_b 12) 8 = .ok (.if_icmp .le 5, 3) by decide +kernel) (by decide)
theorem ux_12_11 : pm_w d 12 11 ls st h Q ↔ pm_w d 12 12 ls (.inl (-1) :: st) h Q := pw_iconst (show decode (pm_b 12) 11 = .ok (.iconst (-1), 1) by decide +kernel) (by unfold pm_I32; decide)
theorem ux_12_12 : pm_w d 12 12 ls st h Q ↔ pm_i st fun x s => s = [] ∧ Q (some (.inl x)) h := pw_ireturn (show decode (pm_b 12) 12 = .ok (.ireturn, 1) by decide +kernel) rfl
theorem ux_12_13 : pm_w d 12 13 ls st h Q ↔ pm_lq ls 0 fun x => pm_w d 12 14 ls (.inr (.inr x) :: st) h Q := pw_aload_n (show decode (pm_b 12) 13 = .ok (.aload_n 0, 1) by decide +kernel)
theorem ux_12_14 : pm_w d 12 14 ls st h Q ↔ pm_r st fun a s => pm_tgs h a [11] ∧ pm_w d 12 17 ls (.inr (.inr (h.2.1 a 0)) :: s) h Q := pw_get (show decode (pm_b 12) 14 = .ok (.getfield 12, 3) by decide +kernel) fx_11_12
theorem ux_12_17 : pm_w d 12 17 ls st h Q ↔ pm_r st fun a s => pm_tgs h a [8] ∧ pm_w d 12 20 ls (.inl (h.1 a 1) :: s) h Q := pw_get (show decode (pm_b 12) 17 = .ok (.getfield 64, 3) by decide +kernel) fx_11_64
theorem ux_12_20 : pm_w d 12 20 ls st h Q ↔ pm_i st fun x s => pm_w d 12 21 (pm_s1 ls 2 (.inl x)) s h Q := pw_istore_n (show decode (pm_b 12) 20 = .ok (.istore_n 2, 1) by decide +kernel) (by decide)
theorem ux_12_21 : pm_w d 12 21 ls st h Q ↔ pm_lq ls 0 fun x => pm_w d 12 22 ls (.inr (.inr x) :: st) h Q := pw_aload_n (show decode (pm_b 12) 21 = .ok (.aload_n 0, 1) by decide +kernel)
theorem ux_12_22 : pm_w d 12 22 ls st h Q ↔ pm_r (st.drop 0) fun a s => (0 ≤ st.length ∧ pm_wt s ≤ 8 ∧ pm_tg h a 11) ∧ pm_ok d 8 (.inr (.inr (some a)) :: (st.take 0).reverse) h fun r h1 => pm_w d 12 25 ls (pm_pu r s) h1 Q := pw_virt (show decode (pm_b 12) 22 = .ok (.invokevirtual 61, 3) by decide +kernel) mx_11_61
theorem ux_12_25 : pm_w d 12 25 ls st h Q ↔ pm_lq ls 0 fun x => pm_w d 12 26 ls (.inr (.inr x) :: st) h Q := pw_aload_n (show decode (pm_b 12) 25 = .ok (.aload_n 0, 1) by decide +kernel)
theorem ux_12_26 : pm_w d 12 26 ls st h Q ↔ pm_r st fun a s => pm_tgs h a [11] ∧ pm_w d 12 29 ls (.inr (.inr (h.2.1 a 0)) :: s) h Q := pw_get (show decode (pm_b 12) 26 = .ok (.getfield 12, 3) by decide +kernel) fx_11_12
theorem ux_12_29 : pm_w d 12 29 ls st h Q ↔ pm_li ls 1 fun x => pm_w d 12 30 ls (.inl x :: st) h Q := pw_iload_n (show decode (pm_b 12) 29 = .ok (.iload_n 1, 1) by decide +kernel)
theorem ux_12_30 : pm_w d 12 30 ls st h Q ↔ pm_i st fun x s => pm_r s fun a s => (pm_tgs h a [8]) ∧ pm_w d 12 33 ls s (pm_wI h a 1 x) Q := pw_put0 (show decode (pm_b 12) 30 = .ok (.putfield 64, 3) by decide +kernel) fx_11_64 (Or.inl rfl)
theorem ux_12_33 : pm_w d 12 33 ls st h Q ↔ pm_li ls 2 fun x => pm_w d 12 34 ls (.inl x :: st) h Q := pw_iload_n (show decode (pm_b 12) 33 = .ok (.iload_n 2, 1) by decide +kernel)
theorem ux_12_34 : pm_w d 12 34 ls st h Q ↔ pm_i st fun x s => s = [] ∧ Q (some (.inl x)) h := pw_ireturn (show decode (pm_b 12) 34 = .ok (.ireturn, 1) by decide +kernel) rfl
-- 13: L.piece
theorem ux_13_0 : pm_w d 13 0 ls st h Q ↔ pm_li ls 1 fun x => pm_w d 13 1 ls (.inl x :: st) h Q := pw_iload_n (show decode (pm_b 13) 0 = .ok (.iload_n 1, 1) by decide +kernel)
theorem ux_13_1 : pm_w d 13 1 ls st h Q ↔ pm_li ls 2 fun x => pm_w d 13 2 ls (.inl x :: st) h Q := pw_iload_n (show decode (pm_b 13) 1 = .ok (.iload_n 2, 1) by decide +kernel)
theorem ux_13_2 : pm_w d 13 2 ls st h Q ↔ pm_li ls 3 fun x => pm_w d 13 3 ls (.inl x :: st) h Q := pw_iload_n (show decode (pm_b 13) 2 = .ok (.iload_n 3, 1) by decide +kernel)
theorem ux_13_3 : pm_w d 13 3 ls st h Q ↔ pm_li ls 4 fun x => pm_w d 13 5 ls (.inl x :: st) h Q := pw_iload (show decode (pm_b 13) 3 = .ok (.iload 4, 2) by decide +kernel)
theorem ux_13_5 : pm_w d 13 5 ls st h Q ↔ (4 ≤ st.length ∧ pm_wt (st.drop 4) ≤ 8) ∧ pm_ok d 14 (st.take 4).reverse h fun r h1 => pm_w d 13 8 ls (pm_pu r (st.drop 4)) h1 Q := pw_static (show decode (pm_b 13) 5 = .ok (.invokestatic 67, 3) by decide +kernel) mx_11_67
theorem ux_13_8 : pm_w d 13 8 ls st h Q ↔ pm_i st fun x s => ((x ≠ 0) → pm_w d 13 13 ls s h Q) ∧ (¬ (x ≠ 0) → pm_w d 13 11 ls s h Q) := pw_if_ne (show decode (pm_b 13) 8 = .ok (.ifCond .ne 5, 3) by decide +kernel) (by decide)
theorem ux_13_11 : pm_w d 13 11 ls st h Q ↔ pm_w d 13 12 ls (.inl (-1) :: st) h Q := pw_iconst (show decode (pm_b 13) 11 = .ok (.iconst (-1), 1) by decide +kernel) (by unfold pm_I32; decide)
theorem ux_13_12 : pm_w d 13 12 ls st h Q ↔ pm_i st fun x s => s = [] ∧ Q (some (.inl x)) h := pw_ireturn (show decode (pm_b 13) 12 = .ok (.ireturn, 1) by decide +kernel) rfl
theorem ux_13_13 : pm_w d 13 13 ls st h Q ↔ pm_lq ls 0 fun x => pm_w d 13 14 ls (.inr (.inr x) :: st) h Q := pw_aload_n (show decode (pm_b 13) 13 = .ok (.aload_n 0, 1) by decide +kernel)
theorem ux_13_14 : pm_w d 13 14 ls st h Q ↔ pm_r st fun a s => pm_tgs h a [11] ∧ pm_w d 13 17 ls (.inr (.inr (h.2.1 a 0)) :: s) h Q := pw_get (show decode (pm_b 13) 14 = .ok (.getfield 12, 3) by decide +kernel) fx_11_12
theorem ux_13_17 : pm_w d 13 17 ls st h Q ↔ pm_r st fun a s => pm_tgs h a [8] ∧ pm_w d 13 20 ls (.inl (h.1 a 2) :: s) h Q := pw_get (show decode (pm_b 13) 17 = .ok (.getfield 71, 3) by decide +kernel) fx_11_71
theorem ux_13_20 : pm_w d 13 20 ls st h Q ↔ pm_w d 13 22 ls (.inl 12 :: st) h Q := pw_bipush (show decode (pm_b 13) 20 = .ok (.bipush 12, 2) by decide +kernel) (by decide)
theorem ux_13_22 : pm_w d 13 22 ls st h Q ↔ pm_i st fun y s => pm_i s fun x s => ((x < y) → pm_w d 13 28 ls s h Q) ∧ (¬ (x < y) → pm_w d 13 25 ls s h Q) := pw_ic_lt (show decode (pm_b 13) 22 = .ok (.if_icmp .lt 6, 3) by decide +kernel) (by decide)
theorem ux_13_25 : pm_w d 13 25 ls st h Q ↔ pm_w d 13 27 ls (.inl (-2) :: st) h Q := pw_bipush (show decode (pm_b 13) 25 = .ok (.bipush (-2), 2) by decide +kernel) (by decide)
theorem ux_13_27 : pm_w d 13 27 ls st h Q ↔ pm_i st fun x s => s = [] ∧ Q (some (.inl x)) h := pw_ireturn (show decode (pm_b 13) 27 = .ok (.ireturn, 1) by decide +kernel) rfl
theorem ux_13_28 : pm_w d 13 28 ls st h Q ↔ pm_lq ls 0 fun x => pm_w d 13 29 ls (.inr (.inr x) :: st) h Q := pw_aload_n (show decode (pm_b 13) 28 = .ok (.aload_n 0, 1) by decide +kernel)
theorem ux_13_29 : pm_w d 13 29 ls st h Q ↔ pm_r (st.drop 0) fun a s => (0 ≤ st.length ∧ pm_wt s ≤ 8 ∧ pm_tg h a 11) ∧ pm_ok d 8 (.inr (.inr (some a)) :: (st.take 0).reverse) h fun r h1 => pm_w d 13 32 ls (pm_pu r s) h1 Q := pw_virt (show decode (pm_b 13) 29 = .ok (.invokevirtual 61, 3) by decide +kernel) mx_11_61
theorem ux_13_32 : pm_w d 13 32 ls st h Q ↔ pm_lq ls 0 fun x => pm_w d 13 33 ls (.inr (.inr x) :: st) h Q := pw_aload_n (show decode (pm_b 13) 32 = .ok (.aload_n 0, 1) by decide +kernel)
theorem ux_13_33 : pm_w d 13 33 ls st h Q ↔ pm_r st fun a s => pm_tgs h a [11] ∧ pm_w d 13 36 ls (.inr (.inr (h.2.1 a 0)) :: s) h Q := pw_get (show decode (pm_b 13) 33 = .ok (.getfield 12, 3) by decide +kernel) fx_11_12
theorem ux_13_36 : pm_w d 13 36 ls st h Q ↔ pm_li ls 1 fun x => pm_w d 13 37 ls (.inl x :: st) h Q := pw_iload_n (show decode (pm_b 13) 36 = .ok (.iload_n 1, 1) by decide +kernel)
theorem ux_13_37 : pm_w d 13 37 ls st h Q ↔ pm_li ls 2 fun x => pm_w d 13 38 ls (.inl x :: st) h Q := pw_iload_n (show decode (pm_b 13) 37 = .ok (.iload_n 2, 1) by decide +kernel)
theorem ux_13_38 : pm_w d 13 38 ls st h Q ↔ pm_li ls 3 fun x => pm_w d 13 39 ls (.inl x :: st) h Q := pw_iload_n (show decode (pm_b 13) 38 = .ok (.iload_n 3, 1) by decide +kernel)
theorem ux_13_39 : pm_w d 13 39 ls st h Q ↔ pm_li ls 4 fun x => pm_w d 13 41 ls (.inl x :: st) h Q := pw_iload (show decode (pm_b 13) 39 = .ok (.iload 4, 2) by decide +kernel)
theorem ux_13_41 : pm_w d 13 41 ls st h Q ↔ (4 ≤ st.length ∧ pm_wt (st.drop 4) ≤ 8) ∧ pm_ok d 16 (st.take 4).reverse h fun r h1 => pm_w d 13 44 ls (pm_pu r (st.drop 4)) h1 Q := pw_static (show decode (pm_b 13) 41 = .ok (.invokestatic 74, 3) by decide +kernel) mx_11_74
theorem ux_13_44 : pm_w d 13 44 ls st h Q ↔ pm_r (st.drop 1) fun a s => (1 ≤ st.length ∧ pm_wt s ≤ 8 ∧ pm_tg h a 8) ∧ pm_ok d 22 (.inr (.inr (some a)) :: (st.take 1).reverse) h fun r h1 => pm_w d 13 47 ls (pm_pu r s) h1 Q := pw_virt (show decode (pm_b 13) 44 = .ok (.invokevirtual 78, 3) by decide +kernel) mx_11_78
theorem ux_13_47 : pm_w d 13 47 ls st h Q ↔ pm_i st fun x s => s = [] ∧ Q (some (.inl x)) h := pw_ireturn (show decode (pm_b 13) 47 = .ok (.ireturn, 1) by decide +kernel) rfl
-- 14: L.isPieceAsTold
theorem ux_14_0 : pm_w d 14 0 ls st h Q ↔ pm_li ls 0 fun x => pm_w d 14 1 ls (.inl x :: st) h Q := pw_iload_n (show decode (pm_b 14) 0 = .ok (.iload_n 0, 1) by decide +kernel)
theorem ux_14_1 : pm_w d 14 1 ls st h Q ↔ pm_i st fun x s => ((x < 0) → pm_w d 14 9 ls s h Q) ∧ (¬ (x < 0) → pm_w d 14 4 ls s h Q) := pw_if_lt (show decode (pm_b 14) 1 = .ok (.ifCond .lt 8, 3) by decide +kernel) (by decide)
theorem ux_14_4 : pm_w d 14 4 ls st h Q ↔ pm_li ls 0 fun x => pm_w d 14 5 ls (.inl x :: st) h Q := pw_iload_n (show decode (pm_b 14) 4 = .ok (.iload_n 0, 1) by decide +kernel)
theorem ux_14_5 : pm_w d 14 5 ls st h Q ↔ pm_w d 14 6 ls (.inl 4 :: st) h Q := pw_iconst (show decode (pm_b 14) 5 = .ok (.iconst 4, 1) by decide +kernel) (by unfold pm_I32; decide)
theorem ux_14_6 : pm_w d 14 6 ls st h Q ↔ pm_i st fun y s => pm_i s fun x s => ((x ≤ y) → pm_w d 14 11 ls s h Q) ∧ (¬ (x ≤ y) → pm_w d 14 9 ls s h Q) := pw_ic_le (show decode (pm_b 14) 6 = .ok (.if_icmp .le 5, 3) by decide +kernel) (by decide)
theorem ux_14_9 : pm_w d 14 9 ls st h Q ↔ pm_w d 14 10 ls (.inl 0 :: st) h Q := pw_iconst (show decode (pm_b 14) 9 = .ok (.iconst 0, 1) by decide +kernel) (by unfold pm_I32; decide)
theorem ux_14_10 : pm_w d 14 10 ls st h Q ↔ pm_i st fun x s => (s = [] ∧ (x = 0 ∨ x = 1)) ∧ Q (some (.inl x)) h := pw_zreturn (show decode (pm_b 14) 10 = .ok (.ireturn, 1) by decide +kernel) rfl
theorem ux_14_11 : pm_w d 14 11 ls st h Q ↔ pm_li ls 1 fun x => pm_w d 14 12 ls (.inl x :: st) h Q := pw_iload_n (show decode (pm_b 14) 11 = .ok (.iload_n 1, 1) by decide +kernel)
theorem ux_14_12 : pm_w d 14 12 ls st h Q ↔ pm_w d 14 13 ls (.inl 1 :: st) h Q := pw_iconst (show decode (pm_b 14) 12 = .ok (.iconst 1, 1) by decide +kernel) (by unfold pm_I32; decide)
theorem ux_14_13 : pm_w d 14 13 ls st h Q ↔ pm_i st fun y s => pm_i s fun x s => ((x < y) → pm_w d 14 26 ls s h Q) ∧ (¬ (x < y) → pm_w d 14 16 ls s h Q) := pw_ic_lt (show decode (pm_b 14) 13 = .ok (.if_icmp .lt 13, 3) by decide +kernel) (by decide)
theorem ux_14_16 : pm_w d 14 16 ls st h Q ↔ pm_li ls 1 fun x => pm_w d 14 17 ls (.inl x :: st) h Q := pw_iload_n (show decode (pm_b 14) 16 = .ok (.iload_n 1, 1) by decide +kernel)
theorem ux_14_17 : pm_w d 14 17 ls st h Q ↔ pm_w d 14 19 ls (.inl 60 :: st) h Q := pw_bipush (show decode (pm_b 14) 17 = .ok (.bipush 60, 2) by decide +kernel) (by decide)
theorem ux_14_19 : pm_w d 14 19 ls st h Q ↔ pm_i st fun y s => pm_i s fun x s => ((y < x) → pm_w d 14 26 ls s h Q) ∧ (¬ (y < x) → pm_w d 14 22 ls s h Q) := pw_ic_gt (show decode (pm_b 14) 19 = .ok (.if_icmp .gt 7, 3) by decide +kernel) (by decide)
theorem ux_14_22 : pm_w d 14 22 ls st h Q ↔ pm_w d 14 23 ls (.inl 1 :: st) h Q := pw_iconst (show decode (pm_b 14) 22 = .ok (.iconst 1, 1) by decide +kernel) (by unfold pm_I32; decide)
theorem ux_14_23 : pm_w d 14 23 ls st h Q ↔ pm_w d 14 27 ls st h Q := pw_goto (show decode (pm_b 14) 23 = .ok (.goto 4, 3) by decide +kernel) (by decide)
theorem ux_14_26 : pm_w d 14 26 ls st h Q ↔ pm_w d 14 27 ls (.inl 0 :: st) h Q := pw_iconst (show decode (pm_b 14) 26 = .ok (.iconst 0, 1) by decide +kernel) (by unfold pm_I32; decide)
theorem ux_14_27 : pm_w d 14 27 ls st h Q ↔ pm_i st fun x s => pm_w d 14 29 (pm_s1 ls 4 (.inl x)) s h Q := pw_istore (show decode (pm_b 14) 27 = .ok (.istore 4, 2) by decide +kernel) (by decide)
theorem ux_14_29 : pm_w d 14 29 ls st h Q ↔ pm_li ls 0 fun x => pm_w d 14 30 ls (.inl x :: st) h Q := pw_iload_n (show decode (pm_b 14) 29 = .ok (.iload_n 0, 1) by decide +kernel)
theorem ux_14_30 : pm_w d 14 30 ls st h Q ↔ pm_w d 14 31 ls (.inl 1 :: st) h Q := pw_iconst (show decode (pm_b 14) 30 = .ok (.iconst 1, 1) by decide +kernel) (by unfold pm_I32; decide)
theorem ux_14_31 : pm_w d 14 31 ls st h Q ↔ pm_i st fun y s => pm_i s fun x s => ((x = y) → pm_w d 14 39 ls s h Q) ∧ (¬ (x = y) → pm_w d 14 34 ls s h Q) := pw_ic_eq (show decode (pm_b 14) 31 = .ok (.if_icmp .eq 8, 3) by decide +kernel) (by decide)
theorem ux_14_34 : pm_w d 14 34 ls st h Q ↔ pm_li ls 4 fun x => pm_w d 14 36 ls (.inl x :: st) h Q := pw_iload (show decode (pm_b 14) 34 = .ok (.iload 4, 2) by decide +kernel)
theorem ux_14_36 : pm_w d 14 36 ls st h Q ↔ pm_i st fun x s => ((x = 0) → pm_w d 14 56 ls s h Q) ∧ (¬ (x = 0) → pm_w d 14 39 ls s h Q) := pw_if_eq (show decode (pm_b 14) 36 = .ok (.ifCond .eq 20, 3) by decide +kernel) (by decide)
theorem ux_14_39 : pm_w d 14 39 ls st h Q ↔ pm_li ls 0 fun x => pm_w d 14 40 ls (.inl x :: st) h Q := pw_iload_n (show decode (pm_b 14) 39 = .ok (.iload_n 0, 1) by decide +kernel)
theorem ux_14_40 : pm_w d 14 40 ls st h Q ↔ pm_w d 14 41 ls (.inl 2 :: st) h Q := pw_iconst (show decode (pm_b 14) 40 = .ok (.iconst 2, 1) by decide +kernel) (by unfold pm_I32; decide)
theorem ux_14_41 : pm_w d 14 41 ls st h Q ↔ pm_i st fun y s => pm_i s fun x s => ((x = y) → pm_w d 14 52 ls s h Q) ∧ (¬ (x = y) → pm_w d 14 44 ls s h Q) := pw_ic_eq (show decode (pm_b 14) 41 = .ok (.if_icmp .eq 11, 3) by decide +kernel) (by decide)
theorem ux_14_44 : pm_w d 14 44 ls st h Q ↔ pm_li ls 2 fun x => pm_w d 14 45 ls (.inl x :: st) h Q := pw_iload_n (show decode (pm_b 14) 44 = .ok (.iload_n 2, 1) by decide +kernel)
theorem ux_14_45 : pm_w d 14 45 ls st h Q ↔ pm_li ls 3 fun x => pm_w d 14 46 ls (.inl x :: st) h Q := pw_iload_n (show decode (pm_b 14) 45 = .ok (.iload_n 3, 1) by decide +kernel)
theorem ux_14_46 : pm_w d 14 46 ls st h Q ↔ (2 ≤ st.length ∧ pm_wt (st.drop 2) ≤ 8) ∧ pm_ok d 15 (st.take 2).reverse h fun r h1 => pm_w d 14 49 ls (pm_pu r (st.drop 2)) h1 Q := pw_static (show decode (pm_b 14) 46 = .ok (.invokestatic 111, 3) by decide +kernel) mx_11_111
theorem ux_14_49 : pm_w d 14 49 ls st h Q ↔ pm_i st fun x s => ((x = 0) → pm_w d 14 56 ls s h Q) ∧ (¬ (x = 0) → pm_w d 14 52 ls s h Q) := pw_if_eq (show decode (pm_b 14) 49 = .ok (.ifCond .eq 7, 3) by decide +kernel) (by decide)
theorem ux_14_52 : pm_w d 14 52 ls st h Q ↔ pm_w d 14 53 ls (.inl 1 :: st) h Q := pw_iconst (show decode (pm_b 14) 52 = .ok (.iconst 1, 1) by decide +kernel) (by unfold pm_I32; decide)
theorem ux_14_53 : pm_w d 14 53 ls st h Q ↔ pm_w d 14 57 ls st h Q := pw_goto (show decode (pm_b 14) 53 = .ok (.goto 4, 3) by decide +kernel) (by decide)
theorem ux_14_56 : pm_w d 14 56 ls st h Q ↔ pm_w d 14 57 ls (.inl 0 :: st) h Q := pw_iconst (show decode (pm_b 14) 56 = .ok (.iconst 0, 1) by decide +kernel) (by unfold pm_I32; decide)
theorem ux_14_57 : pm_w d 14 57 ls st h Q ↔ pm_i st fun x s => (s = [] ∧ (x = 0 ∨ x = 1)) ∧ Q (some (.inl x)) h := pw_zreturn (show decode (pm_b 14) 57 = .ok (.ireturn, 1) by decide +kernel) rfl
-- 15: L.isSpan
theorem ux_15_0 : pm_w d 15 0 ls st h Q ↔ pm_li ls 0 fun x => pm_w d 15 1 ls (.inl x :: st) h Q := pw_iload_n (show decode (pm_b 15) 0 = .ok (.iload_n 0, 1) by decide +kernel)
theorem ux_15_1 : pm_w d 15 1 ls st h Q ↔ pm_i st fun x s => ((x < 0) → pm_w d 15 19 ls s h Q) ∧ (¬ (x < 0) → pm_w d 15 4 ls s h Q) := pw_if_lt (show decode (pm_b 15) 1 = .ok (.ifCond .lt 18, 3) by decide +kernel) (by decide)
theorem ux_15_4 : pm_w d 15 4 ls st h Q ↔ pm_li ls 0 fun x => pm_w d 15 5 ls (.inl x :: st) h Q := pw_iload_n (show decode (pm_b 15) 4 = .ok (.iload_n 0, 1) by decide +kernel)
theorem ux_15_5 : pm_w d 15 5 ls st h Q ↔ pm_li ls 1 fun x => pm_w d 15 6 ls (.inl x :: st) h Q := pw_iload_n (show decode (pm_b 15) 5 = .ok (.iload_n 1, 1) by decide +kernel)
theorem ux_15_6 : pm_w d 15 6 ls st h Q ↔ pm_i st fun y s => pm_i s fun x s => ((y ≤ x) → pm_w d 15 19 ls s h Q) ∧ (¬ (y ≤ x) → pm_w d 15 9 ls s h Q) := pw_ic_ge (show decode (pm_b 15) 6 = .ok (.if_icmp .ge 13, 3) by decide +kernel) (by decide)
theorem ux_15_9 : pm_w d 15 9 ls st h Q ↔ pm_li ls 1 fun x => pm_w d 15 10 ls (.inl x :: st) h Q := pw_iload_n (show decode (pm_b 15) 9 = .ok (.iload_n 1, 1) by decide +kernel)
theorem ux_15_10 : pm_w d 15 10 ls st h Q ↔ pm_w d 15 12 ls (.inl 60 :: st) h Q := pw_bipush (show decode (pm_b 15) 10 = .ok (.bipush 60, 2) by decide +kernel) (by decide)
theorem ux_15_12 : pm_w d 15 12 ls st h Q ↔ pm_i st fun y s => pm_i s fun x s => ((y < x) → pm_w d 15 19 ls s h Q) ∧ (¬ (y < x) → pm_w d 15 15 ls s h Q) := pw_ic_gt (show decode (pm_b 15) 12 = .ok (.if_icmp .gt 7, 3) by decide +kernel) (by decide)
theorem ux_15_15 : pm_w d 15 15 ls st h Q ↔ pm_w d 15 16 ls (.inl 1 :: st) h Q := pw_iconst (show decode (pm_b 15) 15 = .ok (.iconst 1, 1) by decide +kernel) (by unfold pm_I32; decide)
theorem ux_15_16 : pm_w d 15 16 ls st h Q ↔ pm_w d 15 20 ls st h Q := pw_goto (show decode (pm_b 15) 16 = .ok (.goto 4, 3) by decide +kernel) (by decide)
theorem ux_15_19 : pm_w d 15 19 ls st h Q ↔ pm_w d 15 20 ls (.inl 0 :: st) h Q := pw_iconst (show decode (pm_b 15) 19 = .ok (.iconst 0, 1) by decide +kernel) (by unfold pm_I32; decide)
theorem ux_15_20 : pm_w d 15 20 ls st h Q ↔ pm_i st fun x s => (s = [] ∧ (x = 0 ∨ x = 1)) ∧ Q (some (.inl x)) h := pw_zreturn (show decode (pm_b 15) 20 = .ok (.ireturn, 1) by decide +kernel) rfl
-- 16: L.newPiece
theorem ux_16_0 : pm_w d 16 0 ls st h Q ↔ pm_li ls 0 fun x => pm_w d 16 1 ls (.inl x :: st) h Q := pw_iload_n (show decode (pm_b 16) 0 = .ok (.iload_n 0, 1) by decide +kernel)
theorem ux_16_1 : pm_w d 16 1 ls st h Q ↔ pm_i st fun x s => pm_w d 16 (((1 : Int) + (if x < 1 ∨ 4 < x then 75 else [31, 41, 50, 62].getD (x - 1).toNat 0)).toNat) ls s h Q := pw_tableswitch (show decode (pm_b 16) 1 = .ok (.tableswitch 75 1 4 #[31, 41, 50, 62], 31) by decide +kernel) (by decide)
theorem ux_16_32 : pm_w d 16 32 ls st h Q ↔ pm_w d 16 35 ls (.inr (.inr (some h.2.2.length)) :: st) (pm_nw h 10 3) Q := pw_new (t := 10) (show decode (pm_b 16) 32 = .ok (.new 267, 3) by decide +kernel) cx_11_267 (by decide +kernel)
theorem ux_16_35 : pm_w d 16 35 ls st h Q ↔ pm_q st fun x s => pm_w d 16 36 ls (.inr (.inr x) :: .inr (.inr x) :: s) h Q := pw_dup (show decode (pm_b 16) 35 = .ok (.dup, 1) by decide +kernel)
theorem ux_16_36 : pm_w d 16 36 ls st h Q ↔ pm_li ls 2 fun x => pm_w d 16 37 ls (.inl x :: st) h Q := pw_iload_n (show decode (pm_b 16) 36 = .ok (.iload_n 2, 1) by decide +kernel)
theorem ux_16_37 : pm_w d 16 37 ls st h Q ↔ pm_li ls 3 fun x => pm_w d 16 38 ls (.inl x :: st) h Q := pw_iload_n (show decode (pm_b 16) 37 = .ok (.iload_n 3, 1) by decide +kernel)
theorem ux_16_38 : pm_w d 16 38 ls st h Q ↔ pm_r (st.drop 2) fun a s => (2 ≤ st.length ∧ pm_wt s ≤ 8) ∧ pm_ok d 17 (.inr (.inr (some a)) :: (st.take 2).reverse) h fun r h1 => pm_w d 16 41 ls (pm_pu r s) h1 Q := pw_special (show decode (pm_b 16) 38 = .ok (.invokespecial 269, 3) by decide +kernel) mx_11_269
theorem ux_16_41 : pm_w d 16 41 ls st h Q ↔ pm_q st fun x s => s = [] ∧ Q (some (.inr (.inr x))) h := pw_areturn (show decode (pm_b 16) 41 = .ok (.areturn, 1) by decide +kernel) rfl
theorem ux_16_42 : pm_w d 16 42 ls st h Q ↔ pm_w d 16 45 ls (.inr (.inr (some h.2.2.length)) :: st) (pm_nw h 2 3) Q := pw_new (t := 2) (show decode (pm_b 16) 42 = .ok (.new 272, 3) by decide +kernel) cx_11_272 (by decide +kernel)
theorem ux_16_45 : pm_w d 16 45 ls st h Q ↔ pm_q st fun x s => pm_w d 16 46 ls (.inr (.inr x) :: .inr (.inr x) :: s) h Q := pw_dup (show decode (pm_b 16) 45 = .ok (.dup, 1) by decide +kernel)
theorem ux_16_46 : pm_w d 16 46 ls st h Q ↔ pm_li ls 1 fun x => pm_w d 16 47 ls (.inl x :: st) h Q := pw_iload_n (show decode (pm_b 16) 46 = .ok (.iload_n 1, 1) by decide +kernel)
theorem ux_16_47 : pm_w d 16 47 ls st h Q ↔ pm_r (st.drop 1) fun a s => (1 ≤ st.length ∧ pm_wt s ≤ 8) ∧ pm_ok d 19 (.inr (.inr (some a)) :: (st.take 1).reverse) h fun r h1 => pm_w d 16 50 ls (pm_pu r s) h1 Q := pw_special (show decode (pm_b 16) 47 = .ok (.invokespecial 274, 3) by decide +kernel) mx_11_274
theorem ux_16_50 : pm_w d 16 50 ls st h Q ↔ pm_q st fun x s => s = [] ∧ Q (some (.inr (.inr x))) h := pw_areturn (show decode (pm_b 16) 50 = .ok (.areturn, 1) by decide +kernel) rfl
theorem ux_16_51 : pm_w d 16 51 ls st h Q ↔ pm_w d 16 54 ls (.inr (.inr (some h.2.2.length)) :: st) (pm_nw h 9 4) Q := pw_new (t := 9) (show decode (pm_b 16) 51 = .ok (.new 90, 3) by decide +kernel) cx_11_90 (by decide +kernel)
theorem ux_16_54 : pm_w d 16 54 ls st h Q ↔ pm_q st fun x s => pm_w d 16 55 ls (.inr (.inr x) :: .inr (.inr x) :: s) h Q := pw_dup (show decode (pm_b 16) 54 = .ok (.dup, 1) by decide +kernel)
theorem ux_16_55 : pm_w d 16 55 ls st h Q ↔ pm_li ls 1 fun x => pm_w d 16 56 ls (.inl x :: st) h Q := pw_iload_n (show decode (pm_b 16) 55 = .ok (.iload_n 1, 1) by decide +kernel)
theorem ux_16_56 : pm_w d 16 56 ls st h Q ↔ pm_li ls 2 fun x => pm_w d 16 57 ls (.inl x :: st) h Q := pw_iload_n (show decode (pm_b 16) 56 = .ok (.iload_n 2, 1) by decide +kernel)
theorem ux_16_57 : pm_w d 16 57 ls st h Q ↔ pm_li ls 3 fun x => pm_w d 16 58 ls (.inl x :: st) h Q := pw_iload_n (show decode (pm_b 16) 57 = .ok (.iload_n 3, 1) by decide +kernel)
theorem ux_16_58 : pm_w d 16 58 ls st h Q ↔ pm_w d 16 59 ls (.inl 2 :: st) h Q := pw_iconst (show decode (pm_b 16) 58 = .ok (.iconst 2, 1) by decide +kernel) (by unfold pm_I32; decide)
theorem ux_16_59 : pm_w d 16 59 ls st h Q ↔ pm_r (st.drop 4) fun a s => (4 ≤ st.length ∧ pm_wt s ≤ 8) ∧ pm_ok d 20 (.inr (.inr (some a)) :: (st.take 4).reverse) h fun r h1 => pm_w d 16 62 ls (pm_pu r s) h1 Q := pw_special (show decode (pm_b 16) 59 = .ok (.invokespecial 101, 3) by decide +kernel) mx_11_101
theorem ux_16_62 : pm_w d 16 62 ls st h Q ↔ pm_q st fun x s => s = [] ∧ Q (some (.inr (.inr x))) h := pw_areturn (show decode (pm_b 16) 62 = .ok (.areturn, 1) by decide +kernel) rfl
theorem ux_16_63 : pm_w d 16 63 ls st h Q ↔ pm_w d 16 66 ls (.inr (.inr (some h.2.2.length)) :: st) (pm_nw h 0 5) Q := pw_new (t := 0) (show decode (pm_b 16) 63 = .ok (.new 115, 3) by decide +kernel) cx_11_115 (by decide +kernel)
theorem ux_16_66 : pm_w d 16 66 ls st h Q ↔ pm_q st fun x s => pm_w d 16 67 ls (.inr (.inr x) :: .inr (.inr x) :: s) h Q := pw_dup (show decode (pm_b 16) 66 = .ok (.dup, 1) by decide +kernel)
theorem ux_16_67 : pm_w d 16 67 ls st h Q ↔ pm_li ls 1 fun x => pm_w d 16 68 ls (.inl x :: st) h Q := pw_iload_n (show decode (pm_b 16) 67 = .ok (.iload_n 1, 1) by decide +kernel)
theorem ux_16_68 : pm_w d 16 68 ls st h Q ↔ pm_li ls 2 fun x => pm_w d 16 69 ls (.inl x :: st) h Q := pw_iload_n (show decode (pm_b 16) 68 = .ok (.iload_n 2, 1) by decide +kernel)
theorem ux_16_69 : pm_w d 16 69 ls st h Q ↔ pm_li ls 3 fun x => pm_w d 16 70 ls (.inl x :: st) h Q := pw_iload_n (show decode (pm_b 16) 69 = .ok (.iload_n 3, 1) by decide +kernel)
theorem ux_16_70 : pm_w d 16 70 ls st h Q ↔ pm_w d 16 71 ls (.inl 0 :: st) h Q := pw_iconst (show decode (pm_b 16) 70 = .ok (.iconst 0, 1) by decide +kernel) (by unfold pm_I32; decide)
theorem ux_16_71 : pm_w d 16 71 ls st h Q ↔ pm_w d 16 72 ls (.inl 1 :: st) h Q := pw_iconst (show decode (pm_b 16) 71 = .ok (.iconst 1, 1) by decide +kernel) (by unfold pm_I32; decide)
theorem ux_16_72 : pm_w d 16 72 ls st h Q ↔ pm_r (st.drop 5) fun a s => (5 ≤ st.length ∧ pm_wt s ≤ 8) ∧ pm_ok d 21 (.inr (.inr (some a)) :: (st.take 5).reverse) h fun r h1 => pm_w d 16 75 ls (pm_pu r s) h1 Q := pw_special (show decode (pm_b 16) 72 = .ok (.invokespecial 120, 3) by decide +kernel) mx_11_120
theorem ux_16_75 : pm_w d 16 75 ls st h Q ↔ pm_q st fun x s => s = [] ∧ Q (some (.inr (.inr x))) h := pw_areturn (show decode (pm_b 16) 75 = .ok (.areturn, 1) by decide +kernel) rfl
theorem ux_16_76 : pm_w d 16 76 ls st h Q ↔ pm_w d 16 79 ls (.inr (.inr (some h.2.2.length)) :: st) (pm_nw h 6 3) Q := pw_new (t := 6) (show decode (pm_b 16) 76 = .ok (.new 128, 3) by decide +kernel) cx_11_128 (by decide +kernel)
theorem ux_16_79 : pm_w d 16 79 ls st h Q ↔ pm_q st fun x s => pm_w d 16 80 ls (.inr (.inr x) :: .inr (.inr x) :: s) h Q := pw_dup (show decode (pm_b 16) 79 = .ok (.dup, 1) by decide +kernel)
theorem ux_16_80 : pm_w d 16 80 ls st h Q ↔ pm_li ls 1 fun x => pm_w d 16 81 ls (.inl x :: st) h Q := pw_iload_n (show decode (pm_b 16) 80 = .ok (.iload_n 1, 1) by decide +kernel)
theorem ux_16_81 : pm_w d 16 81 ls st h Q ↔ pm_li ls 2 fun x => pm_w d 16 82 ls (.inl x :: st) h Q := pw_iload_n (show decode (pm_b 16) 81 = .ok (.iload_n 2, 1) by decide +kernel)
theorem ux_16_82 : pm_w d 16 82 ls st h Q ↔ pm_li ls 3 fun x => pm_w d 16 83 ls (.inl x :: st) h Q := pw_iload_n (show decode (pm_b 16) 82 = .ok (.iload_n 3, 1) by decide +kernel)
theorem ux_16_83 : pm_w d 16 83 ls st h Q ↔ pm_r (st.drop 3) fun a s => (3 ≤ st.length ∧ pm_wt s ≤ 8) ∧ pm_ok d 18 (.inr (.inr (some a)) :: (st.take 3).reverse) h fun r h1 => pm_w d 16 86 ls (pm_pu r s) h1 Q := pw_special (show decode (pm_b 16) 83 = .ok (.invokespecial 276, 3) by decide +kernel) mx_11_276
theorem ux_16_86 : pm_w d 16 86 ls st h Q ↔ pm_q st fun x s => s = [] ∧ Q (some (.inr (.inr x))) h := pw_areturn (show decode (pm_b 16) 86 = .ok (.areturn, 1) by decide +kernel) rfl
-- 17: LTight.<init>
theorem ux_17_0 : pm_w d 17 0 ls st h Q ↔ pm_lq ls 0 fun x => pm_w d 17 1 ls (.inr (.inr x) :: st) h Q := pw_aload_n (show decode (pm_b 17) 0 = .ok (.aload_n 0, 1) by decide +kernel)
theorem ux_17_1 : pm_w d 17 1 ls st h Q ↔ pm_li ls 2 fun x => pm_w d 17 2 ls (.inl x :: st) h Q := pw_iload_n (show decode (pm_b 17) 1 = .ok (.iload_n 2, 1) by decide +kernel)
theorem ux_17_2 : pm_w d 17 2 ls st h Q ↔ pm_li ls 1 fun x => pm_w d 17 3 ls (.inl x :: st) h Q := pw_iload_n (show decode (pm_b 17) 2 = .ok (.iload_n 1, 1) by decide +kernel)
theorem ux_17_3 : pm_w d 17 3 ls st h Q ↔ pm_i st fun y s => pm_i s fun x s => pm_I32 (x - y) ∧ pm_w d 17 4 ls (.inl (x - y) :: s) h Q := pw_isub (show decode (pm_b 17) 3 = .ok (.isub, 1) by decide +kernel)
theorem ux_17_4 : pm_w d 17 4 ls st h Q ↔ pm_li ls 1 fun x => pm_w d 17 5 ls (.inl x :: st) h Q := pw_iload_n (show decode (pm_b 17) 4 = .ok (.iload_n 1, 1) by decide +kernel)
theorem ux_17_5 : pm_w d 17 5 ls st h Q ↔ pm_li ls 2 fun x => pm_w d 17 6 ls (.inl x :: st) h Q := pw_iload_n (show decode (pm_b 17) 5 = .ok (.iload_n 2, 1) by decide +kernel)
theorem ux_17_6 : pm_w d 17 6 ls st h Q ↔ pm_r (st.drop 3) fun a s => (3 ≤ st.length ∧ pm_wt s ≤ 8) ∧ pm_ok d 18 (.inr (.inr (some a)) :: (st.take 3).reverse) h fun r h1 => pm_w d 17 9 ls (pm_pu r s) h1 Q := pw_special (show decode (pm_b 17) 6 = .ok (.invokespecial 3, 3) by decide +kernel) mx_10_3
theorem ux_17_9 : pm_w d 17 9 ls st h Q ↔ st = [] ∧ Q none h := pw_return (show decode (pm_b 17) 9 = .ok (.return_, 1) by decide +kernel) rfl
-- 18: LPiece.<init>
theorem ux_18_0 : pm_w d 18 0 ls st h Q ↔ pm_lq ls 0 fun x => pm_w d 18 1 ls (.inr (.inr x) :: st) h Q := pw_aload_n (show decode (pm_b 18) 0 = .ok (.aload_n 0, 1) by decide +kernel)
theorem ux_18_1 : pm_w d 18 1 ls st h Q ↔ pm_r st fun _ s => pm_wt s ≤ 8 ∧ pm_w d 18 4 ls s h Q := pw_objInit (show decode (pm_b 18) 1 = .ok (.invokespecial 3, 3) by decide +kernel) mx_6_3
theorem ux_18_4 : pm_w d 18 4 ls st h Q ↔ pm_lq ls 0 fun x => pm_w d 18 5 ls (.inr (.inr x) :: st) h Q := pw_aload_n (show decode (pm_b 18) 4 = .ok (.aload_n 0, 1) by decide +kernel)
theorem ux_18_5 : pm_w d 18 5 ls st h Q ↔ pm_li ls 1 fun x => pm_w d 18 6 ls (.inl x :: st) h Q := pw_iload_n (show decode (pm_b 18) 5 = .ok (.iload_n 1, 1) by decide +kernel)
theorem ux_18_6 : pm_w d 18 6 ls st h Q ↔ pm_i st fun x s => pm_r s fun a s => (pm_tgs h a [0, 2, 6, 9, 10]) ∧ pm_w d 18 9 ls s (pm_wI h a 0 x) Q := pw_put0 (show decode (pm_b 18) 6 = .ok (.putfield 9, 3) by decide +kernel) fx_6_9 (Or.inr ⟨rfl, by decide⟩)
theorem ux_18_9 : pm_w d 18 9 ls st h Q ↔ pm_lq ls 0 fun x => pm_w d 18 10 ls (.inr (.inr x) :: st) h Q := pw_aload_n (show decode (pm_b 18) 9 = .ok (.aload_n 0, 1) by decide +kernel)
theorem ux_18_10 : pm_w d 18 10 ls st h Q ↔ pm_li ls 2 fun x => pm_w d 18 11 ls (.inl x :: st) h Q := pw_iload_n (show decode (pm_b 18) 10 = .ok (.iload_n 2, 1) by decide +kernel)
theorem ux_18_11 : pm_w d 18 11 ls st h Q ↔ pm_i st fun x s => pm_r s fun a s => (pm_tgs h a [0, 2, 6, 9, 10]) ∧ pm_w d 18 14 ls s (pm_wI h a 1 x) Q := pw_put0 (show decode (pm_b 18) 11 = .ok (.putfield 15, 3) by decide +kernel) fx_6_15 (Or.inr ⟨rfl, by decide⟩)
theorem ux_18_14 : pm_w d 18 14 ls st h Q ↔ pm_lq ls 0 fun x => pm_w d 18 15 ls (.inr (.inr x) :: st) h Q := pw_aload_n (show decode (pm_b 18) 14 = .ok (.aload_n 0, 1) by decide +kernel)
theorem ux_18_15 : pm_w d 18 15 ls st h Q ↔ pm_li ls 3 fun x => pm_w d 18 16 ls (.inl x :: st) h Q := pw_iload_n (show decode (pm_b 18) 15 = .ok (.iload_n 3, 1) by decide +kernel)
theorem ux_18_16 : pm_w d 18 16 ls st h Q ↔ pm_i st fun x s => pm_r s fun a s => (pm_tgs h a [0, 2, 6, 9, 10]) ∧ pm_w d 18 19 ls s (pm_wI h a 2 x) Q := pw_put0 (show decode (pm_b 18) 16 = .ok (.putfield 18, 3) by decide +kernel) fx_6_18 (Or.inr ⟨rfl, by decide⟩)
theorem ux_18_19 : pm_w d 18 19 ls st h Q ↔ st = [] ∧ Q none h := pw_return (show decode (pm_b 18) 19 = .ok (.return_, 1) by decide +kernel) rfl
-- 19: LFree.<init>
theorem ux_19_0 : pm_w d 19 0 ls st h Q ↔ pm_lq ls 0 fun x => pm_w d 19 1 ls (.inr (.inr x) :: st) h Q := pw_aload_n (show decode (pm_b 19) 0 = .ok (.aload_n 0, 1) by decide +kernel)
theorem ux_19_1 : pm_w d 19 1 ls st h Q ↔ pm_li ls 1 fun x => pm_w d 19 2 ls (.inl x :: st) h Q := pw_iload_n (show decode (pm_b 19) 1 = .ok (.iload_n 1, 1) by decide +kernel)
theorem ux_19_2 : pm_w d 19 2 ls st h Q ↔ pm_w d 19 3 ls (.inl 0 :: st) h Q := pw_iconst (show decode (pm_b 19) 2 = .ok (.iconst 0, 1) by decide +kernel) (by unfold pm_I32; decide)
theorem ux_19_3 : pm_w d 19 3 ls st h Q ↔ pm_w d 19 5 ls (.inl 60 :: st) h Q := pw_bipush (show decode (pm_b 19) 3 = .ok (.bipush 60, 2) by decide +kernel) (by decide)
theorem ux_19_5 : pm_w d 19 5 ls st h Q ↔ pm_r (st.drop 3) fun a s => (3 ≤ st.length ∧ pm_wt s ≤ 8) ∧ pm_ok d 18 (.inr (.inr (some a)) :: (st.take 3).reverse) h fun r h1 => pm_w d 19 8 ls (pm_pu r s) h1 Q := pw_special (show decode (pm_b 19) 5 = .ok (.invokespecial 3, 3) by decide +kernel) mx_2_3
theorem ux_19_8 : pm_w d 19 8 ls st h Q ↔ st = [] ∧ Q none h := pw_return (show decode (pm_b 19) 8 = .ok (.return_, 1) by decide +kernel) rfl
-- 20: LSplit.<init>
theorem ux_20_0 : pm_w d 20 0 ls st h Q ↔ pm_lq ls 0 fun x => pm_w d 20 1 ls (.inr (.inr x) :: st) h Q := pw_aload_n (show decode (pm_b 20) 0 = .ok (.aload_n 0, 1) by decide +kernel)
theorem ux_20_1 : pm_w d 20 1 ls st h Q ↔ pm_li ls 1 fun x => pm_w d 20 2 ls (.inl x :: st) h Q := pw_iload_n (show decode (pm_b 20) 1 = .ok (.iload_n 1, 1) by decide +kernel)
theorem ux_20_2 : pm_w d 20 2 ls st h Q ↔ pm_li ls 2 fun x => pm_w d 20 3 ls (.inl x :: st) h Q := pw_iload_n (show decode (pm_b 20) 2 = .ok (.iload_n 2, 1) by decide +kernel)
theorem ux_20_3 : pm_w d 20 3 ls st h Q ↔ pm_li ls 3 fun x => pm_w d 20 4 ls (.inl x :: st) h Q := pw_iload_n (show decode (pm_b 20) 3 = .ok (.iload_n 3, 1) by decide +kernel)
theorem ux_20_4 : pm_w d 20 4 ls st h Q ↔ pm_r (st.drop 3) fun a s => (3 ≤ st.length ∧ pm_wt s ≤ 8) ∧ pm_ok d 18 (.inr (.inr (some a)) :: (st.take 3).reverse) h fun r h1 => pm_w d 20 7 ls (pm_pu r s) h1 Q := pw_special (show decode (pm_b 20) 4 = .ok (.invokespecial 3, 3) by decide +kernel) mx_9_3
theorem ux_20_7 : pm_w d 20 7 ls st h Q ↔ pm_lq ls 0 fun x => pm_w d 20 8 ls (.inr (.inr x) :: st) h Q := pw_aload_n (show decode (pm_b 20) 7 = .ok (.aload_n 0, 1) by decide +kernel)
theorem ux_20_8 : pm_w d 20 8 ls st h Q ↔ pm_li ls 4 fun x => pm_w d 20 10 ls (.inl x :: st) h Q := pw_iload (show decode (pm_b 20) 8 = .ok (.iload 4, 2) by decide +kernel)
theorem ux_20_10 : pm_w d 20 10 ls st h Q ↔ pm_i st fun x s => pm_r s fun a s => (pm_tgs h a [9]) ∧ pm_w d 20 13 ls s (pm_wI h a 3 x) Q := pw_put0 (show decode (pm_b 20) 10 = .ok (.putfield 9, 3) by decide +kernel) fx_9_9 (Or.inr ⟨rfl, by decide⟩)
theorem ux_20_13 : pm_w d 20 13 ls st h Q ↔ st = [] ∧ Q none h := pw_return (show decode (pm_b 20) 13 = .ok (.return_, 1) by decide +kernel) rfl
-- 21: LBarred.<init>
theorem ux_21_0 : pm_w d 21 0 ls st h Q ↔ pm_lq ls 0 fun x => pm_w d 21 1 ls (.inr (.inr x) :: st) h Q := pw_aload_n (show decode (pm_b 21) 0 = .ok (.aload_n 0, 1) by decide +kernel)
theorem ux_21_1 : pm_w d 21 1 ls st h Q ↔ pm_li ls 1 fun x => pm_w d 21 2 ls (.inl x :: st) h Q := pw_iload_n (show decode (pm_b 21) 1 = .ok (.iload_n 1, 1) by decide +kernel)
theorem ux_21_2 : pm_w d 21 2 ls st h Q ↔ pm_li ls 2 fun x => pm_w d 21 3 ls (.inl x :: st) h Q := pw_iload_n (show decode (pm_b 21) 2 = .ok (.iload_n 2, 1) by decide +kernel)
theorem ux_21_3 : pm_w d 21 3 ls st h Q ↔ pm_li ls 3 fun x => pm_w d 21 4 ls (.inl x :: st) h Q := pw_iload_n (show decode (pm_b 21) 3 = .ok (.iload_n 3, 1) by decide +kernel)
theorem ux_21_4 : pm_w d 21 4 ls st h Q ↔ pm_r (st.drop 3) fun a s => (3 ≤ st.length ∧ pm_wt s ≤ 8) ∧ pm_ok d 18 (.inr (.inr (some a)) :: (st.take 3).reverse) h fun r h1 => pm_w d 21 7 ls (pm_pu r s) h1 Q := pw_special (show decode (pm_b 21) 4 = .ok (.invokespecial 3, 3) by decide +kernel) mx_0_3
theorem ux_21_7 : pm_w d 21 7 ls st h Q ↔ pm_lq ls 0 fun x => pm_w d 21 8 ls (.inr (.inr x) :: st) h Q := pw_aload_n (show decode (pm_b 21) 7 = .ok (.aload_n 0, 1) by decide +kernel)
theorem ux_21_8 : pm_w d 21 8 ls st h Q ↔ pm_li ls 4 fun x => pm_w d 21 10 ls (.inl x :: st) h Q := pw_iload (show decode (pm_b 21) 8 = .ok (.iload 4, 2) by decide +kernel)
theorem ux_21_10 : pm_w d 21 10 ls st h Q ↔ pm_i st fun x s => pm_r s fun a s => (pm_tgs h a [0]) ∧ pm_w d 21 13 ls s (pm_wI h a 3 x) Q := pw_put0 (show decode (pm_b 21) 10 = .ok (.putfield 9, 3) by decide +kernel) fx_0_9 (Or.inr ⟨rfl, by decide⟩)
theorem ux_21_13 : pm_w d 21 13 ls st h Q ↔ pm_lq ls 0 fun x => pm_w d 21 14 ls (.inr (.inr x) :: st) h Q := pw_aload_n (show decode (pm_b 21) 13 = .ok (.aload_n 0, 1) by decide +kernel)
theorem ux_21_14 : pm_w d 21 14 ls st h Q ↔ pm_li ls 5 fun x => pm_w d 21 16 ls (.inl x :: st) h Q := pw_iload (show decode (pm_b 21) 14 = .ok (.iload 5, 2) by decide +kernel)
theorem ux_21_16 : pm_w d 21 16 ls st h Q ↔ pm_i st fun x s => pm_r s fun a s => (pm_tgs h a [0]) ∧ pm_w d 21 19 ls s (pm_wI h a 4 x) Q := pw_put0 (show decode (pm_b 21) 16 = .ok (.putfield 15, 3) by decide +kernel) fx_0_15 (Or.inr ⟨rfl, by decide⟩)
theorem ux_21_19 : pm_w d 21 19 ls st h Q ↔ st = [] ∧ Q none h := pw_return (show decode (pm_b 21) 19 = .ok (.return_, 1) by decide +kernel) rfl
-- 22: LShed.add
theorem ux_22_0 : pm_w d 22 0 ls st h Q ↔ pm_lq ls 0 fun x => pm_w d 22 1 ls (.inr (.inr x) :: st) h Q := pw_aload_n (show decode (pm_b 22) 0 = .ok (.aload_n 0, 1) by decide +kernel)
theorem ux_22_1 : pm_w d 22 1 ls st h Q ↔ pm_r st fun a s => pm_tgs h a [8] ∧ pm_w d 22 4 ls (.inl (h.1 a 2) :: s) h Q := pw_get (show decode (pm_b 22) 1 = .ok (.getfield 28, 3) by decide +kernel) fx_8_28
theorem ux_22_4 : pm_w d 22 4 ls st h Q ↔ pm_w d 22 6 ls (.inl 12 :: st) h Q := pw_bipush (show decode (pm_b 22) 4 = .ok (.bipush 12, 2) by decide +kernel) (by decide)
theorem ux_22_6 : pm_w d 22 6 ls st h Q ↔ pm_i st fun y s => pm_i s fun x s => ((x < y) → pm_w d 22 12 ls s h Q) ∧ (¬ (x < y) → pm_w d 22 9 ls s h Q) := pw_ic_lt (show decode (pm_b 22) 6 = .ok (.if_icmp .lt 6, 3) by decide +kernel) (by decide)
theorem ux_22_9 : pm_w d 22 9 ls st h Q ↔ pm_w d 22 11 ls (.inl (-2) :: st) h Q := pw_bipush (show decode (pm_b 22) 9 = .ok (.bipush (-2), 2) by decide +kernel) (by decide)
theorem ux_22_11 : pm_w d 22 11 ls st h Q ↔ pm_i st fun x s => s = [] ∧ Q (some (.inl x)) h := pw_ireturn (show decode (pm_b 22) 11 = .ok (.ireturn, 1) by decide +kernel) rfl
theorem ux_22_12 : pm_w d 22 12 ls st h Q ↔ pm_lq ls 0 fun x => pm_w d 22 13 ls (.inr (.inr x) :: st) h Q := pw_aload_n (show decode (pm_b 22) 12 = .ok (.aload_n 0, 1) by decide +kernel)
theorem ux_22_13 : pm_w d 22 13 ls st h Q ↔ pm_r st fun a s => pm_tgs h a [8] ∧ pm_w d 22 16 ls (.inr (.inr (h.2.1 a 3)) :: s) h Q := pw_get (show decode (pm_b 22) 13 = .ok (.getfield 20, 3) by decide +kernel) fx_8_20
theorem ux_22_16 : pm_w d 22 16 ls st h Q ↔ pm_lq ls 0 fun x => pm_w d 22 17 ls (.inr (.inr x) :: st) h Q := pw_aload_n (show decode (pm_b 22) 16 = .ok (.aload_n 0, 1) by decide +kernel)
theorem ux_22_17 : pm_w d 22 17 ls st h Q ↔ pm_r st fun a s => pm_tgs h a [8] ∧ pm_w d 22 20 ls (.inl (h.1 a 2) :: s) h Q := pw_get (show decode (pm_b 22) 17 = .ok (.getfield 28, 3) by decide +kernel) fx_8_28
theorem ux_22_20 : pm_w d 22 20 ls st h Q ↔ pm_lq ls 1 fun x => pm_w d 22 21 ls (.inr (.inr x) :: st) h Q := pw_aload_n (show decode (pm_b 22) 20 = .ok (.aload_n 1, 1) by decide +kernel)
theorem ux_22_21 : pm_w d 22 21 ls st h Q ↔ pm_q st fun v s => pm_i s fun x s => pm_r s fun a s => ((pm_inb h a 24 x ∧ ∀ q, v = some q → pm_tgs h q [0, 2, 6, 9, 10]) ∨ (pm_inb h a 25 x ∧ ∀ q, v = some q → pm_tgs h q [8])) ∧ pm_w d 22 22 ls s (pm_wR h a x.toNat v) Q := pw_aastore (show decode (pm_b 22) 21 = .ok (.aastore, 1) by decide +kernel)
theorem ux_22_22 : pm_w d 22 22 ls st h Q ↔ pm_lq ls 0 fun x => pm_w d 22 23 ls (.inr (.inr x) :: st) h Q := pw_aload_n (show decode (pm_b 22) 22 = .ok (.aload_n 0, 1) by decide +kernel)
theorem ux_22_23 : pm_w d 22 23 ls st h Q ↔ pm_q st fun x s => pm_w d 22 24 ls (.inr (.inr x) :: .inr (.inr x) :: s) h Q := pw_dup (show decode (pm_b 22) 23 = .ok (.dup, 1) by decide +kernel)
theorem ux_22_24 : pm_w d 22 24 ls st h Q ↔ pm_r st fun a s => pm_tgs h a [8] ∧ pm_w d 22 27 ls (.inl (h.1 a 2) :: s) h Q := pw_get (show decode (pm_b 22) 24 = .ok (.getfield 28, 3) by decide +kernel) fx_8_28
theorem ux_22_27 : pm_w d 22 27 ls st h Q ↔ pm_w d 22 28 ls (.inl 1 :: st) h Q := pw_iconst (show decode (pm_b 22) 27 = .ok (.iconst 1, 1) by decide +kernel) (by unfold pm_I32; decide)
theorem ux_22_28 : pm_w d 22 28 ls st h Q ↔ pm_i st fun y s => pm_i s fun x s => pm_I32 (x + y) ∧ pm_w d 22 29 ls (.inl (x + y) :: s) h Q := pw_iadd (show decode (pm_b 22) 28 = .ok (.iadd, 1) by decide +kernel)
theorem ux_22_29 : pm_w d 22 29 ls st h Q ↔ pm_i st fun x s => pm_r s fun a s => (pm_tgs h a [8]) ∧ pm_w d 22 32 ls s (pm_wI h a 2 x) Q := pw_put0 (show decode (pm_b 22) 29 = .ok (.putfield 28, 3) by decide +kernel) fx_8_28 (Or.inl rfl)
theorem ux_22_32 : pm_w d 22 32 ls st h Q ↔ pm_lq ls 0 fun x => pm_w d 22 33 ls (.inr (.inr x) :: st) h Q := pw_aload_n (show decode (pm_b 22) 32 = .ok (.aload_n 0, 1) by decide +kernel)
theorem ux_22_33 : pm_w d 22 33 ls st h Q ↔ pm_r st fun a s => pm_tgs h a [8] ∧ pm_w d 22 36 ls (.inl (h.1 a 2) :: s) h Q := pw_get (show decode (pm_b 22) 33 = .ok (.getfield 28, 3) by decide +kernel) fx_8_28
theorem ux_22_36 : pm_w d 22 36 ls st h Q ↔ pm_w d 22 37 ls (.inl 1 :: st) h Q := pw_iconst (show decode (pm_b 22) 36 = .ok (.iconst 1, 1) by decide +kernel) (by unfold pm_I32; decide)
theorem ux_22_37 : pm_w d 22 37 ls st h Q ↔ pm_i st fun y s => pm_i s fun x s => pm_I32 (x - y) ∧ pm_w d 22 38 ls (.inl (x - y) :: s) h Q := pw_isub (show decode (pm_b 22) 37 = .ok (.isub, 1) by decide +kernel)
theorem ux_22_38 : pm_w d 22 38 ls st h Q ↔ pm_i st fun x s => s = [] ∧ Q (some (.inl x)) h := pw_ireturn (show decode (pm_b 22) 38 = .ok (.ireturn, 1) by decide +kernel) rfl
end
