section
variable {p : Program} {l : Launch} {e : Env} {R : Room} {s : State} {m : MethodId} {args : Array Value} {below : List Frame} {meth : Method} {c : Code} {D : va_G} {aC : Nat → ClassId} {i d : Nat} {h0 h9 : pm_H} {a0 : Nat → Nat} {r9 : Option pm_V} {n pc k : Nat} {ls : pm_L} {st : List pm_V} {h : pm_H} {adr : Nat → Nat} {H : Heap} {locs : List Loc} {lsM : Array Slot} {cells slots : Nat}
theorem pm_plain {o : Instr} (hroom : cells ≤ h9.2.2.length - h0.2.2.length ∧ slots ≤ pm_tot h9 - pm_tot h0) (X : pm_Cx p s m args meth c R D aC i d h0 h9) (ih : pm_Go p l e R s m args below meth c D aC i d h0 h9 a0 r9 n) (hH : pm_HI s D aC a0 h0 adr h H locs cells slots) (hF : pm_FI i adr h.2.2.length ls lsM st) (hd : decode (pm_b i) pc = .ok (o, k)) (hk : pm_lk o k pc = true) (q : ∃ nx : pm_N, pm_s i o k pc ls st h = some nx ∧ pm_lp (pm_ev d) i n nx.1 nx.2.1 nx.2.2.1 nx.2.2.2 r9 h9) : pm_Wg p l e R s m args below meth c D aC h0 h9 a0 r9 pc adr H locs lsM st cells slots := by
  cases o with
  | iconst v => exact pz_iconst X ih hH hF hd hk q
  | bipush v => exact pz_bipush X ih hH hF hd hk q
  | sipush v => exact pz_sipush X ih hH hF hd hk q
  | lconst v => exact pz_lconst X ih hH hF hd hk q
  | ldc v => exact pz_ldc X ih hH hF hd hk q
  | ldc_w v => exact pz_ldc_w X ih hH hF hd hk q
  | iload_n v => exact pz_iload_n X ih hH hF hd hk q
  | iload v => exact pz_iload X ih hH hF hd hk q
  | lload_n v => exact pz_lload_n X ih hH hF hd hk q
  | lload v => exact pz_lload X ih hH hF hd hk q
  | aload_n v => exact pz_aload_n X ih hH hF hd hk q
  | aload v => exact pz_aload X ih hH hF hd hk q
  | istore_n v => exact pz_istore_n X ih hH hF hd hk q
  | istore v => exact pz_istore X ih hH hF hd hk q
  | lstore_n v => exact pz_lstore_n X ih hH hF hd hk q
  | lstore v => exact pz_lstore X ih hH hF hd hk q
  | astore_n v => exact pz_astore_n X ih hH hF hd hk q
  | astore v => exact pz_astore X ih hH hF hd hk q
  | aconst_null => exact pz_aconst_null X ih hH hF hd hk q
  | iadd => exact pz_iadd X ih hH hF hd hk q
  | isub => exact pz_isub X ih hH hF hd hk q
  | imul => exact pz_imul X ih hH hF hd hk q
  | idiv => exact pz_idiv X ih hH hF hd hk q
  | irem => exact pz_irem X ih hH hF hd hk q
  | ineg => exact pz_ineg X ih hH hF hd hk q
  | ishl => exact pz_ishl X ih hH hF hd hk q
  | iushr => exact pz_iushr X ih hH hF hd hk q
  | iand => exact pz_iand X ih hH hF hd hk q
  | ior => exact pz_ior X ih hH hF hd hk q
  | ladd => exact pz_ladd X ih hH hF hd hk q
  | lsub => exact pz_lsub X ih hH hF hd hk q
  | lmul => exact pz_lmul X ih hH hF hd hk q
  | ldiv => exact pz_ldiv X ih hH hF hd hk q
  | lrem => exact pz_lrem X ih hH hF hd hk q
  | lshl => exact pz_lshl X ih hH hF hd hk q
  | lushr => exact pz_lushr X ih hH hF hd hk q
  | land => exact pz_land X ih hH hF hd hk q
  | lor => exact pz_lor X ih hH hF hd hk q
  | i2l => exact pz_i2l X ih hH hF hd hk q
  | l2i => exact pz_l2i X ih hH hF hd hk q
  | lcmp => exact pz_lcmp X ih hH hF hd hk q
  | dup => exact pz_dup X ih hH hF hd hk q
  | dup2 => exact pz_dup2 X ih hH hF hd hk q
  | iaload => exact pz_iaload X ih hH hF hd hk q
  | baload => exact pz_baload X ih hH hF hd hk q
  | laload => exact pz_laload X ih hH hF hd hk q
  | aaload => exact pz_aaload X ih hH hF hd hk q
  | iastore => exact pz_iastore X ih hH hF hd hk q
  | bastore => exact pz_bastore X ih hH hF hd hk q
  | lastore => exact pz_lastore X ih hH hF hd hk q
  | aastore => exact pz_aastore X ih hH hF hd hk q
  | arraylength => exact pz_arraylength X ih hH hF hd hk q
  | iinc z v => exact pz_iinc X ih hH hF hd hk q
  | ifCond cc off =>
    cases cc with
    | eq => exact pz_if_eq X ih hH hF hd hk q
    | ne => exact pz_if_ne X ih hH hF hd hk q
    | lt => exact pz_if_lt X ih hH hF hd hk q
    | ge => exact pz_if_ge X ih hH hF hd hk q
    | gt => exact pz_if_gt X ih hH hF hd hk q
    | le => exact pz_if_le X ih hH hF hd hk q
  | if_icmp cc off =>
    cases cc with
    | eq => exact pz_ic_eq X ih hH hF hd hk q
    | ne => exact pz_ic_ne X ih hH hF hd hk q
    | lt => exact pz_ic_lt X ih hH hF hd hk q
    | ge => exact pz_ic_ge X ih hH hF hd hk q
    | gt => exact pz_ic_gt X ih hH hF hd hk q
    | le => exact pz_ic_le X ih hH hF hd hk q
  | ifnull v => exact pz_ifnull X ih hH hF hd hk q
  | ifnonnull v => exact pz_ifnonnull X ih hH hF hd hk q
  | goto v => exact pz_goto X ih hH hF hd hk q
  | getfield v => exact pz_getfield X ih hH hF hd hk q
  | putfield v => exact pz_putfield X ih hH hF hd hk q
  | new v => exact pz_new X ih hH hF hd hk q
  | anewarray v => exact pz_anewarray X ih hH hF hd hk q
  | instanceof v => exact pz_instanceof X ih hH hF hd hk q
  | checkcast v => exact pz_checkcast X ih hH hF hd hk q
  | tableswitch df lo hh offs => exact pz_tableswitch X ih hH hF hd hk q
  | newarray ty =>
    cases ty with
    | int => exact pz_newarray_int X ih hH hF hd hk q
    | long => exact pz_newarray_long X ih hH hF hd hk q
    | boolean => exact pz_newarray_boolean X ih hH hF hd hk q
    | _ => obtain ⟨_, q, _⟩ := q; cases q
  | multianewarray z dm =>
    by_cases e2 : dm = 2
    · subst e2
      exact pz_mna X ih hH hF hd hk q
    · obtain ⟨nx, q, _⟩ := q
      unfold pm_s at q
      split at q <;> first | (next hh => cases hh; exact absurd rfl e2) | (cases q; done) | (next hh => cases hh)
  | invokespecial z => exact pz_special9 X ih hH hF hd hk q
  | invokestatic z => exact pz_static10 hroom X ih hH hF hd hk q
  | _ => obtain ⟨_, q, _⟩ := q; cases q
theorem pm_go (X : pm_Cx p s m args meth c R D aC i d h0 h9) (IH : pm_Snd l D aC d) : ∀ n, pm_Go p l e R s m args below meth c D aC i d h0 h9 a0 r9 n
  | 0 => fun _ _ _ _ _ _ _ _ _ _ g => g.elim
  | n + 1 => by
    intro pc ls st h adr H locs lsM cells slots g hH hF
    have hle := pm_lp_le g
    have h6 := hH.2.2.2.2.2.1
    have h7 := hH.2.2.2.2.2.2
    have ih := pm_go X IH n
    obtain ⟨o, k, hd, hk, g⟩ := g
    rcases g with ⟨nx, e1, g⟩ | ⟨j, as, s1, e1, r1, h1, hc, g⟩ | ⟨e1, rfl⟩
    · exact pm_plain (by omega) X ih hH hF hd hk ⟨nx, e1, g⟩
    · cases o with
      | invokestatic z =>
        have ek : k = 3 := by simpa [pm_lk, pm_ln] using hk
        subst ek
        exact pz_static X IH ih hH hF hd e1 hc g
      | invokespecial z =>
        have ek : k = 3 := by simpa [pm_lk, pm_ln] using hk
        subst ek
        exact pz_special X IH ih hH hF hd e1 hc g
      | invokevirtual z =>
        have ek : k = 3 := by simpa [pm_lk, pm_ln] using hk
        subst ek
        exact pz_virt X IH ih hH hF hd e1 hc g
      | _ => cases e1
    · exact pz_ret X hH hF hd hk e1
theorem pm_sl_len {adr : Nat → Nat} : ∀ (as : List pm_V), (lg_sl (as.map (pm_tv adr))).length = (pm_fl as).length
  | [] => rfl
  | .inl x :: t => by
    have := pm_sl_len (adr := adr) t
    show (lg_sl (pm_tv adr (.inl x) :: t.map (pm_tv adr))).length = (pm_fl t).length + 1
    rw [← this]
    rfl
  | .inr (.inl x) :: t => by
    have := pm_sl_len (adr := adr) t
    show (lg_sl (pm_tv adr (.inr (.inl x)) :: t.map (pm_tv adr))).length = (pm_fl t).length + 1 + 1
    rw [← this]
    rfl
  | .inr (.inr r) :: t => by
    have := pm_sl_len (adr := adr) t
    show (lg_sl (pm_tv adr (.inr (.inr r)) :: t.map (pm_tv adr))).length = (pm_fl t).length + 1
    rw [← this]
    cases r <;> rfl
end
/-- THE PURE MACHINE IS SOUND: what it says of a method, the method's contract says -/
theorem pm_snd (l : Launch) (D : va_G) (aC : Nat → ClassId) : ∀ d, pm_Snd l D aC d
  | 0 => fun _ _ _ _ _ _ g => g.elim
  | d + 1 => by
    intro i as h0 r9 h9 hi g hG hgv a0 sz
    obtain ⟨gl, n, g⟩ := g
    have hN := pm_okN_at hi
    unfold pm_Met
    refine Met.ofW (cc := pm_b i) (maxL := pm_mL i) (ret := pm_rt i) hN.1 rfl ?_
    intro p e s m args below meth c s₁ B hml hv
    obtain ⟨rfl, hsz, hP, hKK, hD0⟩ := hv
    have hts := atoms_spec (ws := Cond.code (pm_y i) (pm_b i) (pm_mL i) (pm_rt i) :: pm_W) B.pre
    have hown : s.vm.findClass (pm_y i).cls = some m.cls := findClass_of_methodNamed B.named
    have hnm : meth.name = (pm_y i).name := (name_of_methodNamed B.named B.method).1
    subst hsz
    have X : pm_Cx p s m (as.map (pm_tv a0)).toArray meth c (pm_rm (d + 1) h0 h9) D aC i d h0 h9 := ⟨B.exec, B.bytes, hml, B.returns, by rw [hN.2.2.2.2]; exact hown, fun w hw => hts w (List.mem_cons_of_mem _ hw), hKK, B.notSynchronized, hnm, rfl, hi⟩
    have hgo := pm_go (l := l) (e := e) (below := below) (a0 := a0) (r9 := r9) X (pm_snd l D aC d) n
    have hl := lv_entry (as.map (pm_tv a0)) (n := pm_mL i) (by rw [pm_sl_len]; exact gl)
    rw [lg_entry_eq]
    refine hgo 0 (pm_ent i as) [] h0 a0 s.heap [] _ 0 0 g ?_ ?_
    · exact ⟨hP, hD0.self (sz := s.heap.size), va_S.rf, hG, fun _ _ => rfl, rfl, rfl⟩
    · refine ⟨hl.1, hl.2.1, fun k v e1 => ?_, fun v hv => by cases hv⟩
      have h1 := pm_fl_args (adr := a0) as 0 k v (pm_ent_get e1)
      rw [Nat.zero_add] at h1
      exact ⟨hl.2.2 _ h1.1, hgv v h1.2⟩
