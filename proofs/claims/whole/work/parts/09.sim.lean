/-! ALL STEPS, CALLS, RETURNS: what the small machine runs, the machine runs -/
section SMM
variable {p : Program} {l : Launch} {e : Env} {s : State} {m : MethodId} {args : Array Value} {below : List Frame} {meth : Method} {c : Code} {Q : State → Prop} {D : va_G} {bs b y : Nat} {pc cc zz : Nat} {L S : List Value} {h : sm_Hp} {q : sm_Cf} {xs : List Int32}
theorem sm_fetch_dec {y pc : Nat} {ins : Instr} (hf : sm_fetch y pc = some ins) : ∃ len, decode (sm_cd y) pc = .ok (ins, len) ∧ sm_lnok ins len = true := by
  unfold sm_fetch at hf
  split at hf
  next i len hd =>
    obtain ⟨h1, h2⟩ := sm_if_inv hf
    cases h2
    exact ⟨len, hd, h1⟩
  · cases hf
theorem sm_dec {y pc n : Nat} {ins : Instr} (hf : sm_fetch y pc = some ins) (hw : ∀ len, sm_lnok ins len = decide (len = n)) : decode (sm_cd y) pc = .ok (ins, n) := by
  obtain ⟨len, h1, h2⟩ := sm_fetch_dec hf
  rw [hw] at h2
  have := of_decide_eq_true h2
  subst this
  exact h1
set_option maxHeartbeats 4000000 in
theorem sm_step {ins : Instr} (C : sm_Cx p D s m args meth c y) (hX : sm_X b bs xs y s) (hf : sm_fetch y pc = some ins) (hq : sm_act xs y ins pc L S h cc zz = some (.inl q)) (k : sm_go p l e s m args below meth c Q D bs b y q) : sm_go p l e s m args below meth c Q D bs b y (pc, L, S, h, cc, zz) := by
  cases ins with
  | iconst n => exact sm_s_iconst C n (sm_dec hf (fun _ => rfl)) hq k
  | bipush n => exact sm_s_bipush C n (sm_dec hf (fun _ => rfl)) hq k
  | sipush n => exact sm_s_sipush C n (sm_dec hf (fun _ => rfl)) hq k
  | lconst n => exact sm_s_lconst C n (sm_dec hf (fun _ => rfl)) hq k
  | ldc n => exact sm_s_ldc C n (sm_dec hf (fun _ => rfl)) hq k
  | ldc_w n => exact sm_s_ldc_w C n (sm_dec hf (fun _ => rfl)) hq k
  | ldc2_w n => exact sm_s_ldc2_w C n (sm_dec hf (fun _ => rfl)) hq k
  | iload_n n => exact sm_s_iload_n C n (sm_dec hf (fun _ => rfl)) hq k
  | iload n => exact sm_s_iload C n (sm_dec hf (fun _ => rfl)) hq k
  | lload_n n => exact sm_s_lload_n C n (sm_dec hf (fun _ => rfl)) hq k
  | lload n => exact sm_s_lload C n (sm_dec hf (fun _ => rfl)) hq k
  | aload_n n => exact sm_s_aload_n C n (sm_dec hf (fun _ => rfl)) hq k
  | aload n => exact sm_s_aload C n (sm_dec hf (fun _ => rfl)) hq k
  | istore_n n => exact sm_s_istore_n C n (sm_dec hf (fun _ => rfl)) hq k
  | istore n => exact sm_s_istore C n (sm_dec hf (fun _ => rfl)) hq k
  | lstore_n n => exact sm_s_lstore_n C n (sm_dec hf (fun _ => rfl)) hq k
  | lstore n => exact sm_s_lstore C n (sm_dec hf (fun _ => rfl)) hq k
  | astore_n n => exact sm_s_astore_n C n (sm_dec hf (fun _ => rfl)) hq k
  | astore n => exact sm_s_astore C n (sm_dec hf (fun _ => rfl)) hq k
  | iinc n i => exact sm_s_iinc C n i (sm_dec hf (fun _ => rfl)) hq k
  | iadd => exact sm_s_iadd C (sm_dec hf (fun _ => rfl)) hq k
  | isub => exact sm_s_isub C (sm_dec hf (fun _ => rfl)) hq k
  | imul => exact sm_s_imul C (sm_dec hf (fun _ => rfl)) hq k
  | idiv => exact sm_s_idiv C (sm_dec hf (fun _ => rfl)) hq k
  | irem => exact sm_s_irem C (sm_dec hf (fun _ => rfl)) hq k
  | ineg => exact sm_s_ineg C (sm_dec hf (fun _ => rfl)) hq k
  | iand => exact sm_s_iand C (sm_dec hf (fun _ => rfl)) hq k
  | ior => exact sm_s_ior C (sm_dec hf (fun _ => rfl)) hq k
  | ishl => exact sm_s_ishl C (sm_dec hf (fun _ => rfl)) hq k
  | ishr => exact sm_s_ishr C (sm_dec hf (fun _ => rfl)) hq k
  | iushr => exact sm_s_iushr C (sm_dec hf (fun _ => rfl)) hq k
  | ladd => exact sm_s_ladd C (sm_dec hf (fun _ => rfl)) hq k
  | lsub => exact sm_s_lsub C (sm_dec hf (fun _ => rfl)) hq k
  | land => exact sm_s_land C (sm_dec hf (fun _ => rfl)) hq k
  | lor => exact sm_s_lor C (sm_dec hf (fun _ => rfl)) hq k
  | lxor => exact sm_s_lxor C (sm_dec hf (fun _ => rfl)) hq k
  | lcmp => exact sm_s_lcmp C (sm_dec hf (fun _ => rfl)) hq k
  | lshl => exact sm_s_lshl C (sm_dec hf (fun _ => rfl)) hq k
  | lshr => exact sm_s_lshr C (sm_dec hf (fun _ => rfl)) hq k
  | lushr => exact sm_s_lushr C (sm_dec hf (fun _ => rfl)) hq k
  | l2i => exact sm_s_l2i C (sm_dec hf (fun _ => rfl)) hq k
  | i2l => exact sm_s_i2l C (sm_dec hf (fun _ => rfl)) hq k
  | dup => exact sm_s_dup C (sm_dec hf (fun _ => rfl)) hq k
  | dup2 => exact sm_s_dup2 C (sm_dec hf (fun _ => rfl)) hq k
  | pop => exact sm_s_pop C (sm_dec hf (fun _ => rfl)) hq k
  | if_icmp cd off =>
    cases cd
    · exact sm_s_if_icmp_eq C off (sm_dec hf (fun _ => rfl)) hq k
    · exact sm_s_if_icmp_ne C off (sm_dec hf (fun _ => rfl)) hq k
    · exact sm_s_if_icmp_lt C off (sm_dec hf (fun _ => rfl)) hq k
    · exact sm_s_if_icmp_ge C off (sm_dec hf (fun _ => rfl)) hq k
    · exact sm_s_if_icmp_gt C off (sm_dec hf (fun _ => rfl)) hq k
    · exact sm_s_if_icmp_le C off (sm_dec hf (fun _ => rfl)) hq k
  | ifCond cd off =>
    cases cd
    · exact sm_s_ifCond_eq C off (sm_dec hf (fun _ => rfl)) hq k
    · exact sm_s_ifCond_ne C off (sm_dec hf (fun _ => rfl)) hq k
    · exact sm_s_ifCond_lt C off (sm_dec hf (fun _ => rfl)) hq k
    · exact sm_s_ifCond_ge C off (sm_dec hf (fun _ => rfl)) hq k
    · exact sm_s_ifCond_gt C off (sm_dec hf (fun _ => rfl)) hq k
    · exact sm_s_ifCond_le C off (sm_dec hf (fun _ => rfl)) hq k
  | goto off => exact sm_s_goto C off (sm_dec hf (fun _ => rfl)) hq k
  | tableswitch d lo hi offs =>
    obtain ⟨len, hd, -⟩ := sm_fetch_dec hf
    exact sm_s_tableswitch C d lo hi offs len hd hq k
  | lookupswitch d ps =>
    obtain ⟨len, hd, -⟩ := sm_fetch_dec hf
    exact sm_s_lookupswitch C d ps len hd hq k
  | getfield n => exact sm_s_getfield C n (sm_dec hf (fun _ => rfl)) hq k
  | putfield n => exact sm_s_putfield C n (sm_dec hf (fun _ => rfl)) hq k
  | iaload => exact sm_s_iaload C hX (sm_dec hf (fun _ => rfl)) hq k
  | laload => exact sm_s_laload C (sm_dec hf (fun _ => rfl)) hq k
  | baload => exact sm_s_baload C (sm_dec hf (fun _ => rfl)) hq k
  | aaload => exact sm_s_aaload C (sm_dec hf (fun _ => rfl)) hq k
  | iastore => exact sm_s_iastore C (sm_dec hf (fun _ => rfl)) hq k
  | lastore => exact sm_s_lastore C (sm_dec hf (fun _ => rfl)) hq k
  | bastore => exact sm_s_bastore C (sm_dec hf (fun _ => rfl)) hq k
  | aastore => exact sm_s_aastore C (sm_dec hf (fun _ => rfl)) hq k
  | arraylength => exact sm_s_arraylength C hX (sm_dec hf (fun _ => rfl)) hq k
  | new n => exact sm_s_new C n (sm_dec hf (fun _ => rfl)) hq k
  | newarray t => exact sm_s_newarray C t (sm_dec hf (fun _ => rfl)) hq k
  | anewarray n => exact sm_s_anewarray C n (sm_dec hf (fun _ => rfl)) hq k
  | multianewarray n d => exact sm_s_multianewarray C n d (sm_dec hf (fun _ => rfl)) hq k
  | invokestatic n => exact sm_s_static C n (sm_dec hf (fun _ => rfl)) hq k
  | invokevirtual n => exact (sm_s_virtual C n (sm_dec hf (fun _ => rfl)) hq).elim
  | invokespecial n => exact sm_s_special C n (sm_dec hf (fun _ => rfl)) hq k
  | ireturn =>
    simp only [sm_act] at hq
    split at hq
    · obtain ⟨-, hq⟩ := sm_if_inv hq
      cases hq
    · cases hq
  | lreturn =>
    simp only [sm_act] at hq
    split at hq
    · obtain ⟨-, hq⟩ := sm_if_inv hq
      cases hq
    · cases hq
  | return_ =>
    simp only [sm_act] at hq
    split at hq
    · obtain ⟨-, hq⟩ := sm_if_inv hq
      cases hq
    · cases hq
  | _ => exact absurd hq (by simp [sm_act])
end SMM
