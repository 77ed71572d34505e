/-! ONE STEP, instruction by instruction -/
section SMT
variable {p : Program} {l : Launch} {e : Env} {s : State} {m : MethodId} {args : Array Value} {below : List Frame} {meth : Method} {c : Code} {Q : State → Prop} {D : va_G} {bs b y : Nat} {pc cc zz : Nat} {L S : List Value} {h : sm_Hp} {q : sm_Cf} {xs : List Int32}
theorem sm_s_gen {pc' : Nat} {S' : List Value} (k : sm_go p l e s m args below meth c Q D bs b y (pc', L, S', h, cc, zz)) (row : ∀ (ls : Array Slot) (H : Heap) (locs : List Loc), sm_LR bs b ls L → W p l e (sm_R y) s m args below meth c H locs cc zz Q (F0 m pc' ls (S'.map (sm_mv bs b))) → W p l e (sm_R y) s m args below meth c H locs cc zz Q (F0 m pc ls (S.map (sm_mv bs b)))) : sm_go p l e s m args below meth c Q D bs b y (pc, L, S, h, cc, zz) := by
  intro ls H locs h1 h2 h3 h4 h5 h6
  exact row ls H locs h1 (k ls H locs h1 h2 h3 h4 h5 h6)
theorem sm_s_loc {pc' : Nat} {L' S' : List Value} (hl : L'.length = L.length) (k : sm_go p l e s m args below meth c Q D bs b y (pc', L', S', h, cc, zz)) (row : ∀ (ls : Array Slot) (H : Heap) (locs : List Loc), sm_LR bs b ls L → (∀ ls' : Array Slot, sm_LR bs b ls' L' → W p l e (sm_R y) s m args below meth c H locs cc zz Q (F0 m pc' ls' (S'.map (sm_mv bs b)))) → W p l e (sm_R y) s m args below meth c H locs cc zz Q (F0 m pc ls (S.map (sm_mv bs b)))) : sm_go p l e s m args below meth c Q D bs b y (pc, L, S, h, cc, zz) := by
  intro ls H locs h1 h2 h3 h4 h5 h6
  exact row ls H locs h1 (fun ls' h' => k ls' H locs h' (hl.trans h2) h3 h4 h5 h6)
theorem sm_s_iconst (C : sm_Cx p D s m args meth c y) (n : Int) (hd : decode (sm_cd y) pc = .ok (.iconst n, 1)) (hq : sm_act xs y (.iconst n) pc L S h cc zz = some (.inl q)) (k : sm_go p l e s m args below meth c Q D bs b y q) : sm_go p l e s m args below meth c Q D bs b y (pc, L, S, h, cc, zz) := by
  obtain ⟨hx, hb, hml, hown, hts, hnw, hkn, hin⟩ := C
  simp only [sm_act] at hq
  have hq := sm_nx_inv hq
  subst hq
  exact sm_s_gen k (fun ls H locs _ w => lv_iconst hx hb hd rfl w)
theorem sm_s_bipush (C : sm_Cx p D s m args meth c y) (n : Int) (hd : decode (sm_cd y) pc = .ok (.bipush n, 2)) (hq : sm_act xs y (.bipush n) pc L S h cc zz = some (.inl q)) (k : sm_go p l e s m args below meth c Q D bs b y q) : sm_go p l e s m args below meth c Q D bs b y (pc, L, S, h, cc, zz) := by
  obtain ⟨hx, hb, hml, hown, hts, hnw, hkn, hin⟩ := C
  simp only [sm_act] at hq
  have hq := sm_nx_inv hq
  subst hq
  exact sm_s_gen k (fun ls H locs _ w => lv_bipush hx hb hd rfl w)
theorem sm_s_sipush (C : sm_Cx p D s m args meth c y) (n : Int) (hd : decode (sm_cd y) pc = .ok (.sipush n, 3)) (hq : sm_act xs y (.sipush n) pc L S h cc zz = some (.inl q)) (k : sm_go p l e s m args below meth c Q D bs b y q) : sm_go p l e s m args below meth c Q D bs b y (pc, L, S, h, cc, zz) := by
  obtain ⟨hx, hb, hml, hown, hts, hnw, hkn, hin⟩ := C
  simp only [sm_act] at hq
  have hq := sm_nx_inv hq
  subst hq
  exact sm_s_gen k (fun ls H locs _ w => lv_sipush hx hb hd rfl w)
theorem sm_s_lconst (C : sm_Cx p D s m args meth c y) (n : Fin 2) (hd : decode (sm_cd y) pc = .ok (.lconst n, 1)) (hq : sm_act xs y (.lconst n) pc L S h cc zz = some (.inl q)) (k : sm_go p l e s m args below meth c Q D bs b y q) : sm_go p l e s m args below meth c Q D bs b y (pc, L, S, h, cc, zz) := by
  obtain ⟨hx, hb, hml, hown, hts, hnw, hkn, hin⟩ := C
  simp only [sm_act] at hq
  have hq := sm_nx_inv hq
  subst hq
  exact sm_s_gen k (fun ls H locs _ w => lv_lconst hx hb hd rfl w)
theorem sm_s_iadd (C : sm_Cx p D s m args meth c y)  (hd : decode (sm_cd y) pc = .ok (.iadd, 1)) (hq : sm_act xs y (.iadd) pc L S h cc zz = some (.inl q)) (k : sm_go p l e s m args below meth c Q D bs b y q) : sm_go p l e s m args below meth c Q D bs b y (pc, L, S, h, cc, zz) := by
  obtain ⟨hx, hb, hml, hown, hts, hnw, hkn, hin⟩ := C
  simp only [sm_act] at hq
  obtain ⟨x1, x2, S1, rfl, hq⟩ := sm_i2_inv hq
  have hq := sm_nx_inv hq
  subst hq
  exact sm_s_gen k (fun ls H locs _ w => lv_iadd hx hb hd w)
theorem sm_s_isub (C : sm_Cx p D s m args meth c y)  (hd : decode (sm_cd y) pc = .ok (.isub, 1)) (hq : sm_act xs y (.isub) pc L S h cc zz = some (.inl q)) (k : sm_go p l e s m args below meth c Q D bs b y q) : sm_go p l e s m args below meth c Q D bs b y (pc, L, S, h, cc, zz) := by
  obtain ⟨hx, hb, hml, hown, hts, hnw, hkn, hin⟩ := C
  simp only [sm_act] at hq
  obtain ⟨x1, x2, S1, rfl, hq⟩ := sm_i2_inv hq
  have hq := sm_nx_inv hq
  subst hq
  exact sm_s_gen k (fun ls H locs _ w => lv_isub hx hb hd w)
theorem sm_s_imul (C : sm_Cx p D s m args meth c y)  (hd : decode (sm_cd y) pc = .ok (.imul, 1)) (hq : sm_act xs y (.imul) pc L S h cc zz = some (.inl q)) (k : sm_go p l e s m args below meth c Q D bs b y q) : sm_go p l e s m args below meth c Q D bs b y (pc, L, S, h, cc, zz) := by
  obtain ⟨hx, hb, hml, hown, hts, hnw, hkn, hin⟩ := C
  simp only [sm_act] at hq
  obtain ⟨x1, x2, S1, rfl, hq⟩ := sm_i2_inv hq
  have hq := sm_nx_inv hq
  subst hq
  exact sm_s_gen k (fun ls H locs _ w => lv_imul hx hb hd w)
theorem sm_s_iand (C : sm_Cx p D s m args meth c y)  (hd : decode (sm_cd y) pc = .ok (.iand, 1)) (hq : sm_act xs y (.iand) pc L S h cc zz = some (.inl q)) (k : sm_go p l e s m args below meth c Q D bs b y q) : sm_go p l e s m args below meth c Q D bs b y (pc, L, S, h, cc, zz) := by
  obtain ⟨hx, hb, hml, hown, hts, hnw, hkn, hin⟩ := C
  simp only [sm_act] at hq
  obtain ⟨x1, x2, S1, rfl, hq⟩ := sm_i2_inv hq
  have hq := sm_nx_inv hq
  subst hq
  exact sm_s_gen k (fun ls H locs _ w => lv_iand hx hb hd w)
theorem sm_s_ior (C : sm_Cx p D s m args meth c y)  (hd : decode (sm_cd y) pc = .ok (.ior, 1)) (hq : sm_act xs y (.ior) pc L S h cc zz = some (.inl q)) (k : sm_go p l e s m args below meth c Q D bs b y q) : sm_go p l e s m args below meth c Q D bs b y (pc, L, S, h, cc, zz) := by
  obtain ⟨hx, hb, hml, hown, hts, hnw, hkn, hin⟩ := C
  simp only [sm_act] at hq
  obtain ⟨x1, x2, S1, rfl, hq⟩ := sm_i2_inv hq
  have hq := sm_nx_inv hq
  subst hq
  exact sm_s_gen k (fun ls H locs _ w => lv_ior hx hb hd w)
theorem sm_s_ishl (C : sm_Cx p D s m args meth c y)  (hd : decode (sm_cd y) pc = .ok (.ishl, 1)) (hq : sm_act xs y (.ishl) pc L S h cc zz = some (.inl q)) (k : sm_go p l e s m args below meth c Q D bs b y q) : sm_go p l e s m args below meth c Q D bs b y (pc, L, S, h, cc, zz) := by
  obtain ⟨hx, hb, hml, hown, hts, hnw, hkn, hin⟩ := C
  simp only [sm_act] at hq
  obtain ⟨x1, x2, S1, rfl, hq⟩ := sm_i2_inv hq
  have hq := sm_nx_inv hq
  subst hq
  exact sm_s_gen k (fun ls H locs _ w => lv_ishl hx hb hd w)
theorem sm_s_ishr (C : sm_Cx p D s m args meth c y)  (hd : decode (sm_cd y) pc = .ok (.ishr, 1)) (hq : sm_act xs y (.ishr) pc L S h cc zz = some (.inl q)) (k : sm_go p l e s m args below meth c Q D bs b y q) : sm_go p l e s m args below meth c Q D bs b y (pc, L, S, h, cc, zz) := by
  obtain ⟨hx, hb, hml, hown, hts, hnw, hkn, hin⟩ := C
  simp only [sm_act] at hq
  obtain ⟨x1, x2, S1, rfl, hq⟩ := sm_i2_inv hq
  have hq := sm_nx_inv hq
  subst hq
  exact sm_s_gen k (fun ls H locs _ w => lv_ishr hx hb hd w)
theorem sm_s_ladd (C : sm_Cx p D s m args meth c y)  (hd : decode (sm_cd y) pc = .ok (.ladd, 1)) (hq : sm_act xs y (.ladd) pc L S h cc zz = some (.inl q)) (k : sm_go p l e s m args below meth c Q D bs b y q) : sm_go p l e s m args below meth c Q D bs b y (pc, L, S, h, cc, zz) := by
  obtain ⟨hx, hb, hml, hown, hts, hnw, hkn, hin⟩ := C
  simp only [sm_act] at hq
  obtain ⟨x1, x2, S1, rfl, hq⟩ := sm_j2_inv hq
  have hq := sm_nx_inv hq
  subst hq
  exact sm_s_gen k (fun ls H locs _ w => lv_ladd hx hb hd w)
theorem sm_s_lsub (C : sm_Cx p D s m args meth c y)  (hd : decode (sm_cd y) pc = .ok (.lsub, 1)) (hq : sm_act xs y (.lsub) pc L S h cc zz = some (.inl q)) (k : sm_go p l e s m args below meth c Q D bs b y q) : sm_go p l e s m args below meth c Q D bs b y (pc, L, S, h, cc, zz) := by
  obtain ⟨hx, hb, hml, hown, hts, hnw, hkn, hin⟩ := C
  simp only [sm_act] at hq
  obtain ⟨x1, x2, S1, rfl, hq⟩ := sm_j2_inv hq
  have hq := sm_nx_inv hq
  subst hq
  exact sm_s_gen k (fun ls H locs _ w => lv_lsub hx hb hd w)
theorem sm_s_land (C : sm_Cx p D s m args meth c y)  (hd : decode (sm_cd y) pc = .ok (.land, 1)) (hq : sm_act xs y (.land) pc L S h cc zz = some (.inl q)) (k : sm_go p l e s m args below meth c Q D bs b y q) : sm_go p l e s m args below meth c Q D bs b y (pc, L, S, h, cc, zz) := by
  obtain ⟨hx, hb, hml, hown, hts, hnw, hkn, hin⟩ := C
  simp only [sm_act] at hq
  obtain ⟨x1, x2, S1, rfl, hq⟩ := sm_j2_inv hq
  have hq := sm_nx_inv hq
  subst hq
  exact sm_s_gen k (fun ls H locs _ w => lv_land hx hb hd w)
theorem sm_s_lor (C : sm_Cx p D s m args meth c y)  (hd : decode (sm_cd y) pc = .ok (.lor, 1)) (hq : sm_act xs y (.lor) pc L S h cc zz = some (.inl q)) (k : sm_go p l e s m args below meth c Q D bs b y q) : sm_go p l e s m args below meth c Q D bs b y (pc, L, S, h, cc, zz) := by
  obtain ⟨hx, hb, hml, hown, hts, hnw, hkn, hin⟩ := C
  simp only [sm_act] at hq
  obtain ⟨x1, x2, S1, rfl, hq⟩ := sm_j2_inv hq
  have hq := sm_nx_inv hq
  subst hq
  exact sm_s_gen k (fun ls H locs _ w => lv_lor hx hb hd w)
theorem sm_s_lxor (C : sm_Cx p D s m args meth c y)  (hd : decode (sm_cd y) pc = .ok (.lxor, 1)) (hq : sm_act xs y (.lxor) pc L S h cc zz = some (.inl q)) (k : sm_go p l e s m args below meth c Q D bs b y q) : sm_go p l e s m args below meth c Q D bs b y (pc, L, S, h, cc, zz) := by
  obtain ⟨hx, hb, hml, hown, hts, hnw, hkn, hin⟩ := C
  simp only [sm_act] at hq
  obtain ⟨x1, x2, S1, rfl, hq⟩ := sm_j2_inv hq
  have hq := sm_nx_inv hq
  subst hq
  exact sm_s_gen k (fun ls H locs _ w => lv_lxor hx hb hd w)
theorem sm_s_lcmp (C : sm_Cx p D s m args meth c y)  (hd : decode (sm_cd y) pc = .ok (.lcmp, 1)) (hq : sm_act xs y (.lcmp) pc L S h cc zz = some (.inl q)) (k : sm_go p l e s m args below meth c Q D bs b y q) : sm_go p l e s m args below meth c Q D bs b y (pc, L, S, h, cc, zz) := by
  obtain ⟨hx, hb, hml, hown, hts, hnw, hkn, hin⟩ := C
  simp only [sm_act] at hq
  obtain ⟨x1, x2, S1, rfl, hq⟩ := sm_j2_inv hq
  have hq := sm_nx_inv hq
  subst hq
  exact sm_s_gen k (fun ls H locs _ w => W.lcmp hx hb hd w)
theorem sm_s_iushr (C : sm_Cx p D s m args meth c y)  (hd : decode (sm_cd y) pc = .ok (.iushr, 1)) (hq : sm_act xs y (.iushr) pc L S h cc zz = some (.inl q)) (k : sm_go p l e s m args below meth c Q D bs b y q) : sm_go p l e s m args below meth c Q D bs b y (pc, L, S, h, cc, zz) := by
  obtain ⟨hx, hb, hml, hown, hts, hnw, hkn, hin⟩ := C
  simp only [sm_act] at hq
  obtain ⟨x1, x2, S1, rfl, hq⟩ := sm_i2_inv hq
  have hq := sm_nx_inv hq
  subst hq
  exact sm_s_gen k (fun ls H locs _ w => lv_iushr hx hb hd rfl w)
theorem sm_s_lshl (C : sm_Cx p D s m args meth c y)  (hd : decode (sm_cd y) pc = .ok (.lshl, 1)) (hq : sm_act xs y (.lshl) pc L S h cc zz = some (.inl q)) (k : sm_go p l e s m args below meth c Q D bs b y q) : sm_go p l e s m args below meth c Q D bs b y (pc, L, S, h, cc, zz) := by
  obtain ⟨hx, hb, hml, hown, hts, hnw, hkn, hin⟩ := C
  simp only [sm_act] at hq
  obtain ⟨x1, x2, S1, rfl, hq⟩ := sm_ji_inv hq
  have hq := sm_nx_inv hq
  subst hq
  exact sm_s_gen k (fun ls H locs _ w => lv_lshl hx hb hd rfl w)
theorem sm_s_lshr (C : sm_Cx p D s m args meth c y)  (hd : decode (sm_cd y) pc = .ok (.lshr, 1)) (hq : sm_act xs y (.lshr) pc L S h cc zz = some (.inl q)) (k : sm_go p l e s m args below meth c Q D bs b y q) : sm_go p l e s m args below meth c Q D bs b y (pc, L, S, h, cc, zz) := by
  obtain ⟨hx, hb, hml, hown, hts, hnw, hkn, hin⟩ := C
  simp only [sm_act] at hq
  obtain ⟨x1, x2, S1, rfl, hq⟩ := sm_ji_inv hq
  have hq := sm_nx_inv hq
  subst hq
  exact sm_s_gen k (fun ls H locs _ w => lv_lshr hx hb hd rfl w)
theorem sm_s_lushr (C : sm_Cx p D s m args meth c y)  (hd : decode (sm_cd y) pc = .ok (.lushr, 1)) (hq : sm_act xs y (.lushr) pc L S h cc zz = some (.inl q)) (k : sm_go p l e s m args below meth c Q D bs b y q) : sm_go p l e s m args below meth c Q D bs b y (pc, L, S, h, cc, zz) := by
  obtain ⟨hx, hb, hml, hown, hts, hnw, hkn, hin⟩ := C
  simp only [sm_act] at hq
  obtain ⟨x1, x2, S1, rfl, hq⟩ := sm_ji_inv hq
  have hq := sm_nx_inv hq
  subst hq
  exact sm_s_gen k (fun ls H locs _ w => lv_lushr hx hb hd rfl w)
theorem sm_s_idiv (C : sm_Cx p D s m args meth c y)  (hd : decode (sm_cd y) pc = .ok (.idiv, 1)) (hq : sm_act xs y (.idiv) pc L S h cc zz = some (.inl q)) (k : sm_go p l e s m args below meth c Q D bs b y q) : sm_go p l e s m args below meth c Q D bs b y (pc, L, S, h, cc, zz) := by
  obtain ⟨hx, hb, hml, hown, hts, hnw, hkn, hin⟩ := C
  simp only [sm_act] at hq
  obtain ⟨x1, x2, S1, rfl, hr⟩ := sm_i2_inv hq
  clear hq
  have hq := hr
  obtain ⟨hne, hq⟩ := sm_if_inv2 hq
  have hq := sm_nx_inv hq
  subst hq
  exact sm_s_gen k (fun ls H locs _ w => lv_idiv hx hb hd hne w)
theorem sm_s_irem (C : sm_Cx p D s m args meth c y)  (hd : decode (sm_cd y) pc = .ok (.irem, 1)) (hq : sm_act xs y (.irem) pc L S h cc zz = some (.inl q)) (k : sm_go p l e s m args below meth c Q D bs b y q) : sm_go p l e s m args below meth c Q D bs b y (pc, L, S, h, cc, zz) := by
  obtain ⟨hx, hb, hml, hown, hts, hnw, hkn, hin⟩ := C
  simp only [sm_act] at hq
  obtain ⟨x1, x2, S1, rfl, hr⟩ := sm_i2_inv hq
  clear hq
  have hq := hr
  obtain ⟨hne, hq⟩ := sm_if_inv2 hq
  have hq := sm_nx_inv hq
  subst hq
  exact sm_s_gen k (fun ls H locs _ w => lv_irem hx hb hd hne w)
theorem sm_s_ineg (C : sm_Cx p D s m args meth c y)  (hd : decode (sm_cd y) pc = .ok (.ineg, 1)) (hq : sm_act xs y (.ineg) pc L S h cc zz = some (.inl q)) (k : sm_go p l e s m args below meth c Q D bs b y q) : sm_go p l e s m args below meth c Q D bs b y (pc, L, S, h, cc, zz) := by
  obtain ⟨hx, hb, hml, hown, hts, hnw, hkn, hin⟩ := C
  simp only [sm_act] at hq
  obtain ⟨x1, S1, rfl, hr⟩ := sm_i1_inv hq
  clear hq
  have hq := hr
  have hq := sm_nx_inv hq
  subst hq
  exact sm_s_gen k (fun ls H locs _ w => lv_ineg hx hb hd w)
theorem sm_s_l2i (C : sm_Cx p D s m args meth c y)  (hd : decode (sm_cd y) pc = .ok (.l2i, 1)) (hq : sm_act xs y (.l2i) pc L S h cc zz = some (.inl q)) (k : sm_go p l e s m args below meth c Q D bs b y q) : sm_go p l e s m args below meth c Q D bs b y (pc, L, S, h, cc, zz) := by
  obtain ⟨hx, hb, hml, hown, hts, hnw, hkn, hin⟩ := C
  simp only [sm_act] at hq
  obtain ⟨x1, S1, rfl, hr⟩ := sm_j1_inv hq
  clear hq
  have hq := hr
  have hq := sm_nx_inv hq
  subst hq
  exact sm_s_gen k (fun ls H locs _ w => lv_l2i hx hb hd rfl w)
theorem sm_s_i2l (C : sm_Cx p D s m args meth c y)  (hd : decode (sm_cd y) pc = .ok (.i2l, 1)) (hq : sm_act xs y (.i2l) pc L S h cc zz = some (.inl q)) (k : sm_go p l e s m args below meth c Q D bs b y q) : sm_go p l e s m args below meth c Q D bs b y (pc, L, S, h, cc, zz) := by
  obtain ⟨hx, hb, hml, hown, hts, hnw, hkn, hin⟩ := C
  simp only [sm_act] at hq
  obtain ⟨x1, S1, rfl, hr⟩ := sm_i1_inv hq
  clear hq
  have hq := hr
  have hq := sm_nx_inv hq
  subst hq
  exact sm_s_gen k (fun ls H locs _ w => lv_i2l hx hb hd rfl w)
theorem sm_s_iload_n (C : sm_Cx p D s m args meth c y) (n : Fin 4) (hd : decode (sm_cd y) pc = .ok (.iload_n n, 1)) (hq : sm_act xs y (.iload_n n) pc L S h cc zz = some (.inl q)) (k : sm_go p l e s m args below meth c Q D bs b y q) : sm_go p l e s m args below meth c Q D bs b y (pc, L, S, h, cc, zz) := by
  obtain ⟨hx, hb, hml, hown, hts, hnw, hkn, hin⟩ := C
  simp only [sm_act] at hq
  obtain ⟨v, hv, hq⟩ := sm_li_inv hq
  have hq := sm_nx_inv hq
  subst hq
  exact sm_s_gen k (fun ls H locs hl w => lv_iload_n hx hb hd rfl (hl.2.2 _ _ hv (by intro h; cases h)) w)
theorem sm_s_lload_n (C : sm_Cx p D s m args meth c y) (n : Fin 4) (hd : decode (sm_cd y) pc = .ok (.lload_n n, 1)) (hq : sm_act xs y (.lload_n n) pc L S h cc zz = some (.inl q)) (k : sm_go p l e s m args below meth c Q D bs b y q) : sm_go p l e s m args below meth c Q D bs b y (pc, L, S, h, cc, zz) := by
  obtain ⟨hx, hb, hml, hown, hts, hnw, hkn, hin⟩ := C
  simp only [sm_act] at hq
  obtain ⟨v, hv, hq⟩ := sm_lj_inv hq
  have hq := sm_nx_inv hq
  subst hq
  exact sm_s_gen k (fun ls H locs hl w => lv_lload_n hx hb hd rfl (hl.2.2 _ _ hv (by intro h; cases h)) w)
theorem sm_s_iload (C : sm_Cx p D s m args meth c y) (n : Nat) (hd : decode (sm_cd y) pc = .ok (.iload n, 2)) (hq : sm_act xs y (.iload n) pc L S h cc zz = some (.inl q)) (k : sm_go p l e s m args below meth c Q D bs b y q) : sm_go p l e s m args below meth c Q D bs b y (pc, L, S, h, cc, zz) := by
  obtain ⟨hx, hb, hml, hown, hts, hnw, hkn, hin⟩ := C
  simp only [sm_act] at hq
  obtain ⟨v, hv, hq⟩ := sm_li_inv hq
  have hq := sm_nx_inv hq
  subst hq
  exact sm_s_gen k (fun ls H locs hl w => lv_iload hx hb hd (hl.2.2 _ _ hv (by intro h; cases h)) w)
theorem sm_s_lload (C : sm_Cx p D s m args meth c y) (n : Nat) (hd : decode (sm_cd y) pc = .ok (.lload n, 2)) (hq : sm_act xs y (.lload n) pc L S h cc zz = some (.inl q)) (k : sm_go p l e s m args below meth c Q D bs b y q) : sm_go p l e s m args below meth c Q D bs b y (pc, L, S, h, cc, zz) := by
  obtain ⟨hx, hb, hml, hown, hts, hnw, hkn, hin⟩ := C
  simp only [sm_act] at hq
  obtain ⟨v, hv, hq⟩ := sm_lj_inv hq
  have hq := sm_nx_inv hq
  subst hq
  exact sm_s_gen k (fun ls H locs hl w => lv_lload hx hb hd (hl.2.2 _ _ hv (by intro h; cases h)) w)
theorem sm_s_aload_n (C : sm_Cx p D s m args meth c y) (n : Fin 4) (hd : decode (sm_cd y) pc = .ok (.aload_n n, 1)) (hq : sm_act xs y (.aload_n n) pc L S h cc zz = some (.inl q)) (k : sm_go p l e s m args below meth c Q D bs b y q) : sm_go p l e s m args below meth c Q D bs b y (pc, L, S, h, cc, zz) := by
  obtain ⟨hx, hb, hml, hown, hts, hnw, hkn, hin⟩ := C
  simp only [sm_act] at hq
  obtain ⟨v, hv, hn, ⟨f, hf⟩, hq⟩ := sm_la_inv hq
  have hq := sm_nx_inv hq
  subst hq
  exact sm_s_gen k (fun ls H locs hl w => by
    have h1 := hl.2.2 _ _ hv hn
    simp only [List.map_cons, hf] at w h1 ⊢
    exact lv_aload_n hx hb hd rfl h1 w)
theorem sm_s_aload (C : sm_Cx p D s m args meth c y) (n : Nat) (hd : decode (sm_cd y) pc = .ok (.aload n, 2)) (hq : sm_act xs y (.aload n) pc L S h cc zz = some (.inl q)) (k : sm_go p l e s m args below meth c Q D bs b y q) : sm_go p l e s m args below meth c Q D bs b y (pc, L, S, h, cc, zz) := by
  obtain ⟨hx, hb, hml, hown, hts, hnw, hkn, hin⟩ := C
  simp only [sm_act] at hq
  obtain ⟨v, hv, hn, ⟨f, hf⟩, hq⟩ := sm_la_inv hq
  have hq := sm_nx_inv hq
  subst hq
  exact sm_s_gen k (fun ls H locs hl w => by
    have h1 := hl.2.2 _ _ hv hn
    simp only [List.map_cons, hf] at w h1 ⊢
    exact lv_aload hx hb hd h1 w)
theorem sm_s_istore_n (C : sm_Cx p D s m args meth c y) (n : Fin 4) (hd : decode (sm_cd y) pc = .ok (.istore_n n, 1)) (hq : sm_act xs y (.istore_n n) pc L S h cc zz = some (.inl q)) (k : sm_go p l e s m args below meth c Q D bs b y q) : sm_go p l e s m args below meth c Q D bs b y (pc, L, S, h, cc, zz) := by
  obtain ⟨hx, hb, hml, hown, hts, hnw, hkn, hin⟩ := C
  simp only [sm_act] at hq
  obtain ⟨v, S1, rfl, hr⟩ := sm_i1_inv hq
  clear hq
  have hq := hr
  obtain ⟨hi, hp, hq⟩ := sm_st_inv hq
  have hq := sm_nx_inv hq
  subst hq
  exact sm_s_loc (by rw [List.length_set]) k (fun ls H locs hl w => lv_istore_n hx hb hd rfl (sm_LR_has hl) hi rfl (fun ls1 hl1 => w ls1 (sm_LR_set hl1 hp)))
theorem sm_s_astore_n (C : sm_Cx p D s m args meth c y) (n : Fin 4) (hd : decode (sm_cd y) pc = .ok (.astore_n n, 1)) (hq : sm_act xs y (.astore_n n) pc L S h cc zz = some (.inl q)) (k : sm_go p l e s m args below meth c Q D bs b y q) : sm_go p l e s m args below meth c Q D bs b y (pc, L, S, h, cc, zz) := by
  obtain ⟨hx, hb, hml, hown, hts, hnw, hkn, hin⟩ := C
  simp only [sm_act] at hq
  obtain ⟨v, S1, rfl, hr⟩ := sm_r1_inv hq
  clear hq
  have hq := hr
  obtain ⟨hi, hp, hq⟩ := sm_st_inv hq
  have hq := sm_nx_inv hq
  subst hq
  exact sm_s_loc (by rw [List.length_set]) k (fun ls H locs hl w => lv_astore_n hx hb hd rfl (sm_LR_has hl) hi rfl (fun ls1 hl1 => w ls1 (sm_LR_set hl1 hp)))
theorem sm_s_istore (C : sm_Cx p D s m args meth c y) (n : Nat) (hd : decode (sm_cd y) pc = .ok (.istore n, 2)) (hq : sm_act xs y (.istore n) pc L S h cc zz = some (.inl q)) (k : sm_go p l e s m args below meth c Q D bs b y q) : sm_go p l e s m args below meth c Q D bs b y (pc, L, S, h, cc, zz) := by
  obtain ⟨hx, hb, hml, hown, hts, hnw, hkn, hin⟩ := C
  simp only [sm_act] at hq
  obtain ⟨v, S1, rfl, hr⟩ := sm_i1_inv hq
  clear hq
  have hq := hr
  obtain ⟨hi, hp, hq⟩ := sm_st_inv hq
  have hq := sm_nx_inv hq
  subst hq
  exact sm_s_loc (by rw [List.length_set]) k (fun ls H locs hl w => lv_istore hx hb hd (sm_LR_has hl) hi rfl (fun ls1 hl1 => w ls1 (sm_LR_set hl1 hp)))
theorem sm_s_astore (C : sm_Cx p D s m args meth c y) (n : Nat) (hd : decode (sm_cd y) pc = .ok (.astore n, 2)) (hq : sm_act xs y (.astore n) pc L S h cc zz = some (.inl q)) (k : sm_go p l e s m args below meth c Q D bs b y q) : sm_go p l e s m args below meth c Q D bs b y (pc, L, S, h, cc, zz) := by
  obtain ⟨hx, hb, hml, hown, hts, hnw, hkn, hin⟩ := C
  simp only [sm_act] at hq
  obtain ⟨v, S1, rfl, hr⟩ := sm_r1_inv hq
  clear hq
  have hq := hr
  obtain ⟨hi, hp, hq⟩ := sm_st_inv hq
  have hq := sm_nx_inv hq
  subst hq
  exact sm_s_loc (by rw [List.length_set]) k (fun ls H locs hl w => lv_astore hx hb hd (sm_LR_has hl) hi rfl (fun ls1 hl1 => w ls1 (sm_LR_set hl1 hp)))
theorem sm_s_lstore_n (C : sm_Cx p D s m args meth c y) (n : Fin 4) (hd : decode (sm_cd y) pc = .ok (.lstore_n n, 1)) (hq : sm_act xs y (.lstore_n n) pc L S h cc zz = some (.inl q)) (k : sm_go p l e s m args below meth c Q D bs b y q) : sm_go p l e s m args below meth c Q D bs b y (pc, L, S, h, cc, zz) := by
  obtain ⟨hx, hb, hml, hown, hts, hnw, hkn, hin⟩ := C
  simp only [sm_act] at hq
  obtain ⟨v, S1, rfl, hr⟩ := sm_j1_inv hq
  clear hq
  have hq := hr
  obtain ⟨hi, hp, hq⟩ := sm_st2_inv hq
  have hq := sm_nx_inv hq
  subst hq
  exact sm_s_loc (by rw [List.length_set, List.length_set]) k (fun ls H locs hl w => lv_lstore_n hx hb hd rfl (sm_LR_has hl) hi rfl (fun ls1 hl1 => w ls1 (sm_LR_set2 hi hl1 hp)))
theorem sm_s_lstore (C : sm_Cx p D s m args meth c y) (n : Nat) (hd : decode (sm_cd y) pc = .ok (.lstore n, 2)) (hq : sm_act xs y (.lstore n) pc L S h cc zz = some (.inl q)) (k : sm_go p l e s m args below meth c Q D bs b y q) : sm_go p l e s m args below meth c Q D bs b y (pc, L, S, h, cc, zz) := by
  obtain ⟨hx, hb, hml, hown, hts, hnw, hkn, hin⟩ := C
  simp only [sm_act] at hq
  obtain ⟨v, S1, rfl, hr⟩ := sm_j1_inv hq
  clear hq
  have hq := hr
  obtain ⟨hi, hp, hq⟩ := sm_st2_inv hq
  have hq := sm_nx_inv hq
  subst hq
  exact sm_s_loc (by rw [List.length_set, List.length_set]) k (fun ls H locs hl w => lv_lstore hx hb hd (sm_LR_has hl) hi rfl (fun ls1 hl1 => w ls1 (sm_LR_set2 hi hl1 hp)))
theorem sm_s_iinc (C : sm_Cx p D s m args meth c y) (n : Nat) (i : Int) (hd : decode (sm_cd y) pc = .ok (.iinc n i, 3)) (hq : sm_act xs y (.iinc n i) pc L S h cc zz = some (.inl q)) (k : sm_go p l e s m args below meth c Q D bs b y q) : sm_go p l e s m args below meth c Q D bs b y (pc, L, S, h, cc, zz) := by
  obtain ⟨hx, hb, hml, hown, hts, hnw, hkn, hin⟩ := C
  simp only [sm_act] at hq
  obtain ⟨v, hv, hq⟩ := sm_li_inv hq
  obtain ⟨hi, hp, hq⟩ := sm_st_inv hq
  have hq := sm_nx_inv hq
  subst hq
  refine sm_s_loc (by rw [List.length_set]) k (fun ls H locs hl w => ?_)
  obtain ⟨j, hj⟩ := List.getElem?_of_mem (sm_al_mem.mpr ⟨_, hv, (by intro h; cases h), rfl⟩ : (n, sm_mv bs b (.int v)) ∈ sm_al bs b L)
  exact lv_iinc hx hb hd (sm_LR_has hl) hj rfl hi rfl (fun ls1 hl1 => w ls1 (sm_LR_set hl1 hp))
theorem sm_s_dup (C : sm_Cx p D s m args meth c y)  (hd : decode (sm_cd y) pc = .ok (.dup, 1)) (hq : sm_act xs y (.dup) pc L S h cc zz = some (.inl q)) (k : sm_go p l e s m args below meth c Q D bs b y q) : sm_go p l e s m args below meth c Q D bs b y (pc, L, S, h, cc, zz) := by
  obtain ⟨hx, hb, hml, hown, hts, hnw, hkn, hin⟩ := C
  simp only [sm_act] at hq
  obtain ⟨v, S1, rfl, hc, hr⟩ : ∃ v S1, S = v :: S1 ∧ v.category = 1 ∧ sm_nx (pc + 1) L (v :: v :: S1) h cc zz = some (.inl q) := by
    split at hq
    · obtain ⟨h1, h2⟩ := sm_if_inv hq
      exact ⟨_, _, rfl, h1, h2⟩
    · cases hq
  clear hq
  have hq := hr
  have hq := sm_nx_inv hq
  subst hq
  exact sm_s_gen k (fun ls H locs _ w => lv_dup hx hb hd (by rw [sm_mv_cat]; exact hc) w)
theorem sm_s_pop (C : sm_Cx p D s m args meth c y)  (hd : decode (sm_cd y) pc = .ok (.pop, 1)) (hq : sm_act xs y (.pop) pc L S h cc zz = some (.inl q)) (k : sm_go p l e s m args below meth c Q D bs b y q) : sm_go p l e s m args below meth c Q D bs b y (pc, L, S, h, cc, zz) := by
  obtain ⟨hx, hb, hml, hown, hts, hnw, hkn, hin⟩ := C
  simp only [sm_act] at hq
  obtain ⟨v, S1, rfl, hc, hr⟩ : ∃ v S1, S = v :: S1 ∧ v.category = 1 ∧ sm_nx (pc + 1) L S1 h cc zz = some (.inl q) := by
    split at hq
    · obtain ⟨h1, h2⟩ := sm_if_inv hq
      exact ⟨_, _, rfl, h1, h2⟩
    · cases hq
  clear hq
  have hq := hr
  have hq := sm_nx_inv hq
  subst hq
  exact sm_s_gen k (fun ls H locs _ w => lv_pop hx hb hd (by rw [sm_mv_cat]; exact hc) w)
theorem sm_s_dup2 (C : sm_Cx p D s m args meth c y)  (hd : decode (sm_cd y) pc = .ok (.dup2, 1)) (hq : sm_act xs y (.dup2) pc L S h cc zz = some (.inl q)) (k : sm_go p l e s m args below meth c Q D bs b y q) : sm_go p l e s m args below meth c Q D bs b y (pc, L, S, h, cc, zz) := by
  obtain ⟨hx, hb, hml, hown, hts, hnw, hkn, hin⟩ := C
  simp only [sm_act] at hq
  split at hq
  next v w S1 =>
    by_cases hc : v.category = 1
    · rw [if_pos hc] at hq
      obtain ⟨h1, hq⟩ := sm_if_inv hq
      have hq := sm_nx_inv hq
      subst hq
      exact sm_s_gen k (fun ls H locs _ w => lv_dup2_11 hx hb hd (by rw [sm_mv_cat]; exact hc) (by rw [sm_mv_cat]; exact h1) w)
    · rw [if_neg hc] at hq
      have hq := sm_nx_inv hq
      subst hq
      exact sm_s_gen k (fun ls H locs _ w => lv_dup2_2 hx hb hd (by rw [sm_mv_cat]; exact (lv_cat v).resolve_left hc) w)
  · cases hq
theorem sm_s_if_icmp_eq (C : sm_Cx p D s m args meth c y) (off : Int) (hd : decode (sm_cd y) pc = .ok (.if_icmp .eq off, 3)) (hq : sm_act xs y (.if_icmp .eq off) pc L S h cc zz = some (.inl q)) (k : sm_go p l e s m args below meth c Q D bs b y q) : sm_go p l e s m args below meth c Q D bs b y (pc, L, S, h, cc, zz) := by
  obtain ⟨hx, hb, hml, hown, hts, hnw, hkn, hin⟩ := C
  simp only [sm_act] at hq
  obtain ⟨x1, x2, S1, rfl, hr⟩ := sm_i2_inv hq
  clear hq
  have hq := hr
  unfold sm_br at hq
  obtain ⟨t, ht, hq⟩ := sm_jmp_inv hq
  intro ls H locs h1 h2 h3 h4 h5 h6
  split at hq
  next hc =>
    have hq := sm_nx_inv hq
    subst hq
    have hc := of_decide_eq_true hc
    exact lv_icmp_eq (tgt := t) hx hb hd ht (fun _ => k ls H locs h1 h2 h3 h4 h5 h6) (fun hn => by first | exact absurd hc hn | exact absurd hn hc)
  next hc =>
    have hq := sm_nx_inv hq
    subst hq
    have hc := of_decide_eq_false (Bool.eq_false_iff.mpr hc)
    exact lv_icmp_eq (tgt := t) hx hb hd ht (fun hn => absurd hn hc) (fun _ => k ls H locs h1 h2 h3 h4 h5 h6)
theorem sm_s_ifCond_eq (C : sm_Cx p D s m args meth c y) (off : Int) (hd : decode (sm_cd y) pc = .ok (.ifCond .eq off, 3)) (hq : sm_act xs y (.ifCond .eq off) pc L S h cc zz = some (.inl q)) (k : sm_go p l e s m args below meth c Q D bs b y q) : sm_go p l e s m args below meth c Q D bs b y (pc, L, S, h, cc, zz) := by
  obtain ⟨hx, hb, hml, hown, hts, hnw, hkn, hin⟩ := C
  simp only [sm_act] at hq
  obtain ⟨x1, S1, rfl, hr⟩ := sm_i1_inv hq
  clear hq
  have hq := hr
  unfold sm_br at hq
  obtain ⟨t, ht, hq⟩ := sm_jmp_inv hq
  intro ls H locs h1 h2 h3 h4 h5 h6
  split at hq
  next hc =>
    have hq := sm_nx_inv hq
    subst hq
    have hc := of_decide_eq_true hc
    exact lv_if_eq (tgt := t) hx hb hd ht (fun _ => k ls H locs h1 h2 h3 h4 h5 h6) (fun hn => by first | exact absurd hc hn | exact absurd hn hc)
  next hc =>
    have hq := sm_nx_inv hq
    subst hq
    have hc := of_decide_eq_false (Bool.eq_false_iff.mpr hc)
    exact lv_if_eq (tgt := t) hx hb hd ht (fun hn => absurd hn hc) (fun _ => k ls H locs h1 h2 h3 h4 h5 h6)
theorem sm_s_if_icmp_ne (C : sm_Cx p D s m args meth c y) (off : Int) (hd : decode (sm_cd y) pc = .ok (.if_icmp .ne off, 3)) (hq : sm_act xs y (.if_icmp .ne off) pc L S h cc zz = some (.inl q)) (k : sm_go p l e s m args below meth c Q D bs b y q) : sm_go p l e s m args below meth c Q D bs b y (pc, L, S, h, cc, zz) := by
  obtain ⟨hx, hb, hml, hown, hts, hnw, hkn, hin⟩ := C
  simp only [sm_act] at hq
  obtain ⟨x1, x2, S1, rfl, hr⟩ := sm_i2_inv hq
  clear hq
  have hq := hr
  unfold sm_br at hq
  obtain ⟨t, ht, hq⟩ := sm_jmp_inv hq
  intro ls H locs h1 h2 h3 h4 h5 h6
  split at hq
  next hc =>
    have hq := sm_nx_inv hq
    subst hq
    have hc := of_decide_eq_true hc
    exact lv_icmp_ne (tgt := t) hx hb hd ht (fun _ => k ls H locs h1 h2 h3 h4 h5 h6) (fun hn => by first | exact absurd hc hn | exact absurd hn hc)
  next hc =>
    have hq := sm_nx_inv hq
    subst hq
    have hc := of_decide_eq_false (Bool.eq_false_iff.mpr hc)
    exact lv_icmp_ne (tgt := t) hx hb hd ht (fun hn => absurd hn hc) (fun _ => k ls H locs h1 h2 h3 h4 h5 h6)
theorem sm_s_ifCond_ne (C : sm_Cx p D s m args meth c y) (off : Int) (hd : decode (sm_cd y) pc = .ok (.ifCond .ne off, 3)) (hq : sm_act xs y (.ifCond .ne off) pc L S h cc zz = some (.inl q)) (k : sm_go p l e s m args below meth c Q D bs b y q) : sm_go p l e s m args below meth c Q D bs b y (pc, L, S, h, cc, zz) := by
  obtain ⟨hx, hb, hml, hown, hts, hnw, hkn, hin⟩ := C
  simp only [sm_act] at hq
  obtain ⟨x1, S1, rfl, hr⟩ := sm_i1_inv hq
  clear hq
  have hq := hr
  unfold sm_br at hq
  obtain ⟨t, ht, hq⟩ := sm_jmp_inv hq
  intro ls H locs h1 h2 h3 h4 h5 h6
  split at hq
  next hc =>
    have hq := sm_nx_inv hq
    subst hq
    have hc := of_decide_eq_true hc
    exact lv_if_ne (tgt := t) hx hb hd ht (fun _ => k ls H locs h1 h2 h3 h4 h5 h6) (fun hn => by first | exact absurd hc hn | exact absurd hn hc)
  next hc =>
    have hq := sm_nx_inv hq
    subst hq
    have hc := of_decide_eq_false (Bool.eq_false_iff.mpr hc)
    exact lv_if_ne (tgt := t) hx hb hd ht (fun hn => absurd hn hc) (fun _ => k ls H locs h1 h2 h3 h4 h5 h6)
theorem sm_s_if_icmp_lt (C : sm_Cx p D s m args meth c y) (off : Int) (hd : decode (sm_cd y) pc = .ok (.if_icmp .lt off, 3)) (hq : sm_act xs y (.if_icmp .lt off) pc L S h cc zz = some (.inl q)) (k : sm_go p l e s m args below meth c Q D bs b y q) : sm_go p l e s m args below meth c Q D bs b y (pc, L, S, h, cc, zz) := by
  obtain ⟨hx, hb, hml, hown, hts, hnw, hkn, hin⟩ := C
  simp only [sm_act] at hq
  obtain ⟨x1, x2, S1, rfl, hr⟩ := sm_i2_inv hq
  clear hq
  have hq := hr
  unfold sm_br at hq
  obtain ⟨t, ht, hq⟩ := sm_jmp_inv hq
  intro ls H locs h1 h2 h3 h4 h5 h6
  split at hq
  next hc =>
    have hq := sm_nx_inv hq
    subst hq
    have hc := of_decide_eq_true hc
    exact lv_icmp_lt (tgt := t) hx hb hd ht (fun _ => k ls H locs h1 h2 h3 h4 h5 h6) (fun hn => by first | exact absurd hc hn | exact absurd hn hc)
  next hc =>
    have hq := sm_nx_inv hq
    subst hq
    have hc := of_decide_eq_false (Bool.eq_false_iff.mpr hc)
    exact lv_icmp_lt (tgt := t) hx hb hd ht (fun hn => absurd hn hc) (fun _ => k ls H locs h1 h2 h3 h4 h5 h6)
theorem sm_s_ifCond_lt (C : sm_Cx p D s m args meth c y) (off : Int) (hd : decode (sm_cd y) pc = .ok (.ifCond .lt off, 3)) (hq : sm_act xs y (.ifCond .lt off) pc L S h cc zz = some (.inl q)) (k : sm_go p l e s m args below meth c Q D bs b y q) : sm_go p l e s m args below meth c Q D bs b y (pc, L, S, h, cc, zz) := by
  obtain ⟨hx, hb, hml, hown, hts, hnw, hkn, hin⟩ := C
  simp only [sm_act] at hq
  obtain ⟨x1, S1, rfl, hr⟩ := sm_i1_inv hq
  clear hq
  have hq := hr
  unfold sm_br at hq
  obtain ⟨t, ht, hq⟩ := sm_jmp_inv hq
  intro ls H locs h1 h2 h3 h4 h5 h6
  split at hq
  next hc =>
    have hq := sm_nx_inv hq
    subst hq
    have hc := of_decide_eq_true hc
    exact lv_if_lt (tgt := t) hx hb hd ht (fun _ => k ls H locs h1 h2 h3 h4 h5 h6) (fun hn => by first | exact absurd hc hn | exact absurd hn hc)
  next hc =>
    have hq := sm_nx_inv hq
    subst hq
    have hc := of_decide_eq_false (Bool.eq_false_iff.mpr hc)
    exact lv_if_lt (tgt := t) hx hb hd ht (fun hn => absurd hn hc) (fun _ => k ls H locs h1 h2 h3 h4 h5 h6)
theorem sm_s_if_icmp_ge (C : sm_Cx p D s m args meth c y) (off : Int) (hd : decode (sm_cd y) pc = .ok (.if_icmp .ge off, 3)) (hq : sm_act xs y (.if_icmp .ge off) pc L S h cc zz = some (.inl q)) (k : sm_go p l e s m args below meth c Q D bs b y q) : sm_go p l e s m args below meth c Q D bs b y (pc, L, S, h, cc, zz) := by
  obtain ⟨hx, hb, hml, hown, hts, hnw, hkn, hin⟩ := C
  simp only [sm_act] at hq
  obtain ⟨x1, x2, S1, rfl, hr⟩ := sm_i2_inv hq
  clear hq
  have hq := hr
  unfold sm_br at hq
  obtain ⟨t, ht, hq⟩ := sm_jmp_inv hq
  intro ls H locs h1 h2 h3 h4 h5 h6
  split at hq
  next hc =>
    have hq := sm_nx_inv hq
    subst hq
    have hc := of_decide_eq_true hc
    exact lv_icmp_ge (tgt := t) hx hb hd ht (fun _ => k ls H locs h1 h2 h3 h4 h5 h6) (fun hn => by first | exact absurd hc hn | exact absurd hn hc)
  next hc =>
    have hq := sm_nx_inv hq
    subst hq
    have hc := of_decide_eq_false (Bool.eq_false_iff.mpr hc)
    exact lv_icmp_ge (tgt := t) hx hb hd ht (fun hn => absurd hn hc) (fun _ => k ls H locs h1 h2 h3 h4 h5 h6)
theorem sm_s_ifCond_ge (C : sm_Cx p D s m args meth c y) (off : Int) (hd : decode (sm_cd y) pc = .ok (.ifCond .ge off, 3)) (hq : sm_act xs y (.ifCond .ge off) pc L S h cc zz = some (.inl q)) (k : sm_go p l e s m args below meth c Q D bs b y q) : sm_go p l e s m args below meth c Q D bs b y (pc, L, S, h, cc, zz) := by
  obtain ⟨hx, hb, hml, hown, hts, hnw, hkn, hin⟩ := C
  simp only [sm_act] at hq
  obtain ⟨x1, S1, rfl, hr⟩ := sm_i1_inv hq
  clear hq
  have hq := hr
  unfold sm_br at hq
  obtain ⟨t, ht, hq⟩ := sm_jmp_inv hq
  intro ls H locs h1 h2 h3 h4 h5 h6
  split at hq
  next hc =>
    have hq := sm_nx_inv hq
    subst hq
    have hc := of_decide_eq_true hc
    exact lv_if_ge (tgt := t) hx hb hd ht (fun _ => k ls H locs h1 h2 h3 h4 h5 h6) (fun hn => by first | exact absurd hc hn | exact absurd hn hc)
  next hc =>
    have hq := sm_nx_inv hq
    subst hq
    have hc := of_decide_eq_false (Bool.eq_false_iff.mpr hc)
    exact lv_if_ge (tgt := t) hx hb hd ht (fun hn => absurd hn hc) (fun _ => k ls H locs h1 h2 h3 h4 h5 h6)
theorem sm_s_if_icmp_gt (C : sm_Cx p D s m args meth c y) (off : Int) (hd : decode (sm_cd y) pc = .ok (.if_icmp .gt off, 3)) (hq : sm_act xs y (.if_icmp .gt off) pc L S h cc zz = some (.inl q)) (k : sm_go p l e s m args below meth c Q D bs b y q) : sm_go p l e s m args below meth c Q D bs b y (pc, L, S, h, cc, zz) := by
  obtain ⟨hx, hb, hml, hown, hts, hnw, hkn, hin⟩ := C
  simp only [sm_act] at hq
  obtain ⟨x1, x2, S1, rfl, hr⟩ := sm_i2_inv hq
  clear hq
  have hq := hr
  unfold sm_br at hq
  obtain ⟨t, ht, hq⟩ := sm_jmp_inv hq
  intro ls H locs h1 h2 h3 h4 h5 h6
  split at hq
  next hc =>
    have hq := sm_nx_inv hq
    subst hq
    have hc := of_decide_eq_true hc
    exact lv_icmp_gt (tgt := t) hx hb hd ht (fun _ => k ls H locs h1 h2 h3 h4 h5 h6) (fun hn => by first | exact absurd hc hn | exact absurd hn hc)
  next hc =>
    have hq := sm_nx_inv hq
    subst hq
    have hc := of_decide_eq_false (Bool.eq_false_iff.mpr hc)
    exact lv_icmp_gt (tgt := t) hx hb hd ht (fun hn => absurd hn hc) (fun _ => k ls H locs h1 h2 h3 h4 h5 h6)
theorem sm_s_ifCond_gt (C : sm_Cx p D s m args meth c y) (off : Int) (hd : decode (sm_cd y) pc = .ok (.ifCond .gt off, 3)) (hq : sm_act xs y (.ifCond .gt off) pc L S h cc zz = some (.inl q)) (k : sm_go p l e s m args below meth c Q D bs b y q) : sm_go p l e s m args below meth c Q D bs b y (pc, L, S, h, cc, zz) := by
  obtain ⟨hx, hb, hml, hown, hts, hnw, hkn, hin⟩ := C
  simp only [sm_act] at hq
  obtain ⟨x1, S1, rfl, hr⟩ := sm_i1_inv hq
  clear hq
  have hq := hr
  unfold sm_br at hq
  obtain ⟨t, ht, hq⟩ := sm_jmp_inv hq
  intro ls H locs h1 h2 h3 h4 h5 h6
  split at hq
  next hc =>
    have hq := sm_nx_inv hq
    subst hq
    have hc := of_decide_eq_true hc
    exact lv_if_gt (tgt := t) hx hb hd ht (fun _ => k ls H locs h1 h2 h3 h4 h5 h6) (fun hn => by first | exact absurd hc hn | exact absurd hn hc)
  next hc =>
    have hq := sm_nx_inv hq
    subst hq
    have hc := of_decide_eq_false (Bool.eq_false_iff.mpr hc)
    exact lv_if_gt (tgt := t) hx hb hd ht (fun hn => absurd hn hc) (fun _ => k ls H locs h1 h2 h3 h4 h5 h6)
theorem sm_s_if_icmp_le (C : sm_Cx p D s m args meth c y) (off : Int) (hd : decode (sm_cd y) pc = .ok (.if_icmp .le off, 3)) (hq : sm_act xs y (.if_icmp .le off) pc L S h cc zz = some (.inl q)) (k : sm_go p l e s m args below meth c Q D bs b y q) : sm_go p l e s m args below meth c Q D bs b y (pc, L, S, h, cc, zz) := by
  obtain ⟨hx, hb, hml, hown, hts, hnw, hkn, hin⟩ := C
  simp only [sm_act] at hq
  obtain ⟨x1, x2, S1, rfl, hr⟩ := sm_i2_inv hq
  clear hq
  have hq := hr
  unfold sm_br at hq
  obtain ⟨t, ht, hq⟩ := sm_jmp_inv hq
  intro ls H locs h1 h2 h3 h4 h5 h6
  split at hq
  next hc =>
    have hq := sm_nx_inv hq
    subst hq
    have hc := of_decide_eq_true hc
    exact lv_icmp_le (tgt := t) hx hb hd ht (fun _ => k ls H locs h1 h2 h3 h4 h5 h6) (fun hn => by first | exact absurd hc hn | exact absurd hn hc)
  next hc =>
    have hq := sm_nx_inv hq
    subst hq
    have hc := of_decide_eq_false (Bool.eq_false_iff.mpr hc)
    exact lv_icmp_le (tgt := t) hx hb hd ht (fun hn => absurd hn hc) (fun _ => k ls H locs h1 h2 h3 h4 h5 h6)
theorem sm_s_ifCond_le (C : sm_Cx p D s m args meth c y) (off : Int) (hd : decode (sm_cd y) pc = .ok (.ifCond .le off, 3)) (hq : sm_act xs y (.ifCond .le off) pc L S h cc zz = some (.inl q)) (k : sm_go p l e s m args below meth c Q D bs b y q) : sm_go p l e s m args below meth c Q D bs b y (pc, L, S, h, cc, zz) := by
  obtain ⟨hx, hb, hml, hown, hts, hnw, hkn, hin⟩ := C
  simp only [sm_act] at hq
  obtain ⟨x1, S1, rfl, hr⟩ := sm_i1_inv hq
  clear hq
  have hq := hr
  unfold sm_br at hq
  obtain ⟨t, ht, hq⟩ := sm_jmp_inv hq
  intro ls H locs h1 h2 h3 h4 h5 h6
  split at hq
  next hc =>
    have hq := sm_nx_inv hq
    subst hq
    have hc := of_decide_eq_true hc
    exact lv_if_le (tgt := t) hx hb hd ht (fun _ => k ls H locs h1 h2 h3 h4 h5 h6) (fun hn => by first | exact absurd hc hn | exact absurd hn hc)
  next hc =>
    have hq := sm_nx_inv hq
    subst hq
    have hc := of_decide_eq_false (Bool.eq_false_iff.mpr hc)
    exact lv_if_le (tgt := t) hx hb hd ht (fun hn => absurd hn hc) (fun _ => k ls H locs h1 h2 h3 h4 h5 h6)
theorem sm_s_goto (C : sm_Cx p D s m args meth c y) (off : Int) (hd : decode (sm_cd y) pc = .ok (.goto off, 3)) (hq : sm_act xs y (.goto off) pc L S h cc zz = some (.inl q)) (k : sm_go p l e s m args below meth c Q D bs b y q) : sm_go p l e s m args below meth c Q D bs b y (pc, L, S, h, cc, zz) := by
  obtain ⟨hx, hb, hml, hown, hts, hnw, hkn, hin⟩ := C
  simp only [sm_act] at hq
  obtain ⟨t, ht, hq⟩ := sm_jmp_inv hq
  have hq := sm_nx_inv hq
  subst hq
  exact sm_s_gen k (fun ls H locs _ w => lv_goto hx hb hd ht w)
theorem sm_s_tableswitch (C : sm_Cx p D s m args meth c y) (d lo hi : Int) (offs : Array Int) (len : Nat) (hd : decode (sm_cd y) pc = .ok (.tableswitch d lo hi offs, len)) (hq : sm_act xs y (.tableswitch d lo hi offs) pc L S h cc zz = some (.inl q)) (k : sm_go p l e s m args below meth c Q D bs b y q) : sm_go p l e s m args below meth c Q D bs b y (pc, L, S, h, cc, zz) := by
  obtain ⟨hx, hb, hml, hown, hts, hnw, hkn, hin⟩ := C
  simp only [sm_act] at hq
  obtain ⟨x, S1, rfl, hr⟩ := sm_i1_inv hq
  clear hq
  have hq := hr
  unfold sm_swt at hq
  split at hq
  next hc =>
    obtain ⟨t, ht, hq⟩ := sm_jmp_inv hq
    have hq := sm_nx_inv hq
    subst hq
    exact sm_s_gen k (fun ls H locs _ w => lv_tableOut hx hb hd hc ht w)
  next hc =>
    split at hq
    next off hoff =>
      obtain ⟨t, ht, hq⟩ := sm_jmp_inv hq
      have hq := sm_nx_inv hq
      subst hq
      exact sm_s_gen k (fun ls H locs _ w => lv_tableIn hx hb hd (fun z => hc (Or.inl z)) (fun z => hc (Or.inr z)) (by rw [← Array.getElem?_toList]; exact hoff) ht w)
    · cases hq
theorem sm_s_lookupswitch (C : sm_Cx p D s m args meth c y) (d : Int) (ps : Array (Int × Int)) (len : Nat) (hd : decode (sm_cd y) pc = .ok (.lookupswitch d ps, len)) (hq : sm_act xs y (.lookupswitch d ps) pc L S h cc zz = some (.inl q)) (k : sm_go p l e s m args below meth c Q D bs b y q) : sm_go p l e s m args below meth c Q D bs b y (pc, L, S, h, cc, zz) := by
  obtain ⟨hx, hb, hml, hown, hts, hnw, hkn, hin⟩ := C
  simp only [sm_act] at hq
  obtain ⟨hp, hq⟩ := sm_if_inv hq
  obtain ⟨x, S1, rfl, hr⟩ := sm_i1_inv hq
  clear hq
  have hq := hr
  obtain ⟨t, ht, hq⟩ := sm_jmp_inv hq
  have hq := sm_nx_inv hq
  subst hq
  exact sm_s_gen k (fun ls H locs _ w => lv_lookup hx hb hd hp rfl ht w)
theorem sm_s_ldc (C : sm_Cx p D s m args meth c y) (n : Nat) (hd : decode (sm_cd y) pc = .ok (.ldc n, 2)) (hq : sm_act xs y (.ldc n) pc L S h cc zz = some (.inl q)) (k : sm_go p l e s m args below meth c Q D bs b y q) : sm_go p l e s m args below meth c Q D bs b y (pc, L, S, h, cc, zz) := by
  obtain ⟨hx, hb, hml, hown, hts, hnw, hkn, hin⟩ := C
  simp only [sm_act] at hq
  obtain ⟨v, pl, hv, hq⟩ : ∃ v pl, sm_look sm_kt (sm_oc y) n = some (v, pl) ∧ sm_nx (pc + 2) L (.int v :: S) h cc zz = some (.inl q) := by
    split at hq
    next v pl hv => exact ⟨v, pl, hv, hq⟩
    · cases hq
  have h9 := List.all_eq_true.mp sm_all_K _ (sm_look_mem hv)
  have hq := sm_nx_inv hq
  subst hq
  exact sm_s_gen k (fun ls H locs _ w => lv_ldc hx hb hown (hts _ (sm_in (of_decide_eq_true h9) rfl)) hd w)
theorem sm_s_ldc_w (C : sm_Cx p D s m args meth c y) (n : Nat) (hd : decode (sm_cd y) pc = .ok (.ldc_w n, 3)) (hq : sm_act xs y (.ldc_w n) pc L S h cc zz = some (.inl q)) (k : sm_go p l e s m args below meth c Q D bs b y q) : sm_go p l e s m args below meth c Q D bs b y (pc, L, S, h, cc, zz) := by
  obtain ⟨hx, hb, hml, hown, hts, hnw, hkn, hin⟩ := C
  simp only [sm_act] at hq
  obtain ⟨v, pl, hv, hq⟩ : ∃ v pl, sm_look sm_kt (sm_oc y) n = some (v, pl) ∧ sm_nx (pc + 3) L (.int v :: S) h cc zz = some (.inl q) := by
    split at hq
    next v pl hv => exact ⟨v, pl, hv, hq⟩
    · cases hq
  have h9 := List.all_eq_true.mp sm_all_K _ (sm_look_mem hv)
  have hq := sm_nx_inv hq
  subst hq
  exact sm_s_gen k (fun ls H locs _ w => lv_ldcw hx hb hown (hts _ (sm_in (of_decide_eq_true h9) rfl)) hd w)
theorem sm_s_ldc2_w (C : sm_Cx p D s m args meth c y) (n : Nat) (hd : decode (sm_cd y) pc = .ok (.ldc2_w n, 3)) (hq : sm_act xs y (.ldc2_w n) pc L S h cc zz = some (.inl q)) (k : sm_go p l e s m args below meth c Q D bs b y q) : sm_go p l e s m args below meth c Q D bs b y (pc, L, S, h, cc, zz) := by
  obtain ⟨hx, hb, hml, hown, hts, hnw, hkn, hin⟩ := C
  simp only [sm_act] at hq
  obtain ⟨v, pl, hv, hq⟩ : ∃ v pl, sm_look sm_jt (sm_oc y) n = some (v, pl) ∧ sm_nx (pc + 3) L (.long v :: S) h cc zz = some (.inl q) := by
    split at hq
    next v pl hv => exact ⟨v, pl, hv, hq⟩
    · cases hq
  have h9 := List.all_eq_true.mp sm_all_J _ (sm_look_mem hv)
  have hq := sm_nx_inv hq
  subst hq
  exact sm_s_gen k (fun ls H locs _ w => lv_ldc2 hx hb hown (hts _ (sm_in (of_decide_eq_true h9) rfl)) hd w)
end SMT
