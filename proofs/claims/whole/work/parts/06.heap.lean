/-! ONE STEP, the heap's instructions -/
section SMH
variable {p : Program} {l : Launch} {e : Env} {s : State} {m : MethodId} {args : Array Value} {below : List Frame} {meth : Method} {c : Code} {Q : State → Prop} {D : va_G} {bs b y : Nat} {pc cc zz : Nat} {L S : List Value} {h : sm_Hp} {q : sm_Cf} {xs : List Int32}
theorem sm_ft_spec {o idx ci k pl : Nat} (hv : sm_look sm_ft o idx = some (ci, k, pl)) : ci < 7 ∧ k < sm_N ci ∧ Cond.fieldLink (sm_cn o) idx (sm_T ci k).1 (sm_T ci k).2.1 (sm_T ci k).2.2.1 ∈ sm_tb := by
  have h9 := List.all_eq_true.mp sm_all_F _ (sm_look_mem hv)
  simp only [sm_okF, Bool.and_eq_true, decide_eq_true_eq] at h9
  exact ⟨h9.2.1, h9.2.2, sm_in h9.1 rfl⟩
def sm_tyok : FieldType → Bool
  | .int => true
  | .boolean => true
  | .long => true
  | .object _ => true
  | .array _ => true
  | _ => false
theorem sm_tyoks : ∀ ci, ci < 7 → ∀ k, k < sm_N ci → sm_tyok (sm_ty ci k) = true := by decide +kernel
theorem sm_fits_mv {ty : FieldType} {v : Value} (bs b : Nat) (ht : sm_tyok ty = true) (hf : fits ty v = true) : fits ty (sm_mv bs b v) = true ∧ narrow ty (sm_mv bs b v) = sm_mv bs b v := by
  cases ty <;> first | (simp [sm_tyok] at ht; done) | skip
  all_goals cases v <;> first | (simp [fits] at hf; done) | (refine ⟨?_, ?_⟩ <;> rfl) | skip
  next x =>
    simp [fits] at hf
    rcases hf with rfl | rfl <;> exact ⟨rfl, rfl⟩
theorem sm_slots (hts : ∀ w ∈ sm_tb, w.before args s = true) (hkn : sm_KN D s) {ci : Nat} (hc : ci < 7) : ∀ x y, x < sm_N ci → y < sm_N ci → x ≠ y → D.2 ci x ≠ D.2 ci y := by
  intro x y hx hy hne
  obtain ⟨hS, -⟩ := hkn ci hc
  obtain ⟨_, _, _, fa, hia, ea⟩ := hS x hx
  obtain ⟨_, _, _, fb, hib, eb⟩ := hS y hy
  rw [← ea, ← eb]
  refine u_apart (u_lays hts (sm_uw ci hc) hx) (u_lays hts (sm_uw ci hc) hy) hia hib ?_
  rw [(State.fieldFound?_type hia (sm_types ci hc x hx)).1, (State.fieldFound?_type hib (sm_types ci hc y hy)).1]
  exact sm_names ci hc x hx y hy hne
theorem sm_s_getfield (C : sm_Cx p D s m args meth c y) (n : Nat) (hd : decode (sm_cd y) pc = .ok (.getfield n, 3)) (hq : sm_act xs y (.getfield n) pc L S h cc zz = some (.inl q)) (k : sm_go p l e s m args below meth c Q D bs b y q) : sm_go p l e s m args below meth c Q D bs b y (pc, L, S, h, cc, zz) := by
  obtain ⟨hx, hb, hml, hown, hts, hnw, hkn, hin⟩ := C
  simp only [sm_act] at hq
  split at hq
  · cases hq
  next ci kk pl hlk =>
    obtain ⟨hc7, hkN, hw⟩ := sm_ft_spec hlk
    obtain ⟨a, S1, rfl, hr⟩ := sm_r1_inv hq
    clear hq
    obtain ⟨hci, hr⟩ := sm_if_inv hr
    split at hr
    next v hv =>
      have hr := sm_nx_inv hr
      subst hr
      intro ls H locs h1 h2 h3 h4 h5 h6
      dsimp only at h1 h2 h3 h5 h6 ⊢
      obtain ⟨ha, -, hlen, cell, hcell, hcls, hvm, hsl⟩ := h3.obj hci hc7
      obtain ⟨hS, hfc, kC, hkC, hkind⟩ := hkn ci hc7
      obtain ⟨cf, kf, fi, f, hi, hslot⟩ := hS kk hkN
      have hs2 := hsl kk v hv
      rw [hci, ← hslot] at hs2
      exact W.getf hx hb hown (hts _ hw) hi (u_facts hfc hkC (u_lays hts (sm_uw ci hc7) hkN) hi).1 hcell (by rw [hvm]; exact fun h => by cases h) hs2 rfl rfl hd (k ls H locs h1 h2 h3 h4 h5 h6)
    · cases hr
theorem sm_s_putfield (C : sm_Cx p D s m args meth c y) (n : Nat) (hd : decode (sm_cd y) pc = .ok (.putfield n, 3)) (hq : sm_act xs y (.putfield n) pc L S h cc zz = some (.inl q)) (k : sm_go p l e s m args below meth c Q D bs b y q) : sm_go p l e s m args below meth c Q D bs b y (pc, L, S, h, cc, zz) := by
  obtain ⟨hx, hb, hml, hown, hts, hnw, hkn, hin⟩ := C
  simp only [sm_act, sm_put] at hq
  split at hq
  · cases hq
  next ci kk pl hlk =>
    obtain ⟨hc7, hkN, hw⟩ := sm_ft_spec hlk
    split at hq
    next v a S1 =>
      obtain ⟨⟨hci, hfit, hfin⟩, hr⟩ := sm_if_inv hq
      have hr := sm_nx_inv hr
      subst hr
      intro ls H locs h1 h2 h3 h4 h5 h6
      dsimp only at h1 h2 h3 h5 h6 ⊢
      obtain ⟨ha, -, hlen, cell, hcell, hcls, hvm, hsl⟩ := h3.obj hci hc7
      obtain ⟨hS, hfc, kC, hkC, hkind⟩ := hkn ci hc7
      obtain ⟨cf, kf, fi, f, hi, hslot⟩ := hS kk hkN
      obtain ⟨hf1, hf2⟩ := sm_fits_mv bs b (sm_tyoks ci hc7 kk hkN) hfit
      have hst := (u_facts hfc hkC (u_lays hts (sm_uw ci hc7) hkN) hi).1
      rw [hci] at hcls hsl hlen
      have hall : ∀ j, j < sm_N ci → cell.slots[D.2 ci j]? = some (sm_mv bs b ((h.1 a).2.getD j .null)) := fun j hj => by
        have : (h.1 a).2[j]? = some ((h.1 a).2.getD j .null) := by
          rw [List.getD_eq_getElem?_getD, List.getElem?_eq_getElem (by omega)]
          rfl
        exact hsl j _ this
      have hset := t_set hall (sm_slots hts hkn hc7) hkN (sm_mv bs b v)
      have fin : ∀ (H1 : Heap) (locs1 : List Loc), H1[bs + a]? = some (cell.setSlot f.slot (sm_mv bs b v)) → H1.size = H.size → (∀ q, q ≠ bs + a → H1[q]? = H[q]?) → W p l e (sm_R y) s m args below meth c H1 (locs ++ [⟨bs + a, f.slot⟩]) cc zz Q (F0 m (pc + 3) ls (S1.map (sm_mv bs b))) := by
        intro H1 locs1 e1 e2 e3
        refine k ls H1 _ h1 h2 (h3.set ha _ e2 e3 (Or.inl ⟨hc7, by rw [List.length_set]; exact hlen, _, e1, by rw [← hcls]; rfl, by rw [← hvm]; rfl, fun j w hj => ?_⟩)) (h4.put e2 e3 (Nat.le_add_right bs a)) h5 h6
        have hjN : j < sm_N ci := by
          have := (List.getElem?_eq_some_iff.mp hj).1
          rw [List.length_set] at this
          omega
        rw [hslot]
        refine (hset j hjN).trans ?_
        by_cases ej : j = kk
        · subst ej
          rw [List.getElem?_set_self (by omega)] at hj
          cases hj
          simp [updV]
        · rw [List.getElem?_set_ne (Ne.symm ej)] at hj
          simp [updV, ej, hj]
      have hlt : f.slot < cell.slots.size := by rw [hslot]; exact k2_hasslot (hall kk hkN)
      have hlay := hts _ (sm_uw ci hc7 _ (u_in_lay hkN))
      unfold u_lay at hlay
      by_cases hff : (sm_T ci kk).2.2.2 = true
      · rw [if_pos hff] at hlay
        rcases hfin with hfin | ⟨hname, hdecl⟩
        · rw [hff] at hfin; cases hfin
        have hcf : m.cls = cf := by
          obtain ⟨_, _, c', _, _, _, -, -, hf', -, -, -, hown2, -⟩ := Cond.laysFinal_spec hlay
          have e1 : c' = cf := by have := hi.symm.trans hf'; simp at this; exact this.1.symm
          rw [hdecl] at hown2
          rw [← e1]; exact Option.some.inj (hown.symm.trans hown2)
        have h6' := u_fits hfc hkC hkind (Or.inr hlay) hi (sm_types ci hc7 kk hkN) hf2 hf1
        exact W.putFinK hx hb hown (hts _ hw) hi hst hcf (hin hname) (by rw [hcls]; exact h6') hcell hvm hlt rfl rfl hd (fun H1 e1 e2 e3 => fin H1 [] e1 e2 e3)
      · rw [if_neg hff] at hlay
        have h6' := u_store hfc hkC hkind hlay hi (sm_types ci hc7 kk hkN) hf2 hf1
        exact W.putK hx hb (f := f) ⟨hown, hts _ hw, ⟨_, _, _, hi⟩, hst⟩ (by rw [hcls]; exact h6') hcell hvm hlt rfl rfl hd (fun H1 e1 e2 e3 => fin H1 [] e1 e2 e3)
    · cases hq
theorem sm_ldi_inv {tag : Nat} {h : sm_Hp} {a : Nat} {i : Int32} {f : Value → Option sm_Ac} {r : sm_Ac} (hq : sm_ldi tag h a i f = some r) : (h.1 a).1 = tag ∧ ¬ i < 0 ∧ ∃ v, (h.1 a).2[i.toNatClampNeg]? = some v ∧ f v = some r := by
  unfold sm_ldi at hq
  obtain ⟨⟨h1, h2⟩, hq⟩ := sm_if_inv hq
  split at hq
  next v hv => exact ⟨h1, h2, v, hv, hq⟩
  · cases hq
/-- an array's element, read -/
theorem sm_rd {H : Heap} (h3 : sm_HR D bs b s H h) {a tag : Nat} {i : Int32} {v : Value} (ht : (h.1 a).1 = tag) (h10 : 10 ≤ tag) (h14 : tag ≤ 14) (hi : ¬ i < 0) (hv : (h.1 a).2[i.toNatClampNeg]? = some v) :
    ∃ (ty : FieldType) (cell : Cell), sm_kd tag = some ty ∧ H[bs + a]? = some cell ∧ s.isArrayOf cell ty ∧ cell.vm = .none ∧ ¬ (i < 0 ∨ cell.slots.size ≤ i.toNatClampNeg) ∧ cell.slots[i.toNatClampNeg]? = some (sm_mv bs b v) ∧ sm_vk tag v = true := by
  obtain ⟨ha, ty, cA, zf, k1, k2, k3, k4, k5⟩ := h3.arr ht h10 h14
  have hlt := (List.getElem?_eq_some_iff.mp hv).1
  obtain ⟨e1, e2⟩ := k5 _ v hv
  rw [ht] at k1 e2
  refine ⟨ty, _, k1, k4, k2 _ _, rfl, ?_, ?_, e2⟩
  · rw [arrV_size]
    rintro (z | z)
    · exact hi z
    · omega
  · rw [arrV_read _ _ hlt, e1]
theorem sm_s_iaload (C : sm_Cx p D s m args meth c y) (hX : sm_X b bs xs y s) (hd : decode (sm_cd y) pc = .ok (.iaload, 1)) (hq : sm_act xs y .iaload pc L S h cc zz = some (.inl q)) (k : sm_go p l e s m args below meth c Q D bs b y q) : sm_go p l e s m args below meth c Q D bs b y (pc, L, S, h, cc, zz) := by
  obtain ⟨hx, hb, hml, hown, hts, hnw, hkn, hin⟩ := C
  simp only [sm_act, sm_iald] at hq
  split at hq
  next i a S1 =>
    obtain ⟨ht, hi, v, hv, hr⟩ := sm_ldi_inv hq
    have hr := sm_nx_inv hr
    subst hr
    intro ls H locs h1 h2 h3 h4 h5 h6
    dsimp only at h1 h2 h3 h5 h6 ⊢
    obtain ⟨ty, cell, e1, e2, e3, e4, e5, e6, e7⟩ := sm_rd h3 ht (by omega) (by omega) hi hv
    cases e1
    exact W.iald hx hb e2 e3 (by rw [e4]; exact fun h => by cases h) e5 e6 rfl rfl hd (k ls H locs h1 h2 h3 h4 h5 h6)
  next i a S1 =>
    obtain ⟨⟨hy, hi⟩, hr⟩ := sm_if_inv hq
    split at hr
    next v hv =>
      have hr := sm_nx_inv hr
      subst hr
      intro ls H locs h1 h2 h3 h4 h5 h6
      dsimp only at h1 h2 h3 h5 h6 ⊢
      obtain ⟨g1, g2, g3⟩ := hX hy
      have hlt := (List.getElem?_eq_some_iff.mp hv).1
      refine va_sld (A := sm_A bs) hx hb g1 g2 (by show ¬ bs ≤ b; omega) h4 (i := i) (fun z => ?_) hd ?_
      · rcases z with z | z
        · exact hi z
        · omega
      · have hg : xs.getD i.toNatClampNeg 0 = v := by rw [List.getD_eq_getElem?_getD, hv]; rfl
        rw [hg]
        exact k ls H locs h1 h2 h3 h4 h5 h6
    · cases hr
  · cases hq
theorem sm_s_laload (C : sm_Cx p D s m args meth c y) (hd : decode (sm_cd y) pc = .ok (.laload, 1)) (hq : sm_act xs y .laload pc L S h cc zz = some (.inl q)) (k : sm_go p l e s m args below meth c Q D bs b y q) : sm_go p l e s m args below meth c Q D bs b y (pc, L, S, h, cc, zz) := by
  obtain ⟨hx, hb, hml, hown, hts, hnw, hkn, hin⟩ := C
  simp only [sm_act] at hq
  obtain ⟨a, i, S1, rfl, hr⟩ := sm_ai_inv hq
  obtain ⟨ht, hi, v, hv, hr⟩ := sm_ldi_inv hr
  have hr := sm_nx_inv hr
  subst hr
  intro ls H locs h1 h2 h3 h4 h5 h6
  dsimp only at h1 h2 h3 h5 h6 ⊢
  obtain ⟨ty, cell, e1, e2, e3, e4, e5, e6, e7⟩ := sm_rd h3 ht (by omega) (by omega) hi hv
  cases e1
  exact W.lald hx hb e2 e3 (by rw [e4]; exact fun h => by cases h) e5 e6 rfl rfl hd (k ls H locs h1 h2 h3 h4 h5 h6)
theorem sm_s_baload (C : sm_Cx p D s m args meth c y) (hd : decode (sm_cd y) pc = .ok (.baload, 1)) (hq : sm_act xs y .baload pc L S h cc zz = some (.inl q)) (k : sm_go p l e s m args below meth c Q D bs b y q) : sm_go p l e s m args below meth c Q D bs b y (pc, L, S, h, cc, zz) := by
  obtain ⟨hx, hb, hml, hown, hts, hnw, hkn, hin⟩ := C
  simp only [sm_act] at hq
  obtain ⟨a, i, S1, rfl, hr⟩ := sm_ai_inv hq
  obtain ⟨ht, hi, v, hv, hr⟩ := sm_ldi_inv hr
  have hr := sm_nx_inv hr
  subst hr
  intro ls H locs h1 h2 h3 h4 h5 h6
  dsimp only at h1 h2 h3 h5 h6 ⊢
  obtain ⟨ty, cell, e1, e2, e3, e4, e5, e6, e7⟩ := sm_rd h3 ht (by omega) (by omega) hi hv
  cases e1
  exact W.zald hx hb e2 e3 (by rw [e4]; exact fun h => by cases h) e5 e6 rfl rfl hd (k ls H locs h1 h2 h3 h4 h5 h6)
theorem sm_s_aaload (C : sm_Cx p D s m args meth c y) (hd : decode (sm_cd y) pc = .ok (.aaload, 1)) (hq : sm_act xs y .aaload pc L S h cc zz = some (.inl q)) (k : sm_go p l e s m args below meth c Q D bs b y q) : sm_go p l e s m args below meth c Q D bs b y (pc, L, S, h, cc, zz) := by
  obtain ⟨hx, hb, hml, hown, hts, hnw, hkn, hin⟩ := C
  simp only [sm_act] at hq
  obtain ⟨a, i, S1, rfl, hr⟩ := sm_ai_inv hq
  have key : ∃ tag, (tag = 13 ∨ tag = 14) ∧ sm_ldi tag h a i (fun v => sm_nx (pc + 1) L (v :: S1) h cc zz) = some (.inl q) := by
    split at hr
    · exact ⟨13, Or.inl rfl, hr⟩
    · exact ⟨14, Or.inr rfl, hr⟩
  obtain ⟨tag, htag, hr⟩ := key
  obtain ⟨ht, hi, v, hv, hr⟩ := sm_ldi_inv hr
  have hr := sm_nx_inv hr
  subst hr
  intro ls H locs h1 h2 h3 h4 h5 h6
  dsimp only at h1 h2 h3 h5 h6 ⊢
  obtain ⟨ty, cell, e1, e2, e3, e4, e5, e6, e7⟩ := sm_rd h3 ht (by omega) (by omega) hi hv
  have hty : ty.isReference = true := by rcases htag with rfl | rfl <;> cases e1 <;> rfl
  exact W.aald hx hb e2 e3 hty (by rw [e4]; exact fun h => by cases h) e5 e6 rfl rfl hd (k ls H locs h1 h2 h3 h4 h5 h6)
theorem sm_s_arraylength (C : sm_Cx p D s m args meth c y) (hX : sm_X b bs xs y s) (hd : decode (sm_cd y) pc = .ok (.arraylength, 1)) (hq : sm_act xs y .arraylength pc L S h cc zz = some (.inl q)) (k : sm_go p l e s m args below meth c Q D bs b y q) : sm_go p l e s m args below meth c Q D bs b y (pc, L, S, h, cc, zz) := by
  obtain ⟨hx, hb, hml, hown, hts, hnw, hkn, hin⟩ := C
  simp only [sm_act, sm_alen] at hq
  split at hq
  next a S1 =>
    obtain ⟨⟨g1, g2⟩, hr⟩ := sm_if_inv hq
    have hr := sm_nx_inv hr
    subst hr
    intro ls H locs h1 h2 h3 h4 h5 h6
    dsimp only at h1 h2 h3 h5 h6 ⊢
    obtain ⟨ha, ty, cA, zf, k1, k2, k3, k4, k5⟩ := h3.arr rfl g1 g2
    exact W.alen hx hb k4 (k2 _ _) (by rw [arrV_size]) rfl rfl hd (k ls H locs h1 h2 h3 h4 h5 h6)
  next a S1 =>
    obtain ⟨hy, hr⟩ := sm_if_inv hq
    have hr := sm_nx_inv hr
    subst hr
    intro ls H locs h1 h2 h3 h4 h5 h6
    dsimp only at h1 h2 h3 h5 h6 ⊢
    obtain ⟨g1, g2, g3⟩ := hX hy
    exact va_slen (A := sm_A bs) hx hb g1 g2 (by show ¬ bs ≤ b; omega) h4 hd (k ls H locs h1 h2 h3 h4 h5 h6)
  · cases hq
theorem sm_ast_inv {tag : Nat} {ok : Value → Bool} {pc : Nat} {L S : List Value} {h : sm_Hp} {c z : Nat} {q : sm_Cf} (hq : sm_ast tag S pc L h c z ok = some (.inl q)) : ∃ v i a S', S = v :: .int i :: .ref a :: S' ∧ (h.1 a).1 = tag ∧ ok v = true ∧ ¬ i < 0 ∧ i.toNatClampNeg < (h.1 a).2.length ∧ q = (pc + 1, L, S', sm_up h a (tag, (h.1 a).2.set i.toNatClampNeg v), c, z) := by
  unfold sm_ast at hq
  split at hq
  next v i a S' =>
    obtain ⟨⟨h1, h2, h3, h4⟩, hr⟩ := sm_if_inv hq
    exact ⟨v, i, a, S', rfl, h1, h2, h3, h4, sm_nx_inv hr⟩
  · cases hq
/-- an array's element, written -/
theorem sm_wr {H : Heap} (h3 : sm_HR D bs b s H h) {a tag : Nat} {i : Int32} {v : Value} (ht : (h.1 a).1 = tag) (h10 : 10 ≤ tag) (h14 : tag ≤ 14) (hi : ¬ i < 0) (hl : i.toNatClampNeg < (h.1 a).2.length) (hvk : sm_vk tag v = true) :
    ∃ (ty : FieldType) (cell : Cell), sm_kd tag = some ty ∧ H[bs + a]? = some cell ∧ s.isArrayOf cell ty ∧ va_RA s cell.cls ty ∧ cell.vm = .none ∧ ¬ (i < 0 ∨ cell.slots.size ≤ i.toNatClampNeg) ∧
      ∀ H1 : Heap, H1[bs + a]? = some (cell.setSlot i.toNatClampNeg (sm_mv bs b v)) → H1.size = H.size → (∀ q, q ≠ bs + a → H1[q]? = H[q]?) → sm_HR D bs b s H1 (sm_up h a (tag, (h.1 a).2.set i.toNatClampNeg v)) := by
  obtain ⟨ha, ty, cA, zf, k1, k2, k3, k4, k5⟩ := h3.arr ht h10 h14
  rw [ht] at k1 k5
  refine ⟨ty, _, k1, k4, k2 _ _, k3, rfl, ?_, fun H1 e1 e2 e3 => h3.set ha _ e2 e3 (Or.inr ⟨ty, cA, updV zf i.toNatClampNeg (sm_mv bs b v), k1, k2, k3, ?_, fun j w hj => ?_⟩)⟩
  · rw [arrV_size]
    rintro (z | z)
    · exact hi z
    · omega
  · rw [e1, arrV_store, List.length_set]
  · by_cases e : i.toNatClampNeg = j
    · subst e
      rw [List.getElem?_set_self hl] at hj
      cases hj
      exact ⟨by simp [updV], hvk⟩
    · rw [List.getElem?_set_ne e] at hj
      obtain ⟨g1, g2⟩ := k5 j w hj
      exact ⟨by simp [updV, Ne.symm e, g1], g2⟩
theorem sm_s_iastore (C : sm_Cx p D s m args meth c y) (hd : decode (sm_cd y) pc = .ok (.iastore, 1)) (hq : sm_act xs y .iastore pc L S h cc zz = some (.inl q)) (k : sm_go p l e s m args below meth c Q D bs b y q) : sm_go p l e s m args below meth c Q D bs b y (pc, L, S, h, cc, zz) := by
  obtain ⟨hx, hb, hml, hown, hts, hnw, hkn, hin⟩ := C
  simp only [sm_act] at hq
  obtain ⟨v, i, a, S1, rfl, ht, hok, hi, hl, rfl⟩ := sm_ast_inv hq
  cases v <;> first | (cases hok; done) | skip
  next x =>
  intro ls H locs h1 h2 h3 h4 h5 h6
  dsimp only at h1 h2 h3 h5 h6 ⊢
  obtain ⟨ty, cell, e1, e2, e3, e4, e5, e6, e7⟩ := sm_wr (v := .int x) h3 ht (by omega) (by omega) hi hl rfl
  cases e1
  exact W.iast hx hb e2 e3 (by rw [e5]; exact fun h => by cases h) e6 rfl rfl hd (fun H1 g1 g2 g3 => k ls H1 _ h1 h2 (e7 H1 g1 g2 g3) (h4.put g2 g3 (Nat.le_add_right bs a)) h5 h6)
theorem sm_s_lastore (C : sm_Cx p D s m args meth c y) (hd : decode (sm_cd y) pc = .ok (.lastore, 1)) (hq : sm_act xs y .lastore pc L S h cc zz = some (.inl q)) (k : sm_go p l e s m args below meth c Q D bs b y q) : sm_go p l e s m args below meth c Q D bs b y (pc, L, S, h, cc, zz) := by
  obtain ⟨hx, hb, hml, hown, hts, hnw, hkn, hin⟩ := C
  simp only [sm_act] at hq
  obtain ⟨v, i, a, S1, rfl, ht, hok, hi, hl, rfl⟩ := sm_ast_inv hq
  cases v <;> first | (cases hok; done) | skip
  next x =>
  intro ls H locs h1 h2 h3 h4 h5 h6
  dsimp only at h1 h2 h3 h5 h6 ⊢
  obtain ⟨ty, cell, e1, e2, e3, e4, e5, e6, e7⟩ := sm_wr (v := .long x) h3 ht (by omega) (by omega) hi hl rfl
  cases e1
  exact W.last hx hb e2 e3 (by rw [e5]; exact fun h => by cases h) e6 rfl rfl hd (fun H1 g1 g2 g3 => k ls H1 _ h1 h2 (e7 H1 g1 g2 g3) (h4.put g2 g3 (Nat.le_add_right bs a)) h5 h6)
theorem sm_s_bastore (C : sm_Cx p D s m args meth c y) (hd : decode (sm_cd y) pc = .ok (.bastore, 1)) (hq : sm_act xs y .bastore pc L S h cc zz = some (.inl q)) (k : sm_go p l e s m args below meth c Q D bs b y q) : sm_go p l e s m args below meth c Q D bs b y (pc, L, S, h, cc, zz) := by
  obtain ⟨hx, hb, hml, hown, hts, hnw, hkn, hin⟩ := C
  simp only [sm_act] at hq
  obtain ⟨v, i, a, S1, rfl, ht, hok, hi, hl, rfl⟩ := sm_ast_inv hq
  cases v <;> first | (cases hok; done) | skip
  next x =>
  have hx01 : x = 0 ∨ x = 1 := of_decide_eq_true hok
  have hnar : narrow .boolean (.int x) = .int x := by rcases hx01 with rfl | rfl <;> rfl
  intro ls H locs h1 h2 h3 h4 h5 h6
  dsimp only at h1 h2 h3 h5 h6 ⊢
  obtain ⟨ty, cell, e1, e2, e3, e4, e5, e6, e7⟩ := sm_wr (v := .int x) h3 ht (by omega) (by omega) hi hl rfl
  cases e1
  exact W.zast hx hb e2 e3 (by rw [e5]; exact fun h => by cases h) e6 rfl rfl hd (fun H1 g1 g2 g3 => k ls H1 _ h1 h2 (e7 H1 (by rw [g1, hnar]; rfl) g2 g3) (h4.put g2 g3 (Nat.le_add_right bs a)) h5 h6)
theorem sm_s_aastore (C : sm_Cx p D s m args meth c y) (hd : decode (sm_cd y) pc = .ok (.aastore, 1)) (hq : sm_act xs y .aastore pc L S h cc zz = some (.inl q)) (k : sm_go p l e s m args below meth c Q D bs b y q) : sm_go p l e s m args below meth c Q D bs b y (pc, L, S, h, cc, zz) := by
  obtain ⟨hx, hb, hml, hown, hts, hnw, hkn, hin⟩ := C
  simp only [sm_act] at hq
  obtain ⟨v, i, a, S1, rfl, ht, hok, hi, hl, rfl⟩ := sm_ast_inv hq
  cases v <;> first | (cases hok; done) | skip
  next x =>
  have hx3 : (h.1 x).1 = 3 := of_decide_eq_true hok
  intro ls H locs h1 h2 h3 h4 h5 h6
  dsimp only at h1 h2 h3 h5 h6 ⊢
  obtain ⟨ty, cell, e1, e2, e3, e4, e5, e6, e7⟩ := sm_wr (v := .ref x) h3 ht (by omega) (by omega) hi hl rfl
  cases e1
  obtain ⟨kA, comp, f1, f2, f3, f4⟩ := e4
  obtain ⟨hxl, -, -, cv, hcv, hcv2, hcv3, -⟩ := h3.obj hx3 (by omega)
  obtain ⟨-, hfc, kC, hkC, hkind⟩ := hkn 3 (by omega)
  rw [hx3] at hcv2
  have hcomp : comp = D.1 3 := Option.some.inj (f3.symm.trans hfc)
  subst hcomp
  exact W.aast hx hb e2 (fun q => by rw [e5]; exact fun h => by cases h) (by rw [e5]; exact fun h => by cases h) f1 f2 rfl hkC ⟨hi, Nat.not_le.mp (fun z => e6 (Or.inr z))⟩ hcv (fun q => by rw [hcv3]; exact fun h => by cases h) (by rw [hcv2]; exact hkC) (by rw [hcv2]; exact va_assign ⟨hfc, kC, hkC, hkind⟩) rfl rfl hd
    (fun H1 g1 g2 g3 => k ls H1 _ h1 h2 (e7 H1 g1 g2 g3) (h4.put g2 g3 (Nat.le_add_right bs a)) h5 h6)
end SMH
