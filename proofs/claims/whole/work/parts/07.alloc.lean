/-! ONE STEP: what makes cells, and the library's own methods that are read as one step -/
section SMN
variable {p : Program} {l : Launch} {e : Env} {s : State} {m : MethodId} {args : Array Value} {below : List Frame} {meth : Method} {c : Code} {Q : State → Prop} {D : va_G} {bs b y : Nat} {pc cc zz : Nat} {L S : List Value} {h : sm_Hp} {q : sm_Cf} {xs : List Int32}
theorem sm_S_push {H H1 : Heap} {locs : List Loc} (h4 : va_S (sm_A bs) s.heap H locs) (hz : H.size ≤ H1.size) (ho : ∀ q, q < H.size → H1[q]? = H[q]?) : va_S (sm_A bs) s.heap H1 locs :=
  ⟨Nat.le_trans h4.1 hz, fun q g1 g2 => (ho q (Nat.lt_of_lt_of_le g1 h4.1)).trans (h4.2.1 q g1 g2), h4.2.2⟩
theorem sm_df_get (ci j : Nat) (v : Value) (hv : (sm_df ci)[j]? = some v) : j < sm_N ci ∧ v = defaultValue (sm_ty ci j) := by
  have hl := (List.getElem?_eq_some_iff.mp hv).1
  simp only [sm_df, List.length_map, List.length_range] at hl
  rw [sm_df, List.getElem?_map, List.getElem?_range hl] at hv
  exact ⟨hl, (Option.some.inj hv).symm⟩
theorem sm_mv_def (bs b : Nat) (ty : FieldType) : sm_mv bs b (defaultValue ty) = defaultValue ty := by cases ty <;> rfl
theorem sm_s_new (C : sm_Cx p D s m args meth c y) (n : Nat) (hd : decode (sm_cd y) pc = .ok (.new n, 3)) (hq : sm_act xs y (.new n) pc L S h cc zz = some (.inl q)) (k : sm_go p l e s m args below meth c Q D bs b y q) : sm_go p l e s m args below meth c Q D bs b y (pc, L, S, h, cc, zz) := by
  obtain ⟨hx, hb, hml, hown, hts, hnw, hkn, hin⟩ := C
  simp only [sm_act] at hq
  split at hq
  · cases hq
  next ci pl hlk =>
    have h9 := List.all_eq_true.mp sm_all_N _ (sm_look_mem hlk)
    obtain ⟨p1, p2, p3⟩ := pl
    simp only [sm_okN, Bool.and_eq_true, decide_eq_true_eq] at h9
    obtain ⟨w1, w2, w3, hc7⟩ := h9
    obtain ⟨⟨g1, g2⟩, hr⟩ := sm_if_inv hq
    have hr := sm_nx_inv hr
    subst hr
    intro ls H locs h1 h2 h3 h4 h5 h6
    dsimp only at h1 h2 h3 h5 h6 ⊢
    have hKn := hkn ci hc7
    refine W.newcK hx hb hown (hts _ (sm_in w1 rfl)) (hts _ (sm_in w2 rfl)) (hts _ (sm_in w3 rfl)) rfl hd g1 g2 hKn.2.1 rfl fun H1 kC hkC e1 z1 o1 => ?_
    have hbn := u_born (sm_ty ci) hts (sm_uw ci hc7) hKn hkC e1 (sm_types ci hc7)
    obtain ⟨cell, t1, t2, t3, t4⟩ := hbn
    rw [h3.1] at *
    refine k ls H1 locs h1 h2 (h3.push (ci, sm_df ci) (by rw [z1, h3.1]) (by rw [h3.1]; exact o1) (Or.inl ⟨hc7, by simp [sm_df], cell, by rw [h3.1]; exact t1, t2, t3, fun j v hv => ?_⟩)) (sm_S_push h4 (by rw [h3.1]; omega) (by rw [h3.1]; exact o1)) g1 g2
    obtain ⟨hj, rfl⟩ := sm_df_get ci j v hv
    rw [sm_mv_def]
    exact t4 j hj
theorem sm_rep_get {n j : Nat} {x v : Value} (hv : (List.replicate n x)[j]? = some v) : v = x := by
  rw [List.getElem?_replicate] at hv
  split at hv
  · exact (Option.some.inj hv).symm
  · cases hv
theorem sm_s_newarray (C : sm_Cx p D s m args meth c y) (t : ArrayType) (hd : decode (sm_cd y) pc = .ok (.newarray t, 2)) (hq : sm_act xs y (.newarray t) pc L S h cc zz = some (.inl q)) (k : sm_go p l e s m args below meth c Q D bs b y q) : sm_go p l e s m args below meth c Q D bs b y (pc, L, S, h, cc, zz) := by
  obtain ⟨hx, hb, hml, hown, hts, hnw, hkn, hin⟩ := C
  simp only [sm_act, sm_newa] at hq
  obtain ⟨n, S1, rfl, hr⟩ := sm_i1_inv hq
  clear hq
  obtain ⟨⟨hn, hb1, hcl, hsl⟩, hr⟩ := sm_if_inv hr
  have key : ∃ (tag : Nat) (x : Value), sm_kd tag = some (newarray.typeOf t) ∧ sm_vk tag x = true ∧ x = defaultValue (newarray.typeOf t) ∧ sm_mv bs b x = x ∧ componentBytes (newarray.typeOf t) ≤ 8 ∧ Cond.arrayClass (newarray.typeOf t) ∈ sm_tb ∧ (∀ cA, s.vm.findClass ("[" ++ (newarray.typeOf t).toString) = some cA → va_RA s cA (newarray.typeOf t)) ∧ q = (pc + 2, L, .ref h.2 :: S1, sm_new h (tag, List.replicate n.toNatClampNeg x), cc + 1, zz + n.toNatClampNeg) := by
    cases t <;> first | (cases hr; done) | skip
    · exact ⟨12, .int 0, rfl, rfl, rfl, rfl, by decide, sm_in sm_w_bool rfl, fun cA hA => hA, sm_nx_inv hr⟩
    · exact ⟨10, .int 0, rfl, rfl, rfl, rfl, by decide, sm_in sm_w_int rfl, fun cA hA => hA, sm_nx_inv hr⟩
    · exact ⟨11, .long 0, rfl, rfl, rfl, rfl, by decide, sm_in sm_w_long rfl, fun cA hA => hA, sm_nx_inv hr⟩
  obtain ⟨tag, x, k1, k2, k3, k4, k5, k6, k7, rfl⟩ := key
  intro ls H locs h1 h2 h3 h4 h5 h6
  dsimp only at h1 h2 h3 h5 h6 ⊢
  have hbytes : n.toNatClampNeg * componentBytes (newarray.typeOf t) ≤ 536870912 := Nat.le_trans (Nat.mul_le_mul hb1 k5) (by decide)
  refine va_newaK hx hb (hts _ k6) rfl hd rfl hn rfl hbytes hcl hsl rfl fun H1 cA e1 z1 o1 hAr hNm => ?_
  have hsz := h3.1
  rw [hsz]
  refine k ls H1 locs h1 h2 (h3.push (tag, List.replicate n.toNatClampNeg x) z1 o1 (Or.inr ⟨_, cA, fun _ => x, k1, hAr, k7 cA hNm, by rw [e1, List.length_replicate, k3], fun j v hv => ?_⟩)) (sm_S_push h4 (by omega) o1) hcl hsl
  have := sm_rep_get hv
  subst this
  exact ⟨k4.symm, k2⟩
theorem sm_s_anewarray (C : sm_Cx p D s m args meth c y) (n : Nat) (hd : decode (sm_cd y) pc = .ok (.anewarray n, 3)) (hq : sm_act xs y (.anewarray n) pc L S h cc zz = some (.inl q)) (k : sm_go p l e s m args below meth c Q D bs b y q) : sm_go p l e s m args below meth c Q D bs b y (pc, L, S, h, cc, zz) := by
  obtain ⟨hx, hb, hml, hown, hts, hnw, hkn, hin⟩ := C
  simp only [sm_act] at hq
  split at hq
  · cases hq
  next pl hlk =>
    have h9 := of_decide_eq_true (List.all_eq_true.mp sm_all_A _ (sm_look_mem hlk))
    obtain ⟨x, S1, rfl, hr⟩ := sm_i1_inv hq
    clear hq
    obtain ⟨⟨hn, hb1, hcl, hsl⟩, hr⟩ := sm_if_inv hr
    have hr := sm_nx_inv hr
    subst hr
    intro ls H locs h1 h2 h3 h4 h5 h6
    dsimp only at h1 h2 h3 h5 h6 ⊢
    have hsz := h3.1
    refine W.anew hx hb hown (hts _ (sm_in h9 rfl)) (va_AO.use hnw.2.1) rfl hd rfl hn (by omega) hcl hsl fun cA kA comp f1 f2 f3 f4 => ?_
    have o1 : ∀ q, q < H.size → (H.push ({ cls := cA, slots := Array.replicate x.toNatClampNeg .null, vm := .none } : Cell))[q]? = H[q]? := fun q hq => by rw [Array.getElem?_push, if_neg (Nat.ne_of_lt hq)]
    have z1 : (H.push ({ cls := cA, slots := Array.replicate x.toNatClampNeg .null, vm := .none } : Cell)).size = H.size + 1 := by simp
    have hAr : ArrOfT s cA (.object "TwoPrints$Prints") := fun n9 z9 => ⟨fun k h => (by cases h), kA, f2, comp, f3⟩
    rw [hsz]
    refine k ls _ locs h1 h2 (h3.push (14, List.replicate x.toNatClampNeg .null) z1 o1 (Or.inr ⟨_, cA, fun _ => .null, rfl, hAr, ⟨kA, comp, f2, f3, f4, f1⟩, by rw [Array.getElem?_push_size, arrV_new, List.length_replicate], fun j v hv => ?_⟩)) (sm_S_push h4 (by omega) o1) hcl hsl
    have := sm_rep_get hv
    subst this
    exact ⟨rfl, rfl⟩
theorem sm_s_multianewarray (C : sm_Cx p D s m args meth c y) (n d : Nat) (hd : decode (sm_cd y) pc = .ok (.multianewarray n d, 4)) (hq : sm_act xs y (.multianewarray n d) pc L S h cc zz = some (.inl q)) (k : sm_go p l e s m args below meth c Q D bs b y q) : sm_go p l e s m args below meth c Q D bs b y (pc, L, S, h, cc, zz) := by
  obtain ⟨hx, hb, hml, hown, hts, hnw, hkn, hin⟩ := C
  simp only [sm_act] at hq
  obtain ⟨hd2, hq2⟩ := sm_if_inv hq
  clear hq
  subst hd2
  split at hq2
  · cases hq2
  next pl hlk =>
    have h9 := of_decide_eq_true (List.all_eq_true.mp sm_all_G _ (sm_look_mem hlk))
    obtain ⟨x1, x2, S1, rfl, hr⟩ := sm_i2_inv hq2
    clear hq2
    obtain ⟨⟨⟨hn, hb1⟩, ⟨hk, hb2⟩, hcl, hsl⟩, hr⟩ := sm_if_inv hr
    have hr := sm_nx_inv hr
    subst hr
    intro ls H locs h1 h2 h3 h4 h5 h6
    dsimp only at h1 h2 h3 h5 h6 ⊢
    have hsz := h3.1
    refine mu_W hx hb hown (hts _ (sm_in h9 rfl)) hnw.2.2 (hts _ (sm_in sm_w_int rfl)) (g := F0 m pc ls (.int x2 :: .int x1 :: S1.map (sm_mv bs b))) rfl hd rfl hn hk rfl rfl (by omega) (by omega) hcl hsl (fun cA comp F L hAO hAI fA fC f1 f2 hrow hold hL => ?_)
    have hHR : sm_HR D bs b s F (sm_grid h x1.toNatClampNeg x2.toNatClampNeg) := by
      refine ⟨?_, fun a ha => ?_, fun a ha => ?_⟩
      · show F.size = bs + (h.2 + 1 + x1.toNatClampNeg)
        omega
      · have ha' : a < h.2 + 1 + x1.toNatClampNeg := ha
        show sm_CR D bs b s (if a = h.2 then _ else if h.2 < a ∧ a ≤ h.2 + x1.toNatClampNeg then _ else h.1 a) _
        by_cases e1 : a = h.2
        · subst e1
          rw [if_pos rfl, ← hsz, f2]
          refine Or.inr ⟨.array .int, cA, mu_z H.size x1.toNatClampNeg, rfl, hAO, fA, ?_, fun j v hv => ?_⟩
          · simp only [List.length_map, List.length_range]
          · have hj : j < x1.toNatClampNeg := by
              have := (List.getElem?_eq_some_iff.mp hv).1
              simpa using this
            simp only [List.getElem?_map, List.getElem?_range hj, Option.map_some, Option.some.injEq] at hv
            subst hv
            refine ⟨?_, rfl⟩
            show mu_z H.size x1.toNatClampNeg j = _
            unfold mu_z
            rw [if_pos hj]
            have e7 : H.size + 1 + j = bs + (h.2 + 1 + j) := by omega
            rw [e7]
            rfl
        · rw [if_neg e1]
          by_cases e2 : h.2 < a ∧ a ≤ h.2 + x1.toNatClampNeg
          · rw [if_pos e2]
            have e3 : bs + a = H.size + 1 + (a - h.2 - 1) := by omega
            rw [e3, hrow _ (by omega)]
            refine Or.inr ⟨.int, comp, fun _ => .int 0, rfl, hAI, fC, ?_, fun j v hv => ?_⟩
            · rw [List.length_replicate]
            · have := sm_rep_get hv
              subst this
              exact ⟨rfl, rfl⟩
          · rw [if_neg e2, hold _ (by omega)]
            exact h3.2.1 a (by omega)
      · have ha' : h.2 + 1 + x1.toNatClampNeg ≤ a := ha
        show (if a = h.2 then _ else if h.2 < a ∧ a ≤ h.2 + x1.toNatClampNeg then _ else h.1 a).1 = 99
        rw [if_neg (by omega), if_neg (by omega)]
        exact h3.2.2 a (by omega)
    rw [show H.size = bs + h.2 from hsz]
    exact k ls F L h1 h2 hHR ⟨by have := h4.1; omega, fun q g1 g2 => (hold q (Nat.lt_of_lt_of_le g1 h4.1)).trans (h4.2.1 q g1 g2), fun q hq => (hL q hq).elim (h4.2.2 q) (fun g => Nat.le_trans (Nat.le_add_right bs h.2) (Nat.le_of_eq (hsz.symm.trans g.symm)))⟩ (by show cc + 1 + x1.toNatClampNeg ≤ _; omega) (by show zz + x1.toNatClampNeg + _ ≤ _; omega)
end SMN
