/-! ONE STEP: calls that are read as one step; all steps together -/
section SMC
variable {p : Program} {l : Launch} {e : Env} {s : State} {m : MethodId} {args : Array Value} {below : List Frame} {meth : Method} {c : Code} {Q : State → Prop} {D : va_G} {bs b y : Nat} {pc cc zz : Nat} {L S : List Value} {h : sm_Hp} {q : sm_Cf} {xs : List Int32}
theorem sm_call_not {y y' : Nat} {as rest : List Value} {c z : Nat} (hq : sm_call y y' as rest c z = some (.inl q)) : False := by
  unfold sm_call at hq
  obtain ⟨-, hq⟩ := sm_if_inv hq
  cases hq
theorem sm_okC_mem {o idx y' n kind : Nat} {ps : Nat × Nat × Nat × Nat} (hlk : sm_look sm_ct o idx = some (y', n, kind, ps)) : sm_okC (o, idx, y', n, kind, ps) = true := List.all_eq_true.mp sm_all_C _ (sm_look_mem hlk)
theorem sm_rest_room (rest : List Value) (hr : (rest.map fun v => v.category).sum ≤ 8) : ((rest.map (sm_mv bs b)).map fun v => v.category).sum ≤ 8 := by rw [sm_mv_sum]; exact hr
theorem sm_s_special (C : sm_Cx p D s m args meth c y) (n : Nat) (hd : decode (sm_cd y) pc = .ok (.invokespecial n, 3)) (hq : sm_act xs y (.invokespecial n) pc L S h cc zz = some (.inl q)) (k : sm_go p l e s m args below meth c Q D bs b y q) : sm_go p l e s m args below meth c Q D bs b y (pc, L, S, h, cc, zz) := by
  obtain ⟨hx, hb, hml, hown, hts, hnw, hkn, hin⟩ := C
  simp only [sm_act, sm_inv] at hq
  split at hq
  · cases hq
  next y' n' kind ps hlk =>
    have h9 := sm_okC_mem hlk
    split at hq
    all_goals first | (next he => exact absurd he (by decide)) | skip
    all_goals try (exfalso; simp at *; done)
    · obtain ⟨-, hq⟩ := sm_if_inv hq
      obtain ⟨a, S1, -, hr⟩ := sm_r1_inv hq
      exact (sm_call_not hr).elim
    · obtain ⟨-, hq⟩ := sm_if_inv hq
      obtain ⟨a, S1, -, hr⟩ := sm_r1_inv hq
      exact (sm_call_not hr).elim
    · obtain ⟨p1, p2, p3, p4⟩ := ps
      simp only [sm_okC, Bool.and_eq_true, decide_eq_true_eq] at h9
      obtain ⟨w1, w2, rfl⟩ := h9
      obtain ⟨a, S1, rfl, hr⟩ := sm_r1_inv hq
      obtain ⟨⟨g1, g2⟩, hr⟩ := sm_if_inv hr
      have hr := sm_nx_inv hr
      subst hr
      intro ls H locs h1 h2 h3 h4 h5 h6
      dsimp only at h1 h2 h3 h5 h6 ⊢
      refine W.objInit hx hb hown (hts _ (sm_in w1 rfl)) (hts _ (sm_in w2 rfl)) (hts _ (sm_in sm_oiw rfl)) rfl (by rw [hml]; exact h1.1.trans h2) rfl hd g2 ?_ (k ls H locs h1 h2 h3 h4 h5 h6)
      have := sm_rest_room (bs := bs) (b := b) S1 g1
      show 2 * 0 + _ + 12 ≤ 34 * sm_lv y
      omega
theorem sm_s_virtual (C : sm_Cx p D s m args meth c y) (n : Nat) (hd : decode (sm_cd y) pc = .ok (.invokevirtual n, 3)) (hq : sm_act xs y (.invokevirtual n) pc L S h cc zz = some (.inl q)) : False := by
  simp only [sm_act, sm_inv] at hq
  split at hq
  · cases hq
  next y' n' kind ps hlk =>
    split at hq
    all_goals try (exfalso; simp at *; done)
    · obtain ⟨-, hq⟩ := sm_if_inv hq
      obtain ⟨a, S1, -, hr⟩ := sm_r1_inv hq
      obtain ⟨-, hr⟩ := sm_if_inv hr
      exact (sm_call_not hr).elim
theorem sm_arrV_congr {cI : ClassId} {N : Nat} {f g : Nat → Value} (hfg : ∀ j, j < N → f j = g j) : arrV cI N f = arrV cI N g := by
  have h9 : (fun j : Fin N => f j.val) = (fun j : Fin N => g j.val) := funext fun j => hfg j.val j.isLt
  unfold arrV
  rw [h9]
theorem sm_s_static (C : sm_Cx p D s m args meth c y) (n : Nat) (hd : decode (sm_cd y) pc = .ok (.invokestatic n, 3)) (hq : sm_act xs y (.invokestatic n) pc L S h cc zz = some (.inl q)) (k : sm_go p l e s m args below meth c Q D bs b y q) : sm_go p l e s m args below meth c Q D bs b y (pc, L, S, h, cc, zz) := by
  obtain ⟨hx, hb, hml, hown, hts, hnw, hkn, hin⟩ := C
  simp only [sm_act, sm_inv] at hq
  split at hq
  · cases hq
  next y' n' kind ps hlk =>
    have h9 := sm_okC_mem hlk
    split at hq
    all_goals try (exfalso; simp at *; done)
    · obtain ⟨-, hq⟩ := sm_if_inv hq
      exact (sm_call_not hq).elim
    · obtain ⟨p1, p2, p3, p4⟩ := ps
      simp only [sm_okC, Bool.and_eq_true, decide_eq_true_eq] at h9
      obtain ⟨w1, w2, w3, w4⟩ := h9
      unfold sm_cpy at hq
      split at hq
      next n9 dp a sp a0 rest =>
        obtain ⟨⟨⟨rfl, rfl, hn, hlv⟩, ta, ta0, ea, ea0, hroom⟩, hr⟩ := sm_if_inv hq
        have hr := sm_nx_inv hr
        subst hr
        intro ls H locs h1 h2 h3 h4 h5 h6
        dsimp only at h1 h2 h3 h5 h6 ⊢
        obtain ⟨ha, ty, cA, zf, k1, k2, k3, k4, k5⟩ := h3.arr ta (by omega) (by omega)
        obtain ⟨ha0, ty0, cA0, zf0, j1, j2, j3, j4, j5⟩ := h3.arr ta0 (by omega) (by omega)
        rw [ta] at k1
        rw [ta0] at j1
        cases k1
        cases j1
        have hints : ∀ i, i < (h.1 a0).2.length → ∃ z : Int32, zf0 i = .int z := fun i hi => by
          obtain ⟨e1, e2⟩ := j5 i _ (List.getElem?_eq_getElem hi)
          rw [ta0] at e2
          rw [e1]
          generalize (h.1 a0).2[i] = v at e2
          cases v <;> first | exact ⟨_, rfl⟩ | (cases e2; done)
        intro T hT X
        obtain ⟨-, kc0, hk0, cm0, hkk0⟩ := j2 (h.1 a0).2.length zf0
        obtain ⟨-, kc1, hk1, cm1, hkk1⟩ := k2 (h.1 a).2.length zf
        have hpos : n9.toInt = (n9.toNatClampNeg : Int) := by
          have hz0 : (0 : Int) ≤ n9.toInt := by
            have := Int32.not_lt.mp hn
            simpa using Int32.le_iff_toInt_le.mp this
          show n9.toInt = ((n9.toInt.toNat : Nat) : Int)
          omega
        obtain ⟨vm', X', step⟩ := X.arraycopy hx hown (hts _ (sm_in w1 rfl)) (hts _ (sm_in w3 rfl)) (hts _ (sm_in w2 rfl)) (hts _ (sm_in w4 rfl)) (src := bs + a0) (dst := bs + a) (cs := arrV cA0 (h.1 a0).2.length zf0) (cd := arrV cA (h.1 a).2.length zf) (srcPos := 0) (destPos := 0) (n := n9) (by rw [hT]; exact j4) (by rw [hT]; exact k4)
          (fun _ h => by cases h) (fun _ h => by cases h) (fun h => by cases h) (fun h => by cases h) hk0 hk1 hkk0 hkk1 (by rfl) (by decide) (by decide) hn
          (by rw [hpos, arrV_size]; show ¬ (0 : Int) + _ > _; omega)
          (by rw [hpos, arrV_size]; show ¬ (0 : Int) + _ > _; omega)
          (fun vm₁ _ i hi => by
            have e : (arrV cA0 (h.1 a0).2.length zf0).slots.getD (0 + i) .null = zf0 i := by
              rw [Array.getD_eq_getD_getElem?, Nat.zero_add, arrV_read _ _ (by omega)]
              rfl
            obtain ⟨z, hz⟩ := hints i (by omega)
            have e' : (arrV cA0 (h.1 a0).2.length zf0).slots.getD ((0 : Int32).toNatClampNeg + i) .null = zf0 i := e
            rw [e', hz]
            exact ⟨rfl, trivial⟩)
          (g := F0 m pc ls (.int n9 :: .int 0 :: .ref (bs + a) :: .int 0 :: .ref (bs + a0) :: rest.map (sm_mv bs b))) rfl (by rw [hml]; exact h1.1.trans h2) (rest := rest.map (sm_mv bs b)) rfl (by rw [hb]; exact hd) hlv
          (by
            have := sm_rest_room (bs := bs) (b := b) rest hroom
            show 2 * 0 + _ + (nativeFrameWords "java/lang/System" "arraycopy" 5 + 11) ≤ 34 * sm_lv y
            have e5 : nativeFrameWords "java/lang/System" "arraycopy" 5 = 7 := by decide
            omega)
        have e1 : copied (arrV cA0 (h.1 a0).2.length zf0) (arrV cA (h.1 a).2.length zf) 0 0 n9 = arrV cA (h.1 a0).2.length zf0 := by
          have e0 := va_copied (fun z : Value => z) cA0 cA (n0 := (h.1 a0).2.length) (n1 := (h.1 a).2.length) (sp := (0 : Int32).toNatClampNeg) (dp := (0 : Int32).toNatClampNeg) (n := n9.toNatClampNeg) zf0 zf (by show 0 + _ ≤ _; omega)
          refine (show copied (arrV cA0 (h.1 a0).2.length zf0) (arrV cA (h.1 a).2.length zf) 0 0 n9 = _ from e0).trans ?_
          rw [← ea, ← ea0]
          refine sm_arrV_congr (fun j hj => ?_)
          have := pk_cpy_in (f := zf0) (g := zf) (sp := 0) (dp := 0) (n := n9.toNatClampNeg) (j := j) (by omega) (by omega)
          refine Eq.trans this ?_
          congr 1
          omega
        rw [e1] at X' step
        have hl : bs + a < H.size := by rw [h3.1]; omega
        have hheap : ((T.setVm vm').setCell (bs + a) (arrV cA (h.1 a0).2.length zf0)).heap = H.setIfInBounds (bs + a) (arrV cA (h.1 a0).2.length zf0) := by rw [← hT]; rfl
        have oq : ∀ q : Nat, q ≠ bs + a → (H.setIfInBounds (bs + a) (arrV cA (h.1 a0).2.length zf0))[q]? = H[q]? := fun q hq => by simp [Array.getElem?_setIfInBounds, Ne.symm hq]
        have hHR := h3.set ha (10, (h.1 a0).2) (H1 := H.setIfInBounds (bs + a) (arrV cA (h.1 a0).2.length zf0)) (by simp) oq (Or.inr ⟨.int, cA, zf0, rfl, k2, k3, by simp [Array.getElem?_setIfInBounds, hl], fun j v hv => by have := j5 j v hv; rw [ta0] at this; exact this⟩)
        obtain ⟨t, a1, b1⟩ := k ls _ _ h1 h2 hHR ⟨by simp; exact h4.1, fun q g1 g2 => by
            rw [oq q (fun e => g2 (by rw [e]; exact Nat.le_add_right bs a))]
            exact h4.2.1 q g1 g2, fun q hq => by
            rcases List.mem_append.mp hq with h | h
            · exact h4.2.2 q h
            · obtain ⟨z, -, hz⟩ := List.mem_map.mp h
              rw [← hz]
              exact Nat.le_add_right bs a⟩ h5 h6 _ hheap X'
        exact ⟨t, step t a1, b1⟩
      · cases hq
    · obtain ⟨p1, p2, p3, p4⟩ := ps
      simp only [sm_okC, Bool.and_eq_true, decide_eq_true_eq] at h9
      obtain ⟨w1, w2, rfl, w4⟩ := h9
      obtain ⟨x1, x2, S1, rfl, hr⟩ := sm_i2_inv hq
      obtain ⟨⟨g1, g2⟩, hr⟩ := sm_if_inv hr
      have hr := sm_nx_inv hr
      subst hr
      intro ls H locs h1 h2 h3 h4 h5 h6
      dsimp only at h1 h2 h3 h5 h6 ⊢
      refine va_mmax (R := sm_R y) hx hb (by rw [hml]; exact (h1.1.trans h2).symm) hown (hts _ (sm_in w1 rfl)) (hts _ (sm_in w2 rfl)) (hts _ (sm_in w4 rfl)) (hts _ (sm_in sm_maxw rfl)) g2 ?_ h5 h6 hd (k ls H locs h1 h2 h3 h4 h5 h6)
      have := sm_rest_room (bs := bs) (b := b) S1 g1
      show _ + 13 ≤ 34 * sm_lv y
      omega
    · obtain ⟨p1, p2, p3, p4⟩ := ps
      simp only [sm_okC, Bool.and_eq_true, decide_eq_true_eq] at h9
      obtain ⟨w1, w2, rfl, w4⟩ := h9
      obtain ⟨x1, x2, S1, rfl, hr⟩ := sm_i2_inv hq
      obtain ⟨⟨g1, g2⟩, hr⟩ := sm_if_inv hr
      have hr := sm_nx_inv hr
      subst hr
      intro ls H locs h1 h2 h3 h4 h5 h6
      dsimp only at h1 h2 h3 h5 h6 ⊢
      refine va_mmin (R := sm_R y) hx hb (by rw [hml]; exact (h1.1.trans h2).symm) hown (hts _ (sm_in w1 rfl)) (hts _ (sm_in w2 rfl)) (hts _ (sm_in w4 rfl)) (hts _ (sm_in sm_minw rfl)) g2 ?_ h5 h6 hd (k ls H locs h1 h2 h3 h4 h5 h6)
      have := sm_rest_room (bs := bs) (b := b) S1 g1
      show _ + 13 ≤ 34 * sm_lv y
      omega
end SMC
