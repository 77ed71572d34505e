/-! CALLS, RETURNS, THE WHOLE RUN -/
def sm_ws (y : Nat) : List Cond := .code (sm_nm y) (sm_cd y) (sm_ml y) (sm_rt y) :: sm_tb
theorem sm_ws_good {y : Nat} (hy : y < sm_law) : GoodIn sm_tb (sm_ws y) := by
  intro w hw
  rcases List.mem_cons.mp hw with rfl | hw
  · exact ⟨sm_in (sm_codes y hy) rfl, good_of_word rfl⟩
  · exact ⟨hw, good_of_word (List.mem_filter.mp hw).2⟩
theorem sm_okM_at {y : Nat} (hy : y < sm_law) : (sm_nm y).cls = sm_cn (sm_oc y) ∧ Jvm.plainName (sm_nm y).cls = true ∧ sm_ml y ≤ 15 ∧ ((sm_nm y).cls ≠ "java/lang/invoke/MethodHandle" ∧ (sm_nm y).cls ≠ "java/lang/invoke/VarHandle") := by
  have hlen : sm_mt.length = sm_law + 1 := by decide +kernel
  have hl : y < sm_mt.length := by omega
  have h1 : sm_row y = sm_mt[y] := by
    unfold sm_row
    rw [List.getD_eq_getElem?_getD, List.getElem?_eq_getElem hl]
    rfl
  have h2 : sm_row y ∈ sm_mt.take sm_law := by
    rw [h1, List.mem_take_iff_getElem]
    exact ⟨y, by omega, rfl⟩
  have h3 := List.all_eq_true.mp sm_all_M _ h2
  simp only [sm_okM, Bool.and_eq_true, decide_eq_true_eq] at h3
  exact h3
def sm_Qc (D : va_G) (bs b : Nat) (r : Option Value) (h' : sm_Hp) : Array Value → State → Outcome → State → Prop := fun _ st oc t => oc = .returned (r.map (sm_mv bs b)) ∧ sm_HR D bs b t t.heap h' ∧ va_F (sm_A bs) st t
def sm_Pc (D : va_G) (bs b : Nat) (as : List Value) (h : sm_Hp) : Array Value → State → Prop := va_Pc (as.map (sm_mv bs b)) (fun U => sm_HR D bs b U U.heap h ∧ sm_NW U ∧ sm_KN D U)
/-- which instruction answers what -/
def sm_rk (y : Nat) (ins : Instr) (r : Option Value) : Prop :=
  (ins = .ireturn ∧ ∃ v, r = some (.int v) ∧ (sm_rt y = some .int ∨ (sm_rt y = some .boolean ∧ (v = 0 ∨ v = 1)))) ∨ (ins = .lreturn ∧ ∃ v, r = some (.long v) ∧ sm_rt y = some .long) ∨ (ins = .return_ ∧ r = none ∧ sm_rt y = none)
def sm_Ret (p : Program) (l : Launch) (e : Env) (s : State) (m : MethodId) (args : Array Value) (below : List Frame) (meth : Method) (c : Code) (Q : State → Prop) (D : va_G) (bs b y : Nat) (r : Option Value) (h' : sm_Hp) : Prop :=
  ∀ (pcR : Nat) (ls : Array Slot) (H : Heap) (locs : List Loc) (c' z' : Nat) (ins : Instr), sm_fetch y pcR = some ins → sm_rk y ins r → c' ≤ sm_mc y → z' ≤ sm_ms y → sm_HR D bs b s H h' → va_S (sm_A bs) s.heap H locs → W p l e (sm_R y) s m args below meth c H locs c' z' Q (F0 m pcR ls ((r.map (sm_mv bs b)).toList))
/-- the locals with which a method begins -/
theorem sm_wide_get (bs b : Nat) : ∀ (as : List Value) (i : Nat) (v : Value), (sm_wide as)[i]? = some v → v ≠ .null → (lg_sl (as.map (sm_mv bs b)))[i]? = some (.val (sm_mv bs b v)) := by
  intro as
  induction as with
  | nil => intro i v hv; cases hv
  | cons a as ih =>
    intro i v hv hn
    by_cases hc : a.category = 2
    · have e1 : sm_wide (a :: as) = a :: .null :: sm_wide as := by simp [sm_wide, hc]
      have e2 : lg_sl ((a :: as).map (sm_mv bs b)) = .val (sm_mv bs b a) :: .second :: lg_sl (as.map (sm_mv bs b)) := by simp [lg_sl, sm_mv_cat, hc]
      rw [e1] at hv
      rw [e2]
      match i, hv with
      | 0, hv => cases hv; rfl
      | 1, hv => cases hv; exact absurd rfl hn
      | i + 2, hv => exact ih i v hv hn
    · have e1 : sm_wide (a :: as) = a :: sm_wide as := by simp [sm_wide, hc]
      have e2 : lg_sl ((a :: as).map (sm_mv bs b)) = .val (sm_mv bs b a) :: lg_sl (as.map (sm_mv bs b)) := by simp [lg_sl, sm_mv_cat, hc]
      rw [e1] at hv
      rw [e2]
      match i, hv with
      | 0, hv => cases hv; rfl
      | i + 1, hv => exact ih i v hv hn
theorem sm_wide_len (bs b : Nat) (as : List Value) : (lg_sl (as.map (sm_mv bs b))).length = (sm_wide as).length := by
  induction as with
  | nil => rfl
  | cons a as ih =>
    by_cases hc : a.category = 2
    · have e1 : sm_wide (a :: as) = a :: .null :: sm_wide as := by simp [sm_wide, hc]
      have e2 : lg_sl ((a :: as).map (sm_mv bs b)) = .val (sm_mv bs b a) :: .second :: lg_sl (as.map (sm_mv bs b)) := by simp [lg_sl, sm_mv_cat, hc]
      rw [e1, e2]
      simp [ih]
    · have e1 : sm_wide (a :: as) = a :: sm_wide as := by simp [sm_wide, hc]
      have e2 : lg_sl ((a :: as).map (sm_mv bs b)) = .val (sm_mv bs b a) :: lg_sl (as.map (sm_mv bs b)) := by simp [lg_sl, sm_mv_cat, hc]
      rw [e1, e2]
      simp [ih]
theorem sm_init_len {n : Nat} {as : List Value} (h : (sm_wide as).length ≤ n) : (sm_init n as).length = n := by
  unfold sm_init
  rw [List.length_append, List.length_replicate]
  omega
theorem sm_entry {bs b n : Nat} {as : List Value} (hn : (sm_wide as).length ≤ n) : sm_LR bs b ((lg_sl (as.map (sm_mv bs b)) ++ List.replicate (n - (lg_sl (as.map (sm_mv bs b))).length) Slot.unset).toArray) (sm_init n as) := by
  have hl := lv_entry (as.map (sm_mv bs b)) (n := n) (by rw [sm_wide_len]; exact hn)
  refine ⟨by rw [sm_init_len hn]; exact hl.1, hl.2.1, fun i v hv hnn => ?_⟩
  rw [List.getElem?_toArray]
  unfold sm_init at hv
  by_cases hi : i < (sm_wide as).length
  · rw [List.getElem?_append_left hi] at hv
    rw [List.getElem?_append_left (by rw [sm_wide_len]; exact hi)]
    exact sm_wide_get bs b as i v hv hnn
  · rw [List.getElem?_append_right (by omega)] at hv
    exact absurd (sm_rep_get hv) hnn
theorem sm_NW.same {s U : State} (hvm : s.vm = U.vm) (h : sm_NW s) : sm_NW U := by
  have ha : s.vm.Alike U.vm := by rw [hvm]; exact Vm.Alike.refl _
  exact ⟨fun r hr hk => va_Nw.same rfl hvm (h.1 r hr hk), h.2.1.moved ha, mu_alike ha h.2.2⟩
section SMK
variable {p : Program} {l : Launch} {e : Env} {s : State} {m : MethodId} {args : Array Value} {below : List Frame} {meth : Method} {c : Code} {Q : State → Prop} {D : va_G} {bs b y : Nat} {pc cc zz : Nat} {L S : List Value} {h : sm_Hp} {q : sm_Cf} {xs : List Int32}
theorem sm_blind (as : List Value) (h : sm_Hp) : FrameBlind (sm_Pc D bs b as h) := by
  intro a U g mk hq
  obtain ⟨q0, q1, q2, q3⟩ := hq
  exact ⟨q0, sm_HR.moved (s := U) (U := U.calling g mk a) (Vm.Alike.refl U.vm) q1, sm_NW.same (s := U) (U := U.calling g mk a) rfl q2, sm_KN.moved (s := U) (U := U.calling g mk a) (Vm.Alike.refl U.vm) q3⟩
theorem sm_met {as : List Value} {r : Option Value} {h' : sm_Hp} (hy : y < sm_law) (hw : (sm_wide as).length ≤ sm_ml y)
    (hsim : ∀ (p : Program) (e : Env) (s : State) (m : MethodId) (args : Array Value) (below : List Frame) (meth : Method) (c : Code) (Q : State → Prop), sm_Cx p D s m args meth c y → sm_X b bs xs y s → sm_Ret p l e s m args below meth c Q D bs b y r h' → sm_go p l e s m args below meth c Q D bs b y (0, sm_init (sm_ml y) as, [], h, 0, 0)) :
    Met l (sm_nm y) (sm_ws y) (sm_R y) (sm_Pc D bs b as h) (sm_Qc D bs b r h') (sm_mc y) (sm_ms y) (sm_A bs) := by
  obtain ⟨hcls, hpl, -, -⟩ := sm_okM_at hy
  refine Met.ofW (cc := sm_cd y) (maxL := sm_ml y) (ret := sm_rt y) hpl rfl ?_
  intro p e s m args below meth c s₁ B hml hv
  obtain ⟨rfl, hHR, hNW, hKN⟩ := hv
  have hlocks := B.notSynchronized
  have hr := B.returns
  have C : sm_Cx p D s m ((as.map (sm_mv bs b)).toArray) meth c y := ⟨B.exec, B.bytes, hml, by rw [← hcls]; exact findClass_of_methodNamed B.named, fun w hw => atoms_spec (ws := sm_ws y) B.pre w (List.mem_cons_of_mem _ hw), hNW, hKN, fun hn => by rw [(name_of_methodNamed B.named B.method).1]; exact hn⟩
  rw [lg_entry_eq]
  refine hsim p e s m _ below meth c _ C (fun hyl => absurd hyl (Nat.ne_of_lt hy)) ?_ _ s.heap [] (sm_entry hw) (sm_init_len hw) hHR va_S.rf (Nat.zero_le _) (Nat.zero_le _)
  intro pcR ls H locs c' z' ins hf hk hc hz hH hS
  refine W.widen hc hz ?_
  rcases hk with ⟨rfl, v, rfl, hk⟩ | ⟨rfl, v, rfl, hk⟩ | ⟨rfl, rfl, hk⟩
  · rcases hk with hk | ⟨hk, hv⟩
    · exact W.iret B.exec B.bytes (hr.trans hk) (fun t ht hW => ⟨rfl, (by rw [ht]; exact hH.moved hW.alike), hS.F ht⟩) hS.2.2 (sm_dec hf (fun _ => rfl))
    · exact W.zret B.exec B.bytes (hr.trans hk) (by rcases hv with rfl | rfl <;> rfl) (fun t ht hW => ⟨rfl, (by rw [ht]; exact hH.moved hW.alike), hS.F ht⟩) hS.2.2 (sm_dec hf (fun _ => rfl))
  · exact W.lret B.exec B.bytes (hr.trans hk) (fun t ht hW => ⟨rfl, (by rw [ht]; exact hH.moved hW.alike), hS.F ht⟩) hS.2.2 (sm_dec hf (fun _ => rfl))
  · exact W.vret B.exec B.bytes (hr.trans hk) (fun t ht hW => ⟨rfl, (by rw [ht]; exact hH.moved hW.alike), hS.F ht⟩) hS.2.2 (sm_dec hf (fun _ => rfl))
theorem sm_callX {H : Heap} {locs : List Loc} {mc ms : Nat} {ls : Array Slot} {st0 rest : List Value} {r : Option Value} {h' : sm_Hp} {a : Array Value} (hr : va_Run p l e (sm_R y) s m args below meth c H locs cc zz mc ms (F0 m pc ls st0) rest (sm_Qc D bs b r h' a) (sm_A bs)) (hS : va_S (sm_A bs) s.heap H locs)
    (kk : ∀ (H1 : Heap) (locs1 : List Loc), sm_HR D bs b s H1 h' → va_S (sm_A bs) s.heap H1 locs1 → W p l e (sm_R y) s m args below meth c H1 locs1 (cc + mc) (zz + ms) Q (F0 m (pc + 3) ls ((r.map (sm_mv bs b)).toList ++ rest))) : W p l e (sm_R y) s m args below meth c H locs cc zz Q (F0 m pc ls st0) := by
  intro T hT X
  obtain ⟨v, st₀, t, T', L, h0, X', hL, e1, e2, ⟨hv, hHR, hz, hk⟩, st⟩ := hr T hT X
  cases hv
  rw [h0] at hz hk
  have hal : t.vm.Alike s.vm := by rw [← e2]; exact X'.warmed.alike.symm
  obtain ⟨t2, a1, b1⟩ := kk T'.heap (locs ++ L) (by rw [e1]; exact hHR.moved hal)
    ⟨Nat.le_trans hS.1 (by rw [e1]; exact hz), fun q h1 h2 => by rw [e1, hk q (Nat.lt_of_lt_of_le h1 hS.1) h2]; exact hS.2.1 q h1 h2, fun q hq => by
      rcases List.mem_append.mp hq with h | h
      · exact hS.2.2 q h
      · exact hL q h⟩ T' rfl X'
  exact ⟨t2, st t2 a1, b1⟩
theorem sm_call_inv {y y0 y' : Nat} {as as' rest rest' : List Value} {c z : Nat} (hq : sm_call y y0 as rest c z = some (.inr (.inr (y', as', rest')))) : y0 = y' ∧ as = as' ∧ rest = rest' ∧ (y' < sm_law ∧ sm_lv y' < sm_lv y) ∧ (rest'.map fun v => v.category).sum ≤ 8 ∧ c + sm_mc y' ≤ sm_mc y ∧ z + sm_ms y' ≤ sm_ms y ∧ (sm_wide as').length ≤ sm_ml y' := by
  unfold sm_call at hq
  obtain ⟨hc, hq⟩ := sm_if_inv hq
  cases hq
  exact ⟨rfl, rfl, rfl, hc⟩
theorem sm_roomOk {y y' : Nat} (hy : y' < sm_law) (hl : sm_lv y' < sm_lv y) : (sm_R y').frames + 1 ≤ (sm_R y).frames ∧ 8 + (sm_ml y' + 11) + (sm_R y').locals ≤ (sm_R y).locals := by
  have h1 := (sm_okM_at hy).2.2.1
  refine ⟨hl, ?_⟩
  show 8 + (sm_ml y' + 11) + 34 * sm_lv y' ≤ 34 * sm_lv y
  omega
theorem sm_nx_not {pc : Nat} {L S : List Value} {h : sm_Hp} {c z : Nat} {x : (Option Value) ⊕ (Nat × List Value × List Value)} (hq : sm_nx pc L S h c z = some (.inr x)) : False := by
  unfold sm_nx at hq
  cases hq
theorem sm_stack (n : Nat) (S : List Value) (bs b : Nat) : S.map (sm_mv bs b) = ((S.take n).reverse.map (sm_mv bs b)).reverse ++ (S.drop n).map (sm_mv bs b) := by
  rw [List.map_reverse, List.reverse_reverse, ← List.map_append, List.take_append_drop]
theorem sm_room8 {m : MethodId} {pc : Nat} {ls : Array Slot} {st rest : List Value} (hr : (rest.map fun v => v.category).sum ≤ 8) : 2 * (F0 m pc ls st).monitorRoom + ((rest.map (sm_mv bs b)).map fun v => v.category).sum ≤ 8 := by
  have := sm_rest_room (bs := bs) (b := b) rest hr
  show 2 * 0 + _ ≤ 8
  omega
/-- a call of a method whose contract stands -/
theorem sm_call_sound {ins : Instr} {y' : Nat} {as rest : List Value} {r : Option Value} {h' : sm_Hp} (C : sm_Cx p D s m args meth c y) (hf : sm_fetch y pc = some ins) (hv : sm_isinv ins = true) (hq : sm_act xs y ins pc L S h cc zz = some (.inr (.inr (y', as, rest))))
    (hM : y' < sm_law → (sm_wide as).length ≤ sm_ml y' → Met l (sm_nm y') (sm_ws y') (sm_R y') (sm_Pc D bs b as h) (sm_Qc D bs b r h') (sm_mc y') (sm_ms y') (sm_A bs))
    (k : sm_go p l e s m args below meth c Q D bs b y (pc + 3, L, r.toList ++ rest, h', cc + sm_mc y', zz + sm_ms y')) : sm_go p l e s m args below meth c Q D bs b y (pc, L, S, h, cc, zz) := by
  obtain ⟨hx, hb, hml, hown, hts, hnw, hkn, hin⟩ := C
  have hrest : ∀ (X : List Value), (r.map (sm_mv bs b)).toList ++ X.map (sm_mv bs b) = (r.toList ++ X).map (sm_mv bs b) := fun X => by cases r <;> simp
  cases ins <;> first | (cases hv; done) | skip
  next idx =>
    have hd := sm_dec hf (fun _ => rfl)
    simp only [sm_act, sm_inv] at hq
    split at hq
    · cases hq
    next y0 n' kind ps hlk =>
      have h9 := sm_okC_mem hlk
      split at hq
      all_goals try (exfalso; simp at *; done)
      · obtain ⟨p1, p2, p3, p4⟩ := ps
        simp only [sm_okC, Bool.and_eq_true, decide_eq_true_eq] at h9
        obtain ⟨w1, w2, w4, wn, wr, wd⟩ := h9
        obtain ⟨hn, hq⟩ := sm_if_inv hq
        obtain ⟨a, S1, hS1, hr⟩ := sm_r1_inv hq
        obtain ⟨rfl, rfl, rfl, ⟨hy, hlv⟩, hroom, hcl, hsl, hwd⟩ := sm_call_inv hr
        intro ls H locs h1 h2 h3 h4 h5 h6
        dsimp only at h1 h2 h3 h5 h6 ⊢
        obtain ⟨hm1, -, -, hm4⟩ := sm_okM_at hy
        have hst : S.map (sm_mv bs b) = ((S.take n').reverse.map (sm_mv bs b)).reverse ++ .ref (bs + a) :: S1.map (sm_mv bs b) := by
          rw [sm_stack n' S bs b, hS1]
          rfl
        rw [hst]
        refine sm_callX (va_runI (As := (S.take n').reverse.map (sm_mv bs b)) (rest := S1.map (sm_mv bs b)) ⟨hx, hb, hml, hown, hts⟩ (hM hy hwd) (cwI n' hts (sm_ws_good hy) (by unfold sm_ws; rw [wr]) rfl rfl (hts _ (sm_in w4 rfl)) (hts _ (sm_in w1 rfl)) (hts _ (sm_in w2 rfl)) wn ⟨hm4.1, hm4.2, wd⟩ (sm_roomOk hy hlv)) ⟨sm_blind _ _, fun U hU hW => ⟨rfl, by rw [hU]; exact h3.moved hW.alike, hnw.warm hW, hkn.moved hW.alike⟩⟩ rfl (by simp; omega) (by rw [h1.1]; exact h2) rfl (sm_room8 hroom) hd ⟨hcl, hsl⟩) h4 (fun H1 locs1 g1 g2 => ?_)
        rw [hrest]
        exact k ls H1 locs1 h1 h2 g1 g2 hcl hsl
      · obtain ⟨p1, p2, p3, p4⟩ := ps
        simp only [sm_okC, Bool.and_eq_true, decide_eq_true_eq] at h9
        obtain ⟨w1, w2, w4, wn, wr, wd⟩ := h9
        obtain ⟨hn, hq⟩ := sm_if_inv hq
        obtain ⟨a, S1, hS1, hr⟩ := sm_r1_inv hq
        obtain ⟨rfl, rfl, rfl, ⟨hy, hlv⟩, hroom, hcl, hsl, hwd⟩ := sm_call_inv hr
        intro ls H locs h1 h2 h3 h4 h5 h6
        dsimp only at h1 h2 h3 h5 h6 ⊢
        obtain ⟨hm1, -, -, hm4⟩ := sm_okM_at hy
        have hst : S.map (sm_mv bs b) = ((S.take n').reverse.map (sm_mv bs b)).reverse ++ .ref (bs + a) :: S1.map (sm_mv bs b) := by
          rw [sm_stack n' S bs b, hS1]
          rfl
        rw [hst]
        have hnest : va_Nw (.methodLinkNest (sm_cn (sm_oc y)) idx (sm_nm y0) "TwoPrints") s := hnw.1 (sm_oc y, idx, y0, n', 3, p1, p2, p3, p4) (sm_look_mem hlk) rfl
        refine sm_callX (va_runIN (host := "TwoPrints") (As := (S.take n').reverse.map (sm_mv bs b)) (rest := S1.map (sm_mv bs b)) ⟨hx, hb, hml, hown, hts⟩ (hM hy hwd) ⟨va_cnB n' hts (sm_ws_good hy) (by unfold sm_ws; rw [wr]) rfl rfl hnest (hts _ (sm_in w4 rfl)) ⟨hm4.1, hm4.2, wd⟩ (sm_roomOk hy hlv), wn, hts _ (sm_in w2 rfl)⟩ ⟨sm_blind _ _, fun U hU hW => ⟨rfl, by rw [hU]; exact h3.moved hW.alike, hnw.warm hW, hkn.moved hW.alike⟩⟩ rfl (by simp; omega) (by rw [h1.1]; exact h2) rfl (sm_room8 hroom) hd ⟨hcl, hsl⟩) h4 (fun H1 locs1 g1 g2 => ?_)
        rw [hrest]
        exact k ls H1 locs1 h1 h2 g1 g2 hcl hsl
      · obtain ⟨a, S1, hS1, hr⟩ := sm_r1_inv hq
        obtain ⟨-, hr⟩ := sm_if_inv hr
        exact (sm_nx_not hr).elim
  next idx =>
    have hd := sm_dec hf (fun _ => rfl)
    simp only [sm_act, sm_inv] at hq
    split at hq
    · cases hq
    next y0 n' kind ps hlk =>
      have h9 := sm_okC_mem hlk
      split at hq
      all_goals try (exfalso; simp at *; done)
      · obtain ⟨p1, p2, p3, p4⟩ := ps
        simp only [sm_okC, Bool.and_eq_true, decide_eq_true_eq] at h9
        obtain ⟨w1, w2, w4, wd⟩ := h9
        obtain ⟨hn, hr⟩ := sm_if_inv hq
        obtain ⟨rfl, rfl, rfl, ⟨hy, hlv⟩, hroom, hcl, hsl, hwd⟩ := sm_call_inv hr
        intro ls H locs h1 h2 h3 h4 h5 h6
        dsimp only at h1 h2 h3 h5 h6 ⊢
        obtain ⟨hm1, -, -, hm4⟩ := sm_okM_at hy
        rw [sm_stack n' S bs b]
        refine sm_callX (va_runS (As := (S.take n').reverse.map (sm_mv bs b)) (rest := (S.drop n').map (sm_mv bs b)) ⟨hx, hb, hml, hown, hts⟩ (hM hy hwd) ⟨callB_of n' hts (sm_ws_good hy) rfl rfl rfl (hts _ (sm_in w4 rfl)) (hts _ (sm_in w1 rfl)) ⟨hm4.1, hm4.2, wd⟩ (sm_roomOk hy hlv), hts _ (sm_in w2 rfl)⟩ ⟨sm_blind _ _, fun U hU hW => ⟨rfl, by rw [hU]; exact h3.moved hW.alike, hnw.warm hW, hkn.moved hW.alike⟩⟩ rfl (by simp; omega) (by rw [h1.1]; exact h2) rfl (sm_room8 hroom) hd ⟨hcl, hsl⟩) h4 (fun H1 locs1 g1 g2 => ?_)
        rw [hrest]
        exact k ls H1 locs1 h1 h2 g1 g2 hcl hsl
      · unfold sm_cpy at hq
        split at hq
        · obtain ⟨-, hr⟩ := sm_if_inv hq
          exact (sm_nx_not hr).elim
        · cases hq
      · obtain ⟨a, a2, S1, hS1, hr⟩ := sm_i2_inv hq
        obtain ⟨-, hr⟩ := sm_if_inv hr
        exact (sm_nx_not hr).elim
      · obtain ⟨a, a2, S1, hS1, hr⟩ := sm_i2_inv hq
        obtain ⟨-, hr⟩ := sm_if_inv hr
        exact (sm_nx_not hr).elim
  next idx =>
    have hd := sm_dec hf (fun _ => rfl)
    simp only [sm_act, sm_inv] at hq
    split at hq
    · cases hq
    next y0 n' kind ps hlk =>
      have h9 := sm_okC_mem hlk
      split at hq
      all_goals try (exfalso; simp at *; done)
      · obtain ⟨p1, p2, p3, p4⟩ := ps
        simp only [sm_okC, Bool.and_eq_true, decide_eq_true_eq] at h9
        obtain ⟨w1, w2, w3, w4, hoc, wd⟩ := h9
        obtain ⟨hn, hq⟩ := sm_if_inv hq
        obtain ⟨a, S1, hS1, hr⟩ := sm_r1_inv hq
        obtain ⟨hcls, hr⟩ := sm_if_inv hr
        obtain ⟨rfl, rfl, rfl, ⟨hy, hlv⟩, hroom, hcl, hsl, hwd⟩ := sm_call_inv hr
        intro ls H locs h1 h2 h3 h4 h5 h6
        dsimp only at h1 h2 h3 h5 h6 ⊢
        obtain ⟨hm1, -, -, hm4⟩ := sm_okM_at hy
        obtain ⟨ha, -, -, cell, hcell, hcell2, hcell3, -⟩ := h3.obj hcls hoc
        obtain ⟨-, hfc, -⟩ := hkn _ hoc
        have hst : S.map (sm_mv bs b) = ((S.take n').reverse.map (sm_mv bs b)).reverse ++ .ref (bs + a) :: S1.map (sm_mv bs b) := by
          rw [sm_stack n' S bs b, hS1]
          rfl
        rw [hst]
        refine sm_callX (va_runV (As := (S.take n').reverse.map (sm_mv bs b)) (rest := S1.map (sm_mv bs b)) ⟨hx, hb, hml, hown, hts⟩ (hM hy hwd) (C := (sm_nm y0).cls) (cwV n' hts (fun w hw => ?_) rfl rfl rfl ⟨rfl, hm4.1, hm4.2, wd⟩ (sm_roomOk hy hlv)) ⟨sm_blind _ _, ⟨cell, hcell, by rw [hcell3]; rfl, by rw [hcell2, hcls, hm1]; exact hfc⟩, fun U hU hW => ⟨rfl, by rw [hU]; exact h3.moved hW.alike, hnw.warm hW, hkn.moved hW.alike⟩⟩ rfl (by simp; omega) (by rw [h1.1]; exact h2) rfl (sm_room8 hroom) hd ⟨hcl, hsl⟩) h4 (fun H1 locs1 g1 g2 => ?_)
        · simp only [wsV, List.mem_append, List.mem_cons, List.not_mem_nil, or_false] at hw
          rcases hw with (rfl | rfl | rfl | rfl) | hw
          · exact ⟨sm_in w1 rfl, good_of_word rfl⟩
          · exact ⟨sm_in w2 rfl, good_of_word rfl⟩
          · exact ⟨sm_in w3 rfl, good_of_word rfl⟩
          · exact ⟨sm_in w4 rfl, good_of_word rfl⟩
          · exact sm_ws_good hy w hw
        · rw [hrest]
          exact k ls H1 locs1 h1 h2 g1 g2 hcl hsl
theorem sm_sim (l : Launch) (D : va_G) (bs b : Nat) (xs : List Int32) : ∀ (n y pc : Nat) (L S : List Value) (h : sm_Hp) (c0 z0 : Nat) (r : Option Value) (h' : sm_Hp), sm_run xs n y pc L S h c0 z0 = some (r, h') →
    ∀ (p : Program) (e : Env) (s : State) (m : MethodId) (args : Array Value) (below : List Frame) (meth : Method) (c : Code) (Q : State → Prop), sm_Cx p D s m args meth c y → sm_X b bs xs y s → sm_Ret p l e s m args below meth c Q D bs b y r h' → sm_go p l e s m args below meth c Q D bs b y (pc, L, S, h, c0, z0) := by
  intro n
  induction n with
  | zero => intro y pc L S h c0 z0 r h' hr; cases hr
  | succ n ih =>
    intro y pc L S h c0 z0 r h' hr p e s m args below meth c Q C hX hret
    simp only [sm_run] at hr
    split at hr
    · cases hr
    next ins hf =>
      split at hr
      · cases hr
      next q ha =>
        exact sm_step C hX hf ha (ih _ _ _ _ _ _ _ _ _ hr p e s m args below meth c Q C hX hret)
      next v ha =>
        obtain ⟨hi, hr⟩ := sm_if_inv hr
        cases hr
        have key : sm_rk y ins r ∧ S.map (sm_mv bs b) = (r.map (sm_mv bs b)).toList := by
          cases ins <;> first | (cases hi; done) | skip
          · simp only [sm_act] at ha
            split at ha
            next v =>
              obtain ⟨hk, ha⟩ := sm_if_inv ha
              cases ha
              exact ⟨Or.inl ⟨rfl, v, rfl, hk⟩, rfl⟩
            · cases ha
          · simp only [sm_act] at ha
            split at ha
            next v =>
              obtain ⟨hk, ha⟩ := sm_if_inv ha
              cases ha
              exact ⟨Or.inr (Or.inl ⟨rfl, v, rfl, hk⟩), rfl⟩
            · cases ha
          · simp only [sm_act] at ha
            split at ha
            · obtain ⟨hk, ha⟩ := sm_if_inv ha
              cases ha
              exact ⟨Or.inr (Or.inr ⟨rfl, rfl, hk⟩), rfl⟩
            · cases ha
        intro ls H locs h1 h2 h3 h4 h5 h6
        dsimp only at h1 h2 h3 h5 h6 ⊢
        rw [key.2]
        exact hret pc ls H locs c0 z0 ins hf key.1 h5 h6 h3 h4
      next q ha =>
        obtain ⟨hi, hr⟩ := sm_if_inv hr
        obtain ⟨y', as, rest⟩ := q
        split at hr
        · cases hr
        next r1 h1 hrun =>
          exact sm_call_sound C hf hi ha (fun hy hw => sm_met (xs := xs) hy hw (fun p e s m args below meth c Q C' hX' hret' => ih _ _ _ _ _ _ _ _ _ hrun p e s m args below meth c Q C' hX' hret')) (ih _ _ _ _ _ _ _ _ _ hr p e s m args below meth c Q C hX hret)
end SMK
