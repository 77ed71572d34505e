/-! the two objects at the law's beginning -/
def s0 : CS := ((fun _ => 0, 0), path0, zeroP, (fun _ => zeroP, 0, 0), (fun _ => zeroP, fun _ => false), (0, 0), 0)
def j0 : CJ := ((nI 0, nI 0, false, false, false), (path0, trk path0), (fun _ => nI 0, fun _ => nI 0, fun _ => nI 0, nI 0, nI 0), false)
def m0 : MC := ((0, 0, 0, 0), (nI 0, nI 0, nI 0, nI 0, nI 0, nI 0), (fun _ => 0, fun _ => 0, fun _ => 0, fun _ => 0, fun _ => 0), (fun _ => 0, fun _ => 0, fun _ => 0, fun _ => 0), (fun _ => false, fun _ => nI 0, fun _ => nI 0))
theorem s0_ok : StOk s0 := ⟨⟨fun _ => by show 0 < 256; decide, Nat.zero_le _⟩, path0_ok, zero_ok _, ⟨by show 0 < 8; decide, Nat.zero_le _, fun i hi => absurd hi (Nat.not_lt_zero _)⟩, fun i hi z => (by cases z), Nat.two_pow_pos _, Nat.zero_le _⟩
section STA
variable {xs : List Int32} {h : sm_Hp} {K : Option Value → sm_Hp → Prop}
theorem img_loop (h0 : h.1 0 = (5, [.ref 1, .ref 3, .ref 10, .ref 68, .ref 69, .ref 70, .ref 74, .ref 79, .long 0, .int (nI 0), .long 0])) (Q : ∀ h', h'.1 68 = c_ims → (∀ i, i < 2 → PrAt h' (84 + 7 * i) zeroP) → (∀ q, q < 84 → q ≠ 68 → h'.1 q = h.1 q) → h'.2 = 98 → K none h') : ∀ r i (H : sm_Hp), i + r = 2 → H.1 68 = (14, tab 2 (fun j => if j < i then .ref (84 + 7 * j) else .null)) → (∀ j, j < i → PrAt H (84 + 7 * j) zeroP) → (∀ q, q < 84 → q ≠ 68 → H.1 q = h.1 q) → H.2 = 84 + 7 * i → Wp xs m_TwoPrints_init 87 [.ref 0, .int (nI i)] [] H (83 + 7 * i) (1755 + 134 * i) K := by
  intro r
  induction r with
  | zero =>
    intro i H hi h68 hP hf h2
    have : i = 2 := by omega
    subst this
    rw [w_TwoPrints_init_87]
    simp (disch := omega) only [w_TwoPrints_init_88, w_TwoPrints_init_89, w_TwoPrints_init_92, w_TwoPrints_init_93, w_TwoPrints_init_96, w_TwoPrints_init_97, w_TwoPrints_init_100, w_TwoPrints_init_101, w_TwoPrints_init_104, w_TwoPrints_init_105, w_TwoPrints_init_108, w_TwoPrints_init_111, q_rd_eq, q_nt_0, q_nt_s, q_ld_tab, q_st_tab, q_aa13, q_aa14, q_is_eq, q_wr_eq, q_01_0, q_01_1, q_nz_nI, q_len_tab, psh_some, psh_none, sm_up_at, sm_up_ne, nI_add, nI_lt2, nI_le2, nI_eq2, ls_set0, ls_setS, Nat.reduceAdd, Nat.zero_add, Nat.add_zero, not_true_eq_false, not_false_eq_true, ite_true, ite_false, Nat.le_refl]
    refine Q H ?_ hP hf h2
    rw [h68]
    exact congrArg (fun l => ((14 : Nat), l)) (tab_congr (fun j hj => if_pos hj))
  | succ r ih =>
    intro i H hi h68 hP hf h2
    have h1 : ¬ 2 ≤ i := by omega
    have h00 := (hf 0 (by omega) (by omega)).trans h0
    rw [w_TwoPrints_init_87]
    have T := i_Prints (xs := xs) (p := 84 + 7 * i) (h := sm_new H (3, [.null, .null, .null, .null])) (K := fun r h' => Wp xs m_TwoPrints_init 104 [.ref 0, .int (nI i)] (psh r [.ref (84 + 7 * i), .int (nI i), .ref 68]) h' (83 + 7 * i + 1 + 6) (1755 + 134 * i + 4 + 130) K) (nw_at h2) (by rw [nw_2, h2]) (fun h' c1 c2 c3 => ?_)
    · simp (disch := omega) only [w_TwoPrints_init_88, w_TwoPrints_init_89, w_TwoPrints_init_92, w_TwoPrints_init_93, w_TwoPrints_init_96, w_TwoPrints_init_97, w_TwoPrints_init_100, w_TwoPrints_init_101, q_rd_eq, q_nt_0, q_nt_s, q_ld_tab, q_st_tab, q_aa13, q_aa14, q_is_eq, q_wr_eq, q_01_0, q_01_1, q_nz_nI, q_len_tab, psh_some, psh_none, sm_up_at, sm_up_ne, nI_add, nI_lt2, nI_le2, nI_eq2, ls_set0, ls_setS, Nat.reduceAdd, Nat.zero_add, Nat.add_zero, not_true_eq_false, not_false_eq_true, ite_true, ite_false, h1, h00, h2]
      exact T
    · have lo : ∀ q, q < 84 + 7 * i → h'.1 q = H.1 q := fun q hq => (c2 q hq).trans (nw_ne (by omega))
      have d68 : h'.1 68 = (14, tab 2 (fun j => if j < i then .ref (84 + 7 * j) else .null)) := (lo 68 (by omega)).trans h68
      have d3 := c1.c0
      simp (disch := omega) only [w_TwoPrints_init_104, w_TwoPrints_init_105, w_TwoPrints_init_108, q_rd_eq, q_nt_0, q_nt_s, q_ld_tab, q_st_tab, q_aa13, q_aa14, q_is_eq, q_wr_eq, q_01_0, q_01_1, q_nz_nI, q_len_tab, psh_some, psh_none, sm_up_at, sm_up_ne, nI_add, nI_lt2, nI_le2, nI_eq2, ls_set0, ls_setS, Nat.reduceAdd, Nat.zero_add, Nat.add_zero, not_true_eq_false, not_false_eq_true, ite_true, ite_false, q_is2_eq, d3, d68]
      refine ih (i + 1) _ (by omega) ?_ (fun j hj => ?_) (fun q hq hq2 => ?_) ?_
      · rw [sm_up_at]
        refine congrArg (fun l => ((14 : Nat), l)) (tab_congr (fun j hj => ?_))
        by_cases c : j = i
        · rw [if_pos c, if_pos (by omega), c]
        · rw [if_neg c]
          by_cases c4 : j < i
          · rw [if_pos c4, if_pos (by omega)]
          · rw [if_neg c4, if_neg (by omega)]
      · by_cases c : j = i
        · rw [c]; exact c1.up (by omega)
        · refine PrAt.up (fun t ht => ?_) (by omega)
          rw [lo _ (by omega)]
          exact hP j (by omega) t ht
      · rw [sm_up_ne hq2, lo q (by omega)]; exact hf q hq hq2
      · rw [sm_up_2, c3]; omega
theorem i_Two (hp : h.1 0 = (5, [.null, .null, .null, .null, .null, .null, .null, .null, .long 0, .int (nI 0), .long 0])) (hn : h.2 = 1) (Q : ∀ h', InvC h' s0 j0 → h'.2 = 98 → K none h') : Wp xs m_TwoPrints_init 0 [.ref 0, .null] [] h 0 0 K := by
  simp (disch := omega) only [w_TwoPrints_init_0, w_TwoPrints_init_1, w_TwoPrints_init_4, w_TwoPrints_init_5, w_TwoPrints_init_8, w_TwoPrints_init_9, q_rd_eq, q_nt_0, q_nt_s, q_ld_tab, q_st_tab, q_aa13, q_aa14, q_is_eq, q_wr_eq, q_01_0, q_01_1, q_nz_nI, q_len_tab, psh_some, psh_none, sm_up_at, sm_up_ne, nI_add, nI_lt2, nI_le2, nI_eq2, ls_set0, ls_setS, Nat.reduceAdd, Nat.zero_add, Nat.add_zero, not_true_eq_false, not_false_eq_true, ite_true, ite_false, hn]
  refine i_Reader (p := 1) (nw_at hn) (by rw [nw_2, hn]) (fun hA a1 a2 a3 a4 => ?_)
  have A0 := (a3 0 (by omega)).trans ((nw_ne (by omega)).trans hp)
  have A2 : hA.2 = 3 := a4
  simp (disch := omega) only [w_TwoPrints_init_12, w_TwoPrints_init_15, w_TwoPrints_init_16, w_TwoPrints_init_19, w_TwoPrints_init_20, q_rd_eq, q_nt_0, q_nt_s, q_ld_tab, q_st_tab, q_aa13, q_aa14, q_is_eq, q_wr_eq, q_01_0, q_01_1, q_nz_nI, q_len_tab, psh_some, psh_none, sm_up_at, sm_up_ne, nI_add, nI_lt2, nI_le2, nI_eq2, ls_set0, ls_setS, Nat.reduceAdd, Nat.zero_add, Nat.add_zero, not_true_eq_false, not_false_eq_true, ite_true, ite_false, A0, A2, sm_up_2]
  refine i_Prints (p := 3) (nw_at A2) (by rw [nw_2, sm_up_2, A2]) (fun hB b1 b3 b4 => ?_)
  have B0 := (b3 0 (by omega)).trans ((nw_ne (by rw [sm_up_2, A2]; omega)).trans sm_up_at)
  have B2 : hB.2 = 10 := b4
  have loB : ∀ q, 0 < q → q < 3 → hB.1 q = hA.1 q := fun q h1 h2 => (b3 q h2).trans ((nw_ne (by rw [sm_up_2, A2]; omega)).trans (sm_up_ne (by omega)))
  simp (disch := omega) only [w_TwoPrints_init_23, w_TwoPrints_init_26, w_TwoPrints_init_27, w_TwoPrints_init_30, w_TwoPrints_init_31, q_rd_eq, q_nt_0, q_nt_s, q_ld_tab, q_st_tab, q_aa13, q_aa14, q_is_eq, q_wr_eq, q_01_0, q_01_1, q_nz_nI, q_len_tab, psh_some, psh_none, sm_up_at, sm_up_ne, nI_add, nI_lt2, nI_le2, nI_eq2, ls_set0, ls_setS, Nat.reduceAdd, Nat.zero_add, Nat.add_zero, not_true_eq_false, not_false_eq_true, ite_true, ite_false, B0, B2, sm_up_2]
  refine i_Past (nw_at B2) (by rw [nw_2, sm_up_2, B2]) (fun hC c10 c11 c12 c3 c4 => ?_)
  have C0 := (c3 0 (by omega)).trans ((nw_ne (by rw [sm_up_2, B2]; omega)).trans sm_up_at)
  have loC : ∀ q, 0 < q → q < 10 → hC.1 q = hB.1 q := fun q h1 h2 => (c3 q h2).trans ((nw_ne (by rw [sm_up_2, B2]; omega)).trans (sm_up_ne (by omega)))
  simp (disch := (first | omega | (simp only [sm_up_2, nw_2, c4]; done) | (simp only [sm_up_2, nw_2, c4]; omega))) only [w_TwoPrints_init_34, w_TwoPrints_init_37, w_TwoPrints_init_38, w_TwoPrints_init_39, w_TwoPrints_init_42, w_TwoPrints_init_45, w_TwoPrints_init_46, w_TwoPrints_init_47, w_TwoPrints_init_49, w_TwoPrints_init_52, w_TwoPrints_init_53, w_TwoPrints_init_56, w_TwoPrints_init_57, q_rd_eq, q_nt_0, q_nt_s, q_ld_tab, q_st_tab, q_aa13, q_aa14, q_is_eq, q_wr_eq, q_01_0, q_01_1, q_nz_nI, q_len_tab, psh_some, psh_none, sm_up_at, sm_up_ne, nI_add, nI_lt2, nI_le2, nI_eq2, ls_set0, ls_setS, Nat.reduceAdd, Nat.zero_add, Nat.add_zero, not_true_eq_false, not_false_eq_true, ite_true, ite_false, C0, c4, sm_up_2, nw_2, nw_ne]
  refine i_Way (p := 70) (nw_at (by simp only [sm_up_2, nw_2, c4])) (by simp only [sm_up_2, nw_2, c4]) (fun hD d0 d1 d2 d3 d4 d5 => ?_)
  have D2 : hD.2 = 74 := d5
  have loD : ∀ q, 0 < q → q < 68 → hD.1 q = hC.1 q := fun q h1 h2 => (d4 q (by omega)).trans (by simp (disch := (first | omega | (simp only [sm_up_2, nw_2, c4]; done) | (simp only [sm_up_2, nw_2, c4]; omega))) only [sm_up_ne, nw_ne])
  have D68 : hD.1 68 = (14, tab 2 (fun _ => .null)) := (d4 68 (by omega)).trans (by simp (disch := (first | omega | (simp only [sm_up_2, nw_2, c4]; done) | (simp only [sm_up_2, nw_2, c4]; omega))) only [sm_up_ne, nw_at, nw_ne])
  have D69 : hD.1 69 = (12, tab 2 (fun _ => .int (nI 0))) := (d4 69 (by omega)).trans (by simp (disch := (first | omega | (simp only [sm_up_2, nw_2, c4]; done) | (simp only [sm_up_2, nw_2, c4]; omega))) only [sm_up_ne, nw_at, nw_ne])
  have D0 : hD.1 0 = (5, [.ref 1, .ref 3, .ref 10, .ref 68, .ref 69, .null, .null, .null, .long 0, .int (nI 0), .long 0]) := (d4 0 (by omega)).trans (by simp (disch := (first | omega | (simp only [sm_up_2, nw_2, c4]; done) | (simp only [sm_up_2, nw_2, c4]; omega))) only [sm_up_at, nw_ne])
  simp (disch := omega) only [w_TwoPrints_init_60, w_TwoPrints_init_63, w_TwoPrints_init_64, w_TwoPrints_init_67, w_TwoPrints_init_68, q_rd_eq, q_nt_0, q_nt_s, q_ld_tab, q_st_tab, q_aa13, q_aa14, q_is_eq, q_wr_eq, q_01_0, q_01_1, q_nz_nI, q_len_tab, psh_some, psh_none, sm_up_at, sm_up_ne, nI_add, nI_lt2, nI_le2, nI_eq2, ls_set0, ls_setS, Nat.reduceAdd, Nat.zero_add, Nat.add_zero, not_true_eq_false, not_false_eq_true, ite_true, ite_false, D0, D2, sm_up_2]
  refine i_Path (p := 74) (nw_at D2) (by rw [nw_2, sm_up_2, D2]) (fun hE e1 e3 e4 => ?_)
  have E0 := (e3 0 (by omega)).trans ((nw_ne (by rw [sm_up_2, D2]; omega)).trans sm_up_at)
  have E2 : hE.2 = 79 := e4
  have loE : ∀ q, 0 < q → q < 74 → hE.1 q = hD.1 q := fun q h1 h2 => (e3 q h2).trans ((nw_ne (by rw [sm_up_2, D2]; omega)).trans (sm_up_ne (by omega)))
  simp (disch := omega) only [w_TwoPrints_init_71, w_TwoPrints_init_74, w_TwoPrints_init_75, w_TwoPrints_init_78, w_TwoPrints_init_79, q_rd_eq, q_nt_0, q_nt_s, q_ld_tab, q_st_tab, q_aa13, q_aa14, q_is_eq, q_wr_eq, q_01_0, q_01_1, q_nz_nI, q_len_tab, psh_some, psh_none, sm_up_at, sm_up_ne, nI_add, nI_lt2, nI_le2, nI_eq2, ls_set0, ls_setS, Nat.reduceAdd, Nat.zero_add, Nat.add_zero, not_true_eq_false, not_false_eq_true, ite_true, ite_false, E0, E2, sm_up_2]
  refine i_Path (p := 79) (nw_at E2) (by rw [nw_2, sm_up_2, E2]) (fun hF f1 f3 f4 => ?_)
  have F0 := (f3 0 (by omega)).trans ((nw_ne (by rw [sm_up_2, E2]; omega)).trans sm_up_at)
  have F2 : hF.2 = 84 := f4
  have loF : ∀ q, 0 < q → q < 79 → hF.1 q = hE.1 q := fun q h1 h2 => (f3 q h2).trans ((nw_ne (by rw [sm_up_2, E2]; omega)).trans (sm_up_ne (by omega)))
  simp (disch := omega) only [w_TwoPrints_init_82, w_TwoPrints_init_85, w_TwoPrints_init_86, q_rd_eq, q_nt_0, q_nt_s, q_ld_tab, q_st_tab, q_aa13, q_aa14, q_is_eq, q_wr_eq, q_01_0, q_01_1, q_nz_nI, q_len_tab, psh_some, psh_none, sm_up_at, sm_up_ne, nI_add, nI_lt2, nI_le2, nI_eq2, ls_set0, ls_setS, Nat.reduceAdd, Nat.zero_add, Nat.add_zero, not_true_eq_false, not_false_eq_true, ite_true, ite_false, F0]
  have up : ∀ q, 0 < q → q < 68 → hF.1 q = hC.1 q := fun q h1 h2 => (loF q h1 (by omega)).trans ((loE q h1 (by omega)).trans (loD q h1 h2))
  have up2 : ∀ q, 68 ≤ q → q < 74 → hF.1 q = hD.1 q := fun q h1 h2 => (loF q (by omega) (by omega)).trans (loE q (by omega) h2)
  have G0 : (sm_up hF 0 (5, [.ref 1, .ref 3, .ref 10, .ref 68, .ref 69, .ref 70, .ref 74, .ref 79, .long 0, .int (nI 0), .long 0])).1 0 = (5, [.ref 1, .ref 3, .ref 10, .ref 68, .ref 69, .ref 70, .ref 74, .ref 79, .long 0, .int (nI 0), .long 0]) := sm_up_at
  refine img_loop G0 (fun h' i68 i84 lo i2 => ?_) 2 0 _ (by omega) ?_ (fun j hj => absurd hj (Nat.not_lt_zero _)) (fun q _ _ => rfl) F2
  · have g : ∀ q, 0 < q → q < 84 → q ≠ 68 → h'.1 q = hF.1 q := fun q h1 h2 h3 => (lo q h2 h3).trans (sm_up_ne (by omega))
    refine Q h' ⟨⟨(lo 0 (by omega) (by omega)).trans G0, ?_, ?_⟩, fun t ht => ?_, ⟨?_, ?_⟩, fun i hi t ht => ?_, ⟨i68, ?_⟩, i84, ⟨?_, ?_, ?_, ?_⟩, fun t ht => ?_, fun t ht => ?_⟩ i2
    · exact (g 1 (by omega) (by omega) (by omega)).trans ((up 1 (by omega) (by omega)).trans ((loC 1 (by omega) (by omega)).trans ((loB 1 (by omega) (by omega)).trans a1)))
    · exact (g 2 (by omega) (by omega) (by omega)).trans ((up 2 (by omega) (by omega)).trans ((loC 2 (by omega) (by omega)).trans ((loB 2 (by omega) (by omega)).trans a2)))
    · exact (g _ (by omega) (by omega) (by omega)).trans ((up _ (by omega) (by omega)).trans ((loC _ (by omega) (by omega)).trans (b1 t ht)))
    · exact (g 10 (by omega) (by omega) (by omega)).trans ((up 10 (by omega) (by omega)).trans c10)
    · exact (g 11 (by omega) (by omega) (by omega)).trans ((up 11 (by omega) (by omega)).trans c11)
    · exact (g _ (by omega) (by omega) (by omega)).trans ((up _ (by omega) (by omega)).trans (c12 i hi t ht))
    · exact (g 69 (by omega) (by omega) (by omega)).trans ((up2 69 (by omega) (by omega)).trans D69)
    · exact (g 70 (by omega) (by omega) (by omega)).trans ((up2 70 (by omega) (by omega)).trans d0)
    · exact (g 71 (by omega) (by omega) (by omega)).trans ((up2 71 (by omega) (by omega)).trans d1)
    · exact (g 72 (by omega) (by omega) (by omega)).trans ((up2 72 (by omega) (by omega)).trans d2)
    · exact (g 73 (by omega) (by omega) (by omega)).trans ((up2 73 (by omega) (by omega)).trans d3)
    · have e : cLp j0 = 74 := rfl
      rw [e]
      exact (g _ (by omega) (by omega) (by omega)).trans ((loF _ (by omega) (by omega)).trans (e1 t ht))
    · have e : cDp j0 = 79 := rfl
      rw [e]
      exact (g _ (by omega) (by omega) (by omega)).trans (f1 t ht)
  · rw [sm_up_ne (by omega), up2 68 (by omega) (by omega), D68]
    exact congrArg (fun l => ((14 : Nat), l)) (tab_congr (fun j hj => (if_neg (Nat.not_lt_zero _)).symm))
theorem i_Model (hp : h.1 98 = (6, [.int (nI 0), .long 0, .null, .int (nI 0), .int (nI 0), .int (nI 0), .int (nI 0), .int (nI 0), .int (nI 0), .null, .int (nI 0), .null, .null, .null, .null, .null, .null, .null, .int (nI 0), .null, .int (nI 0), .null, .null])) (hn : h.2 = 99) (Q : ∀ h', (∃ m, MAt h' m ∧ Rel s0 m) → (∀ q, q < 98 → h'.1 q = h.1 q) → h'.2 = 111 → K none h') : Wp xs m_Model_init 0 [.ref 98] [] h 0 0 K := by
  have fin : ∀ H : sm_Hp, MAt H m0 → (∀ q, q < 98 → H.1 q = h.1 q) → H.2 = 111 → Wp xs m_Model_init 99 [.ref 98] [] H 12 3120 K := by
    intro H J hf h2
    have e1 : ∀ K, Wp xs m_Model_begins 0 [.ref 98, .null] [] H 0 0 K = K none (YH H m0 (bgM m0.2.2.1.2.1) (bg3 m0.2.2.1.2.2.1 0) (bg3 m0.2.2.1.2.2.2.1 3) (bg3 m0.2.2.1.2.2.2.2 3) m0.2.1.1 m0.2.1.2.1 m0.2.1.2.2.1 m0.2.1.2.2.2.1 m0.2.1.2.2.2.2.1 (nI 0)) := fun K => by
      have e := m_begins (xs := xs) (h := H) (m := m0) (mn := m0.2.2.1.2.1) (st := m0.2.2.1.2.2.1) (sd := m0.2.2.1.2.2.2.1) (sp := m0.2.2.1.2.2.2.2) (nx := m0.2.1.1) (tk := m0.2.1.2.1) (pl := m0.2.1.2.2.1) (vl := m0.2.1.2.2.2.1) (fv := m0.2.1.2.2.2.2.1) (tl := m0.2.1.2.2.2.2.2) (K := K)
      rw [yh_self J] at e
      exact e
    have o0 := J.o
    have I2 := yh_at (mn := bgM m0.2.2.1.2.1) (st := bg3 m0.2.2.1.2.2.1 0) (sd := bg3 m0.2.2.1.2.2.2.1 3) (sp := bg3 m0.2.2.1.2.2.2.2 3) (nx := m0.2.1.1) (tk := m0.2.1.2.1) (pl := m0.2.1.2.2.1) (vl := m0.2.1.2.2.2.1) (fl := m0.2.1.2.2.2.2.1) (tl := nI 0) J
    have F2 := yh_fr (h := H) (m := m0) (mn := bgM m0.2.2.1.2.1) (st := bg3 m0.2.2.1.2.2.1 0) (sd := bg3 m0.2.2.1.2.2.2.1 3) (sp := bg3 m0.2.2.1.2.2.2.2 3) (nx := m0.2.1.1) (tk := m0.2.1.2.1) (pl := m0.2.1.2.2.1) (vl := m0.2.1.2.2.2.1) (fl := m0.2.1.2.2.2.2.1) (tl := nI 0)
    generalize YH H m0 (bgM m0.2.2.1.2.1) (bg3 m0.2.2.1.2.2.1 0) (bg3 m0.2.2.1.2.2.2.1 3) (bg3 m0.2.2.1.2.2.2.2 3) m0.2.1.1 m0.2.1.2.1 m0.2.1.2.2.1 m0.2.1.2.2.2.1 m0.2.1.2.2.2.2.1 (nI 0) = H2 at e1 I2 F2
    have o2 := I2.o
    have MS := M_settles (xs := xs) (K := fun r h' => Wp xs m_Model_init 107 [.ref 98] (psh r []) h' 12 3120 K) I2 (fun h' I' F' => by
      simp (disch := omega) only [w_Model_init_107, psh_none]
      refine Q h' ⟨_, I', ?_⟩ (fun q hq => (F'.1 q hq).trans ((F2.1 q hq).trans (hf q hq))) (by rw [F'.2, F2.2, h2])
      refine ⟨⟨rfl, fun i hi => rfl⟩, ⟨rfl, rfl, rfl, rfl, fun k hk => ?_⟩, fun i hi => ?_, ⟨rfl, fun i hi => absurd hi (Nat.not_lt_zero _)⟩, fun i hi => ⟨rfl, fun z => by cases z⟩, ⟨rfl, fun e he => absurd he (Nat.not_lt_zero _), fun x => ?_⟩, rfl⟩
      · match k, hk with
        | 0, _ => exact ⟨rfl, rfl, rfl⟩
        | 1, _ => exact ⟨rfl, rfl, rfl⟩
      · rw [show s0.2.2.1 = zeroP from rfl, sv_zero]
        exact if_pos hi
      · show (0 : Nat).testBit x = true ↔ ∃ e, e < 0 ∧ _
        rw [Nat.zero_testBit]
        exact ⟨fun z => absurd z (by decide), fun ⟨e, he, _⟩ => absurd he (Nat.not_lt_zero _)⟩)
    simp (disch := omega) only [w_Model_init_99, w_Model_init_100, w_Model_init_103, w_Model_init_104, q_rd_eq, q_nt_0, q_nt_s, q_ld_tab, q_st_tab, q_aa13, q_aa14, q_is_eq, q_wr_eq, q_01_0, q_01_1, q_nz_nI, q_len_tab, psh_some, psh_none, sm_up_at, sm_up_ne, nI_add, nI_lt2, nI_le2, nI_eq2, ls_set0, ls_setS, Nat.reduceAdd, Nat.zero_add, Nat.add_zero, not_true_eq_false, not_false_eq_true, ite_true, ite_false, o0, e1, o2]
    exact MS
  simp (disch := (first | omega | (simp only [sm_up_2, nw_2, hn]; done) | (simp only [sm_up_2, nw_2, hn]; omega))) only [w_Model_init_0, w_Model_init_1, w_Model_init_4, w_Model_init_5, w_Model_init_7, w_Model_init_9, w_Model_init_12, w_Model_init_13, w_Model_init_15, w_Model_init_17, w_Model_init_20, w_Model_init_21, w_Model_init_22, w_Model_init_24, w_Model_init_27, w_Model_init_28, w_Model_init_29, w_Model_init_31, w_Model_init_34, w_Model_init_35, w_Model_init_36, w_Model_init_38, w_Model_init_41, w_Model_init_42, w_Model_init_45, w_Model_init_47, w_Model_init_50, w_Model_init_51, w_Model_init_54, w_Model_init_56, w_Model_init_59, w_Model_init_60, w_Model_init_61, w_Model_init_63, w_Model_init_66, w_Model_init_67, w_Model_init_70, w_Model_init_72, w_Model_init_75, w_Model_init_76, w_Model_init_78, w_Model_init_80, w_Model_init_83, w_Model_init_84, w_Model_init_86, w_Model_init_88, w_Model_init_91, w_Model_init_92, w_Model_init_94, w_Model_init_96, q_rd_eq, q_nt_0, q_nt_s, q_ld_tab, q_st_tab, q_aa13, q_aa14, q_is_eq, q_wr_eq, q_01_0, q_01_1, q_nz_nI, q_len_tab, psh_some, psh_none, sm_up_at, sm_up_ne, nI_add, nI_lt2, nI_le2, nI_eq2, ls_set0, ls_setS, Nat.reduceAdd, Nat.zero_add, Nat.add_zero, not_true_eq_false, not_false_eq_true, ite_true, ite_false, hn, hp, sm_up_2, nw_2, nw_ne]
  refine fin _ ⟨?_, ?_, ?_, ?_, ?_, ?_, ?_, ?_, ?_, ?_, ?_, ?_, ?_⟩ (fun q hq => ?_) ?_
  · exact sm_up_at
  all_goals first
    | (simp (disch := (first | omega | (simp only [sm_up_2, nw_2, hn]; done) | (simp only [sm_up_2, nw_2, hn]; omega))) only [sm_up_ne, nw_at, nw_ne]; done)
    | (simp (disch := (first | omega | (simp only [sm_up_2, nw_2, hn]; done) | (simp only [sm_up_2, nw_2, hn]; omega))) only [sm_up_ne, nw_at, nw_ne]; rfl)
    | (simp only [sm_up_2, nw_2, hn]; done)
end STA
