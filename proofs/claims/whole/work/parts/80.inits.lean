/-! the constructors: what they lay -/
theorem nw_2 {h : sm_Hp} {x : sm_Cell} : (sm_new h x).2 = h.2 + 1 := rfl
theorem nw_at {h : sm_Hp} {x : sm_Cell} {a : Nat} (ha : h.2 = a) : (sm_new h x).1 a = x := if_pos ha.symm
theorem nw_ne {h : sm_Hp} {x : sm_Cell} {q : Nat} (hq : q ≠ h.2) : (sm_new h x).1 q = h.1 q := if_neg hq
theorem gr_2 {h : sm_Hp} {n k : Nat} : (sm_grid h n k).2 = h.2 + 1 + n := rfl
theorem gr_lo {h : sm_Hp} {n k q : Nat} (hq : q < h.2) : (sm_grid h n k).1 q = h.1 q := by
  show (if q = h.2 then _ else if h.2 < q ∧ q ≤ h.2 + n then _ else h.1 q) = _
  rw [if_neg (by omega), if_neg (by omega)]
theorem gr_at {h : sm_Hp} {a : Nat} (ha : h.2 = a) : (sm_grid h 2 61).1 a = (13, tab 2 (fun i => .ref (a + 1 + i))) := by
  subst ha
  exact if_pos rfl
theorem gr_in {h : sm_Hp} {a : Nat} (h1 : h.2 < a) (h2 : a ≤ h.2 + 2) : (sm_grid h 2 61).1 a = (10, tab 61 (fun _ => .int (nI 0))) := by
  show (if a = h.2 then _ else if h.2 < a ∧ a ≤ h.2 + 2 then _ else h.1 a) = _
  rw [if_neg (by omega), if_pos ⟨h1, h2⟩, tab_rep]
  rfl
section INI
variable {xs : List Int32} {h : sm_Hp} {K : Option Value → sm_Hp → Prop} {p : Nat}
theorem i_Prints (hp : h.1 p = (3, [.null, .null, .null, .null])) (hn : h.2 = p + 1) (Q : ∀ h', PrAt h' p zeroP → (∀ q, q < p → h'.1 q = h.1 q) → h'.2 = p + 7 → K none h') : Wp xs m_Prints_init 0 [.ref p] [] h 0 0 K := by
  simp (disch := (first | omega | (simp only [sm_up_2, nw_2, gr_2, hn]; done) | (simp only [sm_up_2, nw_2, gr_2, hn]; omega))) only [w_Prints_init_0, w_Prints_init_1, w_Prints_init_4, w_Prints_init_5, w_Prints_init_6, w_Prints_init_8, w_Prints_init_12, w_Prints_init_15, w_Prints_init_16, w_Prints_init_17, w_Prints_init_19, w_Prints_init_22, w_Prints_init_23, w_Prints_init_24, w_Prints_init_26, w_Prints_init_29, w_Prints_init_30, w_Prints_init_31, w_Prints_init_33, w_Prints_init_36, q_rd_eq, q_nt_0, q_nt_s, q_ld_tab, q_st_tab, q_aa13, q_aa14, q_is_eq, q_wr_eq, q_01_0, q_01_1, q_nz_nI, q_len_tab, psh_some, psh_none, sm_up_at, sm_up_ne, nI_add, nI_lt2, nI_le2, nI_eq2, ls_set0, ls_setS, Nat.reduceAdd, Nat.zero_add, Nat.add_zero, not_true_eq_false, not_false_eq_true, ite_true, ite_false, hn, hp, sm_up_2, nw_2, gr_2, gr_lo, nw_ne, Nat.add_assoc, Nat.reduceMul]
  refine Q _ (fun j hj => ?_) (fun q hq => ?_) ?_
  · match j, hj with
    | 0, _ =>
      simp (disch := (first | omega | (simp only [sm_up_2, nw_2, gr_2, hn]; done) | (simp only [sm_up_2, nw_2, gr_2, hn]; omega))) only [Nat.add_zero, sm_up_at]
      rfl
    | 1, _ =>
      simp (disch := (first | omega | (simp only [sm_up_2, nw_2, gr_2, hn]; done) | (simp only [sm_up_2, nw_2, gr_2, hn]; omega))) only [sm_up_at, sm_up_ne, nw_at, nw_ne, gr_at]
      rfl
    | 2, _ =>
      simp (disch := (first | omega | (simp only [sm_up_2, nw_2, gr_2, hn]; done) | (simp only [sm_up_2, nw_2, gr_2, hn]; omega))) only [sm_up_at, sm_up_ne, nw_at, nw_ne, gr_in]
      rfl
    | 3, _ =>
      simp (disch := (first | omega | (simp only [sm_up_2, nw_2, gr_2, hn]; done) | (simp only [sm_up_2, nw_2, gr_2, hn]; omega))) only [sm_up_at, sm_up_ne, nw_at, nw_ne, gr_in]
      rfl
    | 4, _ =>
      simp (disch := (first | omega | (simp only [sm_up_2, nw_2, gr_2, hn]; done) | (simp only [sm_up_2, nw_2, gr_2, hn]; omega))) only [sm_up_at, sm_up_ne, nw_at, nw_ne]
      rfl
    | 5, _ =>
      simp (disch := (first | omega | (simp only [sm_up_2, nw_2, gr_2, hn]; done) | (simp only [sm_up_2, nw_2, gr_2, hn]; omega))) only [sm_up_at, sm_up_ne, nw_at, nw_ne]
      rfl
    | 6, _ =>
      simp (disch := (first | omega | (simp only [sm_up_2, nw_2, gr_2, hn]; done) | (simp only [sm_up_2, nw_2, gr_2, hn]; omega))) only [sm_up_at, sm_up_ne, nw_at, nw_ne]
      rfl
  · simp (disch := (first | omega | (simp only [sm_up_2, nw_2, gr_2, hn]; done) | (simp only [sm_up_2, nw_2, gr_2, hn]; omega))) only [sm_up_ne, nw_ne, gr_lo]
  · simp only [sm_up_2, nw_2, gr_2, hn]
theorem i_Reader (hp : h.1 p = (4, [.null, .int (nI 0), .int (nI 0), .int (nI 0), .int (nI 0), .int (nI 0), .int (nI 0)])) (hn : h.2 = p + 1) (Q : ∀ h', h'.1 p = (4, [.ref (p + 1), .int (nI 0), .int (nI 0), .int (nI 0), .int (nI 0), .int (nI 0), .int (nI 0)]) → h'.1 (p + 1) = (10, tab 120 (fun _ => .int (nI 0))) → (∀ q, q < p → h'.1 q = h.1 q) → h'.2 = p + 2 → K none h') : Wp xs m_Reader_init 0 [.ref p] [] h 0 0 K := by
  simp (disch := (first | omega | (simp only [sm_up_2, nw_2, gr_2, hn]; done) | (simp only [sm_up_2, nw_2, gr_2, hn]; omega))) only [w_Reader_init_0, w_Reader_init_1, w_Reader_init_4, w_Reader_init_5, w_Reader_init_7, w_Reader_init_9, w_Reader_init_12, q_rd_eq, q_nt_0, q_nt_s, q_ld_tab, q_st_tab, q_aa13, q_aa14, q_is_eq, q_wr_eq, q_01_0, q_01_1, q_nz_nI, q_len_tab, psh_some, psh_none, sm_up_at, sm_up_ne, nI_add, nI_lt2, nI_le2, nI_eq2, ls_set0, ls_setS, Nat.reduceAdd, Nat.zero_add, Nat.add_zero, not_true_eq_false, not_false_eq_true, ite_true, ite_false, hn, hp, sm_up_2, nw_2, nw_ne]
  refine Q _ sm_up_at ?_ (fun q hq => ?_) ?_
  · simp (disch := (first | omega | (simp only [sm_up_2, nw_2, gr_2, hn]; done) | (simp only [sm_up_2, nw_2, gr_2, hn]; omega))) only [sm_up_ne, nw_at]
  · simp (disch := (first | omega | (simp only [sm_up_2, nw_2, gr_2, hn]; done) | (simp only [sm_up_2, nw_2, gr_2, hn]; omega))) only [sm_up_ne, nw_ne]
  · simp only [sm_up_2, nw_2, hn]
theorem i_Way (hp : h.1 p = (0, [.null, .null, .null, .int (nI 0), .int (nI 0)])) (hn : h.2 = p + 1) (Q : ∀ h', h'.1 p = (0, [.ref (p + 1), .ref (p + 2), .ref (p + 3), .int (nI 0), .int (nI 0)]) → h'.1 (p + 1) = (10, tab 122 (fun _ => .int (nI 0))) → h'.1 (p + 2) = (10, tab 122 (fun _ => .int (nI 0))) → h'.1 (p + 3) = (10, tab 122 (fun _ => .int (nI 0))) → (∀ q, q < p → h'.1 q = h.1 q) → h'.2 = p + 4 → K none h') : Wp xs m_ChildsWay_init 0 [.ref p] [] h 0 0 K := by
  simp (disch := (first | omega | (simp only [sm_up_2, nw_2, gr_2, hn]; done) | (simp only [sm_up_2, nw_2, gr_2, hn]; omega))) only [w_ChildsWay_init_0, w_ChildsWay_init_1, w_ChildsWay_init_4, w_ChildsWay_init_5, w_ChildsWay_init_7, w_ChildsWay_init_9, w_ChildsWay_init_12, w_ChildsWay_init_13, w_ChildsWay_init_15, w_ChildsWay_init_17, w_ChildsWay_init_20, w_ChildsWay_init_21, w_ChildsWay_init_23, w_ChildsWay_init_25, w_ChildsWay_init_28, q_rd_eq, q_nt_0, q_nt_s, q_ld_tab, q_st_tab, q_aa13, q_aa14, q_is_eq, q_wr_eq, q_01_0, q_01_1, q_nz_nI, q_len_tab, psh_some, psh_none, sm_up_at, sm_up_ne, nI_add, nI_lt2, nI_le2, nI_eq2, ls_set0, ls_setS, Nat.reduceAdd, Nat.zero_add, Nat.add_zero, not_true_eq_false, not_false_eq_true, ite_true, ite_false, hn, hp, sm_up_2, nw_2, nw_ne, Nat.add_assoc]
  refine Q _ sm_up_at ?_ ?_ ?_ (fun q hq => ?_) ?_
  · simp (disch := (first | omega | (simp only [sm_up_2, nw_2, gr_2, hn]; done) | (simp only [sm_up_2, nw_2, gr_2, hn]; omega))) only [sm_up_ne, nw_at, nw_ne]
  · simp (disch := (first | omega | (simp only [sm_up_2, nw_2, gr_2, hn]; done) | (simp only [sm_up_2, nw_2, gr_2, hn]; omega))) only [sm_up_ne, nw_at, nw_ne]
  · simp (disch := (first | omega | (simp only [sm_up_2, nw_2, gr_2, hn]; done) | (simp only [sm_up_2, nw_2, gr_2, hn]; omega))) only [sm_up_ne, nw_at, nw_ne]
  · simp (disch := (first | omega | (simp only [sm_up_2, nw_2, gr_2, hn]; done) | (simp only [sm_up_2, nw_2, gr_2, hn]; omega))) only [sm_up_ne, nw_ne]
  · simp only [sm_up_2, nw_2, hn]
def pathZ : PathS := ((0, 0, 0, 0), fun _ => 0, fun _ => 0, fun _ => 0)
theorem i_Path (hp : h.1 p = (2, [.int (nI 0), .int (nI 0), .int (nI 0), .int (nI 0), .null, .null, .null, .null])) (hn : h.2 = p + 1) (Q : ∀ h', PtAt h' p path0 (trk path0) → (∀ q, q < p → h'.1 q = h.1 q) → h'.2 = p + 5 → K none h') : Wp xs m_Path_init 0 [.ref p] [] h 0 0 K := by
  simp (disch := (first | omega | (simp only [sm_up_2, nw_2, gr_2, hn]; done) | (simp only [sm_up_2, nw_2, gr_2, hn]; omega))) only [w_Path_init_0, w_Path_init_1, w_Path_init_4, w_Path_init_5, w_Path_init_6, w_Path_init_8, w_Path_init_11, w_Path_init_12, w_Path_init_13, w_Path_init_15, w_Path_init_18, w_Path_init_19, w_Path_init_20, w_Path_init_22, w_Path_init_25, w_Path_init_26, w_Path_init_27, w_Path_init_29, q_rd_eq, q_nt_0, q_nt_s, q_ld_tab, q_st_tab, q_aa13, q_aa14, q_is_eq, q_wr_eq, q_01_0, q_01_1, q_nz_nI, q_len_tab, psh_some, psh_none, sm_up_at, sm_up_ne, nI_add, nI_lt2, nI_le2, nI_eq2, ls_set0, ls_setS, Nat.reduceAdd, Nat.zero_add, Nat.add_zero, not_true_eq_false, not_false_eq_true, ite_true, ite_false, hn, hp, sm_up_2, nw_2, nw_ne, Nat.add_assoc]
  have fin : ∀ H : sm_Hp, PtAt H p pathZ (fun _ => 0) → (∀ q, q < p → H.1 q = h.1 q) → H.2 = p + 5 → Wp xs m_Path_init 32 [.ref p] [] H 4 10 K := by
    intro H hH hf h2
    have c0 : H.1 p = (2, [.int (nI 0), .int (nI 0), .int (nI 0), .int (nI 0), .ref (p + 1), .ref (p + 2), .ref (p + 3), .ref (p + 4)]) := hH 0 (by omega)
    have e1 : ∀ K, Wp xs m_Path_asAtFirst 0 [.ref p] [] H 0 0 K = K none (setPt H p path0 (fun _ => 0)) := fun K => by
      have e := e_first (xs := xs) (h := H) (a := p) (pa := pathZ) (tk := fun _ => 0) (K := K)
      rw [setPt_self hH] at e
      exact e
    have hw : WalkOk path0 := path0_ok.2.2.2.2.2.2
    have e2 : ∀ K, Wp xs m_Path_layTracks 0 [.ref p, .null] [] (setPt H p path0 (fun _ => 0)) 0 0 K = K none (setPt H p path0 (trk path0)) := fun K => e_lay (by decide) hw
    have c1 : (setPt H p path0 (fun _ => 0)).1 p = (2, [.int (nI 30), .int (nI 0), .int (nI 0), .int (nI 2), .ref (p + 1), .ref (p + 2), .ref (p + 3), .ref (p + 4)]) := pt0
    simp (disch := omega) only [w_Path_init_32, w_Path_init_33, w_Path_init_36, w_Path_init_37, w_Path_init_40, q_rd_eq, q_nt_0, q_nt_s, q_ld_tab, q_st_tab, q_aa13, q_aa14, q_is_eq, q_wr_eq, q_01_0, q_01_1, q_nz_nI, q_len_tab, psh_some, psh_none, sm_up_at, sm_up_ne, nI_add, nI_lt2, nI_le2, nI_eq2, ls_set0, ls_setS, Nat.reduceAdd, Nat.zero_add, Nat.add_zero, not_true_eq_false, not_false_eq_true, ite_true, ite_false, c0, e1, c1, e2]
    exact Q _ (setPt_at _ _ _ _) (fun q hq => (setPt_ne (by omega)).trans (hf q hq)) h2
  refine fin _ (fun j hj => ?_) (fun q hq => ?_) ?_
  · match j, hj with
    | 0, _ =>
      simp (disch := (first | omega | (simp only [sm_up_2, nw_2, gr_2, hn]; done) | (simp only [sm_up_2, nw_2, gr_2, hn]; omega))) only [Nat.add_zero, sm_up_at]
      rfl
    | 1, _ =>
      simp (disch := (first | omega | (simp only [sm_up_2, nw_2, gr_2, hn]; done) | (simp only [sm_up_2, nw_2, gr_2, hn]; omega))) only [sm_up_ne, nw_at, nw_ne]
      rfl
    | 2, _ =>
      simp (disch := (first | omega | (simp only [sm_up_2, nw_2, gr_2, hn]; done) | (simp only [sm_up_2, nw_2, gr_2, hn]; omega))) only [sm_up_ne, nw_at, nw_ne]
      rfl
    | 3, _ =>
      simp (disch := (first | omega | (simp only [sm_up_2, nw_2, gr_2, hn]; done) | (simp only [sm_up_2, nw_2, gr_2, hn]; omega))) only [sm_up_ne, nw_at, nw_ne]
      rfl
    | 4, _ =>
      simp (disch := (first | omega | (simp only [sm_up_2, nw_2, gr_2, hn]; done) | (simp only [sm_up_2, nw_2, gr_2, hn]; omega))) only [sm_up_ne, nw_at, nw_ne]
      rfl
  · simp (disch := (first | omega | (simp only [sm_up_2, nw_2, gr_2, hn]; done) | (simp only [sm_up_2, nw_2, gr_2, hn]; omega))) only [sm_up_ne, nw_ne]
  · simp only [sm_up_2, nw_2, hn]
/-! the past: a ring of eight -/
theorem past_loop (Q : ∀ h', h'.1 10 = (1, [.ref 11, .int (nI 0), .int (nI 0)]) → h'.1 11 = c_ring → (∀ i, i < 8 → PrAt h' (12 + 7 * i) zeroP) → (∀ q, q < 10 → h'.1 q = h.1 q) → h'.2 = 68 → K none h') : ∀ r i (H : sm_Hp), i + r = 8 → H.1 10 = (1, [.ref 11, .int (nI 0), .int (nI 0)]) → H.1 11 = (14, tab 8 (fun j => if j < i then .ref (12 + 7 * j) else .null)) → (∀ j, j < i → PrAt H (12 + 7 * j) zeroP) → (∀ q, q < 10 → H.1 q = h.1 q) → H.2 = 12 + 7 * i → Wp xs m_Past_init 15 [.ref 10, .int (nI i)] [] H (1 + 7 * i) (8 + 134 * i) K := by
  intro r
  induction r with
  | zero =>
    intro i H hi h10 h11 hP hf h2
    have : i = 8 := by omega
    subst this
    rw [w_Past_init_15]
    simp (disch := omega) only [w_Past_init_16, w_Past_init_18, w_Past_init_21, w_Past_init_22, w_Past_init_25, w_Past_init_26, w_Past_init_29, w_Past_init_30, w_Past_init_33, w_Past_init_34, w_Past_init_37, w_Past_init_40, q_rd_eq, q_nt_0, q_nt_s, q_ld_tab, q_st_tab, q_aa13, q_aa14, q_is_eq, q_wr_eq, q_01_0, q_01_1, q_nz_nI, q_len_tab, psh_some, psh_none, sm_up_at, sm_up_ne, nI_add, nI_lt2, nI_le2, nI_eq2, ls_set0, ls_setS, Nat.reduceAdd, Nat.zero_add, Nat.add_zero, not_true_eq_false, not_false_eq_true, ite_true, ite_false, Nat.le_refl]
    refine Q H h10 ?_ hP hf h2
    rw [h11]
    exact congrArg (fun l => ((14 : Nat), l)) (tab_congr (fun j hj => if_pos hj))
  | succ r ih =>
    intro i H hi h10 h11 hP hf h2
    have h1 : ¬ 8 ≤ i := by omega
    rw [w_Past_init_15]
    have T := i_Prints (xs := xs) (p := 12 + 7 * i) (h := sm_new H (3, [.null, .null, .null, .null])) (K := fun r h' => Wp xs m_Past_init 33 [.ref 10, .int (nI i)] (psh r [.ref (12 + 7 * i), .int (nI i), .ref 11]) h' (1 + 7 * i + 1 + 6) (8 + 134 * i + 4 + 130) K) (nw_at h2) (by rw [nw_2, h2]) (fun h' c1 c2 c3 => ?_)
    · simp (disch := omega) only [w_Past_init_16, w_Past_init_18, w_Past_init_21, w_Past_init_22, w_Past_init_25, w_Past_init_26, w_Past_init_29, w_Past_init_30, q_rd_eq, q_nt_0, q_nt_s, q_ld_tab, q_st_tab, q_aa13, q_aa14, q_is_eq, q_wr_eq, q_01_0, q_01_1, q_nz_nI, q_len_tab, psh_some, psh_none, sm_up_at, sm_up_ne, nI_add, nI_lt2, nI_le2, nI_eq2, ls_set0, ls_setS, Nat.reduceAdd, Nat.zero_add, Nat.add_zero, not_true_eq_false, not_false_eq_true, ite_true, ite_false, h1, h10, h2]
      exact T
    · have lo : ∀ q, q < 12 + 7 * i → h'.1 q = H.1 q := fun q hq => (c2 q hq).trans (nw_ne (by omega))
      have d11 : h'.1 11 = (14, tab 8 (fun j => if j < i then .ref (12 + 7 * j) else .null)) := (lo 11 (by omega)).trans h11
      have d3 := c1.c0
      simp (disch := omega) only [w_Past_init_33, w_Past_init_34, w_Past_init_37, q_rd_eq, q_nt_0, q_nt_s, q_ld_tab, q_st_tab, q_aa13, q_aa14, q_is_eq, q_wr_eq, q_01_0, q_01_1, q_nz_nI, q_len_tab, psh_some, psh_none, sm_up_at, sm_up_ne, nI_add, nI_lt2, nI_le2, nI_eq2, ls_set0, ls_setS, Nat.reduceAdd, Nat.zero_add, Nat.add_zero, not_true_eq_false, not_false_eq_true, ite_true, ite_false, q_is2_eq, d3, d11]
      refine ih (i + 1) _ (by omega) ?_ ?_ (fun j hj => ?_) (fun q hq => ?_) ?_
      · rw [sm_up_ne (by omega), lo 10 (by omega)]; exact h10
      · rw [sm_up_at]
        refine congrArg (fun l => ((14 : Nat), l)) (tab_congr (fun j hj => ?_))
        by_cases c : j = i
        · rw [if_pos c, if_pos (by omega), c]
        · rw [if_neg c]
          by_cases c4 : j < i
          · rw [if_pos c4, if_pos (by omega)]
          · rw [if_neg c4, if_neg (by omega)]
      · by_cases c : j = i
        · rw [c]; exact c1.up (by omega)
        · refine PrAt.up (fun t ht => ?_) (by omega)
          rw [lo _ (by omega)]
          exact hP j (by omega) t ht
      · rw [sm_up_ne (by omega), lo q (by omega)]; exact hf q hq
      · rw [sm_up_2, c3]; omega
theorem i_Past (hp : h.1 10 = (1, [.null, .int (nI 0), .int (nI 0)])) (hn : h.2 = 11) (Q : ∀ h', h'.1 10 = (1, [.ref 11, .int (nI 0), .int (nI 0)]) → h'.1 11 = c_ring → (∀ i, i < 8 → PrAt h' (12 + 7 * i) zeroP) → (∀ q, q < 10 → h'.1 q = h.1 q) → h'.2 = 68 → K none h') : Wp xs m_Past_init 0 [.ref 10, .null] [] h 0 0 K := by
  simp (disch := (first | omega | (simp only [sm_up_2, nw_2, gr_2, hn]; done) | (simp only [sm_up_2, nw_2, gr_2, hn]; omega))) only [w_Past_init_0, w_Past_init_1, w_Past_init_4, w_Past_init_5, w_Past_init_7, w_Past_init_10, w_Past_init_13, w_Past_init_14, q_rd_eq, q_nt_0, q_nt_s, q_ld_tab, q_st_tab, q_aa13, q_aa14, q_is_eq, q_wr_eq, q_01_0, q_01_1, q_nz_nI, q_len_tab, psh_some, psh_none, sm_up_at, sm_up_ne, nI_add, nI_lt2, nI_le2, nI_eq2, ls_set0, ls_setS, Nat.reduceAdd, Nat.zero_add, Nat.add_zero, not_true_eq_false, not_false_eq_true, ite_true, ite_false, hn, hp, sm_up_2, nw_2, nw_ne]
  refine past_loop Q 8 0 _ (by omega) ?_ ?_ (fun j hj => absurd hj (Nat.not_lt_zero _)) (fun q hq => ?_) ?_
  · exact sm_up_at
  · simp (disch := (first | omega | (simp only [sm_up_2, nw_2, gr_2, hn]; done) | (simp only [sm_up_2, nw_2, gr_2, hn]; omega))) only [sm_up_ne, nw_at]
    exact congrArg (fun l => ((14 : Nat), l)) (tab_congr (fun j hj => (if_neg (Nat.not_lt_zero _)).symm))
  · simp (disch := (first | omega | (simp only [sm_up_2, nw_2, gr_2, hn]; done) | (simp only [sm_up_2, nw_2, gr_2, hn]; omega))) only [sm_up_ne, nw_ne]
  · simp only [sm_up_2, nw_2, hn]
end INI
