/-! the path, its tracks -/
theorem nI_rem2 {a d : Nat} (ha : a < 2147483648) (h0 : 0 < d) (hd : d < 2147483648) : nI a - nI a / nI d * nI d = nI (a % d) := pk_rem ha h0 hd
theorem nI_rem3 {a d : Nat} (ha : a < 2147483648) (h0 : 0 < d) (hd : d < 2147483648) : nI a - nI (a / d) * nI d = nI (a % d) := by
  rw [← pk_rem ha h0 hd, pk_div ha h0 hd]
theorem nI_div2 {a d : Nat} (ha : a < 2147483648) (h0 : 0 < d) (hd : d < 2147483648) : nI a / nI d = nI (a / d) := pk_div ha h0 hd
theorem nI_sub2 {a b : Nat} (h : b ≤ a) : nI a - nI b = nI (a - b) := pk_sub h
theorem nI_or (a b : Nat) : nI a ||| nI b = nI (a ||| b) := by
  apply Int32.toBitVec_inj.mp
  apply BitVec.eq_of_toNat_eq
  simp [nI, Nat.or_mod_two_pow]
theorem nI_and (a b : Nat) : nI a &&& nI b = nI (a &&& b) := by
  apply Int32.toBitVec_inj.mp
  apply BitVec.eq_of_toNat_eq
  simp [nI, Nat.and_mod_two_pow]
abbrev PathS : Type := (Nat × Nat × Nat × Nat) × (Nat → Nat) × (Nat → Nat) × (Nat → Nat)
def ptC (a : Nat) (pa : PathS) (tk : Nat → Nat) : Nat → sm_Cell
  | 0 => (2, [.int (nI pa.1.1), .int (nI pa.1.2.1), .int (nI pa.1.2.2.1), .int (nI pa.1.2.2.2), .ref (a + 1), .ref (a + 2), .ref (a + 3), .ref (a + 4)])
  | 1 => (10, tab 2 (fun k => .int (nI (pa.2.1 k))))
  | 2 => (10, tab 2 (fun k => .int (nI (pa.2.2.1 k))))
  | 3 => (10, tab 2 (fun k => .int (nI (pa.2.2.2 k))))
  | _ => (11, tab 4 (fun j => .long (lN (tk j))))
def PtAt (h : sm_Hp) (a : Nat) (pa : PathS) (tk : Nat → Nat) : Prop := ∀ j, j < 5 → h.1 (a + j) = ptC a pa tk j
def setPt (h : sm_Hp) (a : Nat) (pa : PathS) (tk : Nat → Nat) : sm_Hp := (fun q => if a ≤ q ∧ q < a + 5 then ptC a pa tk (q - a) else h.1 q, h.2)
theorem setPt_at (h : sm_Hp) (a : Nat) (pa : PathS) (tk : Nat → Nat) : PtAt (setPt h a pa tk) a pa tk := by
  intro j hj
  show (if a ≤ a + j ∧ a + j < a + 5 then ptC a pa tk (a + j - a) else _) = _
  rw [if_pos (by omega), Nat.add_sub_cancel_left]
theorem setPt_self {h : sm_Hp} {a : Nat} {pa : PathS} {tk : Nat → Nat} (H : PtAt h a pa tk) : setPt h a pa tk = h := by
  refine Prod.ext (funext fun q => ?_) rfl
  show (if a ≤ q ∧ q < a + 5 then ptC a pa tk (q - a) else h.1 q) = h.1 q
  split
  next hc =>
    have e := H (q - a) (by omega)
    rw [show a + (q - a) = q by omega] at e
    exact e.symm
  · rfl
theorem setPt_ne {h : sm_Hp} {a q : Nat} {pa : PathS} {tk : Nat → Nat} (hq : q < a ∨ a + 5 ≤ q) : (setPt h a pa tk).1 q = h.1 q := if_neg (by omega)
theorem setPt_twice {h : sm_Hp} {a : Nat} {pa pb : PathS} {tk tl : Nat → Nat} : setPt (setPt h a pa tk) a pb tl = setPt h a pb tl := by
  refine Prod.ext (funext fun q => ?_) rfl
  show (if a ≤ q ∧ q < a + 5 then ptC a pb tl (q - a) else (if a ≤ q ∧ q < a + 5 then ptC a pa tk (q - a) else h.1 q)) = (if a ≤ q ∧ q < a + 5 then ptC a pb tl (q - a) else h.1 q)
  by_cases hc : a ≤ q ∧ q < a + 5
  · rw [if_pos hc, if_pos hc]
  · rw [if_neg hc, if_neg hc, if_neg hc]
theorem pt0 {h : sm_Hp} {a : Nat} {pa : PathS} {tk : Nat → Nat} : (setPt h a pa tk).1 a = (2, [.int (nI pa.1.1), .int (nI pa.1.2.1), .int (nI pa.1.2.2.1), .int (nI pa.1.2.2.2), .ref (a + 1), .ref (a + 2), .ref (a + 3), .ref (a + 4)]) := setPt_at h a pa tk 0 (by omega)
theorem pt1 {h : sm_Hp} {a : Nat} {pa : PathS} {tk : Nat → Nat} : (setPt h a pa tk).1 (a + 1) = (10, tab 2 (fun k => .int (nI (pa.2.1 k)))) := setPt_at h a pa tk 1 (by omega)
theorem pt2 {h : sm_Hp} {a : Nat} {pa : PathS} {tk : Nat → Nat} : (setPt h a pa tk).1 (a + 2) = (10, tab 2 (fun k => .int (nI (pa.2.2.1 k)))) := setPt_at h a pa tk 2 (by omega)
theorem pt3 {h : sm_Hp} {a : Nat} {pa : PathS} {tk : Nat → Nat} : (setPt h a pa tk).1 (a + 3) = (10, tab 2 (fun k => .int (nI (pa.2.2.2 k)))) := setPt_at h a pa tk 3 (by omega)
theorem pt4 {h : sm_Hp} {a : Nat} {pa : PathS} {tk : Nat → Nat} : (setPt h a pa tk).1 (a + 4) = (11, tab 4 (fun j => .long (lN (tk j)))) := setPt_at h a pa tk 4 (by omega)
theorem setPt_of {h : sm_Hp} {a j : Nat} {pa pb : PathS} {tk tl : Nat → Nat} {x : sm_Cell} (hj : j < 5) (hx : x = ptC a pb tl j) (ho : ∀ i, i < 5 → i ≠ j → ptC a pa tk i = ptC a pb tl i) : sm_up (setPt h a pa tk) (a + j) x = setPt h a pb tl := by
  refine Prod.ext (funext fun q => ?_) rfl
  show (if q = a + j then x else (if a ≤ q ∧ q < a + 5 then ptC a pa tk (q - a) else h.1 q)) = (if a ≤ q ∧ q < a + 5 then ptC a pb tl (q - a) else h.1 q)
  by_cases e : q = a + j
  · subst e
    rw [if_pos rfl, if_pos (by omega), hx, Nat.add_sub_cancel_left]
  · rw [if_neg e]
    split
    · exact ho _ (by omega) (by omega)
    · rfl
theorem ptC_0 {a i : Nat} {pa pb : PathS} {tk : Nat → Nat} (h2 : pa.2 = pb.2) (hi : i < 5) (hne : i ≠ 0) : ptC a pa tk i = ptC a pb tk i := by
  match i, hi, hne with
  | 0, _, hne => exact absurd rfl hne
  | 1, _, _ => show (10, tab 2 _) = (10, tab 2 _); rw [h2]
  | 2, _, _ => show (10, tab 2 _) = (10, tab 2 _); rw [h2]
  | 3, _, _ => show (10, tab 2 _) = (10, tab 2 _); rw [h2]
  | 4, _, _ => rfl
  | i + 5, hi, _ => exact absurd hi (by omega)
theorem up_ps {h : sm_Hp} {a v1 v2 v3 v4 : Nat} {pa : PathS} {tk : Nat → Nat} : sm_up (setPt h a pa tk) a (2, [.int (nI v1), .int (nI v2), .int (nI v3), .int (nI v4), .ref (a + 1), .ref (a + 2), .ref (a + 3), .ref (a + 4)]) = setPt h a ((v1, v2, v3, v4), pa.2) tk := setPt_of (j := 0) (pb := ((v1, v2, v3, v4), pa.2)) (by omega) rfl (fun i hi hne => ptC_0 rfl hi hne)
theorem up_st {h : sm_Hp} {a : Nat} {pa : PathS} {tk : Nat → Nat} {f : Nat → Nat} : sm_up (setPt h a pa tk) (a + 1) (10, tab 2 (fun k => .int (nI (f k)))) = setPt h a (pa.1, f, pa.2.2) tk := by
  refine setPt_of (pb := (pa.1, f, pa.2.2)) (by omega) rfl (fun i hi hne => ?_)
  match i, hi, hne with
  | 0, _, _ => rfl
  | 1, _, hne => exact absurd rfl hne
  | 2, _, _ => rfl
  | 3, _, _ => rfl
  | 4, _, _ => rfl
  | i + 5, hi, _ => exact absurd hi (by omega)
theorem up_sd {h : sm_Hp} {a : Nat} {pa : PathS} {tk : Nat → Nat} {f : Nat → Nat} : sm_up (setPt h a pa tk) (a + 2) (10, tab 2 (fun k => .int (nI (f k)))) = setPt h a (pa.1, pa.2.1, f, pa.2.2.2) tk := by
  refine setPt_of (pb := (pa.1, pa.2.1, f, pa.2.2.2)) (by omega) rfl (fun i hi hne => ?_)
  match i, hi, hne with
  | 0, _, _ => rfl
  | 1, _, _ => rfl
  | 2, _, hne => exact absurd rfl hne
  | 3, _, _ => rfl
  | 4, _, _ => rfl
  | i + 5, hi, _ => exact absurd hi (by omega)
theorem up_sp {h : sm_Hp} {a : Nat} {pa : PathS} {tk : Nat → Nat} {f : Nat → Nat} : sm_up (setPt h a pa tk) (a + 3) (10, tab 2 (fun k => .int (nI (f k)))) = setPt h a (pa.1, pa.2.1, pa.2.2.1, f) tk := by
  refine setPt_of (pb := (pa.1, pa.2.1, pa.2.2.1, f)) (by omega) rfl (fun i hi hne => ?_)
  match i, hi, hne with
  | 0, _, _ => rfl
  | 1, _, _ => rfl
  | 2, _, _ => rfl
  | 3, _, hne => exact absurd rfl hne
  | 4, _, _ => rfl
  | i + 5, hi, _ => exact absurd hi (by omega)
theorem up_tk {h : sm_Hp} {a j v : Nat} {pa : PathS} {tk : Nat → Nat} : sm_up (setPt h a pa tk) (a + 4) (11, tab 4 (fun i => if i = j then .long (lN v) else .long (lN (tk i)))) = setPt h a pa (fun i => if i = j then v else tk i) := by
  refine setPt_of (by omega) ?_ (fun i hi hne => ?_)
  · refine congrArg (fun l => ((11 : Nat), l)) (tab_congr (fun i _ => ?_))
    by_cases e : i = j <;> simp [e]
  · match i, hi, hne with
    | 0, _, _ => rfl
    | 1, _, _ => rfl
    | 2, _, _ => rfl
    | 3, _, _ => rfl
    | 4, _, hne => exact absurd rfl hne
    | i + 5, hi, _ => exact absurd hi (by omega)
theorem setPt_congr {h : sm_Hp} {a : Nat} {pa : PathS} {tk tl : Nat → Nat} (e : ∀ j, j < 4 → tk j = tl j) : setPt h a pa tk = setPt h a pa tl := by
  refine Prod.ext (funext fun q => ?_) rfl
  show (if a ≤ q ∧ q < a + 5 then ptC a pa tk (q - a) else h.1 q) = (if a ≤ q ∧ q < a + 5 then ptC a pa tl (q - a) else h.1 q)
  have : ∀ i, ptC a pa tk i = ptC a pa tl i := fun i => by
    match i with
    | 0 => rfl
    | 1 => rfl
    | 2 => rfl
    | 3 => rfl
    | i + 4 => exact congrArg (fun l => ((11 : Nat), l)) (tab_congr (fun j hj => by rw [e j hj]))
  rw [this]
/-! tracks -/
/-- the i-th foot of a track -/
def ft (s d sh : Nat) : Nat → Nat
  | 0 => s
  | i + 1 => ft s d sh i + (d - (if (i + 1) % 2 = 0 then sh else 0))
theorem ft_le (s d sh : Nat) : ∀ i, ft s d sh i ≤ s + d * i
  | 0 => by simp [ft]
  | i + 1 => by
    have := ft_le s d sh i
    show ft s d sh i + (d - _) ≤ s + d * (i + 1)
    rw [Nat.mul_add, Nat.mul_one]
    omega
theorem ft_lt {s d sh : Nat} (hd : 2 ≤ d) (hs : sh ≤ 1) (i : Nat) : ft s d sh i < ft s d sh (i + 1) := by
  show _ < ft s d sh i + (d - (if (i + 1) % 2 = 0 then sh else 0))
  split <;> omega
theorem ft_mono {s d sh : Nat} (hd : 2 ≤ d) (hs : sh ≤ 1) {i j : Nat} (h : i < j) : ft s d sh i < ft s d sh j := by
  induction h with
  | refl => exact ft_lt hd hs i
  | step _ ih => exact Nat.lt_trans ih (ft_lt hd hs _)
theorem ft_ge {s d sh : Nat} (hd : 2 ≤ d) (hs : sh ≤ 1) : ∀ i, i ≤ ft s d sh i
  | 0 => Nat.zero_le _
  | i + 1 => by
    have h1 := ft_ge (s := s) hd hs i
    have h2 := ft_lt (s := s) hd hs i
    omega
/-- the bits of the first i feet -/
def trA (s d sh : Nat) : Nat → Nat
  | 0 => 0
  | i + 1 => trA s d sh i ||| 2 ^ (ft s d sh i)
/-- how many feet there are up to len, from the i-th on, m at most -/
def nT (len s d sh : Nat) : Nat → Nat → Nat
  | 0, i => i
  | m + 1, i => if ft s d sh i ≤ len then nT len s d sh m (i + 1) else i
def trkN (len s d sh : Nat) : Nat := trA s d sh (nT len s d sh 61 0)
def trk (pa : PathS) (j : Nat) : Nat := trkN pa.1.1 (pa.2.1 (j % 2)) (pa.2.2.1 (j % 2)) (j / 2)
section PTH
variable {xs : List Int32} {h : sm_Hp} {K : Option Value → sm_Hp → Prop} {a : Nat} {pa : PathS} {tk : Nat → Nat}
theorem track_loop (hl : pa.1.1 ≤ 60) {s d sh : Nat} (hs : s ≤ 9) (hd : d ≤ 9) (hd2 : 2 ≤ d) (hsh : sh ≤ 1) : ∀ m i, i + m = 61 → Wp xs m_Path_trackOf 9 [.ref a, .int (nI s), .int (nI d), .int (nI sh), .long (lN (trA s d sh i)), .null, .int (nI (ft s d sh i)), .int (nI (i + 1))] [] (setPt h a pa tk) 0 0 K = K (some (.long (lN (trA s d sh (nT pa.1.1 s d sh m i))))) (setPt h a pa tk) := by
  intro m
  induction m with
  | zero =>
    intro i hi
    have : i = 61 := by omega
    subst this
    rw [w_Path_trackOf_9]
    have h1 : (61 : Nat) < 61 + 1 := by omega
    simp (disch := omega) only [w_Path_trackOf_11, w_Path_trackOf_13, w_Path_trackOf_16, w_Path_trackOf_18, w_Path_trackOf_19, w_Path_trackOf_22, w_Path_trackOf_25, w_Path_trackOf_27, w_Path_trackOf_28, w_Path_trackOf_30, w_Path_trackOf_31, w_Path_trackOf_32, w_Path_trackOf_34, w_Path_trackOf_36, w_Path_trackOf_38, w_Path_trackOf_39, w_Path_trackOf_40, w_Path_trackOf_43, w_Path_trackOf_44, w_Path_trackOf_45, w_Path_trackOf_46, w_Path_trackOf_49, w_Path_trackOf_50, w_Path_trackOf_51, w_Path_trackOf_53, w_Path_trackOf_56, w_Path_trackOf_59, w_Path_trackOf_61, q_rd_eq, q_nt_0, q_nt_s, q_ld_tab, q_st_tab, q_aa13, q_aa14, q_is_eq, q_wr_eq, q_01_0, q_01_1, q_nz_nI, q_len_tab, psh_some, psh_none, sm_up_at, sm_up_ne, nI_add, nI_lt2, nI_le2, nI_eq2, ls_set0, ls_setS, Nat.reduceAdd, Nat.zero_add, Nat.add_zero, not_true_eq_false, not_false_eq_true, ite_true, ite_false, nI_rem3, nI_div2, nI_sub2, q_max_nI, q_min_nI, h1]
    rfl
  | succ m ih =>
    intro i hi
    rw [w_Path_trackOf_9]
    have h1 : ¬ 61 < i + 1 := by omega
    have hle := ft_le s d sh i
    have hdi : d * i ≤ 9 * 61 := Nat.mul_le_mul hd (by omega)
    by_cases hc : ft s d sh i ≤ pa.1.1
    · have h2 : ¬ pa.1.1 < ft s d sh i := by omega
      have e0 : ((i + 1) % 2 = 0) = ((i + 1) % 2 = 0) := rfl
      simp (disch := omega) only [w_Path_trackOf_11, w_Path_trackOf_13, w_Path_trackOf_16, w_Path_trackOf_18, w_Path_trackOf_19, w_Path_trackOf_22, w_Path_trackOf_25, w_Path_trackOf_27, w_Path_trackOf_28, w_Path_trackOf_30, w_Path_trackOf_31, w_Path_trackOf_32, w_Path_trackOf_34, w_Path_trackOf_36, w_Path_trackOf_38, w_Path_trackOf_39, w_Path_trackOf_40, w_Path_trackOf_43, w_Path_trackOf_44, w_Path_trackOf_45, w_Path_trackOf_46, w_Path_trackOf_49, w_Path_trackOf_50, w_Path_trackOf_51, w_Path_trackOf_53, w_Path_trackOf_56, q_rd_eq, q_nt_0, q_nt_s, q_ld_tab, q_st_tab, q_aa13, q_aa14, q_is_eq, q_wr_eq, q_01_0, q_01_1, q_nz_nI, q_len_tab, psh_some, psh_none, sm_up_at, sm_up_ne, nI_add, nI_lt2, nI_le2, nI_eq2, ls_set0, ls_setS, Nat.reduceAdd, Nat.zero_add, Nat.add_zero, not_true_eq_false, not_false_eq_true, ite_true, ite_false, nI_rem3, nI_div2, nI_sub2, q_max_nI, q_min_nI, h1, h2, pt0, bl_shl, bl_or]
      have e1 : nT pa.1.1 s d sh (m + 1) i = nT pa.1.1 s d sh m (i + 1) := by
        show (if _ then _ else _) = _
        rw [if_pos hc]
      have e2 : trA s d sh i ||| 2 ^ ft s d sh i = trA s d sh (i + 1) := rfl
      rw [e1, e2]
      by_cases hm : (i + 1) % 2 = 0
      · have e3 : ft s d sh i + (d - sh) = ft s d sh (i + 1) := by
          show _ = ft s d sh i + (d - (if (i + 1) % 2 = 0 then sh else 0))
          rw [if_pos hm]
        rw [if_neg (not_not_intro hm), e3]
        exact ih (i + 1) (by omega)
      · have e3 : ft s d sh i + d = ft s d sh (i + 1) := by
          show _ = ft s d sh i + (d - (if (i + 1) % 2 = 0 then sh else 0))
          rw [if_neg hm]
          rfl
        rw [if_pos hm, e3]
        exact ih (i + 1) (by omega)
    · have h2 : pa.1.1 < ft s d sh i := by omega
      simp (disch := omega) only [w_Path_trackOf_11, w_Path_trackOf_13, w_Path_trackOf_16, w_Path_trackOf_18, w_Path_trackOf_19, w_Path_trackOf_22, w_Path_trackOf_25, w_Path_trackOf_27, w_Path_trackOf_28, w_Path_trackOf_30, w_Path_trackOf_31, w_Path_trackOf_32, w_Path_trackOf_34, w_Path_trackOf_36, w_Path_trackOf_38, w_Path_trackOf_39, w_Path_trackOf_40, w_Path_trackOf_43, w_Path_trackOf_44, w_Path_trackOf_45, w_Path_trackOf_46, w_Path_trackOf_49, w_Path_trackOf_50, w_Path_trackOf_51, w_Path_trackOf_53, w_Path_trackOf_56, w_Path_trackOf_59, w_Path_trackOf_61, q_rd_eq, q_nt_0, q_nt_s, q_ld_tab, q_st_tab, q_aa13, q_aa14, q_is_eq, q_wr_eq, q_01_0, q_01_1, q_nz_nI, q_len_tab, psh_some, psh_none, sm_up_at, sm_up_ne, nI_add, nI_lt2, nI_le2, nI_eq2, ls_set0, ls_setS, Nat.reduceAdd, Nat.zero_add, Nat.add_zero, not_true_eq_false, not_false_eq_true, ite_true, ite_false, nI_rem3, nI_div2, nI_sub2, q_max_nI, q_min_nI, h1, h2, pt0]
      have e1 : nT pa.1.1 s d sh (m + 1) i = i := by
        show (if _ then _ else _) = _
        rw [if_neg hc]
      rw [e1]
theorem e_trackOf (hl : pa.1.1 ≤ 60) {s d sh : Nat} (hs : s ≤ 9) (hd : d ≤ 9) (hd2 : 2 ≤ d) (hsh : sh ≤ 1) : Wp xs m_Path_trackOf 0 [.ref a, .int (nI s), .int (nI d), .int (nI sh), .null, .null, .null, .null] [] (setPt h a pa tk) 0 0 K = K (some (.long (lN (trkN pa.1.1 s d sh)))) (setPt h a pa tk) := by
  simp (disch := omega) only [w_Path_trackOf_0, w_Path_trackOf_1, w_Path_trackOf_3, w_Path_trackOf_4, w_Path_trackOf_6, w_Path_trackOf_7, q_rd_eq, q_nt_0, q_nt_s, q_ld_tab, q_st_tab, q_aa13, q_aa14, q_is_eq, q_wr_eq, q_01_0, q_01_1, q_nz_nI, q_len_tab, psh_some, psh_none, sm_up_at, sm_up_ne, nI_add, nI_lt2, nI_le2, nI_eq2, ls_set0, ls_setS, Nat.reduceAdd, Nat.zero_add, Nat.add_zero, not_true_eq_false, not_false_eq_true, ite_true, ite_false, nI_rem3, nI_div2, nI_sub2, q_max_nI, q_min_nI]
  exact track_loop hl hs hd hd2 hsh 61 0 (by omega)
def WalkOk (pa : PathS) : Prop := ∀ k, k < 2 → pa.2.1 k ≤ 9 ∧ 2 ≤ pa.2.2.1 k ∧ pa.2.2.1 k ≤ 9 ∧ 1 ≤ pa.2.2.2 k ∧ pa.2.2.2 k ≤ 9
/-- tracks of those below k laid -/
def layT (pa : PathS) (tk : Nat → Nat) (k : Nat) : Nat → Nat := fun j => if j % 2 < k then trk pa j else tk j
theorem lay_loop (hl : pa.1.1 ≤ 60) (hw : WalkOk pa) : ∀ m k, k + m = 2 → Wp xs m_Path_layTracks 2 [.ref a, .int (nI k)] [] (setPt h a pa (layT pa tk k)) 0 0 K = K none (setPt h a pa (layT pa tk 2)) := by
  intro m
  induction m with
  | zero =>
    intro k hk
    have : k = 2 := by omega
    subst this
    rw [w_Path_layTracks_2]
    simp (disch := omega) only [w_Path_layTracks_3, w_Path_layTracks_4, w_Path_layTracks_7, w_Path_layTracks_8, w_Path_layTracks_11, w_Path_layTracks_12, w_Path_layTracks_13, w_Path_layTracks_14, w_Path_layTracks_17, w_Path_layTracks_18, w_Path_layTracks_19, w_Path_layTracks_20, w_Path_layTracks_23, w_Path_layTracks_24, w_Path_layTracks_25, w_Path_layTracks_26, w_Path_layTracks_29, w_Path_layTracks_30, w_Path_layTracks_31, w_Path_layTracks_34, w_Path_layTracks_35, w_Path_layTracks_36, w_Path_layTracks_37, w_Path_layTracks_38, w_Path_layTracks_39, w_Path_layTracks_42, w_Path_layTracks_43, w_Path_layTracks_44, w_Path_layTracks_45, w_Path_layTracks_48, w_Path_layTracks_49, w_Path_layTracks_50, w_Path_layTracks_51, w_Path_layTracks_54, w_Path_layTracks_55, w_Path_layTracks_58, w_Path_layTracks_61, q_rd_eq, q_nt_0, q_nt_s, q_ld_tab, q_st_tab, q_aa13, q_aa14, q_is_eq, q_wr_eq, q_01_0, q_01_1, q_nz_nI, q_len_tab, psh_some, psh_none, sm_up_at, sm_up_ne, nI_add, nI_lt2, nI_le2, nI_eq2, ls_set0, ls_setS, Nat.reduceAdd, Nat.zero_add, Nat.add_zero, not_true_eq_false, not_false_eq_true, ite_true, ite_false, nI_rem3, nI_div2, nI_sub2, q_max_nI, q_min_nI, Nat.le_refl]
  | succ m ih =>
    intro k hk
    rw [w_Path_layTracks_2]
    have h1 : ¬ 2 ≤ k := by omega
    obtain ⟨o1, o2, o3, -, -⟩ := hw k (by omega)
    simp (disch := omega) only [w_Path_layTracks_3, w_Path_layTracks_4, w_Path_layTracks_7, w_Path_layTracks_8, w_Path_layTracks_11, w_Path_layTracks_12, w_Path_layTracks_13, w_Path_layTracks_14, w_Path_layTracks_17, w_Path_layTracks_18, w_Path_layTracks_19, w_Path_layTracks_20, w_Path_layTracks_23, w_Path_layTracks_24, w_Path_layTracks_25, w_Path_layTracks_26, w_Path_layTracks_29, w_Path_layTracks_30, w_Path_layTracks_31, w_Path_layTracks_34, w_Path_layTracks_35, w_Path_layTracks_36, w_Path_layTracks_37, w_Path_layTracks_38, w_Path_layTracks_39, w_Path_layTracks_42, w_Path_layTracks_43, w_Path_layTracks_44, w_Path_layTracks_45, w_Path_layTracks_48, w_Path_layTracks_49, w_Path_layTracks_50, w_Path_layTracks_51, w_Path_layTracks_54, w_Path_layTracks_55, w_Path_layTracks_58, q_rd_eq, q_nt_0, q_nt_s, q_ld_tab, q_st_tab, q_aa13, q_aa14, q_is_eq, q_wr_eq, q_01_0, q_01_1, q_nz_nI, q_len_tab, psh_some, psh_none, sm_up_at, sm_up_ne, nI_add, nI_lt2, nI_le2, nI_eq2, ls_set0, ls_setS, Nat.reduceAdd, Nat.zero_add, Nat.add_zero, not_true_eq_false, not_false_eq_true, ite_true, ite_false, nI_rem3, nI_div2, nI_sub2, q_max_nI, q_min_nI, pt0, pt1, pt2, pt4, e_trackOf, up_tk, h1]
    have e : setPt h a pa (fun i => if i = k + 2 then trkN pa.1.1 (pa.2.1 k) (pa.2.2.1 k) 1 else if i = k then trkN pa.1.1 (pa.2.1 k) (pa.2.2.1 k) 0 else layT pa tk k i) = setPt h a pa (layT pa tk (k + 1)) := by
      refine setPt_congr (fun j hj => ?_)
      unfold layT trk
      by_cases c1 : j = k + 2
      · subst c1
        rw [if_pos rfl, if_pos (by omega), show (k + 2) % 2 = k by omega, show (k + 2) / 2 = 1 by omega]
      · rw [if_neg c1]
        by_cases c2 : j = k
        · subst c2
          rw [if_pos rfl, if_pos (by omega), show j % 2 = j by omega, show j / 2 = 0 by omega]
        · rw [if_neg c2]
          by_cases c3 : j % 2 < k
          · rw [if_pos c3, if_pos (by omega)]
          · rw [if_neg c3, if_neg (by omega)]
    rw [e]
    exact ih (k + 1) (by omega)
theorem e_lay (hl : pa.1.1 ≤ 60) (hw : WalkOk pa) : Wp xs m_Path_layTracks 0 [.ref a, .null] [] (setPt h a pa tk) 0 0 K = K none (setPt h a pa (trk pa)) := by
  simp (disch := omega) only [w_Path_layTracks_0, w_Path_layTracks_1, q_rd_eq, q_nt_0, q_nt_s, q_ld_tab, q_st_tab, q_aa13, q_aa14, q_is_eq, q_wr_eq, q_01_0, q_01_1, q_nz_nI, q_len_tab, psh_some, psh_none, sm_up_at, sm_up_ne, nI_add, nI_lt2, nI_le2, nI_eq2, ls_set0, ls_setS, Nat.reduceAdd, Nat.zero_add, Nat.add_zero, not_true_eq_false, not_false_eq_true, ite_true, ite_false, nI_rem3, nI_div2, nI_sub2, q_max_nI, q_min_nI]
  have e0 : setPt h a pa tk = setPt h a pa (layT pa tk 0) := setPt_congr (fun j hj => by unfold layT; rw [if_neg (by omega)])
  rw [e0, lay_loop hl hw 2 0 (by omega)]
  exact congrArg (K none) (setPt_congr (fun j hj => by unfold layT; rw [if_pos (by omega)]))
def path0 : PathS := ((30, 0, 0, 2), fun _ => 0, fun _ => 3, fun _ => 3)
theorem e_first : Wp xs m_Path_asAtFirst 0 [.ref a] [] (setPt h a pa tk) 0 0 K = K none (setPt h a path0 tk) := by
  simp (disch := omega) only [w_Path_asAtFirst_0, w_Path_asAtFirst_1, w_Path_asAtFirst_3, w_Path_asAtFirst_6, w_Path_asAtFirst_7, w_Path_asAtFirst_8, w_Path_asAtFirst_11, w_Path_asAtFirst_12, w_Path_asAtFirst_13, w_Path_asAtFirst_16, w_Path_asAtFirst_17, w_Path_asAtFirst_18, w_Path_asAtFirst_21, w_Path_asAtFirst_22, w_Path_asAtFirst_25, w_Path_asAtFirst_26, q_rd_eq, q_nt_0, q_nt_s, q_ld_tab, q_st_tab, q_aa13, q_aa14, q_is_eq, q_wr_eq, q_01_0, q_01_1, q_nz_nI, q_len_tab, psh_some, psh_none, sm_up_at, sm_up_ne, nI_add, nI_lt2, nI_le2, nI_eq2, ls_set0, ls_setS, Nat.reduceAdd, Nat.zero_add, Nat.add_zero, not_true_eq_false, not_false_eq_true, ite_true, ite_false, nI_rem3, nI_div2, nI_sub2, q_max_nI, q_min_nI, pt0, up_ps]
  rw [e_fill (n := 2) (by omega) pt1]
  simp (disch := omega) only [w_Path_asAtFirst_29, w_Path_asAtFirst_30, w_Path_asAtFirst_33, w_Path_asAtFirst_34, q_rd_eq, q_nt_0, q_nt_s, q_ld_tab, q_st_tab, q_aa13, q_aa14, q_is_eq, q_wr_eq, q_01_0, q_01_1, q_nz_nI, q_len_tab, psh_some, psh_none, sm_up_at, sm_up_ne, nI_add, nI_lt2, nI_le2, nI_eq2, ls_set0, ls_setS, Nat.reduceAdd, Nat.zero_add, Nat.add_zero, not_true_eq_false, not_false_eq_true, ite_true, ite_false, nI_rem3, nI_div2, nI_sub2, q_max_nI, q_min_nI, up_st (f := fun _ => 0), pt0]
  rw [e_fill (n := 2) (by omega) pt2]
  simp (disch := omega) only [w_Path_asAtFirst_37, w_Path_asAtFirst_38, w_Path_asAtFirst_41, w_Path_asAtFirst_42, q_rd_eq, q_nt_0, q_nt_s, q_ld_tab, q_st_tab, q_aa13, q_aa14, q_is_eq, q_wr_eq, q_01_0, q_01_1, q_nz_nI, q_len_tab, psh_some, psh_none, sm_up_at, sm_up_ne, nI_add, nI_lt2, nI_le2, nI_eq2, ls_set0, ls_setS, Nat.reduceAdd, Nat.zero_add, Nat.add_zero, not_true_eq_false, not_false_eq_true, ite_true, ite_false, nI_rem3, nI_div2, nI_sub2, q_max_nI, q_min_nI, up_sd (f := fun _ => 3), pt0]
  rw [e_fill (n := 2) (by omega) pt3]
  simp (disch := omega) only [w_Path_asAtFirst_45, q_rd_eq, q_nt_0, q_nt_s, q_ld_tab, q_st_tab, q_aa13, q_aa14, q_is_eq, q_wr_eq, q_01_0, q_01_1, q_nz_nI, q_len_tab, psh_some, psh_none, sm_up_at, sm_up_ne, nI_add, nI_lt2, nI_le2, nI_eq2, ls_set0, ls_setS, Nat.reduceAdd, Nat.zero_add, Nat.add_zero, not_true_eq_false, not_false_eq_true, ite_true, ite_false, nI_rem3, nI_div2, nI_sub2, q_max_nI, q_min_nI, up_sp (f := fun _ => 3)]
  rfl
theorem e_foot_in {x : Nat} (hl : pa.1.1 ≤ 60) (hx : x ≤ pa.1.1) : Wp xs m_Path_hasFoot 0 [.ref a, .int (nI x)] [] (setPt h a pa tk) 0 0 K = K (some (.int (nI 1))) (setPt h a pa tk) := by
  have h1 : ¬ x < 0 := by omega
  have h2 : ¬ pa.1.1 < x := by omega
  simp (disch := omega) only [w_Path_hasFoot_0, w_Path_hasFoot_1, w_Path_hasFoot_4, w_Path_hasFoot_5, w_Path_hasFoot_6, w_Path_hasFoot_9, w_Path_hasFoot_12, w_Path_hasFoot_13, w_Path_hasFoot_16, w_Path_hasFoot_17, q_rd_eq, q_nt_0, q_nt_s, q_ld_tab, q_st_tab, q_aa13, q_aa14, q_is_eq, q_wr_eq, q_01_0, q_01_1, q_nz_nI, q_len_tab, psh_some, psh_none, sm_up_at, sm_up_ne, nI_add, nI_lt2, nI_le2, nI_eq2, ls_set0, ls_setS, Nat.reduceAdd, Nat.zero_add, Nat.add_zero, not_true_eq_false, not_false_eq_true, ite_true, ite_false, nI_rem3, nI_div2, nI_sub2, q_max_nI, q_min_nI, pt0, h1, h2]
theorem e_foot_neg {x : Int32} (hx : x < 0) : Wp xs m_Path_hasFoot 0 [.ref a, .int x] [] (setPt h a pa tk) 0 0 K = K (some (.int (nI 0))) (setPt h a pa tk) := by
  have h1 : x < nI 0 := hx
  simp (disch := omega) only [w_Path_hasFoot_0, w_Path_hasFoot_1, w_Path_hasFoot_4, w_Path_hasFoot_5, w_Path_hasFoot_6, w_Path_hasFoot_9, w_Path_hasFoot_12, w_Path_hasFoot_13, w_Path_hasFoot_16, w_Path_hasFoot_17, q_rd_eq, q_nt_0, q_nt_s, q_ld_tab, q_st_tab, q_aa13, q_aa14, q_is_eq, q_wr_eq, q_01_0, q_01_1, q_nz_nI, q_len_tab, psh_some, psh_none, sm_up_at, sm_up_ne, nI_add, nI_lt2, nI_le2, nI_eq2, ls_set0, ls_setS, Nat.reduceAdd, Nat.zero_add, Nat.add_zero, not_true_eq_false, not_false_eq_true, ite_true, ite_false, nI_rem3, nI_div2, nI_sub2, q_max_nI, q_min_nI, h1]
theorem e_foot_big {x : Int32} (hl : pa.1.1 ≤ 60) (h0 : ¬ x < 0) (hx : nI (pa.1.1 + 1) ≤ x) : Wp xs m_Path_hasFoot 0 [.ref a, .int x] [] (setPt h a pa tk) 0 0 K = K (some (.int (nI 0))) (setPt h a pa tk) := by
  have h1 : ¬ x < nI 0 := h0
  have h2 : nI pa.1.1 < x := by
    rw [Int32.lt_iff_toInt_lt]
    rw [Int32.le_iff_toInt_le, nI_toInt (by omega)] at hx
    rw [nI_toInt (by omega)]
    omega
  simp (disch := omega) only [w_Path_hasFoot_0, w_Path_hasFoot_1, w_Path_hasFoot_4, w_Path_hasFoot_5, w_Path_hasFoot_6, w_Path_hasFoot_9, w_Path_hasFoot_12, w_Path_hasFoot_13, w_Path_hasFoot_16, w_Path_hasFoot_17, q_rd_eq, q_nt_0, q_nt_s, q_ld_tab, q_st_tab, q_aa13, q_aa14, q_is_eq, q_wr_eq, q_01_0, q_01_1, q_nz_nI, q_len_tab, psh_some, psh_none, sm_up_at, sm_up_ne, nI_add, nI_lt2, nI_le2, nI_eq2, ls_set0, ls_setS, Nat.reduceAdd, Nat.zero_add, Nat.add_zero, not_true_eq_false, not_false_eq_true, ite_true, ite_false, nI_rem3, nI_div2, nI_sub2, q_max_nI, q_min_nI, h1, h2, pt0]
/-- which tracks below j have all the feet f (bits) -/
def twN (f : Nat) (tk : Nat → Nat) : Nat → Nat
  | 0 => 0
  | j + 1 => if andn f (tk j) = 0 then twN f tk j ||| 2 ^ j else twN f tk j
theorem nI_shl4 : ∀ j, j < 4 → nI 1 <<< (nI j &&& 31) = nI (2 ^ j) := by decide +kernel
theorem with_loop {f : Nat} (hf : f < 2 ^ 61) : ∀ m j, j + m = 4 → Wp xs m_Path_tracksWith 5 [.ref a, .long (lN f), .null, .int (nI (twN f tk j)), .int (nI j)] [] (setPt h a pa tk) 0 0 K = K (some (.int (nI (twN f tk 4)))) (setPt h a pa tk) := by
  have p61 : (2 : Nat) ^ 61 = 2305843009213693952 := by decide
  intro m
  induction m with
  | zero =>
    intro j hj
    have : j = 4 := by omega
    subst this
    rw [w_Path_tracksWith_5]
    simp (disch := omega) only [w_Path_tracksWith_7, w_Path_tracksWith_8, w_Path_tracksWith_11, w_Path_tracksWith_12, w_Path_tracksWith_13, w_Path_tracksWith_16, w_Path_tracksWith_18, w_Path_tracksWith_19, w_Path_tracksWith_22, w_Path_tracksWith_23, w_Path_tracksWith_24, w_Path_tracksWith_25, w_Path_tracksWith_26, w_Path_tracksWith_29, w_Path_tracksWith_30, w_Path_tracksWith_31, w_Path_tracksWith_33, w_Path_tracksWith_34, w_Path_tracksWith_35, w_Path_tracksWith_36, w_Path_tracksWith_39, w_Path_tracksWith_42, w_Path_tracksWith_43, q_rd_eq, q_nt_0, q_nt_s, q_ld_tab, q_st_tab, q_aa13, q_aa14, q_is_eq, q_wr_eq, q_01_0, q_01_1, q_nz_nI, q_len_tab, psh_some, psh_none, sm_up_at, sm_up_ne, nI_add, nI_lt2, nI_le2, nI_eq2, ls_set0, ls_setS, Nat.reduceAdd, Nat.zero_add, Nat.add_zero, not_true_eq_false, not_false_eq_true, ite_true, ite_false, nI_rem3, nI_div2, nI_sub2, q_max_nI, q_min_nI, Nat.le_refl]
  | succ m ih =>
    intro j hj
    rw [w_Path_tracksWith_5]
    have h1 : ¬ 4 ≤ j := by omega
    have ha := andn_lt (t := tk j) hf
    have e1 : (nI (if andn f (tk j) = 0 then 0 else 1) = nI 0) = (andn f (tk j) = 0) := by
      split
      next hc => simp [hc]
      next hc => simp [hc, nI_eq2]
    simp (disch := omega) only [w_Path_tracksWith_7, w_Path_tracksWith_8, w_Path_tracksWith_11, w_Path_tracksWith_12, w_Path_tracksWith_13, w_Path_tracksWith_16, w_Path_tracksWith_18, w_Path_tracksWith_19, w_Path_tracksWith_22, w_Path_tracksWith_23, w_Path_tracksWith_24, w_Path_tracksWith_25, w_Path_tracksWith_26, w_Path_tracksWith_29, w_Path_tracksWith_30, w_Path_tracksWith_31, w_Path_tracksWith_33, w_Path_tracksWith_34, w_Path_tracksWith_35, w_Path_tracksWith_36, w_Path_tracksWith_39, q_rd_eq, q_nt_0, q_nt_s, q_ld_tab, q_st_tab, q_aa13, q_aa14, q_is_eq, q_wr_eq, q_01_0, q_01_1, q_nz_nI, q_len_tab, psh_some, psh_none, sm_up_at, sm_up_ne, nI_add, nI_lt2, nI_le2, nI_eq2, ls_set0, ls_setS, Nat.reduceAdd, Nat.zero_add, Nat.add_zero, not_true_eq_false, not_false_eq_true, ite_true, ite_false, nI_rem3, nI_div2, nI_sub2, q_max_nI, q_min_nI, pt0, pt4, bl_andn, bl_cmp0, e1, nI_shl4, nI_or, h1]
    by_cases hc : andn f (tk j) = 0
    · have e2 : twN f tk j ||| 2 ^ j = twN f tk (j + 1) := by
        show _ = (if _ then _ else _)
        rw [if_pos hc]
      rw [if_neg (not_not_intro hc), e2]
      exact ih (j + 1) (by omega)
    · have e2 : twN f tk j = twN f tk (j + 1) := by
        show _ = (if _ then _ else _)
        rw [if_neg hc]
      rw [if_pos hc, e2]
      exact ih (j + 1) (by omega)
theorem e_with {f : Nat} (hf : f < 2 ^ 61) : Wp xs m_Path_tracksWith 0 [.ref a, .long (lN f), .null, .null, .null] [] (setPt h a pa tk) 0 0 K = K (some (.int (nI (twN f tk 4)))) (setPt h a pa tk) := by
  simp (disch := omega) only [w_Path_tracksWith_0, w_Path_tracksWith_1, w_Path_tracksWith_2, w_Path_tracksWith_3, q_rd_eq, q_nt_0, q_nt_s, q_ld_tab, q_st_tab, q_aa13, q_aa14, q_is_eq, q_wr_eq, q_01_0, q_01_1, q_nz_nI, q_len_tab, psh_some, psh_none, sm_up_at, sm_up_ne, nI_add, nI_lt2, nI_le2, nI_eq2, ls_set0, ls_setS, Nat.reduceAdd, Nat.zero_add, Nat.add_zero, not_true_eq_false, not_false_eq_true, ite_true, ite_false, nI_rem3, nI_div2, nI_sub2, q_max_nI, q_min_nI]
  exact with_loop hf 4 0 (by omega)
theorem e_minute {k m f : Nat} (hw : WalkOk pa) (hk : k < 2) (hm : m ≤ 200) (hf : f ≤ 60) : Wp xs m_Path_minuteAt 0 [.ref a, .int (nI k), .int (nI m), .int (nI f), .null] [] (setPt h a pa tk) 0 0 K = K (some (.int (nI (m + (f + pa.2.2.2 k - 1) / pa.2.2.2 k)))) (setPt h a pa tk) := by
  obtain ⟨-, -, -, o4, o5⟩ := hw k hk
  have hd := Nat.div_le_self (f + pa.2.2.2 k - 1) (pa.2.2.2 k)
  have hmx : max 1 (pa.2.2.2 k) = pa.2.2.2 k := by omega
  simp (disch := omega) only [w_Path_minuteAt_0, w_Path_minuteAt_1, w_Path_minuteAt_2, w_Path_minuteAt_5, w_Path_minuteAt_6, w_Path_minuteAt_7, w_Path_minuteAt_10, w_Path_minuteAt_12, w_Path_minuteAt_13, w_Path_minuteAt_14, w_Path_minuteAt_16, w_Path_minuteAt_17, w_Path_minuteAt_18, w_Path_minuteAt_19, w_Path_minuteAt_21, w_Path_minuteAt_22, w_Path_minuteAt_23, q_rd_eq, q_nt_0, q_nt_s, q_ld_tab, q_st_tab, q_aa13, q_aa14, q_is_eq, q_wr_eq, q_01_0, q_01_1, q_nz_nI, q_len_tab, psh_some, psh_none, sm_up_at, sm_up_ne, nI_add, nI_lt2, nI_le2, nI_eq2, ls_set0, ls_setS, Nat.reduceAdd, Nat.zero_add, Nat.add_zero, not_true_eq_false, not_false_eq_true, ite_true, ite_false, nI_rem3, nI_div2, nI_sub2, q_max_nI, q_min_nI, pt0, pt3, hmx]
theorem e_turn {k m : Nat} (ht : 1 ≤ pa.1.2.2.2) (ht2 : pa.1.2.2.2 ≤ 9) (hk : k < 2) (hm : m ≤ 1000) : Wp xs m_Path_hasTurn 0 [.ref a, .int (nI k), .int (nI m)] [] (setPt h a pa tk) 0 0 K = K (some (.int (nI (b2n (decide (m / pa.1.2.2.2 % 2 = k)))))) (setPt h a pa tk) := by
  have hd := Nat.div_le_self m pa.1.2.2.2
  have hmx : max 1 pa.1.2.2.2 = pa.1.2.2.2 := by omega
  simp (disch := omega) only [w_Path_hasTurn_0, w_Path_hasTurn_1, w_Path_hasTurn_2, w_Path_hasTurn_3, w_Path_hasTurn_6, w_Path_hasTurn_9, w_Path_hasTurn_10, w_Path_hasTurn_11, w_Path_hasTurn_12, w_Path_hasTurn_13, w_Path_hasTurn_16, w_Path_hasTurn_17, w_Path_hasTurn_20, w_Path_hasTurn_21, q_rd_eq, q_nt_0, q_nt_s, q_ld_tab, q_st_tab, q_aa13, q_aa14, q_is_eq, q_wr_eq, q_01_0, q_01_1, q_nz_nI, q_len_tab, psh_some, psh_none, sm_up_at, sm_up_ne, nI_add, nI_lt2, nI_le2, nI_eq2, ls_set0, ls_setS, Nat.reduceAdd, Nat.zero_add, Nat.add_zero, not_true_eq_false, not_false_eq_true, ite_true, ite_false, nI_rem3, nI_div2, nI_sub2, q_max_nI, q_min_nI, pt0, hmx]
  by_cases hc : m / pa.1.2.2.2 % 2 = k
  · rw [if_neg (not_not_intro hc), decide_eq_true hc]
    rfl
  · rw [if_pos hc, decide_eq_false hc]
    rfl
end PTH
