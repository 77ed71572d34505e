/-! the text read, by the class -/
/-- blanks are skipped from a on, below n -/
def sk (T : Nat → Nat) (n : Nat) : Nat → Nat → Nat
  | 0, a => a
  | r + 1, a => if a < n ∧ T a = 32 then sk T n r (a + 1) else a
/-- digits from a on: where they end, and the number (it stays once it is beyond 99) -/
def dg (T : Nat → Nat) (n : Nat) : Nat → Nat → Nat → Nat × Nat
  | 0, a, w => (a, w)
  | r + 1, a, w => if a < n ∧ 48 ≤ T a ∧ T a ≤ 57 then dg T n r (a + 1) (if 99 < w then w else 10 * w + T a - 48) else (a, w)
theorem sk_le {T : Nat → Nat} {n : Nat} : ∀ r a, a ≤ n → a ≤ sk T n r a ∧ sk T n r a ≤ n
  | 0, a, h => ⟨Nat.le_refl _, h⟩
  | r + 1, a, h => by
    unfold sk
    by_cases c : a < n ∧ T a = 32
    · rw [if_pos c]
      have := sk_le (T := T) (n := n) r (a + 1) (by omega)
      omega
    · rw [if_neg c]
      omega
theorem dg_le {T : Nat → Nat} {n : Nat} : ∀ r a w, a ≤ n → w ≤ 999 → a ≤ (dg T n r a w).1 ∧ (dg T n r a w).1 ≤ n ∧ (dg T n r a w).2 ≤ 999
  | 0, a, w, h, hw => ⟨Nat.le_refl _, h, hw⟩
  | r + 1, a, w, h, hw => by
    unfold dg
    by_cases c : a < n ∧ 48 ≤ T a ∧ T a ≤ 57
    · rw [if_pos c]
      have := dg_le (T := T) (n := n) r (a + 1) (if 99 < w then w else 10 * w + T a - 48) (by omega) (by split <;> omega)
      omega
    · rw [if_neg c]
      exact ⟨Nat.le_refl _, h, hw⟩
def nOk (T : Nat → Nat) (n lo hi s : Nat) : Bool := decide ((dg T n 120 s 0).1 ≠ s ∧ ¬ (1 < (dg T n 120 s 0).1 - s ∧ T s = 48) ∧ lo ≤ (dg T n 120 s 0).2 ∧ (dg T n 120 s 0).2 ≤ hi)
def fail (f : Option Nat) (p : Nat) : Option Nat := match f with
  | none => some p
  | some y => some y
def fI (f : Option Nat) : Int32 := match f with
  | none => -1
  | some y => nI y
def fOk (f : Option Nat) : Prop := ∀ y, f = some y → y ≤ 120
theorem fOk_none : fOk none := fun y h => by cases h
theorem fOk_some {y : Nat} (h : y ≤ 120) : fOk (some y) := fun z e => by cases e; exact h
theorem fail_ok {f : Option Nat} {p : Nat} (hf : fOk f) (hp : p ≤ 120) : fOk (fail f p) := by
  cases f with
  | none => exact fOk_some hp
  | some y => exact hf
theorem fail_ne (f : Option Nat) (p : Nat) : ¬ fail f p = none := by cases f <;> (intro h; cases h)
theorem nI_m1 {x : Nat} (hx : x < 2147483648) : (nI x = -1) = False := by
  refine eq_false (fun h => ?_)
  have h1 := nI_toInt (n := x) (by omega)
  rw [h] at h1
  have h2 : (-1 : Int32).toInt = -1 := by decide
  omega
theorem fI_m1 {f : Option Nat} (hf : fOk f) : (fI f = -1) = (f = none) := by
  cases f with
  | none => simp [fI]
  | some y =>
    have := hf y rfl
    rw [show fI (some y) = nI y from rfl, nI_m1 (by omega)]
    simp
def rE (T : Nat → Nat) (n a : Nat) : Nat := (dg T n 120 (sk T n 120 a) 0).1
def rW (T : Nat → Nat) (n a : Nat) : Nat := (dg T n 120 (sk T n 120 a) 0).2
def rF (T : Nat → Nat) (n lo hi a : Nat) (f : Option Nat) : Option Nat := if nOk T n lo hi (sk T n 120 a) = true then f else fail f (sk T n 120 a)
def rV (T : Nat → Nat) (n lo hi a : Nat) (f : Option Nat) : Nat := if rF T n lo hi a f = none then rW T n a else lo
def eA (T : Nat → Nat) (n a : Nat) : Nat := if sk T n 120 a < n ∧ T (sk T n 120 a) = 59 then sk T n 120 a + 1 else sk T n 120 a
def eF (T : Nat → Nat) (n a : Nat) (f : Option Nat) : Option Nat := if sk T n 120 a < n ∧ T (sk T n 120 a) = 59 then f else fail f (sk T n 120 a)
theorem rE_le {T : Nat → Nat} {n a : Nat} (h : a ≤ n) : a ≤ rE T n a ∧ rE T n a ≤ n := by
  have h1 := sk_le (T := T) 120 a h
  have h2 := dg_le (T := T) (n := n) 120 (sk T n 120 a) 0 (by omega) (by omega)
  unfold rE
  omega
theorem eA_le {T : Nat → Nat} {n a : Nat} (h : a ≤ n) : eA T n a ≤ n := by
  have h1 := sk_le (T := T) 120 a h
  unfold eA
  split <;> omega
theorem rF_ok {T : Nat → Nat} {n lo hi a : Nat} {f : Option Nat} (hf : fOk f) (h : a ≤ n) (hn : n ≤ 120) : fOk (rF T n lo hi a f) := by
  have h1 := sk_le (T := T) 120 a h
  unfold rF
  split
  · exact hf
  · exact fail_ok hf (by omega)
theorem eF_ok {T : Nat → Nat} {n a : Nat} {f : Option Nat} (hf : fOk f) (h : a ≤ n) (hn : n ≤ 120) : fOk (eF T n a f) := by
  have h1 := sk_le (T := T) 120 a h
  unfold eF
  split
  · exact hf
  · exact fail_ok hf (by omega)
theorem rV_in {T : Nat → Nat} {n lo hi a : Nat} {f : Option Nat} (h : lo ≤ hi) : lo ≤ rV T n lo hi a f ∧ rV T n lo hi a f ≤ hi := by
  unfold rV
  by_cases c : rF T n lo hi a f = none
  · rw [if_pos c]
    unfold rF at c
    by_cases d : nOk T n lo hi (sk T n 120 a) = true
    · have := of_decide_eq_true d
      unfold rW
      omega
    · rw [if_neg d] at c
      exact absurd c (fail_ne _ _)
  · rw [if_neg c]
    omega
/-- the reader's cell, and the path that is read into -/
def RH (h : sm_Hp) (d n : Nat) (av fv : Int32) (b p t : Nat) (pa : PathS) (tk : Nat → Nat) : sm_Hp := setPt (sm_up h 1 (4, [.ref 2, .int (nI n), .int av, .int fv, .int (nI b), .int (nI p), .int (nI t)])) d pa tk
section RDR
variable {xs : List Int32} {h : sm_Hp} {K : Option Value → sm_Hp → Prop} {d n a : Nat} {av fv : Int32} {b p t : Nat} {pa : PathS} {tk : Nat → Nat} {T : Nat → Nat} {f : Option Nat}
theorem rh1 (hd : 2 < d) : (RH h d n av fv b p t pa tk).1 1 = (4, [.ref 2, .int (nI n), .int av, .int fv, .int (nI b), .int (nI p), .int (nI t)]) := (setPt_ne (by omega)).trans sm_up_at
theorem rh2 (hd : 2 < d) : (RH h d n av fv b p t pa tk).1 2 = h.1 2 := (setPt_ne (by omega)).trans (sm_up_ne (by omega))
theorem rh_d : (RH h d n av fv b p t pa tk).1 d = (2, [.int (nI pa.1.1), .int (nI pa.1.2.1), .int (nI pa.1.2.2.1), .int (nI pa.1.2.2.2), .ref (d + 1), .ref (d + 2), .ref (d + 3), .ref (d + 4)]) := pt0
theorem rh_d1 : (RH h d n av fv b p t pa tk).1 (d + 1) = (10, tab 2 (fun k => .int (nI (pa.2.1 k)))) := pt1
theorem rh_d2 : (RH h d n av fv b p t pa tk).1 (d + 2) = (10, tab 2 (fun k => .int (nI (pa.2.2.1 k)))) := pt2
theorem rh_d3 : (RH h d n av fv b p t pa tk).1 (d + 3) = (10, tab 2 (fun k => .int (nI (pa.2.2.2 k)))) := pt3
theorem rh_u1 (hd : 2 < d) {n' : Nat} {av' fv' : Int32} {b' p' t' : Nat} : sm_up (RH h d n av fv b p t pa tk) 1 (4, [.ref 2, .int (nI n'), .int av', .int fv', .int (nI b'), .int (nI p'), .int (nI t')]) = RH h d n' av' fv' b' p' t' pa tk := by
  refine Prod.ext (funext fun q => ?_) rfl
  show (if q = 1 then _ else (if d ≤ q ∧ q < d + 5 then ptC d pa tk (q - d) else (if q = 1 then _ else h.1 q))) = (if d ≤ q ∧ q < d + 5 then ptC d pa tk (q - d) else (if q = 1 then _ else h.1 q))
  by_cases e : q = 1
  · rw [if_pos e, if_neg (by omega), if_pos e]
  · rw [if_neg e, if_neg e, if_neg e]
theorem rh_ud {v1 v2 v3 v4 : Nat} : sm_up (RH h d n av fv b p t pa tk) d (2, [.int (nI v1), .int (nI v2), .int (nI v3), .int (nI v4), .ref (d + 1), .ref (d + 2), .ref (d + 3), .ref (d + 4)]) = RH h d n av fv b p t ((v1, v2, v3, v4), pa.2) tk := up_ps
theorem rh_ud1 {g : Nat → Nat} : sm_up (RH h d n av fv b p t pa tk) (d + 1) (10, tab 2 (fun k => .int (nI (g k)))) = RH h d n av fv b p t (pa.1, g, pa.2.2) tk := up_st
theorem rh_ud2 {g : Nat → Nat} : sm_up (RH h d n av fv b p t pa tk) (d + 2) (10, tab 2 (fun k => .int (nI (g k)))) = RH h d n av fv b p t (pa.1, pa.2.1, g, pa.2.2.2) tk := up_sd
theorem rh_ud3 {g : Nat → Nat} : sm_up (RH h d n av fv b p t pa tk) (d + 3) (10, tab 2 (fun k => .int (nI (g k)))) = RH h d n av fv b p t (pa.1, pa.2.1, pa.2.2.1, g) tk := up_sp
theorem rh_self (h1 : h.1 1 = (4, [.ref 2, .int (nI n), .int av, .int fv, .int (nI b), .int (nI p), .int (nI t)])) (H : PtAt h d pa tk) : RH h d n av fv b p t pa tk = h := by
  unfold RH
  rw [sm_up_self h1, setPt_self H]
theorem rh_first : Wp xs m_Path_asAtFirst 0 [.ref d] [] (RH h d n av fv b p t pa tk) 0 0 K = K none (RH h d n av fv b p t path0 tk) := e_first
theorem rh_lay (hl : pa.1.1 ≤ 60) (hw : WalkOk pa) : Wp xs m_Path_layTracks 0 [.ref d, .null] [] (RH h d n av fv b p t pa tk) 0 0 K = K none (RH h d n av fv b p t pa (trk pa)) := e_lay hl hw
theorem skip_loop (hT : h.1 2 = (10, tab 120 (fun i => .int (nI (T i))))) (hT2 : ∀ i, T i < 256) (hd : 2 < d) (hn : n ≤ 120) : ∀ r a i, n ≤ a + r → a ≤ n → i ≤ a → Wp xs m_Reader_skipBlanks 2 [.ref 1, .int (nI i)] [] (RH h d n (nI a) fv b p t pa tk) 0 0 K = K none (RH h d n (nI (sk T n r a)) fv b p t pa tk) := by
  intro r
  induction r with
  | zero =>
    intro a i h1 h2 h3
    have e : n ≤ a := by omega
    rw [w_Reader_skipBlanks_2]
    by_cases hi : 120 ≤ i
    · simp (disch := omega) only [w_Reader_skipBlanks_0, w_Reader_skipBlanks_1, w_Reader_skipBlanks_3, w_Reader_skipBlanks_5, w_Reader_skipBlanks_8, w_Reader_skipBlanks_9, w_Reader_skipBlanks_12, w_Reader_skipBlanks_13, w_Reader_skipBlanks_16, w_Reader_skipBlanks_19, w_Reader_skipBlanks_20, w_Reader_skipBlanks_23, w_Reader_skipBlanks_24, w_Reader_skipBlanks_27, w_Reader_skipBlanks_28, w_Reader_skipBlanks_30, w_Reader_skipBlanks_33, w_Reader_skipBlanks_34, w_Reader_skipBlanks_35, w_Reader_skipBlanks_38, w_Reader_skipBlanks_39, w_Reader_skipBlanks_40, w_Reader_skipBlanks_43, w_Reader_skipBlanks_46, w_Reader_skipBlanks_49, q_rd_eq, q_nt_0, q_nt_s, q_ld_tab, q_st_tab, q_aa13, q_aa14, q_is_eq, q_wr_eq, q_01_0, q_01_1, q_nz_nI, q_len_tab, psh_some, psh_none, sm_up_at, sm_up_ne, nI_add, nI_lt2, nI_le2, nI_eq2, ls_set0, ls_setS, Nat.reduceAdd, Nat.zero_add, Nat.add_zero, not_true_eq_false, not_false_eq_true, ite_true, ite_false, nI_rem3, nI_div2, nI_sub2, q_max_nI, q_min_nI, rh1, hi]
      rfl
    · simp (disch := omega) only [w_Reader_skipBlanks_0, w_Reader_skipBlanks_1, w_Reader_skipBlanks_3, w_Reader_skipBlanks_5, w_Reader_skipBlanks_8, w_Reader_skipBlanks_9, w_Reader_skipBlanks_12, w_Reader_skipBlanks_13, w_Reader_skipBlanks_16, w_Reader_skipBlanks_19, w_Reader_skipBlanks_20, w_Reader_skipBlanks_23, w_Reader_skipBlanks_24, w_Reader_skipBlanks_27, w_Reader_skipBlanks_28, w_Reader_skipBlanks_30, w_Reader_skipBlanks_33, w_Reader_skipBlanks_34, w_Reader_skipBlanks_35, w_Reader_skipBlanks_38, w_Reader_skipBlanks_39, w_Reader_skipBlanks_40, w_Reader_skipBlanks_43, w_Reader_skipBlanks_46, w_Reader_skipBlanks_49, q_rd_eq, q_nt_0, q_nt_s, q_ld_tab, q_st_tab, q_aa13, q_aa14, q_is_eq, q_wr_eq, q_01_0, q_01_1, q_nz_nI, q_len_tab, psh_some, psh_none, sm_up_at, sm_up_ne, nI_add, nI_lt2, nI_le2, nI_eq2, ls_set0, ls_setS, Nat.reduceAdd, Nat.zero_add, Nat.add_zero, not_true_eq_false, not_false_eq_true, ite_true, ite_false, nI_rem3, nI_div2, nI_sub2, q_max_nI, q_min_nI, rh1, hi, e]
      rfl
  | succ r ih =>
    intro a i h1 h2 h3
    rw [w_Reader_skipBlanks_2]
    unfold sk
    by_cases ha : a < n
    · have hi : ¬ 120 ≤ i := by omega
      have e : ¬ n ≤ a := by omega
      have h9 := hT2 a
      by_cases h32 : T a = 32
      · rw [if_pos ⟨ha, h32⟩]
        have h33 : ¬ ¬ T a = 32 := not_not_intro h32
        simp (disch := omega) only [w_Reader_skipBlanks_0, w_Reader_skipBlanks_1, w_Reader_skipBlanks_3, w_Reader_skipBlanks_5, w_Reader_skipBlanks_8, w_Reader_skipBlanks_9, w_Reader_skipBlanks_12, w_Reader_skipBlanks_13, w_Reader_skipBlanks_16, w_Reader_skipBlanks_19, w_Reader_skipBlanks_20, w_Reader_skipBlanks_23, w_Reader_skipBlanks_24, w_Reader_skipBlanks_27, w_Reader_skipBlanks_28, w_Reader_skipBlanks_30, w_Reader_skipBlanks_33, w_Reader_skipBlanks_34, w_Reader_skipBlanks_35, w_Reader_skipBlanks_38, w_Reader_skipBlanks_39, w_Reader_skipBlanks_40, w_Reader_skipBlanks_43, w_Reader_skipBlanks_46, w_Reader_skipBlanks_49, q_rd_eq, q_nt_0, q_nt_s, q_ld_tab, q_st_tab, q_aa13, q_aa14, q_is_eq, q_wr_eq, q_01_0, q_01_1, q_nz_nI, q_len_tab, psh_some, psh_none, sm_up_at, sm_up_ne, nI_add, nI_lt2, nI_le2, nI_eq2, ls_set0, ls_setS, Nat.reduceAdd, Nat.zero_add, Nat.add_zero, not_true_eq_false, not_false_eq_true, ite_true, ite_false, nI_rem3, nI_div2, nI_sub2, q_max_nI, q_min_nI, rh1, rh2, hT, hi, e, h33, rh_u1]
        exact ih (a + 1) (i + 1) (by omega) (by omega) (by omega)
      · rw [if_neg (fun q => h32 q.2)]
        simp (disch := omega) only [w_Reader_skipBlanks_0, w_Reader_skipBlanks_1, w_Reader_skipBlanks_3, w_Reader_skipBlanks_5, w_Reader_skipBlanks_8, w_Reader_skipBlanks_9, w_Reader_skipBlanks_12, w_Reader_skipBlanks_13, w_Reader_skipBlanks_16, w_Reader_skipBlanks_19, w_Reader_skipBlanks_20, w_Reader_skipBlanks_23, w_Reader_skipBlanks_24, w_Reader_skipBlanks_27, w_Reader_skipBlanks_28, w_Reader_skipBlanks_30, w_Reader_skipBlanks_33, w_Reader_skipBlanks_34, w_Reader_skipBlanks_35, w_Reader_skipBlanks_38, w_Reader_skipBlanks_39, w_Reader_skipBlanks_40, w_Reader_skipBlanks_43, w_Reader_skipBlanks_46, w_Reader_skipBlanks_49, q_rd_eq, q_nt_0, q_nt_s, q_ld_tab, q_st_tab, q_aa13, q_aa14, q_is_eq, q_wr_eq, q_01_0, q_01_1, q_nz_nI, q_len_tab, psh_some, psh_none, sm_up_at, sm_up_ne, nI_add, nI_lt2, nI_le2, nI_eq2, ls_set0, ls_setS, Nat.reduceAdd, Nat.zero_add, Nat.add_zero, not_true_eq_false, not_false_eq_true, ite_true, ite_false, nI_rem3, nI_div2, nI_sub2, q_max_nI, q_min_nI, rh1, rh2, hT, hi, e, h32]
    · rw [if_neg (fun q => ha q.1)]
      have e : n ≤ a := by omega
      by_cases hi : 120 ≤ i
      · simp (disch := omega) only [w_Reader_skipBlanks_0, w_Reader_skipBlanks_1, w_Reader_skipBlanks_3, w_Reader_skipBlanks_5, w_Reader_skipBlanks_8, w_Reader_skipBlanks_9, w_Reader_skipBlanks_12, w_Reader_skipBlanks_13, w_Reader_skipBlanks_16, w_Reader_skipBlanks_19, w_Reader_skipBlanks_20, w_Reader_skipBlanks_23, w_Reader_skipBlanks_24, w_Reader_skipBlanks_27, w_Reader_skipBlanks_28, w_Reader_skipBlanks_30, w_Reader_skipBlanks_33, w_Reader_skipBlanks_34, w_Reader_skipBlanks_35, w_Reader_skipBlanks_38, w_Reader_skipBlanks_39, w_Reader_skipBlanks_40, w_Reader_skipBlanks_43, w_Reader_skipBlanks_46, w_Reader_skipBlanks_49, q_rd_eq, q_nt_0, q_nt_s, q_ld_tab, q_st_tab, q_aa13, q_aa14, q_is_eq, q_wr_eq, q_01_0, q_01_1, q_nz_nI, q_len_tab, psh_some, psh_none, sm_up_at, sm_up_ne, nI_add, nI_lt2, nI_le2, nI_eq2, ls_set0, ls_setS, Nat.reduceAdd, Nat.zero_add, Nat.add_zero, not_true_eq_false, not_false_eq_true, ite_true, ite_false, nI_rem3, nI_div2, nI_sub2, q_max_nI, q_min_nI, rh1, hi]
      · simp (disch := omega) only [w_Reader_skipBlanks_0, w_Reader_skipBlanks_1, w_Reader_skipBlanks_3, w_Reader_skipBlanks_5, w_Reader_skipBlanks_8, w_Reader_skipBlanks_9, w_Reader_skipBlanks_12, w_Reader_skipBlanks_13, w_Reader_skipBlanks_16, w_Reader_skipBlanks_19, w_Reader_skipBlanks_20, w_Reader_skipBlanks_23, w_Reader_skipBlanks_24, w_Reader_skipBlanks_27, w_Reader_skipBlanks_28, w_Reader_skipBlanks_30, w_Reader_skipBlanks_33, w_Reader_skipBlanks_34, w_Reader_skipBlanks_35, w_Reader_skipBlanks_38, w_Reader_skipBlanks_39, w_Reader_skipBlanks_40, w_Reader_skipBlanks_43, w_Reader_skipBlanks_46, w_Reader_skipBlanks_49, q_rd_eq, q_nt_0, q_nt_s, q_ld_tab, q_st_tab, q_aa13, q_aa14, q_is_eq, q_wr_eq, q_01_0, q_01_1, q_nz_nI, q_len_tab, psh_some, psh_none, sm_up_at, sm_up_ne, nI_add, nI_lt2, nI_le2, nI_eq2, ls_set0, ls_setS, Nat.reduceAdd, Nat.zero_add, Nat.add_zero, not_true_eq_false, not_false_eq_true, ite_true, ite_false, nI_rem3, nI_div2, nI_sub2, q_max_nI, q_min_nI, rh1, hi, e]
theorem e_skip (hT : h.1 2 = (10, tab 120 (fun i => .int (nI (T i))))) (hT2 : ∀ i, T i < 256) (hd : 2 < d) (hn : n ≤ 120) (ha : a ≤ n) : Wp xs m_Reader_skipBlanks 0 [.ref 1, .null] [] (RH h d n (nI a) fv b p t pa tk) 0 0 K = K none (RH h d n (nI (sk T n 120 a)) fv b p t pa tk) := by
  simp (disch := omega) only [w_Reader_skipBlanks_0, w_Reader_skipBlanks_1, q_rd_eq, q_nt_0, q_nt_s, q_ld_tab, q_st_tab, q_aa13, q_aa14, q_is_eq, q_wr_eq, q_01_0, q_01_1, q_nz_nI, q_len_tab, psh_some, psh_none, sm_up_at, sm_up_ne, nI_add, nI_lt2, nI_le2, nI_eq2, ls_set0, ls_setS, Nat.reduceAdd, Nat.zero_add, Nat.add_zero, not_true_eq_false, not_false_eq_true, ite_true, ite_false, nI_rem3, nI_div2, nI_sub2, q_max_nI, q_min_nI]
  exact skip_loop hT hT2 hd hn 120 a 0 (by omega) ha (by omega)
theorem e_fail {q : Nat} (hd : 2 < d) (hf : fOk f) : Wp xs m_Reader_failAt 0 [.ref 1, .int (nI q)] [] (RH h d n av (fI f) b p t pa tk) 0 0 K = K none (RH h d n av (fI (fail f q)) b p t pa tk) := by
  have e := fI_m1 hf
  cases f with
  | none =>
    have e1 : ¬ ¬ (fI none = -1) := not_not_intro rfl
    simp (disch := omega) only [w_Reader_failAt_0, w_Reader_failAt_1, w_Reader_failAt_4, w_Reader_failAt_5, w_Reader_failAt_8, w_Reader_failAt_9, w_Reader_failAt_10, w_Reader_failAt_13, q_rd_eq, q_nt_0, q_nt_s, q_ld_tab, q_st_tab, q_aa13, q_aa14, q_is_eq, q_wr_eq, q_01_0, q_01_1, q_nz_nI, q_len_tab, psh_some, psh_none, sm_up_at, sm_up_ne, nI_add, nI_lt2, nI_le2, nI_eq2, ls_set0, ls_setS, Nat.reduceAdd, Nat.zero_add, Nat.add_zero, not_true_eq_false, not_false_eq_true, ite_true, ite_false, nI_rem3, nI_div2, nI_sub2, q_max_nI, q_min_nI, rh1, e1, rh_u1]
    rfl
  | some y =>
    have e1 : ¬ (fI (some y) = -1) := by rw [e]; intro z; cases z
    simp (disch := omega) only [w_Reader_failAt_0, w_Reader_failAt_1, w_Reader_failAt_4, w_Reader_failAt_5, w_Reader_failAt_8, w_Reader_failAt_9, w_Reader_failAt_10, w_Reader_failAt_13, q_rd_eq, q_nt_0, q_nt_s, q_ld_tab, q_st_tab, q_aa13, q_aa14, q_is_eq, q_wr_eq, q_01_0, q_01_1, q_nz_nI, q_len_tab, psh_some, psh_none, sm_up_at, sm_up_ne, nI_add, nI_lt2, nI_le2, nI_eq2, ls_set0, ls_setS, Nat.reduceAdd, Nat.zero_add, Nat.add_zero, not_true_eq_false, not_false_eq_true, ite_true, ite_false, nI_rem3, nI_div2, nI_sub2, q_max_nI, q_min_nI, rh1, e1]
    rfl
theorem e_digit (hT : h.1 2 = (10, tab 120 (fun i => .int (nI (T i))))) (hT2 : ∀ i, T i < 256) (hd : 2 < d) (hn : n ≤ 120) (ha : a ≤ n) : Wp xs m_Reader_isDigitAt 0 [.ref 1, .int (nI a)] [] (RH h d n av fv b p t pa tk) 0 0 K = K (some (.int (nI (b2n (decide (a < n ∧ 48 ≤ T a ∧ T a ≤ 57)))))) (RH h d n av fv b p t pa tk) := by
  have h9 := hT2 a
  by_cases h1 : n ≤ a
  · simp (disch := omega) only [w_Reader_isDigitAt_0, w_Reader_isDigitAt_1, w_Reader_isDigitAt_2, w_Reader_isDigitAt_5, w_Reader_isDigitAt_8, w_Reader_isDigitAt_9, w_Reader_isDigitAt_12, w_Reader_isDigitAt_13, w_Reader_isDigitAt_14, w_Reader_isDigitAt_16, w_Reader_isDigitAt_19, w_Reader_isDigitAt_20, w_Reader_isDigitAt_23, w_Reader_isDigitAt_24, w_Reader_isDigitAt_25, w_Reader_isDigitAt_27, w_Reader_isDigitAt_30, w_Reader_isDigitAt_31, w_Reader_isDigitAt_34, w_Reader_isDigitAt_35, q_rd_eq, q_nt_0, q_nt_s, q_ld_tab, q_st_tab, q_aa13, q_aa14, q_is_eq, q_wr_eq, q_01_0, q_01_1, q_nz_nI, q_len_tab, psh_some, psh_none, sm_up_at, sm_up_ne, nI_add, nI_lt2, nI_le2, nI_eq2, ls_set0, ls_setS, Nat.reduceAdd, Nat.zero_add, Nat.add_zero, not_true_eq_false, not_false_eq_true, ite_true, ite_false, nI_rem3, nI_div2, nI_sub2, q_max_nI, q_min_nI, rh1, h1]
    rw [decide_eq_false (by omega)]
    rfl
  · by_cases h2 : T a < 48
    · simp (disch := omega) only [w_Reader_isDigitAt_0, w_Reader_isDigitAt_1, w_Reader_isDigitAt_2, w_Reader_isDigitAt_5, w_Reader_isDigitAt_8, w_Reader_isDigitAt_9, w_Reader_isDigitAt_12, w_Reader_isDigitAt_13, w_Reader_isDigitAt_14, w_Reader_isDigitAt_16, w_Reader_isDigitAt_19, w_Reader_isDigitAt_20, w_Reader_isDigitAt_23, w_Reader_isDigitAt_24, w_Reader_isDigitAt_25, w_Reader_isDigitAt_27, w_Reader_isDigitAt_30, w_Reader_isDigitAt_31, w_Reader_isDigitAt_34, w_Reader_isDigitAt_35, q_rd_eq, q_nt_0, q_nt_s, q_ld_tab, q_st_tab, q_aa13, q_aa14, q_is_eq, q_wr_eq, q_01_0, q_01_1, q_nz_nI, q_len_tab, psh_some, psh_none, sm_up_at, sm_up_ne, nI_add, nI_lt2, nI_le2, nI_eq2, ls_set0, ls_setS, Nat.reduceAdd, Nat.zero_add, Nat.add_zero, not_true_eq_false, not_false_eq_true, ite_true, ite_false, nI_rem3, nI_div2, nI_sub2, q_max_nI, q_min_nI, rh1, rh2, hT, h1, h2]
      rw [decide_eq_false (by omega)]
      rfl
    · by_cases h3 : 57 < T a
      · simp (disch := omega) only [w_Reader_isDigitAt_0, w_Reader_isDigitAt_1, w_Reader_isDigitAt_2, w_Reader_isDigitAt_5, w_Reader_isDigitAt_8, w_Reader_isDigitAt_9, w_Reader_isDigitAt_12, w_Reader_isDigitAt_13, w_Reader_isDigitAt_14, w_Reader_isDigitAt_16, w_Reader_isDigitAt_19, w_Reader_isDigitAt_20, w_Reader_isDigitAt_23, w_Reader_isDigitAt_24, w_Reader_isDigitAt_25, w_Reader_isDigitAt_27, w_Reader_isDigitAt_30, w_Reader_isDigitAt_31, w_Reader_isDigitAt_34, w_Reader_isDigitAt_35, q_rd_eq, q_nt_0, q_nt_s, q_ld_tab, q_st_tab, q_aa13, q_aa14, q_is_eq, q_wr_eq, q_01_0, q_01_1, q_nz_nI, q_len_tab, psh_some, psh_none, sm_up_at, sm_up_ne, nI_add, nI_lt2, nI_le2, nI_eq2, ls_set0, ls_setS, Nat.reduceAdd, Nat.zero_add, Nat.add_zero, not_true_eq_false, not_false_eq_true, ite_true, ite_false, nI_rem3, nI_div2, nI_sub2, q_max_nI, q_min_nI, rh1, rh2, hT, h1, h2, h3]
        rw [decide_eq_false (by omega)]
        rfl
      · simp (disch := omega) only [w_Reader_isDigitAt_0, w_Reader_isDigitAt_1, w_Reader_isDigitAt_2, w_Reader_isDigitAt_5, w_Reader_isDigitAt_8, w_Reader_isDigitAt_9, w_Reader_isDigitAt_12, w_Reader_isDigitAt_13, w_Reader_isDigitAt_14, w_Reader_isDigitAt_16, w_Reader_isDigitAt_19, w_Reader_isDigitAt_20, w_Reader_isDigitAt_23, w_Reader_isDigitAt_24, w_Reader_isDigitAt_25, w_Reader_isDigitAt_27, w_Reader_isDigitAt_30, w_Reader_isDigitAt_31, w_Reader_isDigitAt_34, w_Reader_isDigitAt_35, q_rd_eq, q_nt_0, q_nt_s, q_ld_tab, q_st_tab, q_aa13, q_aa14, q_is_eq, q_wr_eq, q_01_0, q_01_1, q_nz_nI, q_len_tab, psh_some, psh_none, sm_up_at, sm_up_ne, nI_add, nI_lt2, nI_le2, nI_eq2, ls_set0, ls_setS, Nat.reduceAdd, Nat.zero_add, Nat.add_zero, not_true_eq_false, not_false_eq_true, ite_true, ite_false, nI_rem3, nI_div2, nI_sub2, q_max_nI, q_min_nI, rh1, rh2, hT, h1, h2, h3]
        rw [decide_eq_true (by omega)]
        rfl
theorem num_loop (hT : h.1 2 = (10, tab 120 (fun i => .int (nI (T i))))) (hT2 : ∀ i, T i < 256) (hd : 2 < d) (hn : n ≤ 120) {lo hi : Int32} {g : Nat} : ∀ r a i w, n ≤ a + r → a ≤ n → i ≤ a → g ≤ a → w ≤ 999 → Wp xs m_Reader_readNumber 15 [.ref 1, .int lo, .int hi, .int (nI g), .int (nI (min 100 w)), .int (nI i), .null] [] (RH h d n (nI a) fv b p t pa tk) 0 0 K = Wp xs m_Reader_readNumber 82 [.ref 1, .int lo, .int hi, .int (nI g), .int (nI (min 100 (dg T n r a w).2)), .int (nI ((dg T n r a w).1 - g)), .null] [] (RH h d n (nI (dg T n r a w).1) fv b p t pa tk) 0 0 K := by
  intro r
  induction r with
  | zero =>
    intro a i w h1 h2 h3 h4 h5
    rw [w_Reader_readNumber_15]
    have e : decide (a < n ∧ 48 ≤ T a ∧ T a ≤ 57) = false := decide_eq_false (by omega)
    by_cases hi : 120 ≤ i
    · simp (disch := omega) only [w_Reader_readNumber_17, w_Reader_readNumber_19, w_Reader_readNumber_22, w_Reader_readNumber_23, w_Reader_readNumber_24, w_Reader_readNumber_27, w_Reader_readNumber_30, w_Reader_readNumber_33, w_Reader_readNumber_35, w_Reader_readNumber_37, w_Reader_readNumber_39, w_Reader_readNumber_40, w_Reader_readNumber_41, w_Reader_readNumber_44, w_Reader_readNumber_45, w_Reader_readNumber_48, w_Reader_readNumber_49, w_Reader_readNumber_50, w_Reader_readNumber_52, w_Reader_readNumber_53, w_Reader_readNumber_56, w_Reader_readNumber_58, w_Reader_readNumber_59, w_Reader_readNumber_60, w_Reader_readNumber_63, w_Reader_readNumber_64, w_Reader_readNumber_65, w_Reader_readNumber_68, w_Reader_readNumber_71, w_Reader_readNumber_74, w_Reader_readNumber_75, w_Reader_readNumber_78, w_Reader_readNumber_79, w_Reader_readNumber_80, q_rd_eq, q_nt_0, q_nt_s, q_ld_tab, q_st_tab, q_aa13, q_aa14, q_is_eq, q_wr_eq, q_01_0, q_01_1, q_nz_nI, q_len_tab, psh_some, psh_none, sm_up_at, sm_up_ne, nI_add, nI_lt2, nI_le2, nI_eq2, ls_set0, ls_setS, Nat.reduceAdd, Nat.zero_add, Nat.add_zero, not_true_eq_false, not_false_eq_true, ite_true, ite_false, nI_rem3, nI_div2, nI_sub2, q_max_nI, q_min_nI, rh1, hi]
      rfl
    · simp (disch := first | assumption | omega) only [w_Reader_readNumber_17, w_Reader_readNumber_19, w_Reader_readNumber_22, w_Reader_readNumber_23, w_Reader_readNumber_24, w_Reader_readNumber_27, w_Reader_readNumber_30, w_Reader_readNumber_33, w_Reader_readNumber_35, w_Reader_readNumber_37, w_Reader_readNumber_39, w_Reader_readNumber_40, w_Reader_readNumber_41, w_Reader_readNumber_44, w_Reader_readNumber_45, w_Reader_readNumber_48, w_Reader_readNumber_49, w_Reader_readNumber_50, w_Reader_readNumber_52, w_Reader_readNumber_53, w_Reader_readNumber_56, w_Reader_readNumber_58, w_Reader_readNumber_59, w_Reader_readNumber_60, w_Reader_readNumber_63, w_Reader_readNumber_64, w_Reader_readNumber_65, w_Reader_readNumber_68, w_Reader_readNumber_71, w_Reader_readNumber_74, w_Reader_readNumber_75, w_Reader_readNumber_78, w_Reader_readNumber_79, w_Reader_readNumber_80, q_rd_eq, q_nt_0, q_nt_s, q_ld_tab, q_st_tab, q_aa13, q_aa14, q_is_eq, q_wr_eq, q_01_0, q_01_1, q_nz_nI, q_len_tab, psh_some, psh_none, sm_up_at, sm_up_ne, nI_add, nI_lt2, nI_le2, nI_eq2, ls_set0, ls_setS, Nat.reduceAdd, Nat.zero_add, Nat.add_zero, not_true_eq_false, not_false_eq_true, ite_true, ite_false, nI_rem3, nI_div2, nI_sub2, q_max_nI, q_min_nI, rh1, hi, e_digit hT, e, nI_b2n0]
      rfl
  | succ r ih =>
    intro a i w h1 h2 h3 h4 h5
    rw [w_Reader_readNumber_15]
    unfold dg
    by_cases c : a < n ∧ 48 ≤ T a ∧ T a ≤ 57
    · rw [if_pos c]
      have hi : ¬ 120 ≤ i := by omega
      have e : decide (a < n ∧ 48 ≤ T a ∧ T a ≤ 57) = true := decide_eq_true c
      have h9 : ¬ (true = false) := by decide
      simp (disch := first | assumption | omega) only [w_Reader_readNumber_17, w_Reader_readNumber_19, w_Reader_readNumber_22, w_Reader_readNumber_23, w_Reader_readNumber_24, w_Reader_readNumber_27, w_Reader_readNumber_30, w_Reader_readNumber_33, w_Reader_readNumber_35, w_Reader_readNumber_37, w_Reader_readNumber_39, w_Reader_readNumber_40, w_Reader_readNumber_41, w_Reader_readNumber_44, w_Reader_readNumber_45, w_Reader_readNumber_48, w_Reader_readNumber_49, w_Reader_readNumber_50, w_Reader_readNumber_52, w_Reader_readNumber_53, w_Reader_readNumber_56, w_Reader_readNumber_58, w_Reader_readNumber_59, w_Reader_readNumber_60, w_Reader_readNumber_63, w_Reader_readNumber_64, w_Reader_readNumber_65, w_Reader_readNumber_68, w_Reader_readNumber_71, q_rd_eq, q_nt_0, q_nt_s, q_ld_tab, q_st_tab, q_aa13, q_aa14, q_is_eq, q_wr_eq, q_01_0, q_01_1, q_nz_nI, q_len_tab, psh_some, psh_none, sm_up_at, sm_up_ne, nI_add, nI_lt2, nI_le2, nI_eq2, ls_set0, ls_setS, Nat.reduceAdd, Nat.zero_add, Nat.add_zero, not_true_eq_false, not_false_eq_true, ite_true, ite_false, nI_rem3, nI_div2, nI_sub2, q_max_nI, q_min_nI, rh1, rh2, hT, hi, e_digit hT, e, nI_b2n0, h9, pk_mul, rh_u1]
      have ew : min 100 (min 100 w * 10 + T a - 48) = min 100 (if 99 < w then w else 10 * w + T a - 48) := by split <;> omega
      rw [ew]
      exact ih (a + 1) (i + 1) _ (by omega) (by omega) (by omega) (by omega) (by split <;> omega)
    · rw [if_neg c]
      have e : decide (a < n ∧ 48 ≤ T a ∧ T a ≤ 57) = false := decide_eq_false c
      by_cases hi : 120 ≤ i
      · simp (disch := omega) only [w_Reader_readNumber_17, w_Reader_readNumber_19, w_Reader_readNumber_22, w_Reader_readNumber_23, w_Reader_readNumber_24, w_Reader_readNumber_27, w_Reader_readNumber_30, w_Reader_readNumber_33, w_Reader_readNumber_35, w_Reader_readNumber_37, w_Reader_readNumber_39, w_Reader_readNumber_40, w_Reader_readNumber_41, w_Reader_readNumber_44, w_Reader_readNumber_45, w_Reader_readNumber_48, w_Reader_readNumber_49, w_Reader_readNumber_50, w_Reader_readNumber_52, w_Reader_readNumber_53, w_Reader_readNumber_56, w_Reader_readNumber_58, w_Reader_readNumber_59, w_Reader_readNumber_60, w_Reader_readNumber_63, w_Reader_readNumber_64, w_Reader_readNumber_65, w_Reader_readNumber_68, w_Reader_readNumber_71, w_Reader_readNumber_74, w_Reader_readNumber_75, w_Reader_readNumber_78, w_Reader_readNumber_79, w_Reader_readNumber_80, q_rd_eq, q_nt_0, q_nt_s, q_ld_tab, q_st_tab, q_aa13, q_aa14, q_is_eq, q_wr_eq, q_01_0, q_01_1, q_nz_nI, q_len_tab, psh_some, psh_none, sm_up_at, sm_up_ne, nI_add, nI_lt2, nI_le2, nI_eq2, ls_set0, ls_setS, Nat.reduceAdd, Nat.zero_add, Nat.add_zero, not_true_eq_false, not_false_eq_true, ite_true, ite_false, nI_rem3, nI_div2, nI_sub2, q_max_nI, q_min_nI, rh1, hi]
      · simp (disch := first | assumption | omega) only [w_Reader_readNumber_17, w_Reader_readNumber_19, w_Reader_readNumber_22, w_Reader_readNumber_23, w_Reader_readNumber_24, w_Reader_readNumber_27, w_Reader_readNumber_30, w_Reader_readNumber_33, w_Reader_readNumber_35, w_Reader_readNumber_37, w_Reader_readNumber_39, w_Reader_readNumber_40, w_Reader_readNumber_41, w_Reader_readNumber_44, w_Reader_readNumber_45, w_Reader_readNumber_48, w_Reader_readNumber_49, w_Reader_readNumber_50, w_Reader_readNumber_52, w_Reader_readNumber_53, w_Reader_readNumber_56, w_Reader_readNumber_58, w_Reader_readNumber_59, w_Reader_readNumber_60, w_Reader_readNumber_63, w_Reader_readNumber_64, w_Reader_readNumber_65, w_Reader_readNumber_68, w_Reader_readNumber_71, w_Reader_readNumber_74, w_Reader_readNumber_75, w_Reader_readNumber_78, w_Reader_readNumber_79, w_Reader_readNumber_80, q_rd_eq, q_nt_0, q_nt_s, q_ld_tab, q_st_tab, q_aa13, q_aa14, q_is_eq, q_wr_eq, q_01_0, q_01_1, q_nz_nI, q_len_tab, psh_some, psh_none, sm_up_at, sm_up_ne, nI_add, nI_lt2, nI_le2, nI_eq2, ls_set0, ls_setS, Nat.reduceAdd, Nat.zero_add, Nat.add_zero, not_true_eq_false, not_false_eq_true, ite_true, ite_false, nI_rem3, nI_div2, nI_sub2, q_max_nI, q_min_nI, rh1, hi, e_digit hT, e, nI_b2n0]
theorem num_chk (hT : h.1 2 = (10, tab 120 (fun i => .int (nI (T i))))) (hT2 : ∀ i, T i < 256) (hd : 2 < d) (hn : n ≤ 120) {lo hi g e w : Nat} (hlo : lo ≤ 60) (hhi : hi ≤ 60) (hg : g ≤ e) (he : e ≤ n) (hw : w ≤ 999) : Wp xs m_Reader_readNumber 82 [.ref 1, .int (nI lo), .int (nI hi), .int (nI g), .int (nI (min 100 w)), .int (nI (e - g)), .null] [] (RH h d n av fv b p t pa tk) 0 0 K = if decide (e ≠ g ∧ ¬ (1 < e - g ∧ T g = 48) ∧ lo ≤ w ∧ w ≤ hi) = true then Wp xs m_Reader_readNumber 133 [.ref 1, .int (nI lo), .int (nI hi), .int (nI g), .int (nI (min 100 w)), .int (nI (e - g)), .int (nI 0)] [] (RH h d n av fv b p t pa tk) 0 0 K else Wp xs m_Reader_readNumber 128 [.ref 1, .int (nI lo), .int (nI hi), .int (nI g), .int (nI (min 100 w)), .int (nI (e - g)), .int (nI (if 1 < e - g ∧ T g = 48 then 1 else 0))] [] (RH h d n av fv b p t pa tk) 0 0 K := by
  have h9 := hT2 g
  by_cases c1 : e - g ≤ 1
  · have c2 : ¬ (1 < e - g ∧ T g = 48) := by omega
    rw [if_neg c2]
    by_cases c0 : e - g = 0
    · rw [if_neg (by simp only [decide_eq_true_eq]; omega)]
      simp (disch := omega) only [w_Reader_readNumber_82, w_Reader_readNumber_84, w_Reader_readNumber_85, w_Reader_readNumber_88, w_Reader_readNumber_89, w_Reader_readNumber_92, w_Reader_readNumber_93, w_Reader_readNumber_94, w_Reader_readNumber_96, w_Reader_readNumber_99, w_Reader_readNumber_100, w_Reader_readNumber_103, w_Reader_readNumber_104, w_Reader_readNumber_106, w_Reader_readNumber_108, w_Reader_readNumber_111, w_Reader_readNumber_113, w_Reader_readNumber_116, w_Reader_readNumber_118, w_Reader_readNumber_119, w_Reader_readNumber_122, w_Reader_readNumber_124, w_Reader_readNumber_125, q_rd_eq, q_nt_0, q_nt_s, q_ld_tab, q_st_tab, q_aa13, q_aa14, q_is_eq, q_wr_eq, q_01_0, q_01_1, q_nz_nI, q_len_tab, psh_some, psh_none, sm_up_at, sm_up_ne, nI_add, nI_lt2, nI_le2, nI_eq2, ls_set0, ls_setS, Nat.reduceAdd, Nat.zero_add, Nat.add_zero, not_true_eq_false, not_false_eq_true, ite_true, ite_false, nI_rem3, nI_div2, nI_sub2, q_max_nI, q_min_nI, c1, eq_true c0]
    · by_cases c3 : min 100 w < lo
      · rw [if_neg (by simp only [decide_eq_true_eq]; omega)]
        simp (disch := omega) only [w_Reader_readNumber_82, w_Reader_readNumber_84, w_Reader_readNumber_85, w_Reader_readNumber_88, w_Reader_readNumber_89, w_Reader_readNumber_92, w_Reader_readNumber_93, w_Reader_readNumber_94, w_Reader_readNumber_96, w_Reader_readNumber_99, w_Reader_readNumber_100, w_Reader_readNumber_103, w_Reader_readNumber_104, w_Reader_readNumber_106, w_Reader_readNumber_108, w_Reader_readNumber_111, w_Reader_readNumber_113, w_Reader_readNumber_116, w_Reader_readNumber_118, w_Reader_readNumber_119, w_Reader_readNumber_122, w_Reader_readNumber_124, w_Reader_readNumber_125, q_rd_eq, q_nt_0, q_nt_s, q_ld_tab, q_st_tab, q_aa13, q_aa14, q_is_eq, q_wr_eq, q_01_0, q_01_1, q_nz_nI, q_len_tab, psh_some, psh_none, sm_up_at, sm_up_ne, nI_add, nI_lt2, nI_le2, nI_eq2, ls_set0, ls_setS, Nat.reduceAdd, Nat.zero_add, Nat.add_zero, not_true_eq_false, not_false_eq_true, ite_true, ite_false, nI_rem3, nI_div2, nI_sub2, q_max_nI, q_min_nI, c1, c0, c3]
      · by_cases c4 : min 100 w ≤ hi
        · rw [if_pos (by simp only [decide_eq_true_eq]; omega)]
          simp (disch := omega) only [w_Reader_readNumber_82, w_Reader_readNumber_84, w_Reader_readNumber_85, w_Reader_readNumber_88, w_Reader_readNumber_89, w_Reader_readNumber_92, w_Reader_readNumber_93, w_Reader_readNumber_94, w_Reader_readNumber_96, w_Reader_readNumber_99, w_Reader_readNumber_100, w_Reader_readNumber_103, w_Reader_readNumber_104, w_Reader_readNumber_106, w_Reader_readNumber_108, w_Reader_readNumber_111, w_Reader_readNumber_113, w_Reader_readNumber_116, w_Reader_readNumber_118, w_Reader_readNumber_119, w_Reader_readNumber_122, w_Reader_readNumber_124, w_Reader_readNumber_125, q_rd_eq, q_nt_0, q_nt_s, q_ld_tab, q_st_tab, q_aa13, q_aa14, q_is_eq, q_wr_eq, q_01_0, q_01_1, q_nz_nI, q_len_tab, psh_some, psh_none, sm_up_at, sm_up_ne, nI_add, nI_lt2, nI_le2, nI_eq2, ls_set0, ls_setS, Nat.reduceAdd, Nat.zero_add, Nat.add_zero, not_true_eq_false, not_false_eq_true, ite_true, ite_false, nI_rem3, nI_div2, nI_sub2, q_max_nI, q_min_nI, c1, c0, c3, c4]
        · rw [if_neg (by simp only [decide_eq_true_eq]; omega)]
          simp (disch := omega) only [w_Reader_readNumber_82, w_Reader_readNumber_84, w_Reader_readNumber_85, w_Reader_readNumber_88, w_Reader_readNumber_89, w_Reader_readNumber_92, w_Reader_readNumber_93, w_Reader_readNumber_94, w_Reader_readNumber_96, w_Reader_readNumber_99, w_Reader_readNumber_100, w_Reader_readNumber_103, w_Reader_readNumber_104, w_Reader_readNumber_106, w_Reader_readNumber_108, w_Reader_readNumber_111, w_Reader_readNumber_113, w_Reader_readNumber_116, w_Reader_readNumber_118, w_Reader_readNumber_119, w_Reader_readNumber_122, w_Reader_readNumber_124, w_Reader_readNumber_125, q_rd_eq, q_nt_0, q_nt_s, q_ld_tab, q_st_tab, q_aa13, q_aa14, q_is_eq, q_wr_eq, q_01_0, q_01_1, q_nz_nI, q_len_tab, psh_some, psh_none, sm_up_at, sm_up_ne, nI_add, nI_lt2, nI_le2, nI_eq2, ls_set0, ls_setS, Nat.reduceAdd, Nat.zero_add, Nat.add_zero, not_true_eq_false, not_false_eq_true, ite_true, ite_false, nI_rem3, nI_div2, nI_sub2, q_max_nI, q_min_nI, c1, c0, c3, c4]
  · by_cases c5 : T g = 48
    · have c6 : ¬ ¬ T g = 48 := not_not_intro c5
      have c0 : ¬ e - g = 0 := by omega
      have c7 : ¬ (1 : Nat) = 0 := by omega
      rw [if_neg (by simp only [decide_eq_true_eq]; omega), if_pos (by omega)]
      simp (disch := omega) only [w_Reader_readNumber_82, w_Reader_readNumber_84, w_Reader_readNumber_85, w_Reader_readNumber_88, w_Reader_readNumber_89, w_Reader_readNumber_92, w_Reader_readNumber_93, w_Reader_readNumber_94, w_Reader_readNumber_96, w_Reader_readNumber_99, w_Reader_readNumber_100, w_Reader_readNumber_103, w_Reader_readNumber_104, w_Reader_readNumber_106, w_Reader_readNumber_108, w_Reader_readNumber_111, w_Reader_readNumber_113, w_Reader_readNumber_116, w_Reader_readNumber_118, w_Reader_readNumber_119, w_Reader_readNumber_122, w_Reader_readNumber_124, w_Reader_readNumber_125, q_rd_eq, q_nt_0, q_nt_s, q_ld_tab, q_st_tab, q_aa13, q_aa14, q_is_eq, q_wr_eq, q_01_0, q_01_1, q_nz_nI, q_len_tab, psh_some, psh_none, sm_up_at, sm_up_ne, nI_add, nI_lt2, nI_le2, nI_eq2, ls_set0, ls_setS, Nat.reduceAdd, Nat.zero_add, Nat.add_zero, not_true_eq_false, not_false_eq_true, ite_true, ite_false, nI_rem3, nI_div2, nI_sub2, q_max_nI, q_min_nI, c1, c0, c6, c7, rh1, rh2, hT]
    · have c0 : ¬ e - g = 0 := by omega
      rw [if_neg (show ¬ (1 < e - g ∧ T g = 48) by omega)]
      by_cases c3 : min 100 w < lo
      · rw [if_neg (by simp only [decide_eq_true_eq]; omega)]
        simp (disch := omega) only [w_Reader_readNumber_82, w_Reader_readNumber_84, w_Reader_readNumber_85, w_Reader_readNumber_88, w_Reader_readNumber_89, w_Reader_readNumber_92, w_Reader_readNumber_93, w_Reader_readNumber_94, w_Reader_readNumber_96, w_Reader_readNumber_99, w_Reader_readNumber_100, w_Reader_readNumber_103, w_Reader_readNumber_104, w_Reader_readNumber_106, w_Reader_readNumber_108, w_Reader_readNumber_111, w_Reader_readNumber_113, w_Reader_readNumber_116, w_Reader_readNumber_118, w_Reader_readNumber_119, w_Reader_readNumber_122, w_Reader_readNumber_124, w_Reader_readNumber_125, q_rd_eq, q_nt_0, q_nt_s, q_ld_tab, q_st_tab, q_aa13, q_aa14, q_is_eq, q_wr_eq, q_01_0, q_01_1, q_nz_nI, q_len_tab, psh_some, psh_none, sm_up_at, sm_up_ne, nI_add, nI_lt2, nI_le2, nI_eq2, ls_set0, ls_setS, Nat.reduceAdd, Nat.zero_add, Nat.add_zero, not_true_eq_false, not_false_eq_true, ite_true, ite_false, nI_rem3, nI_div2, nI_sub2, q_max_nI, q_min_nI, c1, c0, c3, c5, rh1, rh2, hT]
      · by_cases c4 : min 100 w ≤ hi
        · rw [if_pos (by simp only [decide_eq_true_eq]; omega)]
          simp (disch := omega) only [w_Reader_readNumber_82, w_Reader_readNumber_84, w_Reader_readNumber_85, w_Reader_readNumber_88, w_Reader_readNumber_89, w_Reader_readNumber_92, w_Reader_readNumber_93, w_Reader_readNumber_94, w_Reader_readNumber_96, w_Reader_readNumber_99, w_Reader_readNumber_100, w_Reader_readNumber_103, w_Reader_readNumber_104, w_Reader_readNumber_106, w_Reader_readNumber_108, w_Reader_readNumber_111, w_Reader_readNumber_113, w_Reader_readNumber_116, w_Reader_readNumber_118, w_Reader_readNumber_119, w_Reader_readNumber_122, w_Reader_readNumber_124, w_Reader_readNumber_125, q_rd_eq, q_nt_0, q_nt_s, q_ld_tab, q_st_tab, q_aa13, q_aa14, q_is_eq, q_wr_eq, q_01_0, q_01_1, q_nz_nI, q_len_tab, psh_some, psh_none, sm_up_at, sm_up_ne, nI_add, nI_lt2, nI_le2, nI_eq2, ls_set0, ls_setS, Nat.reduceAdd, Nat.zero_add, Nat.add_zero, not_true_eq_false, not_false_eq_true, ite_true, ite_false, nI_rem3, nI_div2, nI_sub2, q_max_nI, q_min_nI, c1, c0, c3, c4, c5, rh1, rh2, hT]
        · rw [if_neg (by simp only [decide_eq_true_eq]; omega)]
          simp (disch := omega) only [w_Reader_readNumber_82, w_Reader_readNumber_84, w_Reader_readNumber_85, w_Reader_readNumber_88, w_Reader_readNumber_89, w_Reader_readNumber_92, w_Reader_readNumber_93, w_Reader_readNumber_94, w_Reader_readNumber_96, w_Reader_readNumber_99, w_Reader_readNumber_100, w_Reader_readNumber_103, w_Reader_readNumber_104, w_Reader_readNumber_106, w_Reader_readNumber_108, w_Reader_readNumber_111, w_Reader_readNumber_113, w_Reader_readNumber_116, w_Reader_readNumber_118, w_Reader_readNumber_119, w_Reader_readNumber_122, w_Reader_readNumber_124, w_Reader_readNumber_125, q_rd_eq, q_nt_0, q_nt_s, q_ld_tab, q_st_tab, q_aa13, q_aa14, q_is_eq, q_wr_eq, q_01_0, q_01_1, q_nz_nI, q_len_tab, psh_some, psh_none, sm_up_at, sm_up_ne, nI_add, nI_lt2, nI_le2, nI_eq2, ls_set0, ls_setS, Nat.reduceAdd, Nat.zero_add, Nat.add_zero, not_true_eq_false, not_false_eq_true, ite_true, ite_false, nI_rem3, nI_div2, nI_sub2, q_max_nI, q_min_nI, c1, c0, c3, c4, c5, rh1, rh2, hT]
theorem e_num (hT : h.1 2 = (10, tab 120 (fun i => .int (nI (T i))))) (hT2 : ∀ i, T i < 256) (hd : 2 < d) (hn : n ≤ 120) (ha : a ≤ n) {lo hi : Nat} (hlo : lo ≤ 60) (hhi : hi ≤ 60) (hf : fOk f) : Wp xs m_Reader_readNumber 0 [.ref 1, .int (nI lo), .int (nI hi), .null, .null, .null, .null] [] (RH h d n (nI a) (fI f) b p t pa tk) 0 0 K = K (some (.int (nI (rV T n lo hi a f)))) (RH h d n (nI (rE T n a)) (fI (rF T n lo hi a f)) b p t pa tk) := by
  have h1 := sk_le (T := T) 120 a ha
  have h2 := dg_le (T := T) (n := n) 120 (sk T n 120 a) 0 (by omega) (by omega)
  simp (disch := first | assumption | omega) only [w_Reader_readNumber_0, w_Reader_readNumber_1, w_Reader_readNumber_4, w_Reader_readNumber_5, w_Reader_readNumber_8, w_Reader_readNumber_9, w_Reader_readNumber_10, w_Reader_readNumber_12, w_Reader_readNumber_13, q_rd_eq, q_nt_0, q_nt_s, q_ld_tab, q_st_tab, q_aa13, q_aa14, q_is_eq, q_wr_eq, q_01_0, q_01_1, q_nz_nI, q_len_tab, psh_some, psh_none, sm_up_at, sm_up_ne, nI_add, nI_lt2, nI_le2, nI_eq2, ls_set0, ls_setS, Nat.reduceAdd, Nat.zero_add, Nat.add_zero, not_true_eq_false, not_false_eq_true, ite_true, ite_false, nI_rem3, nI_div2, nI_sub2, q_max_nI, q_min_nI, rh1, e_skip hT]
  refine (num_loop hT hT2 hd hn 120 (sk T n 120 a) 0 0 (by omega) (by omega) (by omega) (by omega) (by omega)).trans ?_
  rw [num_chk hT hT2 hd hn hlo hhi h2.1 h2.2.1 h2.2.2]
  by_cases c : nOk T n lo hi (sk T n 120 a) = true
  · have c' := of_decide_eq_true c
    have cc := c
    unfold nOk at cc
    rw [if_pos cc]
    have eF1 : rF T n lo hi a f = f := if_pos c
    have eV : rV T n lo hi a f = if f = none then rW T n a else lo := by unfold rV; rw [eF1]
    rw [eF1, eV]
    have em : min 100 (dg T n 120 (sk T n 120 a) 0).2 = rW T n a := by unfold rW; omega
    have ef := fI_m1 hf
    cases f with
    | none =>
      have e1 : ¬ ¬ (fI none = -1) := not_not_intro rfl
      simp (disch := omega) only [w_Reader_readNumber_133, w_Reader_readNumber_134, w_Reader_readNumber_137, w_Reader_readNumber_138, w_Reader_readNumber_141, w_Reader_readNumber_143, w_Reader_readNumber_146, w_Reader_readNumber_147, q_rd_eq, q_nt_0, q_nt_s, q_ld_tab, q_st_tab, q_aa13, q_aa14, q_is_eq, q_wr_eq, q_01_0, q_01_1, q_nz_nI, q_len_tab, psh_some, psh_none, sm_up_at, sm_up_ne, nI_add, nI_lt2, nI_le2, nI_eq2, ls_set0, ls_setS, Nat.reduceAdd, Nat.zero_add, Nat.add_zero, not_true_eq_false, not_false_eq_true, ite_true, ite_false, nI_rem3, nI_div2, nI_sub2, q_max_nI, q_min_nI, rh1, e1, em]
      rfl
    | some y =>
      have e1 : ¬ (fI (some y) = -1) := by rw [ef]; intro z; cases z
      have e2 : ¬ (some y = none) := by intro z; cases z
      simp (disch := omega) only [w_Reader_readNumber_133, w_Reader_readNumber_134, w_Reader_readNumber_137, w_Reader_readNumber_138, w_Reader_readNumber_141, w_Reader_readNumber_143, w_Reader_readNumber_146, w_Reader_readNumber_147, q_rd_eq, q_nt_0, q_nt_s, q_ld_tab, q_st_tab, q_aa13, q_aa14, q_is_eq, q_wr_eq, q_01_0, q_01_1, q_nz_nI, q_len_tab, psh_some, psh_none, sm_up_at, sm_up_ne, nI_add, nI_lt2, nI_le2, nI_eq2, ls_set0, ls_setS, Nat.reduceAdd, Nat.zero_add, Nat.add_zero, not_true_eq_false, not_false_eq_true, ite_true, ite_false, nI_rem3, nI_div2, nI_sub2, q_max_nI, q_min_nI, rh1, e1, e2]
      rfl
  · have cc := c
    unfold nOk at cc
    rw [if_neg cc]
    have eF1 : rF T n lo hi a f = fail f (sk T n 120 a) := if_neg c
    have eV : rV T n lo hi a f = lo := by unfold rV; rw [eF1, if_neg (fail_ne _ _)]
    rw [eF1, eV]
    have hf2 : fOk (fail f (sk T n 120 a)) := fail_ok hf (by omega)
    have e1 : ¬ (fI (fail f (sk T n 120 a)) = -1) := by rw [fI_m1 hf2]; exact fail_ne _ _
    simp (disch := first | assumption | omega) only [w_Reader_readNumber_128, w_Reader_readNumber_129, w_Reader_readNumber_130, w_Reader_readNumber_133, w_Reader_readNumber_134, w_Reader_readNumber_137, w_Reader_readNumber_138, w_Reader_readNumber_141, w_Reader_readNumber_143, w_Reader_readNumber_146, w_Reader_readNumber_147, q_rd_eq, q_nt_0, q_nt_s, q_ld_tab, q_st_tab, q_aa13, q_aa14, q_is_eq, q_wr_eq, q_01_0, q_01_1, q_nz_nI, q_len_tab, psh_some, psh_none, sm_up_at, sm_up_ne, nI_add, nI_lt2, nI_le2, nI_eq2, ls_set0, ls_setS, Nat.reduceAdd, Nat.zero_add, Nat.add_zero, not_true_eq_false, not_false_eq_true, ite_true, ite_false, nI_rem3, nI_div2, nI_sub2, q_max_nI, q_min_nI, rh1, e_fail, e1]
    rfl
theorem e_pass1 (hd : 2 < d) : Wp xs m_Reader_passLetter 0 [.ref 1, .int (nI 1)] [] (RH h d n (nI a) fv b p t pa tk) 0 0 K = K none (RH h d n (nI (a + 1)) fv b p t pa tk) := by
  have c7 : ¬ (1 : Nat) = 0 := by omega
  simp (disch := omega) only [w_Reader_passLetter_0, w_Reader_passLetter_1, w_Reader_passLetter_4, w_Reader_passLetter_5, w_Reader_passLetter_6, w_Reader_passLetter_9, w_Reader_passLetter_10, w_Reader_passLetter_11, w_Reader_passLetter_14, w_Reader_passLetter_17, w_Reader_passLetter_18, w_Reader_passLetter_19, w_Reader_passLetter_22, w_Reader_passLetter_25, q_rd_eq, q_nt_0, q_nt_s, q_ld_tab, q_st_tab, q_aa13, q_aa14, q_is_eq, q_wr_eq, q_01_0, q_01_1, q_nz_nI, q_len_tab, psh_some, psh_none, sm_up_at, sm_up_ne, nI_add, nI_lt2, nI_le2, nI_eq2, ls_set0, ls_setS, Nat.reduceAdd, Nat.zero_add, Nat.add_zero, not_true_eq_false, not_false_eq_true, ite_true, ite_false, nI_rem3, nI_div2, nI_sub2, q_max_nI, q_min_nI, rh1, rh_u1, c7]
theorem e_pass0 (hd : 2 < d) (hf : fOk f) : Wp xs m_Reader_passLetter 0 [.ref 1, .int (nI 0)] [] (RH h d n (nI a) (fI f) b p t pa tk) 0 0 K = K none (RH h d n (nI a) (fI (fail f a)) b p t pa tk) := by
  simp (disch := first | assumption | omega) only [w_Reader_passLetter_0, w_Reader_passLetter_1, w_Reader_passLetter_4, w_Reader_passLetter_5, w_Reader_passLetter_6, w_Reader_passLetter_9, w_Reader_passLetter_10, w_Reader_passLetter_11, w_Reader_passLetter_14, w_Reader_passLetter_17, w_Reader_passLetter_18, w_Reader_passLetter_19, w_Reader_passLetter_22, w_Reader_passLetter_25, q_rd_eq, q_nt_0, q_nt_s, q_ld_tab, q_st_tab, q_aa13, q_aa14, q_is_eq, q_wr_eq, q_01_0, q_01_1, q_nz_nI, q_len_tab, psh_some, psh_none, sm_up_at, sm_up_ne, nI_add, nI_lt2, nI_le2, nI_eq2, ls_set0, ls_setS, Nat.reduceAdd, Nat.zero_add, Nat.add_zero, not_true_eq_false, not_false_eq_true, ite_true, ite_false, nI_rem3, nI_div2, nI_sub2, q_max_nI, q_min_nI, rh1, e_fail]
theorem e_end (hT : h.1 2 = (10, tab 120 (fun i => .int (nI (T i))))) (hT2 : ∀ i, T i < 256) (hd : 2 < d) (hn : n ≤ 120) (ha : a ≤ n) (hf : fOk f) : Wp xs m_Reader_readEnd 0 [.ref 1] [] (RH h d n (nI a) (fI f) b p t pa tk) 0 0 K = K none (RH h d n (nI (eA T n a)) (fI (eF T n a f)) b p t pa tk) := by
  have h1 := sk_le (T := T) 120 a ha
  have h9 := hT2 (sk T n 120 a)
  by_cases c : sk T n 120 a < n
  · by_cases c2 : T (sk T n 120 a) = 59
    · have c3 : ¬ ¬ T (sk T n 120 a) = 59 := not_not_intro c2
      have e1 : eA T n a = sk T n 120 a + 1 := if_pos ⟨c, c2⟩
      have e2 : eF T n a f = f := if_pos ⟨c, c2⟩
      rw [e1, e2]
      simp (disch := first | assumption | omega) only [w_Reader_readEnd_0, w_Reader_readEnd_1, w_Reader_readEnd_4, w_Reader_readEnd_5, w_Reader_readEnd_8, w_Reader_readEnd_9, w_Reader_readEnd_12, w_Reader_readEnd_15, w_Reader_readEnd_16, w_Reader_readEnd_17, w_Reader_readEnd_20, w_Reader_readEnd_23, w_Reader_readEnd_26, w_Reader_readEnd_27, w_Reader_readEnd_30, w_Reader_readEnd_31, w_Reader_readEnd_34, w_Reader_readEnd_35, w_Reader_readEnd_37, w_Reader_readEnd_40, w_Reader_readEnd_41, w_Reader_readEnd_42, w_Reader_readEnd_45, w_Reader_readEnd_46, w_Reader_readEnd_47, w_Reader_readEnd_50, w_Reader_readEnd_53, w_Reader_readEnd_54, w_Reader_readEnd_55, w_Reader_readEnd_58, w_Reader_readEnd_61, q_rd_eq, q_nt_0, q_nt_s, q_ld_tab, q_st_tab, q_aa13, q_aa14, q_is_eq, q_wr_eq, q_01_0, q_01_1, q_nz_nI, q_len_tab, psh_some, psh_none, sm_up_at, sm_up_ne, nI_add, nI_lt2, nI_le2, nI_eq2, ls_set0, ls_setS, Nat.reduceAdd, Nat.zero_add, Nat.add_zero, not_true_eq_false, not_false_eq_true, ite_true, ite_false, nI_rem3, nI_div2, nI_sub2, q_max_nI, q_min_nI, rh1, rh2, hT, e_skip hT, c, c3, rh_u1]
    · have e1 : eA T n a = sk T n 120 a := if_neg (fun q => c2 q.2)
      have e2 : eF T n a f = fail f (sk T n 120 a) := if_neg (fun q => c2 q.2)
      rw [e1, e2]
      simp (disch := first | assumption | omega) only [w_Reader_readEnd_0, w_Reader_readEnd_1, w_Reader_readEnd_4, w_Reader_readEnd_5, w_Reader_readEnd_8, w_Reader_readEnd_9, w_Reader_readEnd_12, w_Reader_readEnd_15, w_Reader_readEnd_16, w_Reader_readEnd_17, w_Reader_readEnd_20, w_Reader_readEnd_23, w_Reader_readEnd_26, w_Reader_readEnd_27, w_Reader_readEnd_30, w_Reader_readEnd_31, w_Reader_readEnd_34, w_Reader_readEnd_35, w_Reader_readEnd_37, w_Reader_readEnd_40, w_Reader_readEnd_41, w_Reader_readEnd_42, w_Reader_readEnd_45, w_Reader_readEnd_46, w_Reader_readEnd_47, w_Reader_readEnd_50, w_Reader_readEnd_53, w_Reader_readEnd_54, w_Reader_readEnd_55, w_Reader_readEnd_58, w_Reader_readEnd_61, q_rd_eq, q_nt_0, q_nt_s, q_ld_tab, q_st_tab, q_aa13, q_aa14, q_is_eq, q_wr_eq, q_01_0, q_01_1, q_nz_nI, q_len_tab, psh_some, psh_none, sm_up_at, sm_up_ne, nI_add, nI_lt2, nI_le2, nI_eq2, ls_set0, ls_setS, Nat.reduceAdd, Nat.zero_add, Nat.add_zero, not_true_eq_false, not_false_eq_true, ite_true, ite_false, nI_rem3, nI_div2, nI_sub2, q_max_nI, q_min_nI, rh1, rh2, hT, e_skip hT, c, c2, e_fail]
  · have e1 : eA T n a = sk T n 120 a := if_neg (fun q => c q.1)
    have e2 : eF T n a f = fail f (sk T n 120 a) := if_neg (fun q => c q.1)
    have e3 : sk T n 120 a = n := by omega
    rw [e1, e2]
    simp (disch := first | assumption | omega) only [w_Reader_readEnd_0, w_Reader_readEnd_1, w_Reader_readEnd_4, w_Reader_readEnd_5, w_Reader_readEnd_8, w_Reader_readEnd_9, w_Reader_readEnd_12, w_Reader_readEnd_15, w_Reader_readEnd_16, w_Reader_readEnd_17, w_Reader_readEnd_20, w_Reader_readEnd_23, w_Reader_readEnd_26, w_Reader_readEnd_27, w_Reader_readEnd_30, w_Reader_readEnd_31, w_Reader_readEnd_34, w_Reader_readEnd_35, w_Reader_readEnd_37, w_Reader_readEnd_40, w_Reader_readEnd_41, w_Reader_readEnd_42, w_Reader_readEnd_45, w_Reader_readEnd_46, w_Reader_readEnd_47, w_Reader_readEnd_50, w_Reader_readEnd_53, w_Reader_readEnd_54, w_Reader_readEnd_55, w_Reader_readEnd_58, w_Reader_readEnd_61, q_rd_eq, q_nt_0, q_nt_s, q_ld_tab, q_st_tab, q_aa13, q_aa14, q_is_eq, q_wr_eq, q_01_0, q_01_1, q_nz_nI, q_len_tab, psh_some, psh_none, sm_up_at, sm_up_ne, nI_add, nI_lt2, nI_le2, nI_eq2, ls_set0, ls_setS, Nat.reduceAdd, Nat.zero_add, Nat.add_zero, not_true_eq_false, not_false_eq_true, ite_true, ite_false, nI_rem3, nI_div2, nI_sub2, q_max_nI, q_min_nI, rh1, e_skip hT, c, e_fail]
    rw [e3]
end RDR
