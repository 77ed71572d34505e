/-! the model's calls that change the row -/
theorem rnF_ge {f : Nat → Nat} {n i j : Nat} (h : i ≤ j) : rnF f n i j = f j := if_neg (by omega)
def cowS (f : Nat → Nat) (k x : Nat) : Nat → Nat := fup (fup f (61 * k + x) 0) (122 + 61 * k + x) 0
def cowF (f : Nat → Nat) (x : Nat) : Nat → (Nat → Nat)
  | 0 => f
  | i + 1 => cowS (cowS (cowF f x i) 0 (x + i)) 1 (x + i)
def cowN (f : Nat → Nat) (x : Nat) : Nat → Nat
  | 0 => 0
  | i + 1 => cowN f x i + b2n (decide (0 < cowF f x i (61 * 0 + (x + i)))) + b2n (decide (0 < cowS (cowF f x i) 0 (x + i) (61 * 1 + (x + i))))
theorem cowN_le (f : Nat → Nat) (x : Nat) : ∀ i, cowN f x i ≤ 2 * i
  | 0 => Nat.le_refl _
  | i + 1 => by
    have h1 := cowN_le f x i
    have h2 := b2n_le (decide (0 < cowF f x i (61 * 0 + (x + i))))
    have h3 := b2n_le (decide (0 < cowS (cowF f x i) 0 (x + i) (61 * 1 + (x + i))))
    show _ + _ + _ ≤ _
    omega
theorem cowS_ok {f : Nat → Nat} {k x : Nat} (hs : SfOk f) : SfOk (cowS f k x) := by
  intro i hi
  have := hs i hi
  unfold cowS fup
  split
  · omega
  · split <;> omega
theorem cowF_ok {f : Nat → Nat} {x : Nat} (hs : SfOk f) : ∀ i, SfOk (cowF f x i)
  | 0 => hs
  | i + 1 => cowS_ok (cowS_ok (cowF_ok hs i))
def wkT (f : Nat → Nat) (k x : Nat) : Nat := f (246 + k) + (if f (122 + 61 * k + x) = 1 ∧ f (246 + k) < 9999 then 1 else 0)
def wkS (f : Nat → Nat) (k x : Nat) : Nat → Nat := fup (fup (fup f (61 * k + x) 9) (246 + k) (wkT f k x)) (122 + 61 * k + x) 0
def wkF (f : Nat → Nat) (k s d sh : Nat) : Nat → (Nat → Nat)
  | 0 => f
  | i + 1 => wkS (wkF f k s d sh i) k (ft s d sh i)
theorem wkT_le {f : Nat → Nat} {k x : Nat} (hs : SfOk f) (hk : k < 2) : wkT f k x ≤ 9999 := by
  have := hs (246 + k) (by omega)
  unfold wkT
  split <;> omega
theorem wkF_ok {f : Nat → Nat} {k s d sh : Nat} (hs : SfOk f) (hk : k < 2) : ∀ i, SfOk (wkF f k s d sh i)
  | 0 => hs
  | i + 1 => by
    have ih := wkF_ok (s := s) (d := d) (sh := sh) hs hk i
    intro j hj
    have h1 := wkT_le (x := ft s d sh i) ih hk
    have h2 := ih j hj
    show wkS (wkF f k s d sh i) k (ft s d sh i) j ≤ 9999
    unfold wkS fup
    split
    · omega
    · split
      · exact h1
      · split <;> omega
section MCH
variable {xs : List Int32} {h : sm_Hp} {K : Option Value → sm_Hp → Prop} {m : MC} {k x n : Nat} {v u w t : Int32}
/-- how many prints of both a row has -/
def bothF (f : Nat → Nat) (len : Nat) : Nat := cnt (fun x => decide (0 < f (61 * 0 + x))) (len + 1) + cnt (fun x => decide (0 < f (61 * 1 + x))) (len + 1)
theorem rnF_ok {f : Nat → Nat} (hs : SfOk f) (n i : Nat) : SfOk (rnF f n i) := by
  intro j hj
  have := hs j hj
  unfold rnF
  split <;> omega
theorem rain_ml (I : MAt h m) (hs : SfOk m.2.2.2.1.1) (hn : n ≤ 9) : ∀ r i, i + r = 122 → Wp xs m_Model_rains 23 [.ref 98, .int (nI n), .int (nI i)] [] (sm_up h 104 (10, tab 248 (fun j => .int (nI (rnF m.2.2.2.1.1 n i j))))) 0 0 K = Wp xs m_Model_rains 69 [.ref 98, .int (nI n), .int (nI 122)] [] (sm_up h 104 (10, tab 248 (fun j => .int (nI (rnF m.2.2.2.1.1 n 122 j))))) 0 0 K := by
  intro r
  induction r with
  | zero =>
    intro i hi
    have e : i = 122 := by omega
    subst e
    rw [w_Model_rains_23]
    simp (disch := omega) only [w_Model_rains_24, w_Model_rains_26, w_Model_rains_29, w_Model_rains_30, w_Model_rains_33, w_Model_rains_34, w_Model_rains_35, w_Model_rains_36, w_Model_rains_37, w_Model_rains_40, w_Model_rains_41, w_Model_rains_42, w_Model_rains_43, w_Model_rains_44, w_Model_rains_45, w_Model_rains_48, w_Model_rains_49, w_Model_rains_52, w_Model_rains_53, w_Model_rains_54, w_Model_rains_55, w_Model_rains_56, w_Model_rains_57, w_Model_rains_58, w_Model_rains_61, w_Model_rains_62, w_Model_rains_63, w_Model_rains_66, q_rd_eq, q_nt_0, q_nt_s, q_ld_tab, q_st_tab, q_aa13, q_aa14, q_is_eq, q_wr_eq, q_01_0, q_01_1, q_nz_nI, q_len_tab, psh_some, psh_none, sm_up_at, sm_up_ne, nI_add, nI_lt2, nI_le2, nI_eq2, ls_set0, ls_setS, Nat.reduceAdd, Nat.zero_add, Nat.add_zero, not_true_eq_false, not_false_eq_true, ite_true, ite_false, nI_rem3, nI_div2, nI_sub2, q_max_nI, q_min_nI, Nat.le_refl]
  | succ r ih =>
    intro i hi
    have h1 : ¬ 122 ≤ i := by omega
    have h9 := hs i (by omega)
    have er : rnF m.2.2.2.1.1 n i i = m.2.2.2.1.1 i := rnF_ge (Nat.le_refl _)
    rw [w_Model_rains_23]
    by_cases c : m.2.2.2.1.1 i ≤ n
    · have e : fup (rnF m.2.2.2.1.1 n i) i 0 = rnF m.2.2.2.1.1 n (i + 1) := rnF_s (by omega)
      simp (disch := omega) only [w_Model_rains_24, w_Model_rains_26, w_Model_rains_29, w_Model_rains_30, w_Model_rains_33, w_Model_rains_34, w_Model_rains_35, w_Model_rains_36, w_Model_rains_37, w_Model_rains_40, w_Model_rains_41, w_Model_rains_42, w_Model_rains_43, w_Model_rains_44, w_Model_rains_45, w_Model_rains_48, w_Model_rains_49, w_Model_rains_52, w_Model_rains_53, w_Model_rains_54, w_Model_rains_55, w_Model_rains_56, w_Model_rains_57, w_Model_rains_58, w_Model_rains_61, w_Model_rains_62, w_Model_rains_63, w_Model_rains_66, q_rd_eq, q_nt_0, q_nt_s, q_ld_tab, q_st_tab, q_aa13, q_aa14, q_is_eq, q_wr_eq, q_01_0, q_01_1, q_nz_nI, q_len_tab, psh_some, psh_none, sm_up_at, sm_up_ne, nI_add, nI_lt2, nI_le2, nI_eq2, ls_set0, ls_setS, Nat.reduceAdd, Nat.zero_add, Nat.add_zero, not_true_eq_false, not_false_eq_true, ite_true, ite_false, nI_rem3, nI_div2, nI_sub2, q_max_nI, q_min_nI, h1, I.o, er, c, tab_fup, sm_up_twice, e]
      exact ih (i + 1) (by omega)
    · have e : fup (rnF m.2.2.2.1.1 n i) i (m.2.2.2.1.1 i - n) = rnF m.2.2.2.1.1 n (i + 1) := rnF_s rfl
      simp (disch := omega) only [w_Model_rains_24, w_Model_rains_26, w_Model_rains_29, w_Model_rains_30, w_Model_rains_33, w_Model_rains_34, w_Model_rains_35, w_Model_rains_36, w_Model_rains_37, w_Model_rains_40, w_Model_rains_41, w_Model_rains_42, w_Model_rains_43, w_Model_rains_44, w_Model_rains_45, w_Model_rains_48, w_Model_rains_49, w_Model_rains_52, w_Model_rains_53, w_Model_rains_54, w_Model_rains_55, w_Model_rains_56, w_Model_rains_57, w_Model_rains_58, w_Model_rains_61, w_Model_rains_62, w_Model_rains_63, w_Model_rains_66, q_rd_eq, q_nt_0, q_nt_s, q_ld_tab, q_st_tab, q_aa13, q_aa14, q_is_eq, q_wr_eq, q_01_0, q_01_1, q_nz_nI, q_len_tab, psh_some, psh_none, sm_up_at, sm_up_ne, nI_add, nI_lt2, nI_le2, nI_eq2, ls_set0, ls_setS, Nat.reduceAdd, Nat.zero_add, Nat.add_zero, not_true_eq_false, not_false_eq_true, ite_true, ite_false, nI_rem3, nI_div2, nI_sub2, q_max_nI, q_min_nI, h1, I.o, er, c, tab_fup, sm_up_twice, e]
      exact ih (i + 1) (by omega)
theorem M_rains (I : MAt h m) (hs : SfOk m.2.2.2.1.1) (hl : m.2.2.1.2.1 0 ≤ 60) (hu : m.1.2.2.1 ≤ 8) (h0 : 1 ≤ n) (h9 : n ≤ 9) (q : GoM h ((m.1.1, m.1.2.1, min 8 (m.1.2.2.1 + 1), m.1.2.2.2), (m.2.1.1, m.2.1.2.1, m.2.1.2.2.1, m.2.1.2.2.2.1, m.2.1.2.2.2.2.1, m.2.1.2.2.2.2.2), (m.2.2.1.1, m.2.2.1.2.1, m.2.2.1.2.2.1, m.2.2.1.2.2.2.1, m.2.2.1.2.2.2.2), (rnF m.2.2.2.1.1 n 122, m.2.2.2.1.2.1, ntU m.2.2.2.1.2.2.1 m.2.2.2.1.1 m.1.2.2.1, m.2.2.2.1.2.2.2), (m.2.2.2.2.1, m.2.2.2.2.2.1, m.2.2.2.2.2.2)) (K (some (.int (nI (bothF (rnF m.2.2.2.1.1 n 122) (m.2.2.1.2.1 0))))))) : Wp xs m_Model_rains 0 [.ref 98, .int (nI n), .null] [] h 0 0 K := by
  have h1 : ¬ (1 : Nat) = 0 := by omega
  simp (disch := first | assumption | omega) only [w_Model_rains_0, w_Model_rains_1, w_Model_rains_2, w_Model_rains_5, w_Model_rains_6, w_Model_rains_7, w_Model_rains_9, w_Model_rains_12, w_Model_rains_15, w_Model_rains_16, w_Model_rains_17, w_Model_rains_18, w_Model_rains_21, w_Model_rains_22, q_rd_eq, q_nt_0, q_nt_s, q_ld_tab, q_st_tab, q_aa13, q_aa14, q_is_eq, q_wr_eq, q_01_0, q_01_1, q_nz_nI, q_len_tab, psh_some, psh_none, sm_up_at, sm_up_ne, nI_add, nI_lt2, nI_le2, nI_eq2, ls_set0, ls_setS, Nat.reduceAdd, Nat.zero_add, Nat.add_zero, not_true_eq_false, not_false_eq_true, ite_true, ite_false, nI_rem3, nI_div2, nI_sub2, q_max_nI, q_min_nI, I.o, I.th, t_in, h1]
  refine M_notes I hu (fun h2 I2 f2 => ?_)
  simp (disch := first | assumption | omega) only [w_Model_rains_0, w_Model_rains_1, w_Model_rains_2, w_Model_rains_5, w_Model_rains_6, w_Model_rains_7, w_Model_rains_9, w_Model_rains_12, w_Model_rains_15, w_Model_rains_16, w_Model_rains_17, w_Model_rains_18, w_Model_rains_21, w_Model_rains_22, q_rd_eq, q_nt_0, q_nt_s, q_ld_tab, q_st_tab, q_aa13, q_aa14, q_is_eq, q_wr_eq, q_01_0, q_01_1, q_nz_nI, q_len_tab, psh_some, psh_none, sm_up_at, sm_up_ne, nI_add, nI_lt2, nI_le2, nI_eq2, ls_set0, ls_setS, Nat.reduceAdd, Nat.zero_add, Nat.add_zero, not_true_eq_false, not_false_eq_true, ite_true, ite_false, nI_rem3, nI_div2, nI_sub2, q_max_nI, q_min_nI]
  have e0 : sm_up h2 104 (10, tab 248 (fun j => .int (nI (rnF m.2.2.2.1.1 n 0 j)))) = h2 := by rw [rnF_0]; exact sm_up_self I2.sf
  have el := rain_ml (xs := xs) (K := K) I2 hs h9 122 0 (by omega)
  dsimp only at el
  rw [e0] at el
  rw [el]
  have I3 := I2.usf (rnF m.2.2.2.1.1 n 122)
  have eb : ∀ K, Wp xs m_Model_printsOfBoth 0 [.ref 98] [] (sm_up h2 104 (10, tab 248 (fun j => .int (nI (rnF m.2.2.2.1.1 n 122 j))))) 0 0 K = _ := fun K => m_ofBoth I3 (rnF_ok hs n 122) hl
  simp (disch := first | assumption | omega) only [w_Model_rains_69, w_Model_rains_70, w_Model_rains_73, q_rd_eq, q_nt_0, q_nt_s, q_ld_tab, q_st_tab, q_aa13, q_aa14, q_is_eq, q_wr_eq, q_01_0, q_01_1, q_nz_nI, q_len_tab, psh_some, psh_none, sm_up_at, sm_up_ne, nI_add, nI_lt2, nI_le2, nI_eq2, ls_set0, ls_setS, Nat.reduceAdd, Nat.zero_add, Nat.add_zero, not_true_eq_false, not_false_eq_true, ite_true, ite_false, nI_rem3, nI_div2, nI_sub2, q_max_nI, q_min_nI, I2.o, eb]
  exact q _ I3 (f2.trans (FrM.rfl.up (by omega)))
theorem m_rainsX (I : MAt h m) (hu : ¬ inr u 10 ∨ u = nI 0) : Wp xs m_Model_rains 0 [.ref 98, .int u, .null] [] h 0 0 K = K (some (.int (-1))) h := by
  have ef : ∀ K, Wp xs m_Model_in 0 [.int u, .int (nI 1), .int (nI 9)] [] h 0 0 K = K (some (.int (nI 0))) h := by
    intro K
    by_cases h0 : u = nI 0
    · subst h0
      have h1 : (0 : Nat) < 1 := by omega
      simp (disch := omega) only [w_Model_in_0, w_Model_in_1, w_Model_in_2, w_Model_in_5, w_Model_in_6, w_Model_in_7, w_Model_in_10, w_Model_in_11, w_Model_in_14, w_Model_in_15, q_rd_eq, q_nt_0, q_nt_s, q_ld_tab, q_st_tab, q_aa13, q_aa14, q_is_eq, q_wr_eq, q_01_0, q_01_1, q_nz_nI, q_len_tab, psh_some, psh_none, sm_up_at, sm_up_ne, nI_add, nI_lt2, nI_le2, nI_eq2, ls_set0, ls_setS, Nat.reduceAdd, Nat.zero_add, Nat.add_zero, not_true_eq_false, not_false_eq_true, ite_true, ite_false, nI_rem3, nI_div2, nI_sub2, q_max_nI, q_min_nI, h1]
    · rcases inr_no (by omega) (hu.resolve_right h0) with q | ⟨q, q2⟩
      · have q3 : u < nI 1 := by
          rw [Int32.lt_iff_toInt_lt, nI_toInt (by omega)] at q ⊢
          omega
        simp (disch := omega) only [w_Model_in_0, w_Model_in_1, w_Model_in_2, w_Model_in_5, w_Model_in_6, w_Model_in_7, w_Model_in_10, w_Model_in_11, w_Model_in_14, w_Model_in_15, q_rd_eq, q_nt_0, q_nt_s, q_ld_tab, q_st_tab, q_aa13, q_aa14, q_is_eq, q_wr_eq, q_01_0, q_01_1, q_nz_nI, q_len_tab, psh_some, psh_none, sm_up_at, sm_up_ne, nI_add, nI_lt2, nI_le2, nI_eq2, ls_set0, ls_setS, Nat.reduceAdd, Nat.zero_add, Nat.add_zero, not_true_eq_false, not_false_eq_true, ite_true, ite_false, nI_rem3, nI_div2, nI_sub2, q_max_nI, q_min_nI, q3]
      · have q3 := (nI_step (n := 9) (by omega) q2).1
        have q4 : ¬ u < nI 1 := by
          rw [Int32.le_iff_toInt_le, nI_toInt (by omega)] at q2
          rw [Int32.lt_iff_toInt_lt, nI_toInt (by omega)]
          omega
        simp (disch := omega) only [w_Model_in_0, w_Model_in_1, w_Model_in_2, w_Model_in_5, w_Model_in_6, w_Model_in_7, w_Model_in_10, w_Model_in_11, w_Model_in_14, w_Model_in_15, q_rd_eq, q_nt_0, q_nt_s, q_ld_tab, q_st_tab, q_aa13, q_aa14, q_is_eq, q_wr_eq, q_01_0, q_01_1, q_nz_nI, q_len_tab, psh_some, psh_none, sm_up_at, sm_up_ne, nI_add, nI_lt2, nI_le2, nI_eq2, ls_set0, ls_setS, Nat.reduceAdd, Nat.zero_add, Nat.add_zero, not_true_eq_false, not_false_eq_true, ite_true, ite_false, nI_rem3, nI_div2, nI_sub2, q_max_nI, q_min_nI, q3, q4]
  simp (disch := first | assumption | omega) only [w_Model_rains_0, w_Model_rains_1, w_Model_rains_2, w_Model_rains_5, w_Model_rains_6, w_Model_rains_7, w_Model_rains_9, w_Model_rains_12, w_Model_rains_15, w_Model_rains_16, w_Model_rains_17, w_Model_rains_18, w_Model_rains_21, w_Model_rains_22, q_rd_eq, q_nt_0, q_nt_s, q_ld_tab, q_st_tab, q_aa13, q_aa14, q_is_eq, q_wr_eq, q_01_0, q_01_1, q_nz_nI, q_len_tab, psh_some, psh_none, sm_up_at, sm_up_ne, nI_add, nI_lt2, nI_le2, nI_eq2, ls_set0, ls_setS, Nat.reduceAdd, Nat.zero_add, Nat.add_zero, not_true_eq_false, not_false_eq_true, ite_true, ite_false, nI_rem3, nI_div2, nI_sub2, q_max_nI, q_min_nI, I.o, I.th, ef]
theorem snow_ml (I : MAt h m) {w1 : Int32} : ∀ r i, i + r = 246 → Wp xs m_Model_snows 16 [.ref 98, .int w1, .int (nI i)] [] (sm_up h 104 (10, tab 248 (fun j => .int (nI (zF m.2.2.2.1.1 i j))))) 0 0 K = Wp xs m_Model_snows 36 [.ref 98, .int w1, .int (nI 246)] [] (sm_up h 104 (10, tab 248 (fun j => .int (nI (zF m.2.2.2.1.1 246 j))))) 0 0 K := by
  intro r
  induction r with
  | zero =>
    intro i hi
    have e : i = 246 := by omega
    subst e
    rw [w_Model_snows_16]
    simp (disch := omega) only [w_Model_snows_17, w_Model_snows_20, w_Model_snows_23, w_Model_snows_24, w_Model_snows_27, w_Model_snows_28, w_Model_snows_29, w_Model_snows_30, w_Model_snows_33, q_rd_eq, q_nt_0, q_nt_s, q_ld_tab, q_st_tab, q_aa13, q_aa14, q_is_eq, q_wr_eq, q_01_0, q_01_1, q_nz_nI, q_len_tab, psh_some, psh_none, sm_up_at, sm_up_ne, nI_add, nI_lt2, nI_le2, nI_eq2, ls_set0, ls_setS, Nat.reduceAdd, Nat.zero_add, Nat.add_zero, not_true_eq_false, not_false_eq_true, ite_true, ite_false, nI_rem3, nI_div2, nI_sub2, q_max_nI, q_min_nI, Nat.le_refl]
  | succ r ih =>
    intro i hi
    have h1 : ¬ 246 ≤ i := by omega
    rw [w_Model_snows_16]
    simp (disch := omega) only [w_Model_snows_17, w_Model_snows_20, w_Model_snows_23, w_Model_snows_24, w_Model_snows_27, w_Model_snows_28, w_Model_snows_29, w_Model_snows_30, w_Model_snows_33, q_rd_eq, q_nt_0, q_nt_s, q_ld_tab, q_st_tab, q_aa13, q_aa14, q_is_eq, q_wr_eq, q_01_0, q_01_1, q_nz_nI, q_len_tab, psh_some, psh_none, sm_up_at, sm_up_ne, nI_add, nI_lt2, nI_le2, nI_eq2, ls_set0, ls_setS, Nat.reduceAdd, Nat.zero_add, Nat.add_zero, not_true_eq_false, not_false_eq_true, ite_true, ite_false, nI_rem3, nI_div2, nI_sub2, q_max_nI, q_min_nI, h1, I.o, tab_fup, sm_up_twice, zF_s]
    exact ih (i + 1) (by omega)
theorem M_snows (I : MAt h m) (hs : SfOk m.2.2.2.1.1) (hl : m.2.2.1.2.1 0 ≤ 60) (hu : m.1.2.2.1 ≤ 8) (q : GoM h ((m.1.1, m.1.2.1, min 8 (m.1.2.2.1 + 1), m.1.2.2.2), (m.2.1.1, m.2.1.2.1, m.2.1.2.2.1, m.2.1.2.2.2.1, m.2.1.2.2.2.2.1, m.2.1.2.2.2.2.2), (m.2.2.1.1, m.2.2.1.2.1, m.2.2.1.2.2.1, m.2.2.1.2.2.2.1, m.2.2.1.2.2.2.2), (zF m.2.2.2.1.1 246, m.2.2.2.1.2.1, ntU m.2.2.2.1.2.2.1 m.2.2.2.1.1 m.1.2.2.1, m.2.2.2.1.2.2.2), (m.2.2.2.2.1, m.2.2.2.2.2.1, m.2.2.2.2.2.2)) (K (some (.int (nI (bothF m.2.2.2.1.1 (m.2.2.1.2.1 0))))))) : Wp xs m_Model_snows 0 [.ref 98, .null, .null] [] h 0 0 K := by
  simp (disch := first | assumption | omega) only [w_Model_snows_0, w_Model_snows_1, w_Model_snows_2, w_Model_snows_5, w_Model_snows_6, w_Model_snows_9, w_Model_snows_10, w_Model_snows_13, w_Model_snows_14, w_Model_snows_15, q_rd_eq, q_nt_0, q_nt_s, q_ld_tab, q_st_tab, q_aa13, q_aa14, q_is_eq, q_wr_eq, q_01_0, q_01_1, q_nz_nI, q_len_tab, psh_some, psh_none, sm_up_at, sm_up_ne, nI_add, nI_lt2, nI_le2, nI_eq2, ls_set0, ls_setS, Nat.reduceAdd, Nat.zero_add, Nat.add_zero, not_true_eq_false, not_false_eq_true, ite_true, ite_false, nI_rem3, nI_div2, nI_sub2, q_max_nI, q_min_nI, I.o, I.th]
  refine M_notes I hu (fun h2 I2 f2 => ?_)
  have eb : ∀ K, Wp xs m_Model_printsOfBoth 0 [.ref 98] [] h2 0 0 K = _ := fun K => m_ofBoth I2 hs hl
  simp (disch := first | assumption | omega) only [w_Model_snows_0, w_Model_snows_1, w_Model_snows_2, w_Model_snows_5, w_Model_snows_6, w_Model_snows_9, w_Model_snows_10, w_Model_snows_13, w_Model_snows_14, w_Model_snows_15, q_rd_eq, q_nt_0, q_nt_s, q_ld_tab, q_st_tab, q_aa13, q_aa14, q_is_eq, q_wr_eq, q_01_0, q_01_1, q_nz_nI, q_len_tab, psh_some, psh_none, sm_up_at, sm_up_ne, nI_add, nI_lt2, nI_le2, nI_eq2, ls_set0, ls_setS, Nat.reduceAdd, Nat.zero_add, Nat.add_zero, not_true_eq_false, not_false_eq_true, ite_true, ite_false, nI_rem3, nI_div2, nI_sub2, q_max_nI, q_min_nI, I2.o, eb]
  have e0 : sm_up h2 104 (10, tab 248 (fun j => .int (nI (zF m.2.2.2.1.1 0 j)))) = h2 := by rw [zF_0]; exact sm_up_self I2.sf
  have el := fun w1 => snow_ml (xs := xs) (K := K) I2 (w1 := w1) 246 0 (by omega)
  dsimp only at el
  rw [e0] at el
  rw [el]
  simp (disch := first | assumption | omega) only [w_Model_snows_36, w_Model_snows_37, q_rd_eq, q_nt_0, q_nt_s, q_ld_tab, q_st_tab, q_aa13, q_aa14, q_is_eq, q_wr_eq, q_01_0, q_01_1, q_nz_nI, q_len_tab, psh_some, psh_none, sm_up_at, sm_up_ne, nI_add, nI_lt2, nI_le2, nI_eq2, ls_set0, ls_setS, Nat.reduceAdd, Nat.zero_add, Nat.add_zero, not_true_eq_false, not_false_eq_true, ite_true, ite_false, nI_rem3, nI_div2, nI_sub2, q_max_nI, q_min_nI]
  exact q _ (I2.usf (zF m.2.2.2.1.1 246)) (f2.trans (FrM.rfl.up (by omega)))
theorem M_fills (I : MAt h m) (hs : SfOk m.2.2.2.1.1) (hl : m.2.2.1.2.1 0 ≤ 60) (hu : m.1.2.2.1 ≤ 8) (hk : k < 2) (hx : x ≤ m.2.2.1.2.1 0) (hp : 0 < m.2.2.2.1.1 (61 * k + x)) (q : GoM h ((m.1.1, m.1.2.1, min 8 (m.1.2.2.1 + 1), m.1.2.2.2), (m.2.1.1, m.2.1.2.1, m.2.1.2.2.1, m.2.1.2.2.2.1, m.2.1.2.2.2.2.1, m.2.1.2.2.2.2.2), (m.2.2.1.1, m.2.2.1.2.1, m.2.2.1.2.2.1, m.2.2.1.2.2.2.1, m.2.2.1.2.2.2.2), (cowS m.2.2.2.1.1 k x, m.2.2.2.1.2.1, ntU m.2.2.2.1.2.2.1 m.2.2.2.1.1 m.1.2.2.1, m.2.2.2.1.2.2.2), (m.2.2.2.2.1, m.2.2.2.2.2.1, m.2.2.2.2.2.2)) (K (some (.int (nI (m.2.2.2.1.1 (61 * k + x))))))) : Wp xs m_Model_fills 0 [.ref 98, .int (nI k), .int (nI x), .null] [] h 0 0 K := by
  have h1 : ¬ (1 : Nat) = 0 := by omega
  have ht : b2n true = 1 := rfl
  have eh : ∀ K, Wp xs m_Model_hasPrint 0 [.ref 98, .int (nI k), .int (nI x)] [] h 0 0 K = _ := fun K => m_hasPrint I hs hk (x := x) (by omega)
  rw [decide_eq_true hp] at eh
  simp (disch := first | assumption | omega) only [w_Model_fills_0, w_Model_fills_1, w_Model_fills_2, w_Model_fills_5, w_Model_fills_6, w_Model_fills_9, w_Model_fills_12, w_Model_fills_13, w_Model_fills_14, w_Model_fills_17, w_Model_fills_20, w_Model_fills_21, w_Model_fills_22, w_Model_fills_23, w_Model_fills_24, w_Model_fills_25, w_Model_fills_28, w_Model_fills_31, w_Model_fills_33, w_Model_fills_34, w_Model_fills_35, q_rd_eq, q_nt_0, q_nt_s, q_ld_tab, q_st_tab, q_aa13, q_aa14, q_is_eq, q_wr_eq, q_01_0, q_01_1, q_nz_nI, q_len_tab, psh_some, psh_none, sm_up_at, sm_up_ne, nI_add, nI_lt2, nI_le2, nI_eq2, ls_set0, ls_setS, Nat.reduceAdd, Nat.zero_add, Nat.add_zero, not_true_eq_false, not_false_eq_true, ite_true, ite_false, nI_rem3, nI_div2, nI_sub2, q_max_nI, q_min_nI, I.o, I.th, t_mWalker, t_mFoot I, h1, eh, ht]
  refine M_notes I hu (fun h2 I2 f2 => ?_)
  simp (disch := first | assumption | omega) only [w_Model_fills_38, w_Model_fills_39, w_Model_fills_42, w_Model_fills_43, w_Model_fills_45, w_Model_fills_46, w_Model_fills_47, w_Model_fills_48, w_Model_fills_49, w_Model_fills_50, w_Model_fills_51, w_Model_fills_52, w_Model_fills_53, w_Model_fills_56, w_Model_fills_57, w_Model_fills_59, w_Model_fills_60, w_Model_fills_61, w_Model_fills_62, w_Model_fills_63, w_Model_fills_64, w_Model_fills_65, w_Model_fills_66, w_Model_fills_67, w_Model_fills_70, w_Model_fills_72, w_Model_fills_74, w_Model_fills_75, w_Model_fills_76, w_Model_fills_77, w_Model_fills_78, w_Model_fills_79, w_Model_fills_80, w_Model_fills_81, w_Model_fills_82, q_rd_eq, q_nt_0, q_nt_s, q_ld_tab, q_st_tab, q_aa13, q_aa14, q_is_eq, q_wr_eq, q_01_0, q_01_1, q_nz_nI, q_len_tab, psh_some, psh_none, sm_up_at, sm_up_ne, nI_add, nI_lt2, nI_le2, nI_eq2, ls_set0, ls_setS, Nat.reduceAdd, Nat.zero_add, Nat.add_zero, not_true_eq_false, not_false_eq_true, ite_true, ite_false, nI_rem3, nI_div2, nI_sub2, q_max_nI, q_min_nI, I2.o, I2.sf, pk_mul, tab_fup, sm_up_twice]
  exact q _ (I2.usf (cowS m.2.2.2.1.1 k x)) (f2.trans (FrM.rfl.up (by omega)))
theorem m_fillsS (I : MAt h m) (hs : SfOk m.2.2.2.1.1) (hl : m.2.2.1.2.1 0 ≤ 60) (hk : k < 2) (hx : x ≤ m.2.2.1.2.1 0) (hp : m.2.2.2.1.1 (61 * k + x) = 0) : Wp xs m_Model_fills 0 [.ref 98, .int (nI k), .int (nI x), .null] [] h 0 0 K = K (some (.int (-2))) h := by
  have h1 : ¬ (1 : Nat) = 0 := by omega
  have hf : b2n false = 0 := rfl
  have eh : ∀ K, Wp xs m_Model_hasPrint 0 [.ref 98, .int (nI k), .int (nI x)] [] h 0 0 K = _ := fun K => m_hasPrint I hs hk (x := x) (by omega)
  rw [decide_eq_false (by omega)] at eh
  simp (disch := first | assumption | omega) only [w_Model_fills_0, w_Model_fills_1, w_Model_fills_2, w_Model_fills_5, w_Model_fills_6, w_Model_fills_9, w_Model_fills_12, w_Model_fills_13, w_Model_fills_14, w_Model_fills_17, w_Model_fills_20, w_Model_fills_21, w_Model_fills_22, w_Model_fills_23, w_Model_fills_24, w_Model_fills_25, w_Model_fills_28, w_Model_fills_31, w_Model_fills_33, w_Model_fills_34, w_Model_fills_35, q_rd_eq, q_nt_0, q_nt_s, q_ld_tab, q_st_tab, q_aa13, q_aa14, q_is_eq, q_wr_eq, q_01_0, q_01_1, q_nz_nI, q_len_tab, psh_some, psh_none, sm_up_at, sm_up_ne, nI_add, nI_lt2, nI_le2, nI_eq2, ls_set0, ls_setS, Nat.reduceAdd, Nat.zero_add, Nat.add_zero, not_true_eq_false, not_false_eq_true, ite_true, ite_false, nI_rem3, nI_div2, nI_sub2, q_max_nI, q_min_nI, I.o, I.th, t_mWalker, t_mFoot I, h1, eh, hf]
theorem m_fillsX (I : MAt h m) (hl : m.2.2.1.2.1 0 ≤ 60) (hb : ¬ inr v 2 ∨ ¬ inr u (m.2.2.1.2.1 0 + 1)) : Wp xs m_Model_fills 0 [.ref 98, .int v, .int u, .null] [] h 0 0 K = K (some (.int (-1))) h := by
  have h1 : ¬ (1 : Nat) = 0 := by omega
  by_cases hv : inr v 2
  · obtain ⟨k, hk, rfl⟩ := hv
    have hu : ¬ inr u (m.2.2.1.2.1 0 + 1) := hb.elim (fun q => absurd ⟨k, hk, rfl⟩ q) id
    simp (disch := first | assumption | omega) only [w_Model_fills_0, w_Model_fills_1, w_Model_fills_2, w_Model_fills_5, w_Model_fills_6, w_Model_fills_9, w_Model_fills_12, w_Model_fills_13, w_Model_fills_14, w_Model_fills_17, w_Model_fills_20, w_Model_fills_21, w_Model_fills_22, w_Model_fills_23, w_Model_fills_24, w_Model_fills_25, w_Model_fills_28, w_Model_fills_31, w_Model_fills_33, w_Model_fills_34, w_Model_fills_35, q_rd_eq, q_nt_0, q_nt_s, q_ld_tab, q_st_tab, q_aa13, q_aa14, q_is_eq, q_wr_eq, q_01_0, q_01_1, q_nz_nI, q_len_tab, psh_some, psh_none, sm_up_at, sm_up_ne, nI_add, nI_lt2, nI_le2, nI_eq2, ls_set0, ls_setS, Nat.reduceAdd, Nat.zero_add, Nat.add_zero, not_true_eq_false, not_false_eq_true, ite_true, ite_false, nI_rem3, nI_div2, nI_sub2, q_max_nI, q_min_nI, I.o, I.th, t_mWalker, f_mFoot I, h1]
  · simp (disch := first | assumption | omega) only [w_Model_fills_0, w_Model_fills_1, w_Model_fills_2, w_Model_fills_5, w_Model_fills_6, w_Model_fills_9, w_Model_fills_12, w_Model_fills_13, w_Model_fills_14, w_Model_fills_17, w_Model_fills_20, w_Model_fills_21, w_Model_fills_22, w_Model_fills_23, w_Model_fills_24, w_Model_fills_25, w_Model_fills_28, w_Model_fills_31, w_Model_fills_33, w_Model_fills_34, w_Model_fills_35, q_rd_eq, q_nt_0, q_nt_s, q_ld_tab, q_st_tab, q_aa13, q_aa14, q_is_eq, q_wr_eq, q_01_0, q_01_1, q_nz_nI, q_len_tab, psh_some, psh_none, sm_up_at, sm_up_ne, nI_add, nI_lt2, nI_le2, nI_eq2, ls_set0, ls_setS, Nat.reduceAdd, Nat.zero_add, Nat.add_zero, not_true_eq_false, not_false_eq_true, ite_true, ite_false, nI_rem3, nI_div2, nI_sub2, q_max_nI, q_min_nI, I.o, I.th, f_mWalker]
theorem fup_ok {f : Nat → Nat} (hs : SfOk f) {i v : Nat} (hv : v ≤ 9999) : SfOk (fup f i v) := by
  intro j hj
  have := hs j hj
  unfold fup
  split <;> omega
theorem M_gives (I : MAt h m) (hs : SfOk m.2.2.2.1.1) (hl : m.2.2.1.2.1 0 ≤ 60) (hu : m.1.2.2.1 ≤ 8) (hk : k < 2) (hx : x ≤ m.2.2.1.2.1 0) (hp : 0 < m.2.2.2.1.1 (61 * (1 - k) + x)) (hg : m.2.2.2.1.1 (122 + 61 * (1 - k) + x) ≠ 1) (q : GoM h ((m.1.1, m.1.2.1, min 8 (m.1.2.2.1 + 1), m.1.2.2.2), (m.2.1.1, m.2.1.2.1, m.2.1.2.2.1, m.2.1.2.2.2.1, m.2.1.2.2.2.2.1, m.2.1.2.2.2.2.2), (m.2.2.1.1, m.2.2.1.2.1, m.2.2.1.2.2.1, m.2.2.1.2.2.2.1, m.2.2.1.2.2.2.2), (fup m.2.2.2.1.1 (122 + 61 * (1 - k) + x) 1, m.2.2.2.1.2.1, ntU m.2.2.2.1.2.2.1 m.2.2.2.1.1 m.1.2.2.1, m.2.2.2.1.2.2.2), (m.2.2.2.2.1, m.2.2.2.2.2.1, m.2.2.2.2.2.2)) (K (some (.int (nI (sumTo (fun y => fup m.2.2.2.1.1 (122 + 61 * (1 - k) + x) 1 (122 + 61 * (1 - k) + y)) (m.2.2.1.2.1 0 + 1))))))) : Wp xs m_Model_gives 0 [.ref 98, .int (nI k), .int (nI x)] [] h 0 0 K := by
  have h1 : ¬ (1 : Nat) = 0 := by omega
  have ht : b2n true = 1 := rfl
  have h9 := hs (122 + 61 * (1 - k) + x) (by omega)
  have eh : ∀ K, Wp xs m_Model_hasPrint 0 [.ref 98, .int (nI (1 - k)), .int (nI x)] [] h 0 0 K = _ := fun K => m_hasPrint I hs (k := 1 - k) (by omega) (x := x) (by omega)
  rw [decide_eq_true hp] at eh
  simp (disch := first | assumption | omega) only [w_Model_gives_0, w_Model_gives_1, w_Model_gives_2, w_Model_gives_5, w_Model_gives_6, w_Model_gives_9, w_Model_gives_12, w_Model_gives_13, w_Model_gives_14, w_Model_gives_17, w_Model_gives_20, w_Model_gives_21, w_Model_gives_22, w_Model_gives_23, w_Model_gives_24, w_Model_gives_25, w_Model_gives_26, w_Model_gives_27, w_Model_gives_30, w_Model_gives_33, w_Model_gives_34, w_Model_gives_37, w_Model_gives_39, w_Model_gives_41, w_Model_gives_42, w_Model_gives_43, w_Model_gives_44, w_Model_gives_45, w_Model_gives_46, w_Model_gives_47, w_Model_gives_48, w_Model_gives_49, w_Model_gives_50, w_Model_gives_53, w_Model_gives_55, w_Model_gives_56, w_Model_gives_57, q_rd_eq, q_nt_0, q_nt_s, q_ld_tab, q_st_tab, q_aa13, q_aa14, q_is_eq, q_wr_eq, q_01_0, q_01_1, q_nz_nI, q_len_tab, psh_some, psh_none, sm_up_at, sm_up_ne, nI_add, nI_lt2, nI_le2, nI_eq2, ls_set0, ls_setS, Nat.reduceAdd, Nat.zero_add, Nat.add_zero, not_true_eq_false, not_false_eq_true, ite_true, ite_false, nI_rem3, nI_div2, nI_sub2, q_max_nI, q_min_nI, I.o, I.th, t_mWalker, t_mFoot I, h1, eh, ht, I.sf, pk_mul, hg]
  refine M_notes I hu (fun h2 I2 f2 => ?_)
  have I3 := I2.usf (fup m.2.2.2.1.1 (122 + 61 * (1 - k) + x) 1)
  have eg : ∀ K, Wp xs m_Model_giftsFor 0 [.ref 98, .int (nI (1 - k)), .null, .null] [] (sm_up h2 104 (10, tab 248 (fun j => .int (nI (fup m.2.2.2.1.1 (122 + 61 * (1 - k) + x) 1 j))))) 0 0 K = _ := fun K => m_gifts I3 (fup_ok hs (by omega)) hl (k := 1 - k) (by omega)
  simp (disch := first | assumption | omega) only [w_Model_gives_60, w_Model_gives_61, w_Model_gives_64, w_Model_gives_66, w_Model_gives_68, w_Model_gives_69, w_Model_gives_70, w_Model_gives_71, w_Model_gives_72, w_Model_gives_73, w_Model_gives_74, w_Model_gives_75, w_Model_gives_76, w_Model_gives_77, w_Model_gives_78, w_Model_gives_79, w_Model_gives_80, w_Model_gives_81, w_Model_gives_84, q_rd_eq, q_nt_0, q_nt_s, q_ld_tab, q_st_tab, q_aa13, q_aa14, q_is_eq, q_wr_eq, q_01_0, q_01_1, q_nz_nI, q_len_tab, psh_some, psh_none, sm_up_at, sm_up_ne, nI_add, nI_lt2, nI_le2, nI_eq2, ls_set0, ls_setS, Nat.reduceAdd, Nat.zero_add, Nat.add_zero, not_true_eq_false, not_false_eq_true, ite_true, ite_false, nI_rem3, nI_div2, nI_sub2, q_max_nI, q_min_nI, I2.o, I2.sf, pk_mul, tab_fup, sm_up_twice, eg]
  exact q _ I3 (f2.trans (FrM.rfl.up (by omega)))
theorem m_givesS (I : MAt h m) (hs : SfOk m.2.2.2.1.1) (hl : m.2.2.1.2.1 0 ≤ 60) (hk : k < 2) (hx : x ≤ m.2.2.1.2.1 0) (hp : m.2.2.2.1.1 (61 * (1 - k) + x) = 0 ∨ m.2.2.2.1.1 (122 + 61 * (1 - k) + x) = 1) : Wp xs m_Model_gives 0 [.ref 98, .int (nI k), .int (nI x)] [] h 0 0 K = K (some (.int (-2))) h := by
  have h1 : ¬ (1 : Nat) = 0 := by omega
  have ht : b2n true = 1 := rfl
  have hf : b2n false = 0 := rfl
  have h9 := hs (122 + 61 * (1 - k) + x) (by omega)
  have eh : ∀ K, Wp xs m_Model_hasPrint 0 [.ref 98, .int (nI (1 - k)), .int (nI x)] [] h 0 0 K = _ := fun K => m_hasPrint I hs (k := 1 - k) (by omega) (x := x) (by omega)
  by_cases c : m.2.2.2.1.1 (61 * (1 - k) + x) = 0
  · rw [decide_eq_false (by omega)] at eh
    simp (disch := first | assumption | omega) only [w_Model_gives_0, w_Model_gives_1, w_Model_gives_2, w_Model_gives_5, w_Model_gives_6, w_Model_gives_9, w_Model_gives_12, w_Model_gives_13, w_Model_gives_14, w_Model_gives_17, w_Model_gives_20, w_Model_gives_21, w_Model_gives_22, w_Model_gives_23, w_Model_gives_24, w_Model_gives_25, w_Model_gives_26, w_Model_gives_27, w_Model_gives_30, w_Model_gives_33, w_Model_gives_34, w_Model_gives_37, w_Model_gives_39, w_Model_gives_41, w_Model_gives_42, w_Model_gives_43, w_Model_gives_44, w_Model_gives_45, w_Model_gives_46, w_Model_gives_47, w_Model_gives_48, w_Model_gives_49, w_Model_gives_50, w_Model_gives_53, w_Model_gives_55, w_Model_gives_56, w_Model_gives_57, q_rd_eq, q_nt_0, q_nt_s, q_ld_tab, q_st_tab, q_aa13, q_aa14, q_is_eq, q_wr_eq, q_01_0, q_01_1, q_nz_nI, q_len_tab, psh_some, psh_none, sm_up_at, sm_up_ne, nI_add, nI_lt2, nI_le2, nI_eq2, ls_set0, ls_setS, Nat.reduceAdd, Nat.zero_add, Nat.add_zero, not_true_eq_false, not_false_eq_true, ite_true, ite_false, nI_rem3, nI_div2, nI_sub2, q_max_nI, q_min_nI, I.o, I.th, t_mWalker, t_mFoot I, h1, eh, hf]
  · have hg := hp.resolve_left c
    rw [decide_eq_true (by omega)] at eh
    simp (disch := first | assumption | omega) only [w_Model_gives_0, w_Model_gives_1, w_Model_gives_2, w_Model_gives_5, w_Model_gives_6, w_Model_gives_9, w_Model_gives_12, w_Model_gives_13, w_Model_gives_14, w_Model_gives_17, w_Model_gives_20, w_Model_gives_21, w_Model_gives_22, w_Model_gives_23, w_Model_gives_24, w_Model_gives_25, w_Model_gives_26, w_Model_gives_27, w_Model_gives_30, w_Model_gives_33, w_Model_gives_34, w_Model_gives_37, w_Model_gives_39, w_Model_gives_41, w_Model_gives_42, w_Model_gives_43, w_Model_gives_44, w_Model_gives_45, w_Model_gives_46, w_Model_gives_47, w_Model_gives_48, w_Model_gives_49, w_Model_gives_50, w_Model_gives_53, w_Model_gives_55, w_Model_gives_56, w_Model_gives_57, q_rd_eq, q_nt_0, q_nt_s, q_ld_tab, q_st_tab, q_aa13, q_aa14, q_is_eq, q_wr_eq, q_01_0, q_01_1, q_nz_nI, q_len_tab, psh_some, psh_none, sm_up_at, sm_up_ne, nI_add, nI_lt2, nI_le2, nI_eq2, ls_set0, ls_setS, Nat.reduceAdd, Nat.zero_add, Nat.add_zero, not_true_eq_false, not_false_eq_true, ite_true, ite_false, nI_rem3, nI_div2, nI_sub2, q_max_nI, q_min_nI, I.o, I.th, t_mWalker, t_mFoot I, h1, eh, ht, I.sf, pk_mul, hg]
theorem m_givesX (I : MAt h m) (hl : m.2.2.1.2.1 0 ≤ 60) (hb : ¬ inr v 2 ∨ ¬ inr u (m.2.2.1.2.1 0 + 1)) : Wp xs m_Model_gives 0 [.ref 98, .int v, .int u] [] h 0 0 K = K (some (.int (-1))) h := by
  have h1 : ¬ (1 : Nat) = 0 := by omega
  by_cases hv : inr v 2
  · obtain ⟨k, hk, rfl⟩ := hv
    have hu : ¬ inr u (m.2.2.1.2.1 0 + 1) := hb.elim (fun q => absurd ⟨k, hk, rfl⟩ q) id
    simp (disch := first | assumption | omega) only [w_Model_gives_0, w_Model_gives_1, w_Model_gives_2, w_Model_gives_5, w_Model_gives_6, w_Model_gives_9, w_Model_gives_12, w_Model_gives_13, w_Model_gives_14, w_Model_gives_17, w_Model_gives_20, w_Model_gives_21, w_Model_gives_22, w_Model_gives_23, w_Model_gives_24, w_Model_gives_25, w_Model_gives_26, w_Model_gives_27, w_Model_gives_30, w_Model_gives_33, w_Model_gives_34, w_Model_gives_37, w_Model_gives_39, w_Model_gives_41, w_Model_gives_42, w_Model_gives_43, w_Model_gives_44, w_Model_gives_45, w_Model_gives_46, w_Model_gives_47, w_Model_gives_48, w_Model_gives_49, w_Model_gives_50, w_Model_gives_53, w_Model_gives_55, w_Model_gives_56, w_Model_gives_57, q_rd_eq, q_nt_0, q_nt_s, q_ld_tab, q_st_tab, q_aa13, q_aa14, q_is_eq, q_wr_eq, q_01_0, q_01_1, q_nz_nI, q_len_tab, psh_some, psh_none, sm_up_at, sm_up_ne, nI_add, nI_lt2, nI_le2, nI_eq2, ls_set0, ls_setS, Nat.reduceAdd, Nat.zero_add, Nat.add_zero, not_true_eq_false, not_false_eq_true, ite_true, ite_false, nI_rem3, nI_div2, nI_sub2, q_max_nI, q_min_nI, I.o, I.th, t_mWalker, f_mFoot I, h1]
  · simp (disch := first | assumption | omega) only [w_Model_gives_0, w_Model_gives_1, w_Model_gives_2, w_Model_gives_5, w_Model_gives_6, w_Model_gives_9, w_Model_gives_12, w_Model_gives_13, w_Model_gives_14, w_Model_gives_17, w_Model_gives_20, w_Model_gives_21, w_Model_gives_22, w_Model_gives_23, w_Model_gives_24, w_Model_gives_25, w_Model_gives_26, w_Model_gives_27, w_Model_gives_30, w_Model_gives_33, w_Model_gives_34, w_Model_gives_37, w_Model_gives_39, w_Model_gives_41, w_Model_gives_42, w_Model_gives_43, w_Model_gives_44, w_Model_gives_45, w_Model_gives_46, w_Model_gives_47, w_Model_gives_48, w_Model_gives_49, w_Model_gives_50, w_Model_gives_53, w_Model_gives_55, w_Model_gives_56, w_Model_gives_57, q_rd_eq, q_nt_0, q_nt_s, q_ld_tab, q_st_tab, q_aa13, q_aa14, q_is_eq, q_wr_eq, q_01_0, q_01_1, q_nz_nI, q_len_tab, psh_some, psh_none, sm_up_at, sm_up_ne, nI_add, nI_lt2, nI_le2, nI_eq2, ls_set0, ls_setS, Nat.reduceAdd, Nat.zero_add, Nat.add_zero, not_true_eq_false, not_false_eq_true, ite_true, ite_false, nI_rem3, nI_div2, nI_sub2, q_max_nI, q_min_nI, I.o, I.th, f_mWalker]
theorem undo_ml (I : MAt h m) (hu : m.1.2.2.1 ≤ 7) : ∀ r i, i + r = 248 → Wp xs m_Model_undo 27 [.ref 98, .int (nI i)] [] (sm_up h 104 (10, tab 248 (fun j => .int (nI (cpF m.2.2.2.1.1 m.2.2.2.1.2.2.1 0 (248 * m.1.2.2.1) i j))))) 0 0 K = Wp xs m_Model_undo 61 [.ref 98, .int (nI 248)] [] (sm_up h 104 (10, tab 248 (fun j => .int (nI (cpF m.2.2.2.1.1 m.2.2.2.1.2.2.1 0 (248 * m.1.2.2.1) 248 j))))) 0 0 K := by
  intro r
  induction r with
  | zero =>
    intro i hi
    have e : i = 248 := by omega
    subst e
    rw [w_Model_undo_27]
    simp (disch := omega) only [w_Model_undo_28, w_Model_undo_31, w_Model_undo_34, w_Model_undo_35, w_Model_undo_38, w_Model_undo_39, w_Model_undo_40, w_Model_undo_43, w_Model_undo_46, w_Model_undo_47, w_Model_undo_50, w_Model_undo_51, w_Model_undo_52, w_Model_undo_53, w_Model_undo_54, w_Model_undo_55, w_Model_undo_58, q_rd_eq, q_nt_0, q_nt_s, q_ld_tab, q_st_tab, q_aa13, q_aa14, q_is_eq, q_wr_eq, q_01_0, q_01_1, q_nz_nI, q_len_tab, psh_some, psh_none, sm_up_at, sm_up_ne, nI_add, nI_lt2, nI_le2, nI_eq2, ls_set0, ls_setS, Nat.reduceAdd, Nat.zero_add, Nat.add_zero, not_true_eq_false, not_false_eq_true, ite_true, ite_false, nI_rem3, nI_div2, nI_sub2, q_max_nI, q_min_nI, Nat.le_refl]
  | succ r ih =>
    intro i hi
    have h1 : ¬ 248 ≤ i := by omega
    have e : fup (cpF m.2.2.2.1.1 m.2.2.2.1.2.2.1 0 (248 * m.1.2.2.1) i) i (m.2.2.2.1.2.2.1 (248 * m.1.2.2.1 + i)) = cpF m.2.2.2.1.1 m.2.2.2.1.2.2.1 0 (248 * m.1.2.2.1) (i + 1) := by
      have := cpF_s (f := m.2.2.2.1.1) (g := m.2.2.2.1.2.2.1) (a := 0) (b := 248 * m.1.2.2.1) (i := i) rfl
      rw [Nat.zero_add] at this
      exact this
    rw [w_Model_undo_27]
    simp (disch := omega) only [w_Model_undo_28, w_Model_undo_31, w_Model_undo_34, w_Model_undo_35, w_Model_undo_38, w_Model_undo_39, w_Model_undo_40, w_Model_undo_43, w_Model_undo_46, w_Model_undo_47, w_Model_undo_50, w_Model_undo_51, w_Model_undo_52, w_Model_undo_53, w_Model_undo_54, w_Model_undo_55, w_Model_undo_58, q_rd_eq, q_nt_0, q_nt_s, q_ld_tab, q_st_tab, q_aa13, q_aa14, q_is_eq, q_wr_eq, q_01_0, q_01_1, q_nz_nI, q_len_tab, psh_some, psh_none, sm_up_at, sm_up_ne, nI_add, nI_lt2, nI_le2, nI_eq2, ls_set0, ls_setS, Nat.reduceAdd, Nat.zero_add, Nat.add_zero, not_true_eq_false, not_false_eq_true, ite_true, ite_false, nI_rem3, nI_div2, nI_sub2, q_max_nI, q_min_nI, h1, I.o, I.ud, pk_mul, tab_fup, sm_up_twice, e]
    exact ih (i + 1) (by omega)
theorem M_undo (I : MAt h m) (hu : m.1.2.2.1 ≤ 8) (h0 : m.1.2.2.1 ≠ 0) (q : GoM h ((m.1.1, m.1.2.1, m.1.2.2.1 - 1, m.1.2.2.2), (m.2.1.1, m.2.1.2.1, m.2.1.2.2.1, m.2.1.2.2.2.1, m.2.1.2.2.2.2.1, m.2.1.2.2.2.2.2), (m.2.2.1.1, m.2.2.1.2.1, m.2.2.1.2.2.1, m.2.2.1.2.2.2.1, m.2.2.1.2.2.2.2), (cpF m.2.2.2.1.1 m.2.2.2.1.2.2.1 0 (248 * (m.1.2.2.1 - 1)) 248, m.2.2.2.1.2.1, m.2.2.2.1.2.2.1, m.2.2.2.1.2.2.2), (m.2.2.2.2.1, m.2.2.2.2.2.1, m.2.2.2.2.2.2)) (K (some (.int (nI (m.1.2.2.1 - 1)))))) : Wp xs m_Model_undo 0 [.ref 98, .null] [] h 0 0 K := by
  have I2 := I.uo m.1.1 m.1.2.1 m.2.1.1 m.2.1.2.1 m.2.1.2.2.1 m.2.1.2.2.2.1 m.2.1.2.2.2.2.1 m.2.1.2.2.2.2.2 (m.1.2.2.1 - 1) m.1.2.2.2
  have el := undo_ml (xs := xs) (K := K) I2 (by show m.1.2.2.1 - 1 ≤ 7; omega) 248 0 (by omega)
  dsimp only at el
  rw [cpF_0, sm_up_self I2.sf] at el
  have I3 := I2.usf (cpF m.2.2.2.1.1 m.2.2.2.1.2.2.1 0 (248 * (m.1.2.2.1 - 1)) 248)
  simp (disch := first | assumption | omega) only [w_Model_undo_0, w_Model_undo_1, w_Model_undo_2, w_Model_undo_5, w_Model_undo_6, w_Model_undo_9, w_Model_undo_12, w_Model_undo_14, w_Model_undo_15, w_Model_undo_16, w_Model_undo_17, w_Model_undo_20, w_Model_undo_21, w_Model_undo_22, w_Model_undo_25, w_Model_undo_26, q_rd_eq, q_nt_0, q_nt_s, q_ld_tab, q_st_tab, q_aa13, q_aa14, q_is_eq, q_wr_eq, q_01_0, q_01_1, q_nz_nI, q_len_tab, psh_some, psh_none, sm_up_at, sm_up_ne, nI_add, nI_lt2, nI_le2, nI_eq2, ls_set0, ls_setS, Nat.reduceAdd, Nat.zero_add, Nat.add_zero, not_true_eq_false, not_false_eq_true, ite_true, ite_false, nI_rem3, nI_div2, nI_sub2, q_max_nI, q_min_nI, I.o, I.th, h0]
  rw [el]
  simp (disch := first | assumption | omega) only [w_Model_undo_61, w_Model_undo_62, w_Model_undo_65, q_rd_eq, q_nt_0, q_nt_s, q_ld_tab, q_st_tab, q_aa13, q_aa14, q_is_eq, q_wr_eq, q_01_0, q_01_1, q_nz_nI, q_len_tab, psh_some, psh_none, sm_up_at, sm_up_ne, nI_add, nI_lt2, nI_le2, nI_eq2, ls_set0, ls_setS, Nat.reduceAdd, Nat.zero_add, Nat.add_zero, not_true_eq_false, not_false_eq_true, ite_true, ite_false, nI_rem3, nI_div2, nI_sub2, q_max_nI, q_min_nI]
  exact q _ I3 ((FrM.rfl.up (by omega)).up (by omega))
theorem m_undoS (I : MAt h m) (h0 : m.1.2.2.1 = 0) : Wp xs m_Model_undo 0 [.ref 98, .null] [] h 0 0 K = K (some (.int (-2))) h := by
  simp (disch := first | assumption | omega) only [w_Model_undo_0, w_Model_undo_1, w_Model_undo_2, w_Model_undo_5, w_Model_undo_6, w_Model_undo_9, w_Model_undo_12, w_Model_undo_14, w_Model_undo_15, w_Model_undo_16, w_Model_undo_17, w_Model_undo_20, w_Model_undo_21, w_Model_undo_22, w_Model_undo_25, w_Model_undo_26, q_rd_eq, q_nt_0, q_nt_s, q_ld_tab, q_st_tab, q_aa13, q_aa14, q_is_eq, q_wr_eq, q_01_0, q_01_1, q_nz_nI, q_len_tab, psh_some, psh_none, sm_up_at, sm_up_ne, nI_add, nI_lt2, nI_le2, nI_eq2, ls_set0, ls_setS, Nat.reduceAdd, Nat.zero_add, Nat.add_zero, not_true_eq_false, not_false_eq_true, ite_true, ite_false, nI_rem3, nI_div2, nI_sub2, q_max_nI, q_min_nI, I.o, I.th, eq_true h0]
theorem keep_ml (I : MAt h m) (hk : k < 2) : ∀ r i, i + r = 248 → Wp xs m_Model_keep 18 [.ref 98, .int (nI k), .int (nI i)] [] (sm_up h 105 (10, tab 496 (fun j => .int (nI (cpF m.2.2.2.1.2.1 m.2.2.2.1.1 (248 * k) 0 i j))))) 0 0 K = Wp xs m_Model_keep 49 [.ref 98, .int (nI k), .int (nI 248)] [] (sm_up h 105 (10, tab 496 (fun j => .int (nI (cpF m.2.2.2.1.2.1 m.2.2.2.1.1 (248 * k) 0 248 j))))) 0 0 K := by
  intro r
  induction r with
  | zero =>
    intro i hi
    have e : i = 248 := by omega
    subst e
    rw [w_Model_keep_18]
    simp (disch := omega) only [w_Model_keep_19, w_Model_keep_22, w_Model_keep_25, w_Model_keep_26, w_Model_keep_29, w_Model_keep_32, w_Model_keep_33, w_Model_keep_34, w_Model_keep_35, w_Model_keep_36, w_Model_keep_37, w_Model_keep_40, w_Model_keep_41, w_Model_keep_42, w_Model_keep_43, w_Model_keep_46, q_rd_eq, q_nt_0, q_nt_s, q_ld_tab, q_st_tab, q_aa13, q_aa14, q_is_eq, q_wr_eq, q_01_0, q_01_1, q_nz_nI, q_len_tab, psh_some, psh_none, sm_up_at, sm_up_ne, nI_add, nI_lt2, nI_le2, nI_eq2, ls_set0, ls_setS, Nat.reduceAdd, Nat.zero_add, Nat.add_zero, not_true_eq_false, not_false_eq_true, ite_true, ite_false, nI_rem3, nI_div2, nI_sub2, q_max_nI, q_min_nI, Nat.le_refl]
  | succ r ih =>
    intro i hi
    have h1 : ¬ 248 ≤ i := by omega
    have e : fup (cpF m.2.2.2.1.2.1 m.2.2.2.1.1 (248 * k) 0 i) (248 * k + i) (m.2.2.2.1.1 i) = cpF m.2.2.2.1.2.1 m.2.2.2.1.1 (248 * k) 0 (i + 1) := cpF_s (by rw [Nat.zero_add])
    rw [w_Model_keep_18]
    simp (disch := omega) only [w_Model_keep_19, w_Model_keep_22, w_Model_keep_25, w_Model_keep_26, w_Model_keep_29, w_Model_keep_32, w_Model_keep_33, w_Model_keep_34, w_Model_keep_35, w_Model_keep_36, w_Model_keep_37, w_Model_keep_40, w_Model_keep_41, w_Model_keep_42, w_Model_keep_43, w_Model_keep_46, q_rd_eq, q_nt_0, q_nt_s, q_ld_tab, q_st_tab, q_aa13, q_aa14, q_is_eq, q_wr_eq, q_01_0, q_01_1, q_nz_nI, q_len_tab, psh_some, psh_none, sm_up_at, sm_up_ne, nI_add, nI_lt2, nI_le2, nI_eq2, ls_set0, ls_setS, Nat.reduceAdd, Nat.zero_add, Nat.add_zero, not_true_eq_false, not_false_eq_true, ite_true, ite_false, nI_rem3, nI_div2, nI_sub2, q_max_nI, q_min_nI, h1, I.o, I.sf, pk_mul, tab_fup, sm_up_twice, e]
    exact ih (i + 1) (by omega)
def bup (f : Nat → Bool) (i : Nat) (b : Bool) : Nat → Bool := fun j => if j = i then b else f j
theorem M_keep (I : MAt h m) (hs : SfOk m.2.2.2.1.1) (hl : m.2.2.1.2.1 0 ≤ 60) (hk : k < 2) (q : GoM h ((m.1.1, m.1.2.1, m.1.2.2.1, m.1.2.2.2), (m.2.1.1, m.2.1.2.1, m.2.1.2.2.1, m.2.1.2.2.2.1, m.2.1.2.2.2.2.1, m.2.1.2.2.2.2.2), (m.2.2.1.1, m.2.2.1.2.1, m.2.2.1.2.2.1, m.2.2.1.2.2.2.1, m.2.2.1.2.2.2.2), (m.2.2.2.1.1, cpF m.2.2.2.1.2.1 m.2.2.2.1.1 (248 * k) 0 248, m.2.2.2.1.2.2.1, m.2.2.2.1.2.2.2), (bup m.2.2.2.2.1 k true, m.2.2.2.2.2.1, m.2.2.2.2.2.2)) (K (some (.int (nI (bothF m.2.2.2.1.1 (m.2.2.1.2.1 0))))))) : Wp xs m_Model_keep 0 [.ref 98, .int (nI k), .null] [] h 0 0 K := by
  have h1 : ¬ (1 : Nat) = 0 := by omega
  have el := keep_ml (xs := xs) (K := K) I hk 248 0 (by omega)
  rw [cpF_0, sm_up_self I.kp] at el
  have I2 := I.ukp (cpF m.2.2.2.1.2.1 m.2.2.2.1.1 (248 * k) 0 248)
  have I3 := I2.ukb (bup m.2.2.2.2.1 k true)
  have e : (12, tab 2 (fun i => if i = k then Value.int (nI 1) else .int (nI (b2n (m.2.2.2.2.1 i))))) = ((12 : Nat), tab 2 (fun i => Value.int (nI (b2n (bup m.2.2.2.2.1 k true i))))) := congrArg (fun l => ((12 : Nat), l)) (tab_congr (fun i _ => by unfold bup; split <;> rfl))
  have eb : ∀ K, Wp xs m_Model_printsOfBoth 0 [.ref 98] [] (sm_up (sm_up h 105 (10, tab 496 (fun j => .int (nI (cpF m.2.2.2.1.2.1 m.2.2.2.1.1 (248 * k) 0 248 j))))) 106 (12, tab 2 (fun i => Value.int (nI (b2n (bup m.2.2.2.2.1 k true i)))))) 0 0 K = _ := fun K => m_ofBoth I3 hs hl
  simp (disch := first | assumption | omega) only [w_Model_keep_0, w_Model_keep_1, w_Model_keep_2, w_Model_keep_5, w_Model_keep_6, w_Model_keep_7, w_Model_keep_8, w_Model_keep_11, w_Model_keep_14, w_Model_keep_15, w_Model_keep_16, w_Model_keep_17, q_rd_eq, q_nt_0, q_nt_s, q_ld_tab, q_st_tab, q_aa13, q_aa14, q_is_eq, q_wr_eq, q_01_0, q_01_1, q_nz_nI, q_len_tab, psh_some, psh_none, sm_up_at, sm_up_ne, nI_add, nI_lt2, nI_le2, nI_eq2, ls_set0, ls_setS, Nat.reduceAdd, Nat.zero_add, Nat.add_zero, not_true_eq_false, not_false_eq_true, ite_true, ite_false, nI_rem3, nI_div2, nI_sub2, q_max_nI, q_min_nI, I.o, I.th, t_in, h1]
  rw [el]
  simp (disch := first | assumption | omega) only [w_Model_keep_49, w_Model_keep_50, w_Model_keep_53, w_Model_keep_54, w_Model_keep_55, w_Model_keep_56, w_Model_keep_57, w_Model_keep_60, q_rd_eq, q_nt_0, q_nt_s, q_ld_tab, q_st_tab, q_aa13, q_aa14, q_is_eq, q_wr_eq, q_01_0, q_01_1, q_nz_nI, q_len_tab, psh_some, psh_none, sm_up_at, sm_up_ne, nI_add, nI_lt2, nI_le2, nI_eq2, ls_set0, ls_setS, Nat.reduceAdd, Nat.zero_add, Nat.add_zero, not_true_eq_false, not_false_eq_true, ite_true, ite_false, nI_rem3, nI_div2, nI_sub2, q_max_nI, q_min_nI, I.o, I.kb, e, eb]
  exact q _ I3 ((FrM.rfl.up (by omega)).up (by omega))
theorem m_keepX (I : MAt h m) (hu : ¬ inr u 2) : Wp xs m_Model_keep 0 [.ref 98, .int u, .null] [] h 0 0 K = K (some (.int (-1))) h := by
  simp (disch := first | assumption | omega) only [w_Model_keep_0, w_Model_keep_1, w_Model_keep_2, w_Model_keep_5, w_Model_keep_6, w_Model_keep_7, w_Model_keep_8, w_Model_keep_11, w_Model_keep_14, w_Model_keep_15, w_Model_keep_16, w_Model_keep_17, q_rd_eq, q_nt_0, q_nt_s, q_ld_tab, q_st_tab, q_aa13, q_aa14, q_is_eq, q_wr_eq, q_01_0, q_01_1, q_nz_nI, q_len_tab, psh_some, psh_none, sm_up_at, sm_up_ne, nI_add, nI_lt2, nI_le2, nI_eq2, ls_set0, ls_setS, Nat.reduceAdd, Nat.zero_add, Nat.add_zero, not_true_eq_false, not_false_eq_true, ite_true, ite_false, nI_rem3, nI_div2, nI_sub2, q_max_nI, q_min_nI, I.o, I.th, f_in (n := 1)]
theorem back_ml (I : MAt h m) (hk : k < 2) : ∀ r i, i + r = 248 → Wp xs m_Model_back 30 [.ref 98, .int (nI k), .int (nI i)] [] (sm_up h 104 (10, tab 248 (fun j => .int (nI (cpF m.2.2.2.1.1 m.2.2.2.1.2.1 0 (248 * k) i j))))) 0 0 K = Wp xs m_Model_back 61 [.ref 98, .int (nI k), .int (nI 248)] [] (sm_up h 104 (10, tab 248 (fun j => .int (nI (cpF m.2.2.2.1.1 m.2.2.2.1.2.1 0 (248 * k) 248 j))))) 0 0 K := by
  intro r
  induction r with
  | zero =>
    intro i hi
    have e : i = 248 := by omega
    subst e
    rw [w_Model_back_30]
    simp (disch := omega) only [w_Model_back_31, w_Model_back_34, w_Model_back_37, w_Model_back_38, w_Model_back_41, w_Model_back_42, w_Model_back_43, w_Model_back_46, w_Model_back_49, w_Model_back_50, w_Model_back_51, w_Model_back_52, w_Model_back_53, w_Model_back_54, w_Model_back_55, w_Model_back_58, q_rd_eq, q_nt_0, q_nt_s, q_ld_tab, q_st_tab, q_aa13, q_aa14, q_is_eq, q_wr_eq, q_01_0, q_01_1, q_nz_nI, q_len_tab, psh_some, psh_none, sm_up_at, sm_up_ne, nI_add, nI_lt2, nI_le2, nI_eq2, ls_set0, ls_setS, Nat.reduceAdd, Nat.zero_add, Nat.add_zero, not_true_eq_false, not_false_eq_true, ite_true, ite_false, nI_rem3, nI_div2, nI_sub2, q_max_nI, q_min_nI, Nat.le_refl]
  | succ r ih =>
    intro i hi
    have h1 : ¬ 248 ≤ i := by omega
    have e : fup (cpF m.2.2.2.1.1 m.2.2.2.1.2.1 0 (248 * k) i) i (m.2.2.2.1.2.1 (248 * k + i)) = cpF m.2.2.2.1.1 m.2.2.2.1.2.1 0 (248 * k) (i + 1) := by
      have := cpF_s (f := m.2.2.2.1.1) (g := m.2.2.2.1.2.1) (a := 0) (b := 248 * k) (i := i) rfl
      rw [Nat.zero_add] at this
      exact this
    rw [w_Model_back_30]
    simp (disch := omega) only [w_Model_back_31, w_Model_back_34, w_Model_back_37, w_Model_back_38, w_Model_back_41, w_Model_back_42, w_Model_back_43, w_Model_back_46, w_Model_back_49, w_Model_back_50, w_Model_back_51, w_Model_back_52, w_Model_back_53, w_Model_back_54, w_Model_back_55, w_Model_back_58, q_rd_eq, q_nt_0, q_nt_s, q_ld_tab, q_st_tab, q_aa13, q_aa14, q_is_eq, q_wr_eq, q_01_0, q_01_1, q_nz_nI, q_len_tab, psh_some, psh_none, sm_up_at, sm_up_ne, nI_add, nI_lt2, nI_le2, nI_eq2, ls_set0, ls_setS, Nat.reduceAdd, Nat.zero_add, Nat.add_zero, not_true_eq_false, not_false_eq_true, ite_true, ite_false, nI_rem3, nI_div2, nI_sub2, q_max_nI, q_min_nI, h1, I.o, I.kp, pk_mul, tab_fup, sm_up_twice, e]
    exact ih (i + 1) (by omega)
theorem M_back (I : MAt h m) (hl : m.2.2.1.2.1 0 ≤ 60) (hk : k < 2) (hs : SfOk (cpF m.2.2.2.1.1 m.2.2.2.1.2.1 0 (248 * k) 248)) (hy : m.2.2.2.2.1 k = true) (q : GoM h ((m.1.1, m.1.2.1, 0, m.1.2.2.2), (m.2.1.1, m.2.1.2.1, m.2.1.2.2.1, m.2.1.2.2.2.1, m.2.1.2.2.2.2.1, m.2.1.2.2.2.2.2), (m.2.2.1.1, m.2.2.1.2.1, m.2.2.1.2.2.1, m.2.2.1.2.2.2.1, m.2.2.1.2.2.2.2), (cpF m.2.2.2.1.1 m.2.2.2.1.2.1 0 (248 * k) 248, m.2.2.2.1.2.1, m.2.2.2.1.2.2.1, m.2.2.2.1.2.2.2), (m.2.2.2.2.1, m.2.2.2.2.2.1, m.2.2.2.2.2.2)) (K (some (.int (nI (bothF (cpF m.2.2.2.1.1 m.2.2.2.1.2.1 0 (248 * k) 248) (m.2.2.1.2.1 0))))))) : Wp xs m_Model_back 0 [.ref 98, .int (nI k), .null] [] h 0 0 K := by
  have h1 : ¬ (1 : Nat) = 0 := by omega
  have ht : b2n true = 1 := rfl
  have el := back_ml (xs := xs) (K := K) I hk 248 0 (by omega)
  rw [cpF_0, sm_up_self I.sf] at el
  have I2 := I.usf (cpF m.2.2.2.1.1 m.2.2.2.1.2.1 0 (248 * k) 248)
  have I3 := I2.uo m.1.1 m.1.2.1 m.2.1.1 m.2.1.2.1 m.2.1.2.2.1 m.2.1.2.2.2.1 m.2.1.2.2.2.2.1 m.2.1.2.2.2.2.2 0 m.1.2.2.2
  have eb : ∀ K, Wp xs m_Model_printsOfBoth 0 [.ref 98] [] (sm_up (sm_up h 104 (10, tab 248 (fun j => .int (nI (cpF m.2.2.2.1.1 m.2.2.2.1.2.1 0 (248 * k) 248 j))))) 98 (6, [.int (nI 0), .long m.1.1, .ref 99, .int (nI m.1.2.1), .int m.2.1.1, .int m.2.1.2.1, .int m.2.1.2.2.1, .int m.2.1.2.2.2.1, .int m.2.1.2.2.2.2.1, .ref 100, .int m.2.1.2.2.2.2.2, .ref 101, .ref 102, .ref 103, .ref 104, .ref 105, .ref 106, .ref 107, .int (nI 0), .ref 108, .int (nI m.1.2.2.2), .ref 109, .ref 110])) 0 0 K = _ := fun K => m_ofBoth I3 hs hl
  simp (disch := first | assumption | omega) only [w_Model_back_0, w_Model_back_1, w_Model_back_2, w_Model_back_5, w_Model_back_6, w_Model_back_7, w_Model_back_8, w_Model_back_11, w_Model_back_14, w_Model_back_15, w_Model_back_16, w_Model_back_17, w_Model_back_20, w_Model_back_21, w_Model_back_22, w_Model_back_25, w_Model_back_27, w_Model_back_28, w_Model_back_29, q_rd_eq, q_nt_0, q_nt_s, q_ld_tab, q_st_tab, q_aa13, q_aa14, q_is_eq, q_wr_eq, q_01_0, q_01_1, q_nz_nI, q_len_tab, psh_some, psh_none, sm_up_at, sm_up_ne, nI_add, nI_lt2, nI_le2, nI_eq2, ls_set0, ls_setS, Nat.reduceAdd, Nat.zero_add, Nat.add_zero, not_true_eq_false, not_false_eq_true, ite_true, ite_false, nI_rem3, nI_div2, nI_sub2, q_max_nI, q_min_nI, I.o, I.th, t_in, h1, I.kb, hy, ht]
  rw [el]
  simp (disch := first | assumption | omega) only [w_Model_back_61, w_Model_back_62, w_Model_back_63, w_Model_back_66, w_Model_back_67, w_Model_back_70, q_rd_eq, q_nt_0, q_nt_s, q_ld_tab, q_st_tab, q_aa13, q_aa14, q_is_eq, q_wr_eq, q_01_0, q_01_1, q_nz_nI, q_len_tab, psh_some, psh_none, sm_up_at, sm_up_ne, nI_add, nI_lt2, nI_le2, nI_eq2, ls_set0, ls_setS, Nat.reduceAdd, Nat.zero_add, Nat.add_zero, not_true_eq_false, not_false_eq_true, ite_true, ite_false, nI_rem3, nI_div2, nI_sub2, q_max_nI, q_min_nI, I.o, eb]
  exact q _ I3 ((FrM.rfl.up (by omega)).up (by omega))
theorem m_backS (I : MAt h m) (hk : k < 2) (hy : m.2.2.2.2.1 k = false) : Wp xs m_Model_back 0 [.ref 98, .int (nI k), .null] [] h 0 0 K = K (some (.int (-2))) h := by
  have h1 : ¬ (1 : Nat) = 0 := by omega
  have hf : b2n false = 0 := rfl
  simp (disch := first | assumption | omega) only [w_Model_back_0, w_Model_back_1, w_Model_back_2, w_Model_back_5, w_Model_back_6, w_Model_back_7, w_Model_back_8, w_Model_back_11, w_Model_back_14, w_Model_back_15, w_Model_back_16, w_Model_back_17, w_Model_back_20, w_Model_back_21, w_Model_back_22, w_Model_back_25, w_Model_back_27, w_Model_back_28, w_Model_back_29, q_rd_eq, q_nt_0, q_nt_s, q_ld_tab, q_st_tab, q_aa13, q_aa14, q_is_eq, q_wr_eq, q_01_0, q_01_1, q_nz_nI, q_len_tab, psh_some, psh_none, sm_up_at, sm_up_ne, nI_add, nI_lt2, nI_le2, nI_eq2, ls_set0, ls_setS, Nat.reduceAdd, Nat.zero_add, Nat.add_zero, not_true_eq_false, not_false_eq_true, ite_true, ite_false, nI_rem3, nI_div2, nI_sub2, q_max_nI, q_min_nI, I.o, I.th, t_in, h1, I.kb, hy, hf]
theorem m_backX (I : MAt h m) (hu : ¬ inr u 2) : Wp xs m_Model_back 0 [.ref 98, .int u, .null] [] h 0 0 K = K (some (.int (-1))) h := by
  simp (disch := first | assumption | omega) only [w_Model_back_0, w_Model_back_1, w_Model_back_2, w_Model_back_5, w_Model_back_6, w_Model_back_7, w_Model_back_8, w_Model_back_11, w_Model_back_14, w_Model_back_15, w_Model_back_16, w_Model_back_17, w_Model_back_20, w_Model_back_21, w_Model_back_22, w_Model_back_25, w_Model_back_27, w_Model_back_28, w_Model_back_29, q_rd_eq, q_nt_0, q_nt_s, q_ld_tab, q_st_tab, q_aa13, q_aa14, q_is_eq, q_wr_eq, q_01_0, q_01_1, q_nz_nI, q_len_tab, psh_some, psh_none, sm_up_at, sm_up_ne, nI_add, nI_lt2, nI_le2, nI_eq2, ls_set0, ls_setS, Nat.reduceAdd, Nat.zero_add, Nat.add_zero, not_true_eq_false, not_false_eq_true, ite_true, ite_false, nI_rem3, nI_div2, nI_sub2, q_max_nI, q_min_nI, I.o, I.th, f_in (n := 1)]
end MCH
