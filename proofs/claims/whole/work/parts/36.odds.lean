/-! odds -/
def chL (all : Nat) : Nat → Nat
  | 0 => 1
  | i + 1 => chL all i * (all - i) / (i + 1)
theorem chL_le : ∀ a, a < 7 → ∀ i, i < 7 → chL a i ≤ 20 := by decide +kernel
def chN (hits all t : Nat) : Nat := chL all hits * t ^ hits * (10 - t) ^ (all - hits)
theorem chN_le : ∀ a, a < 7 → ∀ i, i < 7 → ∀ t, t < 11 → chN i a t ≤ 1000000 := by decide +kernel
def gcF : Nat → Nat → Nat → Nat
  | 0, a, _ => a
  | f + 1, a, b => if b = 0 then a else gcF f b (a % b)
theorem gcF_lt {N : Nat} : ∀ f a b, a < N → b < N → gcF f a b < N
  | 0, _, _, ha, _ => ha
  | f + 1, a, b, ha, hb => by
    show (if b = 0 then a else gcF f b (a % b)) < N
    split
    · exact ha
    · exact gcF_lt f b (a % b) hb (by have := Nat.mod_lt a (show 0 < b by omega); omega)
def ltA (up low what : Nat) : Nat := (if what = 0 then up else low) / max 1 (gcF 64 up low)
def oddU (pr x n : Nat) : Nat := sumTo (fun i => chN (n + i) pr (10 - x)) (pr + 1 - n)
def oneU (w x n : Nat) : Nat := sumTo (fun i => if w ≤ i * 3 + (n - i) * 1 then chN i n x else 0) (n + 1)
section ODD
variable {xs : List Int32} {h : sm_Hp} {K : Option Value → sm_Hp → Prop} {s : CS} {j : CJ} {k x n : Nat} {v u w t : Int32}
theorem power_loop {b e : Nat} (he : e ≤ 60) : ∀ m i, i + m = e → Wp xs m_TwoPrints_power 4 [.int (nI b), .int (nI e), .int (nI (b ^ i)), .int (nI i)] [] h 0 0 K = K (some (.int (nI (b ^ e)))) h := by
  intro m
  induction m with
  | zero =>
    intro i hi
    have e1 : i = e := by omega
    subst e1
    rw [w_TwoPrints_power_4]
    simp (disch := omega) only [w_TwoPrints_power_0, w_TwoPrints_power_1, w_TwoPrints_power_2, w_TwoPrints_power_3, w_TwoPrints_power_5, w_TwoPrints_power_6, w_TwoPrints_power_9, w_TwoPrints_power_10, w_TwoPrints_power_11, w_TwoPrints_power_12, w_TwoPrints_power_13, w_TwoPrints_power_16, w_TwoPrints_power_19, w_TwoPrints_power_20, q_rd_eq, q_nt_0, q_nt_s, q_ld_tab, q_st_tab, q_aa13, q_aa14, q_is_eq, q_wr_eq, q_01_0, q_01_1, q_nz_nI, q_len_tab, psh_some, psh_none, sm_up_at, sm_up_ne, nI_add, nI_lt2, nI_le2, nI_eq2, ls_set0, ls_setS, Nat.reduceAdd, Nat.zero_add, Nat.add_zero, not_true_eq_false, not_false_eq_true, ite_true, ite_false, nI_rem3, nI_div2, nI_sub2, q_max_nI, q_min_nI, Nat.le_refl]
  | succ m ih =>
    intro i hi
    have h1 : ¬ e ≤ i := by omega
    rw [w_TwoPrints_power_4]
    simp (disch := omega) only [w_TwoPrints_power_0, w_TwoPrints_power_1, w_TwoPrints_power_2, w_TwoPrints_power_3, w_TwoPrints_power_5, w_TwoPrints_power_6, w_TwoPrints_power_9, w_TwoPrints_power_10, w_TwoPrints_power_11, w_TwoPrints_power_12, w_TwoPrints_power_13, w_TwoPrints_power_16, w_TwoPrints_power_19, w_TwoPrints_power_20, q_rd_eq, q_nt_0, q_nt_s, q_ld_tab, q_st_tab, q_aa13, q_aa14, q_is_eq, q_wr_eq, q_01_0, q_01_1, q_nz_nI, q_len_tab, psh_some, psh_none, sm_up_at, sm_up_ne, nI_add, nI_lt2, nI_le2, nI_eq2, ls_set0, ls_setS, Nat.reduceAdd, Nat.zero_add, Nat.add_zero, not_true_eq_false, not_false_eq_true, ite_true, ite_false, nI_rem3, nI_div2, nI_sub2, q_max_nI, q_min_nI, h1, pk_mul]
    rw [← Nat.pow_succ]
    exact ih (i + 1) (by omega)
theorem e_power {b e : Nat} (he : e ≤ 60) : Wp xs m_TwoPrints_power 0 [.int (nI b), .int (nI e), .null, .null] [] h 0 0 K = K (some (.int (nI (b ^ e)))) h := by
  simp (disch := omega) only [w_TwoPrints_power_0, w_TwoPrints_power_1, w_TwoPrints_power_2, w_TwoPrints_power_3, w_TwoPrints_power_5, w_TwoPrints_power_6, w_TwoPrints_power_9, w_TwoPrints_power_10, w_TwoPrints_power_11, w_TwoPrints_power_12, w_TwoPrints_power_13, w_TwoPrints_power_16, w_TwoPrints_power_19, w_TwoPrints_power_20, q_rd_eq, q_nt_0, q_nt_s, q_ld_tab, q_st_tab, q_aa13, q_aa14, q_is_eq, q_wr_eq, q_01_0, q_01_1, q_nz_nI, q_len_tab, psh_some, psh_none, sm_up_at, sm_up_ne, nI_add, nI_lt2, nI_le2, nI_eq2, ls_set0, ls_setS, Nat.reduceAdd, Nat.zero_add, Nat.add_zero, not_true_eq_false, not_false_eq_true, ite_true, ite_false, nI_rem3, nI_div2, nI_sub2, q_max_nI, q_min_nI]
  exact power_loop he e 0 (by omega)
theorem choose_loop {a e : Nat} (ha : a < 7) (he : e ≤ a) : ∀ m i, i + m = e → Wp xs m_TwoPrints_choose 4 [.int (nI a), .int (nI e), .int (nI (chL a i)), .int (nI (i + 1))] [] h 0 0 K = K (some (.int (nI (chL a e)))) h := by
  intro m
  induction m with
  | zero =>
    intro i hi
    have e1 : i = e := by omega
    subst e1
    have h1 : i < i + 1 := by omega
    rw [w_TwoPrints_choose_4]
    simp (disch := omega) only [w_TwoPrints_choose_0, w_TwoPrints_choose_1, w_TwoPrints_choose_2, w_TwoPrints_choose_3, w_TwoPrints_choose_5, w_TwoPrints_choose_6, w_TwoPrints_choose_9, w_TwoPrints_choose_10, w_TwoPrints_choose_11, w_TwoPrints_choose_12, w_TwoPrints_choose_13, w_TwoPrints_choose_14, w_TwoPrints_choose_15, w_TwoPrints_choose_16, w_TwoPrints_choose_17, w_TwoPrints_choose_18, w_TwoPrints_choose_19, w_TwoPrints_choose_22, w_TwoPrints_choose_25, w_TwoPrints_choose_26, q_rd_eq, q_nt_0, q_nt_s, q_ld_tab, q_st_tab, q_aa13, q_aa14, q_is_eq, q_wr_eq, q_01_0, q_01_1, q_nz_nI, q_len_tab, psh_some, psh_none, sm_up_at, sm_up_ne, nI_add, nI_lt2, nI_le2, nI_eq2, ls_set0, ls_setS, Nat.reduceAdd, Nat.zero_add, Nat.add_zero, not_true_eq_false, not_false_eq_true, ite_true, ite_false, nI_rem3, nI_div2, nI_sub2, q_max_nI, q_min_nI, h1]
  | succ m ih =>
    intro i hi
    have h1 : ¬ e < i + 1 := by omega
    have hc := chL_le a ha i (by omega)
    have e2 : a - (i + 1) + 1 = a - i := by omega
    have hb : chL a i * (a - i) ≤ 20 * 7 := Nat.mul_le_mul hc (by omega)
    rw [w_TwoPrints_choose_4]
    simp (disch := omega) only [w_TwoPrints_choose_0, w_TwoPrints_choose_1, w_TwoPrints_choose_2, w_TwoPrints_choose_3, w_TwoPrints_choose_5, w_TwoPrints_choose_6, w_TwoPrints_choose_9, w_TwoPrints_choose_10, w_TwoPrints_choose_11, w_TwoPrints_choose_12, w_TwoPrints_choose_13, w_TwoPrints_choose_14, w_TwoPrints_choose_15, w_TwoPrints_choose_16, w_TwoPrints_choose_17, w_TwoPrints_choose_18, w_TwoPrints_choose_19, w_TwoPrints_choose_22, w_TwoPrints_choose_25, w_TwoPrints_choose_26, q_rd_eq, q_nt_0, q_nt_s, q_ld_tab, q_st_tab, q_aa13, q_aa14, q_is_eq, q_wr_eq, q_01_0, q_01_1, q_nz_nI, q_len_tab, psh_some, psh_none, sm_up_at, sm_up_ne, nI_add, nI_lt2, nI_le2, nI_eq2, ls_set0, ls_setS, Nat.reduceAdd, Nat.zero_add, Nat.add_zero, not_true_eq_false, not_false_eq_true, ite_true, ite_false, nI_rem3, nI_div2, nI_sub2, q_max_nI, q_min_nI, h1, pk_mul, e2]
    exact ih (i + 1) (by omega)
theorem e_choose {a e : Nat} (ha : a < 7) (he : e ≤ a) : Wp xs m_TwoPrints_choose 0 [.int (nI a), .int (nI e), .null, .null] [] h 0 0 K = K (some (.int (nI (chL a e)))) h := by
  simp (disch := omega) only [w_TwoPrints_choose_0, w_TwoPrints_choose_1, w_TwoPrints_choose_2, w_TwoPrints_choose_3, w_TwoPrints_choose_5, w_TwoPrints_choose_6, w_TwoPrints_choose_9, w_TwoPrints_choose_10, w_TwoPrints_choose_11, w_TwoPrints_choose_12, w_TwoPrints_choose_13, w_TwoPrints_choose_14, w_TwoPrints_choose_15, w_TwoPrints_choose_16, w_TwoPrints_choose_17, w_TwoPrints_choose_18, w_TwoPrints_choose_19, w_TwoPrints_choose_22, w_TwoPrints_choose_25, w_TwoPrints_choose_26, q_rd_eq, q_nt_0, q_nt_s, q_ld_tab, q_st_tab, q_aa13, q_aa14, q_is_eq, q_wr_eq, q_01_0, q_01_1, q_nz_nI, q_len_tab, psh_some, psh_none, sm_up_at, sm_up_ne, nI_add, nI_lt2, nI_le2, nI_eq2, ls_set0, ls_setS, Nat.reduceAdd, Nat.zero_add, Nat.add_zero, not_true_eq_false, not_false_eq_true, ite_true, ite_false, nI_rem3, nI_div2, nI_sub2, q_max_nI, q_min_nI]
  exact choose_loop ha he e 0 (by omega)
theorem e_chance {a e t : Nat} (ha : a < 7) (he : e ≤ a) (ht : t ≤ 10) : Wp xs m_TwoPrints_chanceOf 0 [.int (nI e), .int (nI a), .int (nI t)] [] h 0 0 K = K (some (.int (nI (chN e a t)))) h := by
  simp (disch := omega) only [w_TwoPrints_chanceOf_0, w_TwoPrints_chanceOf_1, w_TwoPrints_chanceOf_2, w_TwoPrints_chanceOf_5, w_TwoPrints_chanceOf_6, w_TwoPrints_chanceOf_7, w_TwoPrints_chanceOf_10, w_TwoPrints_chanceOf_11, w_TwoPrints_chanceOf_13, w_TwoPrints_chanceOf_14, w_TwoPrints_chanceOf_15, w_TwoPrints_chanceOf_16, w_TwoPrints_chanceOf_17, w_TwoPrints_chanceOf_18, w_TwoPrints_chanceOf_21, w_TwoPrints_chanceOf_22, q_rd_eq, q_nt_0, q_nt_s, q_ld_tab, q_st_tab, q_aa13, q_aa14, q_is_eq, q_wr_eq, q_01_0, q_01_1, q_nz_nI, q_len_tab, psh_some, psh_none, sm_up_at, sm_up_ne, nI_add, nI_lt2, nI_le2, nI_eq2, ls_set0, ls_setS, Nat.reduceAdd, Nat.zero_add, Nat.add_zero, not_true_eq_false, not_false_eq_true, ite_true, ite_false, nI_rem3, nI_div2, nI_sub2, q_max_nI, q_min_nI, e_choose, e_power, pk_mul]
  rfl
theorem gcd_loop {A B : Int32} {a5 : Value} : ∀ m i a b a5, i + m = 64 → a < 2147483648 → b < 2147483648 → Wp xs m_TwoPrints_commonDivisor 7 [.int A, .int B, .int (nI a), .int (nI b), .int (nI i), a5] [] h 0 0 K = K (some (.int (nI (gcF m a b)))) h := by
  intro m
  induction m with
  | zero =>
    intro i a b a5 hi ha hb
    have e1 : i = 64 := by omega
    subst e1
    rw [w_TwoPrints_commonDivisor_7]
    simp (disch := omega) only [w_TwoPrints_commonDivisor_0, w_TwoPrints_commonDivisor_1, w_TwoPrints_commonDivisor_2, w_TwoPrints_commonDivisor_3, w_TwoPrints_commonDivisor_4, w_TwoPrints_commonDivisor_5, w_TwoPrints_commonDivisor_9, w_TwoPrints_commonDivisor_11, w_TwoPrints_commonDivisor_14, w_TwoPrints_commonDivisor_15, w_TwoPrints_commonDivisor_18, w_TwoPrints_commonDivisor_19, w_TwoPrints_commonDivisor_20, w_TwoPrints_commonDivisor_21, w_TwoPrints_commonDivisor_23, w_TwoPrints_commonDivisor_24, w_TwoPrints_commonDivisor_25, w_TwoPrints_commonDivisor_27, w_TwoPrints_commonDivisor_28, w_TwoPrints_commonDivisor_31, w_TwoPrints_commonDivisor_34, w_TwoPrints_commonDivisor_35, q_rd_eq, q_nt_0, q_nt_s, q_ld_tab, q_st_tab, q_aa13, q_aa14, q_is_eq, q_wr_eq, q_01_0, q_01_1, q_nz_nI, q_len_tab, psh_some, psh_none, sm_up_at, sm_up_ne, nI_add, nI_lt2, nI_le2, nI_eq2, ls_set0, ls_setS, Nat.reduceAdd, Nat.zero_add, Nat.add_zero, not_true_eq_false, not_false_eq_true, ite_true, ite_false, nI_rem3, nI_div2, nI_sub2, q_max_nI, q_min_nI, Nat.le_refl]
    rfl
  | succ m ih =>
    intro i a b a5 hi ha hb
    have h1 : ¬ 64 ≤ i := by omega
    rw [w_TwoPrints_commonDivisor_7]
    unfold gcF
    by_cases h0 : b = 0
    · subst h0
      simp (disch := omega) only [w_TwoPrints_commonDivisor_0, w_TwoPrints_commonDivisor_1, w_TwoPrints_commonDivisor_2, w_TwoPrints_commonDivisor_3, w_TwoPrints_commonDivisor_4, w_TwoPrints_commonDivisor_5, w_TwoPrints_commonDivisor_9, w_TwoPrints_commonDivisor_11, w_TwoPrints_commonDivisor_14, w_TwoPrints_commonDivisor_15, w_TwoPrints_commonDivisor_18, w_TwoPrints_commonDivisor_19, w_TwoPrints_commonDivisor_20, w_TwoPrints_commonDivisor_21, w_TwoPrints_commonDivisor_23, w_TwoPrints_commonDivisor_24, w_TwoPrints_commonDivisor_25, w_TwoPrints_commonDivisor_27, w_TwoPrints_commonDivisor_28, w_TwoPrints_commonDivisor_31, w_TwoPrints_commonDivisor_34, w_TwoPrints_commonDivisor_35, q_rd_eq, q_nt_0, q_nt_s, q_ld_tab, q_st_tab, q_aa13, q_aa14, q_is_eq, q_wr_eq, q_01_0, q_01_1, q_nz_nI, q_len_tab, psh_some, psh_none, sm_up_at, sm_up_ne, nI_add, nI_lt2, nI_le2, nI_eq2, ls_set0, ls_setS, Nat.reduceAdd, Nat.zero_add, Nat.add_zero, not_true_eq_false, not_false_eq_true, ite_true, ite_false, nI_rem3, nI_div2, nI_sub2, q_max_nI, q_min_nI, h1, if_true]
    · have hm := Nat.mod_lt a (show 0 < b by omega)
      simp (disch := omega) only [w_TwoPrints_commonDivisor_0, w_TwoPrints_commonDivisor_1, w_TwoPrints_commonDivisor_2, w_TwoPrints_commonDivisor_3, w_TwoPrints_commonDivisor_4, w_TwoPrints_commonDivisor_5, w_TwoPrints_commonDivisor_9, w_TwoPrints_commonDivisor_11, w_TwoPrints_commonDivisor_14, w_TwoPrints_commonDivisor_15, w_TwoPrints_commonDivisor_18, w_TwoPrints_commonDivisor_19, w_TwoPrints_commonDivisor_20, w_TwoPrints_commonDivisor_21, w_TwoPrints_commonDivisor_23, w_TwoPrints_commonDivisor_24, w_TwoPrints_commonDivisor_25, w_TwoPrints_commonDivisor_27, w_TwoPrints_commonDivisor_28, w_TwoPrints_commonDivisor_31, w_TwoPrints_commonDivisor_34, w_TwoPrints_commonDivisor_35, q_rd_eq, q_nt_0, q_nt_s, q_ld_tab, q_st_tab, q_aa13, q_aa14, q_is_eq, q_wr_eq, q_01_0, q_01_1, q_nz_nI, q_len_tab, psh_some, psh_none, sm_up_at, sm_up_ne, nI_add, nI_lt2, nI_le2, nI_eq2, ls_set0, ls_setS, Nat.reduceAdd, Nat.zero_add, Nat.add_zero, not_true_eq_false, not_false_eq_true, ite_true, ite_false, nI_rem3, nI_div2, nI_sub2, q_max_nI, q_min_nI, h1, h0]
      exact ih (i + 1) b (a % b) _ (by omega) hb (by omega)
theorem e_gcd {a b : Nat} (ha : a < 2147483648) (hb : b < 2147483648) : Wp xs m_TwoPrints_commonDivisor 0 [.int (nI a), .int (nI b), .null, .null, .null, .null] [] h 0 0 K = K (some (.int (nI (gcF 64 a b)))) h := by
  simp (disch := omega) only [w_TwoPrints_commonDivisor_0, w_TwoPrints_commonDivisor_1, w_TwoPrints_commonDivisor_2, w_TwoPrints_commonDivisor_3, w_TwoPrints_commonDivisor_4, w_TwoPrints_commonDivisor_5, w_TwoPrints_commonDivisor_9, w_TwoPrints_commonDivisor_11, w_TwoPrints_commonDivisor_14, w_TwoPrints_commonDivisor_15, w_TwoPrints_commonDivisor_18, w_TwoPrints_commonDivisor_19, w_TwoPrints_commonDivisor_20, w_TwoPrints_commonDivisor_21, w_TwoPrints_commonDivisor_23, w_TwoPrints_commonDivisor_24, w_TwoPrints_commonDivisor_25, w_TwoPrints_commonDivisor_27, w_TwoPrints_commonDivisor_28, w_TwoPrints_commonDivisor_31, w_TwoPrints_commonDivisor_34, w_TwoPrints_commonDivisor_35, q_rd_eq, q_nt_0, q_nt_s, q_ld_tab, q_st_tab, q_aa13, q_aa14, q_is_eq, q_wr_eq, q_01_0, q_01_1, q_nz_nI, q_len_tab, psh_some, psh_none, sm_up_at, sm_up_ne, nI_add, nI_lt2, nI_le2, nI_eq2, ls_set0, ls_setS, Nat.reduceAdd, Nat.zero_add, Nat.add_zero, not_true_eq_false, not_false_eq_true, ite_true, ite_false, nI_rem3, nI_div2, nI_sub2, q_max_nI, q_min_nI]
  exact gcd_loop (a5 := .null) 64 0 a b .null (by omega) ha hb
theorem e_least {a b : Nat} (ha : a < 2147483648) (hb : b < 2147483648) (hn : n < 2) : Wp xs m_TwoPrints_inLeastTerms 0 [.int (nI a), .int (nI b), .int (nI n), .null] [] h 0 0 K = K (some (.int (nI (ltA a b n)))) h := by
  have hg := gcF_lt 64 a b ha hb
  have h1 : 1 ≤ max 1 (gcF 64 a b) := Nat.le_max_left _ _
  have h2 : max 1 (gcF 64 a b) < 2147483648 := by omega
  unfold ltA
  by_cases h0 : n = 0
  · subst h0
    simp (disch := omega) only [w_TwoPrints_inLeastTerms_0, w_TwoPrints_inLeastTerms_1, w_TwoPrints_inLeastTerms_2, w_TwoPrints_inLeastTerms_3, w_TwoPrints_inLeastTerms_6, w_TwoPrints_inLeastTerms_9, w_TwoPrints_inLeastTerms_10, w_TwoPrints_inLeastTerms_11, w_TwoPrints_inLeastTerms_14, w_TwoPrints_inLeastTerms_15, w_TwoPrints_inLeastTerms_18, w_TwoPrints_inLeastTerms_19, w_TwoPrints_inLeastTerms_20, w_TwoPrints_inLeastTerms_21, q_rd_eq, q_nt_0, q_nt_s, q_ld_tab, q_st_tab, q_aa13, q_aa14, q_is_eq, q_wr_eq, q_01_0, q_01_1, q_nz_nI, q_len_tab, psh_some, psh_none, sm_up_at, sm_up_ne, nI_add, nI_lt2, nI_le2, nI_eq2, ls_set0, ls_setS, Nat.reduceAdd, Nat.zero_add, Nat.add_zero, not_true_eq_false, not_false_eq_true, ite_true, ite_false, nI_rem3, nI_div2, nI_sub2, q_max_nI, q_min_nI, e_gcd, if_true]
  · simp (disch := omega) only [w_TwoPrints_inLeastTerms_0, w_TwoPrints_inLeastTerms_1, w_TwoPrints_inLeastTerms_2, w_TwoPrints_inLeastTerms_3, w_TwoPrints_inLeastTerms_6, w_TwoPrints_inLeastTerms_9, w_TwoPrints_inLeastTerms_10, w_TwoPrints_inLeastTerms_11, w_TwoPrints_inLeastTerms_14, w_TwoPrints_inLeastTerms_15, w_TwoPrints_inLeastTerms_18, w_TwoPrints_inLeastTerms_19, w_TwoPrints_inLeastTerms_20, w_TwoPrints_inLeastTerms_21, q_rd_eq, q_nt_0, q_nt_s, q_ld_tab, q_st_tab, q_aa13, q_aa14, q_is_eq, q_wr_eq, q_01_0, q_01_1, q_nz_nI, q_len_tab, psh_some, psh_none, sm_up_at, sm_up_ne, nI_add, nI_lt2, nI_le2, nI_eq2, ls_set0, ls_setS, Nat.reduceAdd, Nat.zero_add, Nat.add_zero, not_true_eq_false, not_false_eq_true, ite_true, ite_false, nI_rem3, nI_div2, nI_sub2, q_max_nI, q_min_nI, e_gcd, h0]
theorem oddU_le {pr x n : Nat} (hp : pr < 7) : oddU pr x n ≤ 7000000 := by
  have h : ∀ m, m ≤ pr + 1 - n → sumTo (fun i => chN (n + i) pr (10 - x)) m ≤ m * 1000000 := by
    intro m
    induction m with
    | zero => intro _; exact Nat.zero_le _
    | succ m ih =>
      intro hm
      have h1 := ih (by omega)
      have h2 := chN_le pr hp (n + m) (by omega) (10 - x) (by omega)
      show sumTo _ m + chN (n + m) pr (10 - x) ≤ _
      omega
  have := h (pr + 1 - n) (Nat.le_refl _)
  unfold oddU
  omega
theorem odds_loop {A B : Value} {w4 : Value} {pr : Nat} (hp : pr < 7) (hx : x ≤ 10) (hn : n ≤ 6) : ∀ m i, i + m = pr + 1 - n → Wp xs m_TwoPrints_odds 59 [A, B, .int (nI x), .int (nI n), w4, .int (nI pr), .int (nI (sumTo (fun i => chN (n + i) pr (10 - x)) i)), .int (nI (n + i))] [] h 0 0 K = Wp xs m_TwoPrints_odds 88 [A, B, .int (nI x), .int (nI n), w4, .int (nI pr), .int (nI (oddU pr x n)), .int (nI (n + (i + m)))] [] h 0 0 K := by
  intro m
  induction m with
  | zero =>
    intro i hi
    have h1 : pr < n + i := by omega
    rw [w_TwoPrints_odds_59]
    simp (disch := omega) only [w_TwoPrints_odds_61, w_TwoPrints_odds_63, w_TwoPrints_odds_66, w_TwoPrints_odds_68, w_TwoPrints_odds_70, w_TwoPrints_odds_72, w_TwoPrints_odds_74, w_TwoPrints_odds_75, w_TwoPrints_odds_76, w_TwoPrints_odds_79, w_TwoPrints_odds_80, w_TwoPrints_odds_82, w_TwoPrints_odds_85, q_rd_eq, q_nt_0, q_nt_s, q_ld_tab, q_st_tab, q_aa13, q_aa14, q_is_eq, q_wr_eq, q_01_0, q_01_1, q_nz_nI, q_len_tab, psh_some, psh_none, sm_up_at, sm_up_ne, nI_add, nI_lt2, nI_le2, nI_eq2, ls_set0, ls_setS, Nat.reduceAdd, Nat.zero_add, Nat.add_zero, not_true_eq_false, not_false_eq_true, ite_true, ite_false, nI_rem3, nI_div2, nI_sub2, q_max_nI, q_min_nI, h1]
    unfold oddU
    rw [← hi]
    rfl
  | succ m ih =>
    intro i hi
    have h1 : ¬ pr < n + i := by omega
    rw [w_TwoPrints_odds_59]
    simp (disch := omega) only [w_TwoPrints_odds_61, w_TwoPrints_odds_63, w_TwoPrints_odds_66, w_TwoPrints_odds_68, w_TwoPrints_odds_70, w_TwoPrints_odds_72, w_TwoPrints_odds_74, w_TwoPrints_odds_75, w_TwoPrints_odds_76, w_TwoPrints_odds_79, w_TwoPrints_odds_80, w_TwoPrints_odds_82, w_TwoPrints_odds_85, q_rd_eq, q_nt_0, q_nt_s, q_ld_tab, q_st_tab, q_aa13, q_aa14, q_is_eq, q_wr_eq, q_01_0, q_01_1, q_nz_nI, q_len_tab, psh_some, psh_none, sm_up_at, sm_up_ne, nI_add, nI_lt2, nI_le2, nI_eq2, ls_set0, ls_setS, Nat.reduceAdd, Nat.zero_add, Nat.add_zero, not_true_eq_false, not_false_eq_true, ite_true, ite_false, nI_rem3, nI_div2, nI_sub2, q_max_nI, q_min_nI, h1, e_chance]
    have e := ih (i + 1) (by omega)
    rw [show i + 1 + m = i + (m + 1) by omega] at e
    exact e
def aOdds (P : PrS) (k x n what : Nat) : Nat := ltA (oddU (min 6 (nPr P k 0)) x n) (10 ^ min 6 (nPr P k 0)) what
theorem c_odds (I : InvC h s j) (ok : StOk s) (hk : k < 2) (hx : x < 11) (hn : n < 7) {e : Nat} (he : e < 2) : Wp xs m_TwoPrints_odds 0 [.ref 0, .int (nI k), .int (nI x), .int (nI n), .int (nI e), .null, .null, .null] [] h 0 0 K = K (some (.int (nI (aOdds s.2.2.1 k x n e)))) h := by
  have h1 : ¬ (1 : Nat) = 0 := by omega
  have h2 : ¬ n < 0 := by omega
  have h3 : ¬ 6 < n := by omega
  have h4 : ¬ e < 0 := by omega
  have h5 : e ≤ 1 := by omega
  have hd := ok.dep
  have HP := I.pr
  have hp : min 6 (nPr s.2.2.1 k 0) < 7 := by omega
  have hP := nPr_le s.2.2.1 k 0
  simp (disch := first | assumption | omega) only [w_TwoPrints_odds_0, w_TwoPrints_odds_1, w_TwoPrints_odds_4, w_TwoPrints_odds_7, w_TwoPrints_odds_8, w_TwoPrints_odds_11, w_TwoPrints_odds_14, w_TwoPrints_odds_15, w_TwoPrints_odds_18, w_TwoPrints_odds_19, w_TwoPrints_odds_21, w_TwoPrints_odds_24, w_TwoPrints_odds_26, w_TwoPrints_odds_29, w_TwoPrints_odds_31, w_TwoPrints_odds_32, w_TwoPrints_odds_35, w_TwoPrints_odds_36, w_TwoPrints_odds_37, w_TwoPrints_odds_39, w_TwoPrints_odds_40, w_TwoPrints_odds_43, w_TwoPrints_odds_44, w_TwoPrints_odds_45, w_TwoPrints_odds_48, w_TwoPrints_odds_51, w_TwoPrints_odds_53, w_TwoPrints_odds_54, w_TwoPrints_odds_56, w_TwoPrints_odds_57, q_rd_eq, q_nt_0, q_nt_s, q_ld_tab, q_st_tab, q_aa13, q_aa14, q_is_eq, q_wr_eq, q_01_0, q_01_1, q_nz_nI, q_len_tab, psh_some, psh_none, sm_up_at, sm_up_ne, nI_add, nI_lt2, nI_le2, nI_eq2, ls_set0, ls_setS, Nat.reduceAdd, Nat.zero_add, Nat.add_zero, not_true_eq_false, not_false_eq_true, ite_true, ite_false, nI_rem3, nI_div2, nI_sub2, q_max_nI, q_min_nI, t_isWalker, t_isTenths, h1, h2, h3, h4, h5, I.o0, I.pr.c0, p_deeper HP hd]
  have e1 := odds_loop (xs := xs) (h := h) (K := K) (A := .ref 0) (B := .int (nI k)) (w4 := .int (nI e)) (x := x) (n := n) hp (by omega) (by omega) (min 6 (nPr s.2.2.1 k 0) + 1 - n) 0 (by omega)
  rw [Nat.add_zero] at e1
  refine Eq.trans e1 ?_
  have hU := oddU_le (pr := min 6 (nPr s.2.2.1 k 0)) (x := x) (n := n) hp
  have h10 : 10 ^ min 6 (nPr s.2.2.1 k 0) ≤ 10 ^ 6 := Nat.pow_le_pow_right (by decide) (by omega)
  have h6 : (10 : Nat) ^ 6 = 1000000 := by decide
  simp (disch := first | assumption | omega) only [w_TwoPrints_odds_88, w_TwoPrints_odds_90, w_TwoPrints_odds_92, w_TwoPrints_odds_94, w_TwoPrints_odds_97, w_TwoPrints_odds_99, w_TwoPrints_odds_102, q_rd_eq, q_nt_0, q_nt_s, q_ld_tab, q_st_tab, q_aa13, q_aa14, q_is_eq, q_wr_eq, q_01_0, q_01_1, q_nz_nI, q_len_tab, psh_some, psh_none, sm_up_at, sm_up_ne, nI_add, nI_lt2, nI_le2, nI_eq2, ls_set0, ls_setS, Nat.reduceAdd, Nat.zero_add, Nat.add_zero, not_true_eq_false, not_false_eq_true, ite_true, ite_false, nI_rem3, nI_div2, nI_sub2, q_max_nI, q_min_nI, e_power, e_least]
  rfl
theorem c_oddsX (hb : ¬ (inr v 2 ∧ inr u 11 ∧ inr w 7 ∧ inr t 2)) : Wp xs m_TwoPrints_odds 0 [.ref 0, .int v, .int u, .int w, .int t, .null, .null, .null] [] h 0 0 K = K (some (.int (-1))) h := by
  have h1 : ¬ (1 : Nat) = 0 := by omega
  by_cases hv : inr v 2
  · obtain ⟨k, hk, rfl⟩ := hv
    by_cases hu : inr u 11
    · obtain ⟨x, hx, rfl⟩ := hu
      by_cases hw : inr w 7
      · obtain ⟨n, hn, rfl⟩ := hw
        have ht : ¬ inr t 2 := fun q => hb ⟨⟨k, hk, rfl⟩, ⟨x, hx, rfl⟩, ⟨n, hn, rfl⟩, q⟩
        have h2 : ¬ n < 0 := by omega
        have h3 : ¬ 6 < n := by omega
        rcases inr_x (by omega) ht with q | ⟨q, q2, q3⟩
        · simp (disch := first | assumption | omega) only [w_TwoPrints_odds_0, w_TwoPrints_odds_1, w_TwoPrints_odds_4, w_TwoPrints_odds_7, w_TwoPrints_odds_8, w_TwoPrints_odds_11, w_TwoPrints_odds_14, w_TwoPrints_odds_15, w_TwoPrints_odds_18, w_TwoPrints_odds_19, w_TwoPrints_odds_21, w_TwoPrints_odds_24, w_TwoPrints_odds_26, w_TwoPrints_odds_29, w_TwoPrints_odds_31, w_TwoPrints_odds_32, w_TwoPrints_odds_35, w_TwoPrints_odds_36, w_TwoPrints_odds_37, w_TwoPrints_odds_39, w_TwoPrints_odds_40, w_TwoPrints_odds_43, w_TwoPrints_odds_44, w_TwoPrints_odds_45, w_TwoPrints_odds_48, w_TwoPrints_odds_51, w_TwoPrints_odds_53, w_TwoPrints_odds_54, w_TwoPrints_odds_56, w_TwoPrints_odds_57, q_rd_eq, q_nt_0, q_nt_s, q_ld_tab, q_st_tab, q_aa13, q_aa14, q_is_eq, q_wr_eq, q_01_0, q_01_1, q_nz_nI, q_len_tab, psh_some, psh_none, sm_up_at, sm_up_ne, nI_add, nI_lt2, nI_le2, nI_eq2, ls_set0, ls_setS, Nat.reduceAdd, Nat.zero_add, Nat.add_zero, not_true_eq_false, not_false_eq_true, ite_true, ite_false, nI_rem3, nI_div2, nI_sub2, q_max_nI, q_min_nI, t_isWalker, t_isTenths, h1, h2, h3, q]
        · simp (disch := first | assumption | omega) only [w_TwoPrints_odds_0, w_TwoPrints_odds_1, w_TwoPrints_odds_4, w_TwoPrints_odds_7, w_TwoPrints_odds_8, w_TwoPrints_odds_11, w_TwoPrints_odds_14, w_TwoPrints_odds_15, w_TwoPrints_odds_18, w_TwoPrints_odds_19, w_TwoPrints_odds_21, w_TwoPrints_odds_24, w_TwoPrints_odds_26, w_TwoPrints_odds_29, w_TwoPrints_odds_31, w_TwoPrints_odds_32, w_TwoPrints_odds_35, w_TwoPrints_odds_36, w_TwoPrints_odds_37, w_TwoPrints_odds_39, w_TwoPrints_odds_40, w_TwoPrints_odds_43, w_TwoPrints_odds_44, w_TwoPrints_odds_45, w_TwoPrints_odds_48, w_TwoPrints_odds_51, w_TwoPrints_odds_53, w_TwoPrints_odds_54, w_TwoPrints_odds_56, w_TwoPrints_odds_57, q_rd_eq, q_nt_0, q_nt_s, q_ld_tab, q_st_tab, q_aa13, q_aa14, q_is_eq, q_wr_eq, q_01_0, q_01_1, q_nz_nI, q_len_tab, psh_some, psh_none, sm_up_at, sm_up_ne, nI_add, nI_lt2, nI_le2, nI_eq2, ls_set0, ls_setS, Nat.reduceAdd, Nat.zero_add, Nat.add_zero, not_true_eq_false, not_false_eq_true, ite_true, ite_false, nI_rem3, nI_div2, nI_sub2, q_max_nI, q_min_nI, t_isWalker, t_isTenths, h1, h2, h3, q, q2, q3]
      · rcases inr_x (by omega) hw with q | ⟨q, q2, q3⟩
        · simp (disch := first | assumption | omega) only [w_TwoPrints_odds_0, w_TwoPrints_odds_1, w_TwoPrints_odds_4, w_TwoPrints_odds_7, w_TwoPrints_odds_8, w_TwoPrints_odds_11, w_TwoPrints_odds_14, w_TwoPrints_odds_15, w_TwoPrints_odds_18, w_TwoPrints_odds_19, w_TwoPrints_odds_21, w_TwoPrints_odds_24, w_TwoPrints_odds_26, w_TwoPrints_odds_29, w_TwoPrints_odds_31, w_TwoPrints_odds_32, w_TwoPrints_odds_35, w_TwoPrints_odds_36, w_TwoPrints_odds_37, w_TwoPrints_odds_39, w_TwoPrints_odds_40, w_TwoPrints_odds_43, w_TwoPrints_odds_44, w_TwoPrints_odds_45, w_TwoPrints_odds_48, w_TwoPrints_odds_51, w_TwoPrints_odds_53, w_TwoPrints_odds_54, w_TwoPrints_odds_56, w_TwoPrints_odds_57, q_rd_eq, q_nt_0, q_nt_s, q_ld_tab, q_st_tab, q_aa13, q_aa14, q_is_eq, q_wr_eq, q_01_0, q_01_1, q_nz_nI, q_len_tab, psh_some, psh_none, sm_up_at, sm_up_ne, nI_add, nI_lt2, nI_le2, nI_eq2, ls_set0, ls_setS, Nat.reduceAdd, Nat.zero_add, Nat.add_zero, not_true_eq_false, not_false_eq_true, ite_true, ite_false, nI_rem3, nI_div2, nI_sub2, q_max_nI, q_min_nI, t_isWalker, t_isTenths, h1, q]
        · simp (disch := first | assumption | omega) only [w_TwoPrints_odds_0, w_TwoPrints_odds_1, w_TwoPrints_odds_4, w_TwoPrints_odds_7, w_TwoPrints_odds_8, w_TwoPrints_odds_11, w_TwoPrints_odds_14, w_TwoPrints_odds_15, w_TwoPrints_odds_18, w_TwoPrints_odds_19, w_TwoPrints_odds_21, w_TwoPrints_odds_24, w_TwoPrints_odds_26, w_TwoPrints_odds_29, w_TwoPrints_odds_31, w_TwoPrints_odds_32, w_TwoPrints_odds_35, w_TwoPrints_odds_36, w_TwoPrints_odds_37, w_TwoPrints_odds_39, w_TwoPrints_odds_40, w_TwoPrints_odds_43, w_TwoPrints_odds_44, w_TwoPrints_odds_45, w_TwoPrints_odds_48, w_TwoPrints_odds_51, w_TwoPrints_odds_53, w_TwoPrints_odds_54, w_TwoPrints_odds_56, w_TwoPrints_odds_57, q_rd_eq, q_nt_0, q_nt_s, q_ld_tab, q_st_tab, q_aa13, q_aa14, q_is_eq, q_wr_eq, q_01_0, q_01_1, q_nz_nI, q_len_tab, psh_some, psh_none, sm_up_at, sm_up_ne, nI_add, nI_lt2, nI_le2, nI_eq2, ls_set0, ls_setS, Nat.reduceAdd, Nat.zero_add, Nat.add_zero, not_true_eq_false, not_false_eq_true, ite_true, ite_false, nI_rem3, nI_div2, nI_sub2, q_max_nI, q_min_nI, t_isWalker, t_isTenths, h1, q, q2, q3]
    · simp (disch := first | assumption | omega) only [w_TwoPrints_odds_0, w_TwoPrints_odds_1, w_TwoPrints_odds_4, w_TwoPrints_odds_7, w_TwoPrints_odds_8, w_TwoPrints_odds_11, w_TwoPrints_odds_14, w_TwoPrints_odds_15, w_TwoPrints_odds_18, w_TwoPrints_odds_19, w_TwoPrints_odds_21, w_TwoPrints_odds_24, w_TwoPrints_odds_26, w_TwoPrints_odds_29, w_TwoPrints_odds_31, w_TwoPrints_odds_32, w_TwoPrints_odds_35, w_TwoPrints_odds_36, w_TwoPrints_odds_37, w_TwoPrints_odds_39, w_TwoPrints_odds_40, w_TwoPrints_odds_43, w_TwoPrints_odds_44, w_TwoPrints_odds_45, w_TwoPrints_odds_48, w_TwoPrints_odds_51, w_TwoPrints_odds_53, w_TwoPrints_odds_54, w_TwoPrints_odds_56, w_TwoPrints_odds_57, q_rd_eq, q_nt_0, q_nt_s, q_ld_tab, q_st_tab, q_aa13, q_aa14, q_is_eq, q_wr_eq, q_01_0, q_01_1, q_nz_nI, q_len_tab, psh_some, psh_none, sm_up_at, sm_up_ne, nI_add, nI_lt2, nI_le2, nI_eq2, ls_set0, ls_setS, Nat.reduceAdd, Nat.zero_add, Nat.add_zero, not_true_eq_false, not_false_eq_true, ite_true, ite_false, nI_rem3, nI_div2, nI_sub2, q_max_nI, q_min_nI, t_isWalker, f_isTenths, h1]
  · simp (disch := first | assumption | omega) only [w_TwoPrints_odds_0, w_TwoPrints_odds_1, w_TwoPrints_odds_4, w_TwoPrints_odds_7, w_TwoPrints_odds_8, w_TwoPrints_odds_11, w_TwoPrints_odds_14, w_TwoPrints_odds_15, w_TwoPrints_odds_18, w_TwoPrints_odds_19, w_TwoPrints_odds_21, w_TwoPrints_odds_24, w_TwoPrints_odds_26, w_TwoPrints_odds_29, w_TwoPrints_odds_31, w_TwoPrints_odds_32, w_TwoPrints_odds_35, w_TwoPrints_odds_36, w_TwoPrints_odds_37, w_TwoPrints_odds_39, w_TwoPrints_odds_40, w_TwoPrints_odds_43, w_TwoPrints_odds_44, w_TwoPrints_odds_45, w_TwoPrints_odds_48, w_TwoPrints_odds_51, w_TwoPrints_odds_53, w_TwoPrints_odds_54, w_TwoPrints_odds_56, w_TwoPrints_odds_57, q_rd_eq, q_nt_0, q_nt_s, q_ld_tab, q_st_tab, q_aa13, q_aa14, q_is_eq, q_wr_eq, q_01_0, q_01_1, q_nz_nI, q_len_tab, psh_some, psh_none, sm_up_at, sm_up_ne, nI_add, nI_lt2, nI_le2, nI_eq2, ls_set0, ls_setS, Nat.reduceAdd, Nat.zero_add, Nat.add_zero, not_true_eq_false, not_false_eq_true, ite_true, ite_false, nI_rem3, nI_div2, nI_sub2, q_max_nI, q_min_nI, f_isWalker]
theorem oneS_le {W x n : Nat} (hn : n < 6) (hx : x < 11) : ∀ m, m ≤ n + 1 → sumTo (fun i => if W ≤ i * 3 + (n - i) * 1 then chN i n x else 0) m ≤ m * 1000000 := by
  intro m
  induction m with
  | zero => intro _; exact Nat.zero_le _
  | succ m ih =>
    intro hm
    have h1 := ih (by omega)
    have h2 := chN_le n (by omega) m (by omega) x hx
    have h3 : (if W ≤ m * 3 + (n - m) * 1 then chN m n x else 0) ≤ 1000000 := by
      by_cases c : W ≤ m * 3 + (n - m) * 1
      · rw [if_pos c]; exact h2
      · rw [if_neg c]; exact Nat.zero_le _
    rw [Nat.succ_mul]
    exact Nat.add_le_add h1 h3
theorem one_loop {A w3 : Value} {W : Nat} (hW : W ≤ 9) (hx : x ≤ 10) (hn : n ≤ 5) : ∀ m i, i + m = n + 1 → Wp xs m_TwoPrints_onePath 42 [A, .int (nI x), .int (nI n), w3, .int (nI W), .int (nI (sumTo (fun i => if W ≤ i * 3 + (n - i) * 1 then chN i n x else 0) i)), .int (nI i)] [] h 0 0 K = Wp xs m_TwoPrints_onePath 82 [A, .int (nI x), .int (nI n), w3, .int (nI W), .int (nI (oneU W x n)), .int (nI (n + 1))] [] h 0 0 K := by
  intro m
  induction m with
  | zero =>
    intro i hi
    have e1 : i = n + 1 := by omega
    subst e1
    have h1 : n < n + 1 := by omega
    rw [w_TwoPrints_onePath_42]
    simp (disch := omega) only [w_TwoPrints_onePath_44, w_TwoPrints_onePath_45, w_TwoPrints_onePath_48, w_TwoPrints_onePath_50, w_TwoPrints_onePath_51, w_TwoPrints_onePath_52, w_TwoPrints_onePath_53, w_TwoPrints_onePath_55, w_TwoPrints_onePath_56, w_TwoPrints_onePath_57, w_TwoPrints_onePath_58, w_TwoPrints_onePath_59, w_TwoPrints_onePath_61, w_TwoPrints_onePath_64, w_TwoPrints_onePath_66, w_TwoPrints_onePath_68, w_TwoPrints_onePath_69, w_TwoPrints_onePath_70, w_TwoPrints_onePath_73, w_TwoPrints_onePath_74, w_TwoPrints_onePath_76, w_TwoPrints_onePath_79, q_rd_eq, q_nt_0, q_nt_s, q_ld_tab, q_st_tab, q_aa13, q_aa14, q_is_eq, q_wr_eq, q_01_0, q_01_1, q_nz_nI, q_len_tab, psh_some, psh_none, sm_up_at, sm_up_ne, nI_add, nI_lt2, nI_le2, nI_eq2, ls_set0, ls_setS, Nat.reduceAdd, Nat.zero_add, Nat.add_zero, not_true_eq_false, not_false_eq_true, ite_true, ite_false, nI_rem3, nI_div2, nI_sub2, q_max_nI, q_min_nI, h1]
    rfl
  | succ m ih =>
    intro i hi
    have h1 : ¬ n < i := by omega
    have e := ih (i + 1) (by omega)
    have es : sumTo (fun i => if W ≤ i * 3 + (n - i) * 1 then chN i n x else 0) (i + 1) = sumTo (fun i => if W ≤ i * 3 + (n - i) * 1 then chN i n x else 0) i + (if W ≤ i * 3 + (n - i) * 1 then chN i n x else 0) := rfl
    rw [es] at e
    rw [w_TwoPrints_onePath_42]
    by_cases hc : W ≤ i * 3 + (n - i) * 1
    · have hc2 : ¬ i * 3 + (n - i) * 1 < W := by omega
      rw [if_pos hc] at e
      simp (disch := omega) only [w_TwoPrints_onePath_44, w_TwoPrints_onePath_45, w_TwoPrints_onePath_48, w_TwoPrints_onePath_50, w_TwoPrints_onePath_51, w_TwoPrints_onePath_52, w_TwoPrints_onePath_53, w_TwoPrints_onePath_55, w_TwoPrints_onePath_56, w_TwoPrints_onePath_57, w_TwoPrints_onePath_58, w_TwoPrints_onePath_59, w_TwoPrints_onePath_61, w_TwoPrints_onePath_64, w_TwoPrints_onePath_66, w_TwoPrints_onePath_68, w_TwoPrints_onePath_69, w_TwoPrints_onePath_70, w_TwoPrints_onePath_73, w_TwoPrints_onePath_74, w_TwoPrints_onePath_76, w_TwoPrints_onePath_79, q_rd_eq, q_nt_0, q_nt_s, q_ld_tab, q_st_tab, q_aa13, q_aa14, q_is_eq, q_wr_eq, q_01_0, q_01_1, q_nz_nI, q_len_tab, psh_some, psh_none, sm_up_at, sm_up_ne, nI_add, nI_lt2, nI_le2, nI_eq2, ls_set0, ls_setS, Nat.reduceAdd, Nat.zero_add, Nat.add_zero, not_true_eq_false, not_false_eq_true, ite_true, ite_false, nI_rem3, nI_div2, nI_sub2, q_max_nI, q_min_nI, h1, pk_mul, hc2, e_chance]
      exact e
    · have hc2 : i * 3 + (n - i) * 1 < W := by omega
      rw [if_neg hc, Nat.add_zero] at e
      simp (disch := omega) only [w_TwoPrints_onePath_44, w_TwoPrints_onePath_45, w_TwoPrints_onePath_48, w_TwoPrints_onePath_50, w_TwoPrints_onePath_51, w_TwoPrints_onePath_52, w_TwoPrints_onePath_53, w_TwoPrints_onePath_55, w_TwoPrints_onePath_56, w_TwoPrints_onePath_57, w_TwoPrints_onePath_58, w_TwoPrints_onePath_59, w_TwoPrints_onePath_61, w_TwoPrints_onePath_64, w_TwoPrints_onePath_66, w_TwoPrints_onePath_68, w_TwoPrints_onePath_69, w_TwoPrints_onePath_70, w_TwoPrints_onePath_73, w_TwoPrints_onePath_74, w_TwoPrints_onePath_76, w_TwoPrints_onePath_79, q_rd_eq, q_nt_0, q_nt_s, q_ld_tab, q_st_tab, q_aa13, q_aa14, q_is_eq, q_wr_eq, q_01_0, q_01_1, q_nz_nI, q_len_tab, psh_some, psh_none, sm_up_at, sm_up_ne, nI_add, nI_lt2, nI_le2, nI_eq2, ls_set0, ls_setS, Nat.reduceAdd, Nat.zero_add, Nat.add_zero, not_true_eq_false, not_false_eq_true, ite_true, ite_false, nI_rem3, nI_div2, nI_sub2, q_max_nI, q_min_nI, h1, pk_mul, hc2, e_chance]
      exact e
def aOne (P : PrS) (x n what : Nat) : Nat := ltA (oneU (peaceN P 61) x n) (10 ^ n) what
theorem c_onePath (I : InvC h s j) (ok : StOk s) (hx : x < 11) (hn : n < 6) {e : Nat} (he : e < 2) : Wp xs m_TwoPrints_onePath 0 [.ref 0, .int (nI x), .int (nI n), .int (nI e), .null, .null, .null] [] h 0 0 K = K (some (.int (nI (aOne s.2.2.1 x n e)))) h := by
  have h1 : ¬ (1 : Nat) = 0 := by omega
  have h2 : ¬ n < 0 := by omega
  have h3 : ¬ 5 < n := by omega
  have h4 : ¬ e < 0 := by omega
  have h5 : e ≤ 1 := by omega
  have hd := ok.dep
  have HP := I.pr
  have hW := peace_le hd 61
  simp (disch := first | assumption | omega) only [w_TwoPrints_onePath_0, w_TwoPrints_onePath_1, w_TwoPrints_onePath_4, w_TwoPrints_onePath_7, w_TwoPrints_onePath_8, w_TwoPrints_onePath_11, w_TwoPrints_onePath_12, w_TwoPrints_onePath_13, w_TwoPrints_onePath_16, w_TwoPrints_onePath_17, w_TwoPrints_onePath_20, w_TwoPrints_onePath_21, w_TwoPrints_onePath_22, w_TwoPrints_onePath_25, w_TwoPrints_onePath_26, w_TwoPrints_onePath_27, w_TwoPrints_onePath_28, w_TwoPrints_onePath_31, w_TwoPrints_onePath_34, w_TwoPrints_onePath_36, w_TwoPrints_onePath_37, w_TwoPrints_onePath_39, w_TwoPrints_onePath_40, q_rd_eq, q_nt_0, q_nt_s, q_ld_tab, q_st_tab, q_aa13, q_aa14, q_is_eq, q_wr_eq, q_01_0, q_01_1, q_nz_nI, q_len_tab, psh_some, psh_none, sm_up_at, sm_up_ne, nI_add, nI_lt2, nI_le2, nI_eq2, ls_set0, ls_setS, Nat.reduceAdd, Nat.zero_add, Nat.add_zero, not_true_eq_false, not_false_eq_true, ite_true, ite_false, nI_rem3, nI_div2, nI_sub2, q_max_nI, q_min_nI, t_isTenths, h1, h2, h3, h4, h5, I.o0, I.pr.c0, p_peace HP hd]
  refine Eq.trans (one_loop (x := x) (n := n) hW (by omega) (by omega) (n + 1) 0 (by omega)) ?_
  have hU : oneU (peaceN s.2.2.1 61) x n ≤ _ := oneS_le hn hx (n + 1) (Nat.le_refl _)
  have h10 : 10 ^ n ≤ 10 ^ 6 := Nat.pow_le_pow_right (by decide) (by omega)
  have h6 : (10 : Nat) ^ 6 = 1000000 := by decide
  simp (disch := first | assumption | omega) only [w_TwoPrints_onePath_82, w_TwoPrints_onePath_84, w_TwoPrints_onePath_86, w_TwoPrints_onePath_87, w_TwoPrints_onePath_90, w_TwoPrints_onePath_91, w_TwoPrints_onePath_94, q_rd_eq, q_nt_0, q_nt_s, q_ld_tab, q_st_tab, q_aa13, q_aa14, q_is_eq, q_wr_eq, q_01_0, q_01_1, q_nz_nI, q_len_tab, psh_some, psh_none, sm_up_at, sm_up_ne, nI_add, nI_lt2, nI_le2, nI_eq2, ls_set0, ls_setS, Nat.reduceAdd, Nat.zero_add, Nat.add_zero, not_true_eq_false, not_false_eq_true, ite_true, ite_false, nI_rem3, nI_div2, nI_sub2, q_max_nI, q_min_nI, e_power, e_least]
  rfl
theorem c_onePathX (hb : ¬ (inr u 11 ∧ inr w 6 ∧ inr t 2)) : Wp xs m_TwoPrints_onePath 0 [.ref 0, .int u, .int w, .int t, .null, .null, .null] [] h 0 0 K = K (some (.int (-1))) h := by
  have h1 : ¬ (1 : Nat) = 0 := by omega
  by_cases hu : inr u 11
  · obtain ⟨x, hx, rfl⟩ := hu
    by_cases hw : inr w 6
    · obtain ⟨n, hn, rfl⟩ := hw
      have ht : ¬ inr t 2 := fun q => hb ⟨⟨x, hx, rfl⟩, ⟨n, hn, rfl⟩, q⟩
      have h2 : ¬ n < 0 := by omega
      have h3 : ¬ 5 < n := by omega
      rcases inr_x (by omega) ht with q | ⟨q, q2, q3⟩
      · simp (disch := first | assumption | omega) only [w_TwoPrints_onePath_0, w_TwoPrints_onePath_1, w_TwoPrints_onePath_4, w_TwoPrints_onePath_7, w_TwoPrints_onePath_8, w_TwoPrints_onePath_11, w_TwoPrints_onePath_12, w_TwoPrints_onePath_13, w_TwoPrints_onePath_16, w_TwoPrints_onePath_17, w_TwoPrints_onePath_20, w_TwoPrints_onePath_21, w_TwoPrints_onePath_22, w_TwoPrints_onePath_25, w_TwoPrints_onePath_26, w_TwoPrints_onePath_27, w_TwoPrints_onePath_28, w_TwoPrints_onePath_31, w_TwoPrints_onePath_34, w_TwoPrints_onePath_36, w_TwoPrints_onePath_37, w_TwoPrints_onePath_39, w_TwoPrints_onePath_40, q_rd_eq, q_nt_0, q_nt_s, q_ld_tab, q_st_tab, q_aa13, q_aa14, q_is_eq, q_wr_eq, q_01_0, q_01_1, q_nz_nI, q_len_tab, psh_some, psh_none, sm_up_at, sm_up_ne, nI_add, nI_lt2, nI_le2, nI_eq2, ls_set0, ls_setS, Nat.reduceAdd, Nat.zero_add, Nat.add_zero, not_true_eq_false, not_false_eq_true, ite_true, ite_false, nI_rem3, nI_div2, nI_sub2, q_max_nI, q_min_nI, t_isTenths, h1, h2, h3, q]
      · simp (disch := first | assumption | omega) only [w_TwoPrints_onePath_0, w_TwoPrints_onePath_1, w_TwoPrints_onePath_4, w_TwoPrints_onePath_7, w_TwoPrints_onePath_8, w_TwoPrints_onePath_11, w_TwoPrints_onePath_12, w_TwoPrints_onePath_13, w_TwoPrints_onePath_16, w_TwoPrints_onePath_17, w_TwoPrints_onePath_20, w_TwoPrints_onePath_21, w_TwoPrints_onePath_22, w_TwoPrints_onePath_25, w_TwoPrints_onePath_26, w_TwoPrints_onePath_27, w_TwoPrints_onePath_28, w_TwoPrints_onePath_31, w_TwoPrints_onePath_34, w_TwoPrints_onePath_36, w_TwoPrints_onePath_37, w_TwoPrints_onePath_39, w_TwoPrints_onePath_40, q_rd_eq, q_nt_0, q_nt_s, q_ld_tab, q_st_tab, q_aa13, q_aa14, q_is_eq, q_wr_eq, q_01_0, q_01_1, q_nz_nI, q_len_tab, psh_some, psh_none, sm_up_at, sm_up_ne, nI_add, nI_lt2, nI_le2, nI_eq2, ls_set0, ls_setS, Nat.reduceAdd, Nat.zero_add, Nat.add_zero, not_true_eq_false, not_false_eq_true, ite_true, ite_false, nI_rem3, nI_div2, nI_sub2, q_max_nI, q_min_nI, t_isTenths, h1, h2, h3, q, q2, q3]
    · rcases inr_x (by omega) hw with q | ⟨q, q2, q3⟩
      · simp (disch := first | assumption | omega) only [w_TwoPrints_onePath_0, w_TwoPrints_onePath_1, w_TwoPrints_onePath_4, w_TwoPrints_onePath_7, w_TwoPrints_onePath_8, w_TwoPrints_onePath_11, w_TwoPrints_onePath_12, w_TwoPrints_onePath_13, w_TwoPrints_onePath_16, w_TwoPrints_onePath_17, w_TwoPrints_onePath_20, w_TwoPrints_onePath_21, w_TwoPrints_onePath_22, w_TwoPrints_onePath_25, w_TwoPrints_onePath_26, w_TwoPrints_onePath_27, w_TwoPrints_onePath_28, w_TwoPrints_onePath_31, w_TwoPrints_onePath_34, w_TwoPrints_onePath_36, w_TwoPrints_onePath_37, w_TwoPrints_onePath_39, w_TwoPrints_onePath_40, q_rd_eq, q_nt_0, q_nt_s, q_ld_tab, q_st_tab, q_aa13, q_aa14, q_is_eq, q_wr_eq, q_01_0, q_01_1, q_nz_nI, q_len_tab, psh_some, psh_none, sm_up_at, sm_up_ne, nI_add, nI_lt2, nI_le2, nI_eq2, ls_set0, ls_setS, Nat.reduceAdd, Nat.zero_add, Nat.add_zero, not_true_eq_false, not_false_eq_true, ite_true, ite_false, nI_rem3, nI_div2, nI_sub2, q_max_nI, q_min_nI, t_isTenths, h1, q]
      · simp (disch := first | assumption | omega) only [w_TwoPrints_onePath_0, w_TwoPrints_onePath_1, w_TwoPrints_onePath_4, w_TwoPrints_onePath_7, w_TwoPrints_onePath_8, w_TwoPrints_onePath_11, w_TwoPrints_onePath_12, w_TwoPrints_onePath_13, w_TwoPrints_onePath_16, w_TwoPrints_onePath_17, w_TwoPrints_onePath_20, w_TwoPrints_onePath_21, w_TwoPrints_onePath_22, w_TwoPrints_onePath_25, w_TwoPrints_onePath_26, w_TwoPrints_onePath_27, w_TwoPrints_onePath_28, w_TwoPrints_onePath_31, w_TwoPrints_onePath_34, w_TwoPrints_onePath_36, w_TwoPrints_onePath_37, w_TwoPrints_onePath_39, w_TwoPrints_onePath_40, q_rd_eq, q_nt_0, q_nt_s, q_ld_tab, q_st_tab, q_aa13, q_aa14, q_is_eq, q_wr_eq, q_01_0, q_01_1, q_nz_nI, q_len_tab, psh_some, psh_none, sm_up_at, sm_up_ne, nI_add, nI_lt2, nI_le2, nI_eq2, ls_set0, ls_setS, Nat.reduceAdd, Nat.zero_add, Nat.add_zero, not_true_eq_false, not_false_eq_true, ite_true, ite_false, nI_rem3, nI_div2, nI_sub2, q_max_nI, q_min_nI, t_isTenths, h1, q, q2, q3]
  · simp (disch := first | assumption | omega) only [w_TwoPrints_onePath_0, w_TwoPrints_onePath_1, w_TwoPrints_onePath_4, w_TwoPrints_onePath_7, w_TwoPrints_onePath_8, w_TwoPrints_onePath_11, w_TwoPrints_onePath_12, w_TwoPrints_onePath_13, w_TwoPrints_onePath_16, w_TwoPrints_onePath_17, w_TwoPrints_onePath_20, w_TwoPrints_onePath_21, w_TwoPrints_onePath_22, w_TwoPrints_onePath_25, w_TwoPrints_onePath_26, w_TwoPrints_onePath_27, w_TwoPrints_onePath_28, w_TwoPrints_onePath_31, w_TwoPrints_onePath_34, w_TwoPrints_onePath_36, w_TwoPrints_onePath_37, w_TwoPrints_onePath_39, w_TwoPrints_onePath_40, q_rd_eq, q_nt_0, q_nt_s, q_ld_tab, q_st_tab, q_aa13, q_aa14, q_is_eq, q_wr_eq, q_01_0, q_01_1, q_nz_nI, q_len_tab, psh_some, psh_none, sm_up_at, sm_up_ne, nI_add, nI_lt2, nI_le2, nI_eq2, ls_set0, ls_setS, Nat.reduceAdd, Nat.zero_add, Nat.add_zero, not_true_eq_false, not_false_eq_true, ite_true, ite_false, nI_rem3, nI_div2, nI_sub2, q_max_nI, q_min_nI, f_isTenths, h1]
/-! when to go -/
def cutN (pa : PathS) (f k : Nat) : Nat := (f + pa.2.2.2 k - 1) / pa.2.2.2 k
def goB (pa : PathS) (k o e m : Nat) : Bool := decide (m + cutN pa pa.1.2.1 k < o + cutN pa pa.1.2.1 (1 - k)) && decide ((m + cutN pa pa.1.2.2.1 k) / pa.1.2.2.2 % 2 = k) && decide (m + cutN pa pa.1.1 k ≤ e)
theorem cutN_le {pa : PathS} {f k : Nat} (hf : f ≤ 60) (h1 : 1 ≤ pa.2.2.2 k) : cutN pa f k ≤ 60 := by
  unfold cutN
  rw [Nat.div_le_iff_le_mul_add_pred (by omega)]
  have : f ≤ pa.2.2.2 k * 60 := Nat.le_trans hf (Nat.le_mul_of_pos_left 60 (by omega))
  omega
theorem c_shouldGo (I : InvC h s j) (ok : StOk s) (hk : k < 2) {m o e : Nat} (hm : m ≤ 99) (ho : o ≤ 99) (he : e ≤ 199) : Wp xs m_TwoPrints_shouldGo 0 [.ref 0, .int (nI k), .int (nI m), .int (nI o), .int (nI e)] [] h 0 0 K = K (some (.int (nI (b2n (goB s.2.1 k o e m))))) h := by
  obtain ⟨p1, p2, p3, p4, p5, p6, p7⟩ := ok.2.1
  have H := I.pt
  have hk1 : 1 - k < 2 := by omega
  have a1 := cutN_le (pa := s.2.1) (f := s.2.1.1.2.1) (k := k) (by omega) (p7 k hk).2.2.2.1
  have a2 := cutN_le (pa := s.2.1) (f := s.2.1.1.2.1) (k := 1 - k) (by omega) (p7 (1 - k) hk1).2.2.2.1
  have a3 := cutN_le (pa := s.2.1) (f := s.2.1.1.2.2.1) (k := k) (by omega) (p7 k hk).2.2.2.1
  have a4 := cutN_le (pa := s.2.1) (f := s.2.1.1.1) (k := k) (by omega) (p7 k hk).2.2.2.1
  have e1 : ∀ K, Wp xs m_Path_minuteAt 0 [.ref (cLp j), .int (nI k), .int (nI m), .int (nI s.2.1.1.2.1), .null] [] h 0 0 K = K (some (.int (nI (m + cutN s.2.1 s.2.1.1.2.1 k)))) h := fun K => p_minute H p7 hk (by omega) (by omega)
  have e2 : ∀ K, Wp xs m_Path_minuteAt 0 [.ref (cLp j), .int (nI (1 - k)), .int (nI o), .int (nI s.2.1.1.2.1), .null] [] h 0 0 K = K (some (.int (nI (o + cutN s.2.1 s.2.1.1.2.1 (1 - k))))) h := fun K => p_minute H p7 hk1 (by omega) (by omega)
  have e3 : ∀ K, Wp xs m_Path_minuteAt 0 [.ref (cLp j), .int (nI k), .int (nI m), .int (nI s.2.1.1.2.2.1), .null] [] h 0 0 K = K (some (.int (nI (m + cutN s.2.1 s.2.1.1.2.2.1 k)))) h := fun K => p_minute H p7 hk (by omega) (by omega)
  have e4 : ∀ K, Wp xs m_Path_minuteAt 0 [.ref (cLp j), .int (nI k), .int (nI m), .int (nI s.2.1.1.1), .null] [] h 0 0 K = K (some (.int (nI (m + cutN s.2.1 s.2.1.1.1 k)))) h := fun K => p_minute H p7 hk (by omega) (by omega)
  have e5 : ∀ K, Wp xs m_Path_hasTurn 0 [.ref (cLp j), .int (nI k), .int (nI (m + cutN s.2.1 s.2.1.1.2.2.1 k))] [] h 0 0 K = _ := fun K => p_turn H p5 p6 hk (by omega)
  have h1 : ¬ (1 : Nat) = 0 := by omega
  have ht : b2n true = 1 := rfl
  have hf : b2n false = 0 := rfl
  unfold goB
  by_cases c1 : m + cutN s.2.1 s.2.1.1.2.1 k < o + cutN s.2.1 s.2.1.1.2.1 (1 - k)
  · have c1' : ¬ o + cutN s.2.1 s.2.1.1.2.1 (1 - k) ≤ m + cutN s.2.1 s.2.1.1.2.1 k := by omega
    by_cases c2 : (m + cutN s.2.1 s.2.1.1.2.2.1 k) / s.2.1.1.2.2.2 % 2 = k
    · rw [decide_eq_true c1, decide_eq_true c2]
      rw [decide_eq_true c2] at e5
      by_cases c3 : m + cutN s.2.1 s.2.1.1.1 k ≤ e
      · have c3' : ¬ e < m + cutN s.2.1 s.2.1.1.1 k := by omega
        rw [decide_eq_true c3]
        simp (disch := first | assumption | omega) only [w_TwoPrints_shouldGo_0, w_TwoPrints_shouldGo_1, w_TwoPrints_shouldGo_4, w_TwoPrints_shouldGo_5, w_TwoPrints_shouldGo_6, w_TwoPrints_shouldGo_7, w_TwoPrints_shouldGo_10, w_TwoPrints_shouldGo_13, w_TwoPrints_shouldGo_16, w_TwoPrints_shouldGo_17, w_TwoPrints_shouldGo_20, w_TwoPrints_shouldGo_21, w_TwoPrints_shouldGo_22, w_TwoPrints_shouldGo_23, w_TwoPrints_shouldGo_24, w_TwoPrints_shouldGo_25, w_TwoPrints_shouldGo_28, w_TwoPrints_shouldGo_31, w_TwoPrints_shouldGo_34, w_TwoPrints_shouldGo_37, w_TwoPrints_shouldGo_38, w_TwoPrints_shouldGo_41, w_TwoPrints_shouldGo_42, w_TwoPrints_shouldGo_43, w_TwoPrints_shouldGo_46, w_TwoPrints_shouldGo_47, w_TwoPrints_shouldGo_48, w_TwoPrints_shouldGo_49, w_TwoPrints_shouldGo_52, w_TwoPrints_shouldGo_55, w_TwoPrints_shouldGo_58, w_TwoPrints_shouldGo_61, w_TwoPrints_shouldGo_64, w_TwoPrints_shouldGo_65, w_TwoPrints_shouldGo_68, w_TwoPrints_shouldGo_69, w_TwoPrints_shouldGo_70, w_TwoPrints_shouldGo_71, w_TwoPrints_shouldGo_74, w_TwoPrints_shouldGo_77, w_TwoPrints_shouldGo_80, w_TwoPrints_shouldGo_82, w_TwoPrints_shouldGo_85, w_TwoPrints_shouldGo_86, w_TwoPrints_shouldGo_89, w_TwoPrints_shouldGo_90, q_rd_eq, q_nt_0, q_nt_s, q_ld_tab, q_st_tab, q_aa13, q_aa14, q_is_eq, q_wr_eq, q_01_0, q_01_1, q_nz_nI, q_len_tab, psh_some, psh_none, sm_up_at, sm_up_ne, nI_add, nI_lt2, nI_le2, nI_eq2, ls_set0, ls_setS, Nat.reduceAdd, Nat.zero_add, Nat.add_zero, not_true_eq_false, not_false_eq_true, ite_true, ite_false, nI_rem3, nI_div2, nI_sub2, q_max_nI, q_min_nI, I.o0, I.pt.c0, e1, e2, e3, e4, e5, c1', c3', h1, ht, hf, Bool.and_true]
      · have c3' : e < m + cutN s.2.1 s.2.1.1.1 k := by omega
        rw [decide_eq_false c3]
        simp (disch := first | assumption | omega) only [w_TwoPrints_shouldGo_0, w_TwoPrints_shouldGo_1, w_TwoPrints_shouldGo_4, w_TwoPrints_shouldGo_5, w_TwoPrints_shouldGo_6, w_TwoPrints_shouldGo_7, w_TwoPrints_shouldGo_10, w_TwoPrints_shouldGo_13, w_TwoPrints_shouldGo_16, w_TwoPrints_shouldGo_17, w_TwoPrints_shouldGo_20, w_TwoPrints_shouldGo_21, w_TwoPrints_shouldGo_22, w_TwoPrints_shouldGo_23, w_TwoPrints_shouldGo_24, w_TwoPrints_shouldGo_25, w_TwoPrints_shouldGo_28, w_TwoPrints_shouldGo_31, w_TwoPrints_shouldGo_34, w_TwoPrints_shouldGo_37, w_TwoPrints_shouldGo_38, w_TwoPrints_shouldGo_41, w_TwoPrints_shouldGo_42, w_TwoPrints_shouldGo_43, w_TwoPrints_shouldGo_46, w_TwoPrints_shouldGo_47, w_TwoPrints_shouldGo_48, w_TwoPrints_shouldGo_49, w_TwoPrints_shouldGo_52, w_TwoPrints_shouldGo_55, w_TwoPrints_shouldGo_58, w_TwoPrints_shouldGo_61, w_TwoPrints_shouldGo_64, w_TwoPrints_shouldGo_65, w_TwoPrints_shouldGo_68, w_TwoPrints_shouldGo_69, w_TwoPrints_shouldGo_70, w_TwoPrints_shouldGo_71, w_TwoPrints_shouldGo_74, w_TwoPrints_shouldGo_77, w_TwoPrints_shouldGo_80, w_TwoPrints_shouldGo_82, w_TwoPrints_shouldGo_85, w_TwoPrints_shouldGo_86, w_TwoPrints_shouldGo_89, w_TwoPrints_shouldGo_90, q_rd_eq, q_nt_0, q_nt_s, q_ld_tab, q_st_tab, q_aa13, q_aa14, q_is_eq, q_wr_eq, q_01_0, q_01_1, q_nz_nI, q_len_tab, psh_some, psh_none, sm_up_at, sm_up_ne, nI_add, nI_lt2, nI_le2, nI_eq2, ls_set0, ls_setS, Nat.reduceAdd, Nat.zero_add, Nat.add_zero, not_true_eq_false, not_false_eq_true, ite_true, ite_false, nI_rem3, nI_div2, nI_sub2, q_max_nI, q_min_nI, I.o0, I.pt.c0, e1, e2, e3, e4, e5, c1', c3', h1, ht, hf, Bool.and_false]
    · rw [decide_eq_true c1, decide_eq_false c2]
      rw [decide_eq_false c2] at e5
      simp (disch := first | assumption | omega) only [w_TwoPrints_shouldGo_0, w_TwoPrints_shouldGo_1, w_TwoPrints_shouldGo_4, w_TwoPrints_shouldGo_5, w_TwoPrints_shouldGo_6, w_TwoPrints_shouldGo_7, w_TwoPrints_shouldGo_10, w_TwoPrints_shouldGo_13, w_TwoPrints_shouldGo_16, w_TwoPrints_shouldGo_17, w_TwoPrints_shouldGo_20, w_TwoPrints_shouldGo_21, w_TwoPrints_shouldGo_22, w_TwoPrints_shouldGo_23, w_TwoPrints_shouldGo_24, w_TwoPrints_shouldGo_25, w_TwoPrints_shouldGo_28, w_TwoPrints_shouldGo_31, w_TwoPrints_shouldGo_34, w_TwoPrints_shouldGo_37, w_TwoPrints_shouldGo_38, w_TwoPrints_shouldGo_41, w_TwoPrints_shouldGo_42, w_TwoPrints_shouldGo_43, w_TwoPrints_shouldGo_46, w_TwoPrints_shouldGo_47, w_TwoPrints_shouldGo_48, w_TwoPrints_shouldGo_49, w_TwoPrints_shouldGo_52, w_TwoPrints_shouldGo_55, w_TwoPrints_shouldGo_58, w_TwoPrints_shouldGo_61, w_TwoPrints_shouldGo_64, w_TwoPrints_shouldGo_65, w_TwoPrints_shouldGo_68, w_TwoPrints_shouldGo_69, w_TwoPrints_shouldGo_70, w_TwoPrints_shouldGo_71, w_TwoPrints_shouldGo_74, w_TwoPrints_shouldGo_77, w_TwoPrints_shouldGo_80, w_TwoPrints_shouldGo_82, w_TwoPrints_shouldGo_85, w_TwoPrints_shouldGo_86, w_TwoPrints_shouldGo_89, w_TwoPrints_shouldGo_90, q_rd_eq, q_nt_0, q_nt_s, q_ld_tab, q_st_tab, q_aa13, q_aa14, q_is_eq, q_wr_eq, q_01_0, q_01_1, q_nz_nI, q_len_tab, psh_some, psh_none, sm_up_at, sm_up_ne, nI_add, nI_lt2, nI_le2, nI_eq2, ls_set0, ls_setS, Nat.reduceAdd, Nat.zero_add, Nat.add_zero, not_true_eq_false, not_false_eq_true, ite_true, ite_false, nI_rem3, nI_div2, nI_sub2, q_max_nI, q_min_nI, I.o0, I.pt.c0, e1, e2, e3, e5, c1', h1, hf, Bool.and_false, Bool.false_and]
  · have c1' : o + cutN s.2.1 s.2.1.1.2.1 (1 - k) ≤ m + cutN s.2.1 s.2.1.1.2.1 k := by omega
    rw [decide_eq_false c1]
    simp (disch := first | assumption | omega) only [w_TwoPrints_shouldGo_0, w_TwoPrints_shouldGo_1, w_TwoPrints_shouldGo_4, w_TwoPrints_shouldGo_5, w_TwoPrints_shouldGo_6, w_TwoPrints_shouldGo_7, w_TwoPrints_shouldGo_10, w_TwoPrints_shouldGo_13, w_TwoPrints_shouldGo_16, w_TwoPrints_shouldGo_17, w_TwoPrints_shouldGo_20, w_TwoPrints_shouldGo_21, w_TwoPrints_shouldGo_22, w_TwoPrints_shouldGo_23, w_TwoPrints_shouldGo_24, w_TwoPrints_shouldGo_25, w_TwoPrints_shouldGo_28, w_TwoPrints_shouldGo_31, w_TwoPrints_shouldGo_34, w_TwoPrints_shouldGo_37, w_TwoPrints_shouldGo_38, w_TwoPrints_shouldGo_41, w_TwoPrints_shouldGo_42, w_TwoPrints_shouldGo_43, w_TwoPrints_shouldGo_46, w_TwoPrints_shouldGo_47, w_TwoPrints_shouldGo_48, w_TwoPrints_shouldGo_49, w_TwoPrints_shouldGo_52, w_TwoPrints_shouldGo_55, w_TwoPrints_shouldGo_58, w_TwoPrints_shouldGo_61, w_TwoPrints_shouldGo_64, w_TwoPrints_shouldGo_65, w_TwoPrints_shouldGo_68, w_TwoPrints_shouldGo_69, w_TwoPrints_shouldGo_70, w_TwoPrints_shouldGo_71, w_TwoPrints_shouldGo_74, w_TwoPrints_shouldGo_77, w_TwoPrints_shouldGo_80, w_TwoPrints_shouldGo_82, w_TwoPrints_shouldGo_85, w_TwoPrints_shouldGo_86, w_TwoPrints_shouldGo_89, w_TwoPrints_shouldGo_90, q_rd_eq, q_nt_0, q_nt_s, q_ld_tab, q_st_tab, q_aa13, q_aa14, q_is_eq, q_wr_eq, q_01_0, q_01_1, q_nz_nI, q_len_tab, psh_some, psh_none, sm_up_at, sm_up_ne, nI_add, nI_lt2, nI_le2, nI_eq2, ls_set0, ls_setS, Nat.reduceAdd, Nat.zero_add, Nat.add_zero, not_true_eq_false, not_false_eq_true, ite_true, ite_false, nI_rem3, nI_div2, nI_sub2, q_max_nI, q_min_nI, I.o0, I.pt.c0, e1, e2, c1', hf, Bool.false_and]
def goT (B : Nat → Bool) : Nat → Nat × Int32 × Int32
  | 0 => (0, -9, -9)
  | m + 1 => if B m = true then ((goT B m).1 + 1, if (goT B m).1 = 0 then nI m else (goT B m).2.1, nI m) else goT B m
theorem goT_le (B : Nat → Bool) : ∀ m, (goT B m).1 ≤ m
  | 0 => Nat.le_refl _
  | m + 1 => by
    have := goT_le B m
    unfold goT
    split
    · show (goT B m).1 + 1 ≤ _
      omega
    · omega
theorem go_loop (I : InvC h s j) (ok : StOk s) (hk : k < 2) {o e : Nat} (ho : o ≤ 99) (he : e ≤ 199) {w4 : Int32} : ∀ m i, i + m = 100 → Wp xs m_TwoPrints_go 55 [.ref 0, .int (nI k), .int (nI o), .int (nI e), .int w4, .int (nI (goT (goB s.2.1 k o e) i).1), .int (goT (goB s.2.1 k o e) i).2.1, .int (goT (goB s.2.1 k o e) i).2.2, .int (nI i)] [] h 0 0 K = Wp xs m_TwoPrints_go 101 [.ref 0, .int (nI k), .int (nI o), .int (nI e), .int w4, .int (nI (goT (goB s.2.1 k o e) 100).1), .int (goT (goB s.2.1 k o e) 100).2.1, .int (goT (goB s.2.1 k o e) 100).2.2, .int (nI 100)] [] h 0 0 K := by
  intro m
  induction m with
  | zero =>
    intro i hi
    have e1 : i = 100 := by omega
    subst e1
    have h1 : (99 : Nat) < 100 := by omega
    rw [w_TwoPrints_go_55]
    simp (disch := omega) only [w_TwoPrints_go_57, w_TwoPrints_go_59, w_TwoPrints_go_62, w_TwoPrints_go_63, w_TwoPrints_go_64, w_TwoPrints_go_66, w_TwoPrints_go_67, w_TwoPrints_go_68, w_TwoPrints_go_71, w_TwoPrints_go_74, w_TwoPrints_go_76, w_TwoPrints_go_79, w_TwoPrints_go_81, w_TwoPrints_go_84, w_TwoPrints_go_86, w_TwoPrints_go_88, w_TwoPrints_go_90, w_TwoPrints_go_92, w_TwoPrints_go_95, w_TwoPrints_go_98, q_rd_eq, q_nt_0, q_nt_s, q_ld_tab, q_st_tab, q_aa13, q_aa14, q_is_eq, q_wr_eq, q_01_0, q_01_1, q_nz_nI, q_len_tab, psh_some, psh_none, sm_up_at, sm_up_ne, nI_add, nI_lt2, nI_le2, nI_eq2, ls_set0, ls_setS, Nat.reduceAdd, Nat.zero_add, Nat.add_zero, not_true_eq_false, not_false_eq_true, ite_true, ite_false, nI_rem3, nI_div2, nI_sub2, q_max_nI, q_min_nI, h1]
  | succ m ih =>
    intro i hi
    have h1 : ¬ 99 < i := by omega
    have hle := goT_le (goB s.2.1 k o e) i
    have e1 := ih (i + 1) (by omega)
    rw [w_TwoPrints_go_55]
    have es : goT (goB s.2.1 k o e) (i + 1) = if goB s.2.1 k o e i = true then ((goT (goB s.2.1 k o e) i).1 + 1, if (goT (goB s.2.1 k o e) i).1 = 0 then nI i else (goT (goB s.2.1 k o e) i).2.1, nI i) else goT (goB s.2.1 k o e) i := rfl
    have hsg : ∀ K, Wp xs m_TwoPrints_shouldGo 0 [.ref 0, .int (nI k), .int (nI i), .int (nI o), .int (nI e)] [] h 0 0 K = _ := fun K => c_shouldGo I ok hk (by omega) ho he
    cases hb : goB s.2.1 k o e i with
    | true =>
      rw [hb] at hsg
      have ht : b2n true = 1 := rfl
      have h11 : ¬ (1 : Nat) = 0 := by omega
      rw [es, hb, if_pos rfl] at e1
      by_cases h0 : (goT (goB s.2.1 k o e) i).1 = 0
      · rw [if_pos h0, h0] at e1
        rw [h0]
        simp (disch := omega) only [w_TwoPrints_go_57, w_TwoPrints_go_59, w_TwoPrints_go_62, w_TwoPrints_go_63, w_TwoPrints_go_64, w_TwoPrints_go_66, w_TwoPrints_go_67, w_TwoPrints_go_68, w_TwoPrints_go_71, w_TwoPrints_go_74, w_TwoPrints_go_76, w_TwoPrints_go_79, w_TwoPrints_go_81, w_TwoPrints_go_84, w_TwoPrints_go_86, w_TwoPrints_go_88, w_TwoPrints_go_90, w_TwoPrints_go_92, w_TwoPrints_go_95, w_TwoPrints_go_98, q_rd_eq, q_nt_0, q_nt_s, q_ld_tab, q_st_tab, q_aa13, q_aa14, q_is_eq, q_wr_eq, q_01_0, q_01_1, q_nz_nI, q_len_tab, psh_some, psh_none, sm_up_at, sm_up_ne, nI_add, nI_lt2, nI_le2, nI_eq2, ls_set0, ls_setS, Nat.reduceAdd, Nat.zero_add, Nat.add_zero, not_true_eq_false, not_false_eq_true, ite_true, ite_false, nI_rem3, nI_div2, nI_sub2, q_max_nI, q_min_nI, h1, I.o0, hsg, ht, h11]
        exact e1
      · rw [if_neg h0] at e1
        simp (disch := omega) only [w_TwoPrints_go_57, w_TwoPrints_go_59, w_TwoPrints_go_62, w_TwoPrints_go_63, w_TwoPrints_go_64, w_TwoPrints_go_66, w_TwoPrints_go_67, w_TwoPrints_go_68, w_TwoPrints_go_71, w_TwoPrints_go_74, w_TwoPrints_go_76, w_TwoPrints_go_79, w_TwoPrints_go_81, w_TwoPrints_go_84, w_TwoPrints_go_86, w_TwoPrints_go_88, w_TwoPrints_go_90, w_TwoPrints_go_92, w_TwoPrints_go_95, w_TwoPrints_go_98, q_rd_eq, q_nt_0, q_nt_s, q_ld_tab, q_st_tab, q_aa13, q_aa14, q_is_eq, q_wr_eq, q_01_0, q_01_1, q_nz_nI, q_len_tab, psh_some, psh_none, sm_up_at, sm_up_ne, nI_add, nI_lt2, nI_le2, nI_eq2, ls_set0, ls_setS, Nat.reduceAdd, Nat.zero_add, Nat.add_zero, not_true_eq_false, not_false_eq_true, ite_true, ite_false, nI_rem3, nI_div2, nI_sub2, q_max_nI, q_min_nI, h1, I.o0, hsg, ht, h11, h0]
        exact e1
    | false =>
      rw [hb] at hsg
      have hf : b2n false = 0 := rfl
      rw [es, hb, if_neg (by decide)] at e1
      simp (disch := omega) only [w_TwoPrints_go_57, w_TwoPrints_go_59, w_TwoPrints_go_62, w_TwoPrints_go_63, w_TwoPrints_go_64, w_TwoPrints_go_66, w_TwoPrints_go_67, w_TwoPrints_go_68, w_TwoPrints_go_71, w_TwoPrints_go_74, w_TwoPrints_go_76, w_TwoPrints_go_79, w_TwoPrints_go_81, w_TwoPrints_go_84, w_TwoPrints_go_86, w_TwoPrints_go_88, w_TwoPrints_go_90, w_TwoPrints_go_92, w_TwoPrints_go_95, w_TwoPrints_go_98, q_rd_eq, q_nt_0, q_nt_s, q_ld_tab, q_st_tab, q_aa13, q_aa14, q_is_eq, q_wr_eq, q_01_0, q_01_1, q_nz_nI, q_len_tab, psh_some, psh_none, sm_up_at, sm_up_ne, nI_add, nI_lt2, nI_le2, nI_eq2, ls_set0, ls_setS, Nat.reduceAdd, Nat.zero_add, Nat.add_zero, not_true_eq_false, not_false_eq_true, ite_true, ite_false, nI_rem3, nI_div2, nI_sub2, q_max_nI, q_min_nI, h1, I.o0, hsg, hf]
      exact e1
def aGo (pa : PathS) (k o e what : Nat) : Int32 := if what = 0 then nI (goT (goB pa k o e) 100).1 else if what = 1 then (goT (goB pa k o e) 100).2.1 else (goT (goB pa k o e) 100).2.2
theorem c_go (I : InvC h s j) (ok : StOk s) (hk : k < 2) {o e : Nat} (ho : o < 100) (he : e < 200) (hn : n < 3) : Wp xs m_TwoPrints_go 0 [.ref 0, .int (nI k), .int (nI o), .int (nI e), .int (nI n), .null, .null, .null, .null] [] h 0 0 K = K (some (.int (aGo s.2.1 k o e n))) h := by
  have h1 : ¬ (1 : Nat) = 0 := by omega
  have h2 : ¬ o < 0 := by omega
  have h3 : ¬ 99 < o := by omega
  have h4 : ¬ e < 0 := by omega
  have h5 : ¬ 199 < e := by omega
  have h6 : ¬ n < 0 := by omega
  have h7 : n ≤ 2 := by omega
  simp (disch := first | assumption | omega) only [w_TwoPrints_go_0, w_TwoPrints_go_1, w_TwoPrints_go_4, w_TwoPrints_go_7, w_TwoPrints_go_8, w_TwoPrints_go_11, w_TwoPrints_go_12, w_TwoPrints_go_14, w_TwoPrints_go_17, w_TwoPrints_go_18, w_TwoPrints_go_21, w_TwoPrints_go_22, w_TwoPrints_go_25, w_TwoPrints_go_28, w_TwoPrints_go_30, w_TwoPrints_go_33, w_TwoPrints_go_35, w_TwoPrints_go_36, w_TwoPrints_go_39, w_TwoPrints_go_40, w_TwoPrints_go_41, w_TwoPrints_go_42, w_TwoPrints_go_44, w_TwoPrints_go_46, w_TwoPrints_go_48, w_TwoPrints_go_50, w_TwoPrints_go_52, w_TwoPrints_go_53, q_rd_eq, q_nt_0, q_nt_s, q_ld_tab, q_st_tab, q_aa13, q_aa14, q_is_eq, q_wr_eq, q_01_0, q_01_1, q_nz_nI, q_len_tab, psh_some, psh_none, sm_up_at, sm_up_ne, nI_add, nI_lt2, nI_le2, nI_eq2, ls_set0, ls_setS, Nat.reduceAdd, Nat.zero_add, Nat.add_zero, not_true_eq_false, not_false_eq_true, ite_true, ite_false, nI_rem3, nI_div2, nI_sub2, q_max_nI, q_min_nI, t_isWalker, h1, h2, h3, h4, h5, h6, h7]
  refine Eq.trans (go_loop I ok hk (by omega) (by omega) 100 0 (by omega)) ?_
  unfold aGo
  have hle := goT_le (goB s.2.1 k o e) 100
  by_cases c0 : n = 0
  · rw [if_pos c0]
    simp (disch := first | assumption | omega) only [w_TwoPrints_go_101, w_TwoPrints_go_103, w_TwoPrints_go_106, w_TwoPrints_go_108, w_TwoPrints_go_109, w_TwoPrints_go_111, w_TwoPrints_go_112, w_TwoPrints_go_115, w_TwoPrints_go_117, w_TwoPrints_go_120, w_TwoPrints_go_122, q_rd_eq, q_nt_0, q_nt_s, q_ld_tab, q_st_tab, q_aa13, q_aa14, q_is_eq, q_wr_eq, q_01_0, q_01_1, q_nz_nI, q_len_tab, psh_some, psh_none, sm_up_at, sm_up_ne, nI_add, nI_lt2, nI_le2, nI_eq2, ls_set0, ls_setS, Nat.reduceAdd, Nat.zero_add, Nat.add_zero, not_true_eq_false, not_false_eq_true, ite_true, ite_false, nI_rem3, nI_div2, nI_sub2, q_max_nI, q_min_nI, c0]
  · rw [if_neg c0]
    by_cases c1 : n = 1
    · rw [if_pos c1]
      simp (disch := first | assumption | omega) only [w_TwoPrints_go_101, w_TwoPrints_go_103, w_TwoPrints_go_106, w_TwoPrints_go_108, w_TwoPrints_go_109, w_TwoPrints_go_111, w_TwoPrints_go_112, w_TwoPrints_go_115, w_TwoPrints_go_117, w_TwoPrints_go_120, w_TwoPrints_go_122, q_rd_eq, q_nt_0, q_nt_s, q_ld_tab, q_st_tab, q_aa13, q_aa14, q_is_eq, q_wr_eq, q_01_0, q_01_1, q_nz_nI, q_len_tab, psh_some, psh_none, sm_up_at, sm_up_ne, nI_add, nI_lt2, nI_le2, nI_eq2, ls_set0, ls_setS, Nat.reduceAdd, Nat.zero_add, Nat.add_zero, not_true_eq_false, not_false_eq_true, ite_true, ite_false, nI_rem3, nI_div2, nI_sub2, q_max_nI, q_min_nI, c1, h1]
    · rw [if_neg c1]
      simp (disch := first | assumption | omega) only [w_TwoPrints_go_101, w_TwoPrints_go_103, w_TwoPrints_go_106, w_TwoPrints_go_108, w_TwoPrints_go_109, w_TwoPrints_go_111, w_TwoPrints_go_112, w_TwoPrints_go_115, w_TwoPrints_go_117, w_TwoPrints_go_120, w_TwoPrints_go_122, q_rd_eq, q_nt_0, q_nt_s, q_ld_tab, q_st_tab, q_aa13, q_aa14, q_is_eq, q_wr_eq, q_01_0, q_01_1, q_nz_nI, q_len_tab, psh_some, psh_none, sm_up_at, sm_up_ne, nI_add, nI_lt2, nI_le2, nI_eq2, ls_set0, ls_setS, Nat.reduceAdd, Nat.zero_add, Nat.add_zero, not_true_eq_false, not_false_eq_true, ite_true, ite_false, nI_rem3, nI_div2, nI_sub2, q_max_nI, q_min_nI, c0, c1]
theorem c_goX (hb : ¬ (inr v 2 ∧ inr u 100 ∧ inr w 200 ∧ inr t 3)) : Wp xs m_TwoPrints_go 0 [.ref 0, .int v, .int u, .int w, .int t, .null, .null, .null, .null] [] h 0 0 K = K (some (.int (-1))) h := by
  have h1 : ¬ (1 : Nat) = 0 := by omega
  by_cases hv : inr v 2
  · obtain ⟨k, hk, rfl⟩ := hv
    by_cases hu : inr u 100
    · obtain ⟨x, hx, rfl⟩ := hu
      have h2 : ¬ x < 0 := by omega
      have h3 : ¬ 99 < x := by omega
      by_cases hw : inr w 200
      · obtain ⟨n, hn, rfl⟩ := hw
        have ht : ¬ inr t 3 := fun q => hb ⟨⟨k, hk, rfl⟩, ⟨x, hx, rfl⟩, ⟨n, hn, rfl⟩, q⟩
        have h4 : ¬ n < 0 := by omega
        have h5 : ¬ 199 < n := by omega
        rcases inr_x (by omega) ht with q | ⟨q, q2, q3⟩
        · simp (disch := first | assumption | omega) only [w_TwoPrints_go_0, w_TwoPrints_go_1, w_TwoPrints_go_4, w_TwoPrints_go_7, w_TwoPrints_go_8, w_TwoPrints_go_11, w_TwoPrints_go_12, w_TwoPrints_go_14, w_TwoPrints_go_17, w_TwoPrints_go_18, w_TwoPrints_go_21, w_TwoPrints_go_22, w_TwoPrints_go_25, w_TwoPrints_go_28, w_TwoPrints_go_30, w_TwoPrints_go_33, w_TwoPrints_go_35, w_TwoPrints_go_36, w_TwoPrints_go_39, w_TwoPrints_go_40, w_TwoPrints_go_41, w_TwoPrints_go_42, w_TwoPrints_go_44, w_TwoPrints_go_46, w_TwoPrints_go_48, w_TwoPrints_go_50, w_TwoPrints_go_52, w_TwoPrints_go_53, q_rd_eq, q_nt_0, q_nt_s, q_ld_tab, q_st_tab, q_aa13, q_aa14, q_is_eq, q_wr_eq, q_01_0, q_01_1, q_nz_nI, q_len_tab, psh_some, psh_none, sm_up_at, sm_up_ne, nI_add, nI_lt2, nI_le2, nI_eq2, ls_set0, ls_setS, Nat.reduceAdd, Nat.zero_add, Nat.add_zero, not_true_eq_false, not_false_eq_true, ite_true, ite_false, nI_rem3, nI_div2, nI_sub2, q_max_nI, q_min_nI, t_isWalker, h1, h2, h3, h4, h5, q]
        · simp (disch := first | assumption | omega) only [w_TwoPrints_go_0, w_TwoPrints_go_1, w_TwoPrints_go_4, w_TwoPrints_go_7, w_TwoPrints_go_8, w_TwoPrints_go_11, w_TwoPrints_go_12, w_TwoPrints_go_14, w_TwoPrints_go_17, w_TwoPrints_go_18, w_TwoPrints_go_21, w_TwoPrints_go_22, w_TwoPrints_go_25, w_TwoPrints_go_28, w_TwoPrints_go_30, w_TwoPrints_go_33, w_TwoPrints_go_35, w_TwoPrints_go_36, w_TwoPrints_go_39, w_TwoPrints_go_40, w_TwoPrints_go_41, w_TwoPrints_go_42, w_TwoPrints_go_44, w_TwoPrints_go_46, w_TwoPrints_go_48, w_TwoPrints_go_50, w_TwoPrints_go_52, w_TwoPrints_go_53, q_rd_eq, q_nt_0, q_nt_s, q_ld_tab, q_st_tab, q_aa13, q_aa14, q_is_eq, q_wr_eq, q_01_0, q_01_1, q_nz_nI, q_len_tab, psh_some, psh_none, sm_up_at, sm_up_ne, nI_add, nI_lt2, nI_le2, nI_eq2, ls_set0, ls_setS, Nat.reduceAdd, Nat.zero_add, Nat.add_zero, not_true_eq_false, not_false_eq_true, ite_true, ite_false, nI_rem3, nI_div2, nI_sub2, q_max_nI, q_min_nI, t_isWalker, h1, h2, h3, h4, h5, q, q2, q3]
      · rcases inr_x (by omega) hw with q | ⟨q, q2, q3⟩
        · simp (disch := first | assumption | omega) only [w_TwoPrints_go_0, w_TwoPrints_go_1, w_TwoPrints_go_4, w_TwoPrints_go_7, w_TwoPrints_go_8, w_TwoPrints_go_11, w_TwoPrints_go_12, w_TwoPrints_go_14, w_TwoPrints_go_17, w_TwoPrints_go_18, w_TwoPrints_go_21, w_TwoPrints_go_22, w_TwoPrints_go_25, w_TwoPrints_go_28, w_TwoPrints_go_30, w_TwoPrints_go_33, w_TwoPrints_go_35, w_TwoPrints_go_36, w_TwoPrints_go_39, w_TwoPrints_go_40, w_TwoPrints_go_41, w_TwoPrints_go_42, w_TwoPrints_go_44, w_TwoPrints_go_46, w_TwoPrints_go_48, w_TwoPrints_go_50, w_TwoPrints_go_52, w_TwoPrints_go_53, q_rd_eq, q_nt_0, q_nt_s, q_ld_tab, q_st_tab, q_aa13, q_aa14, q_is_eq, q_wr_eq, q_01_0, q_01_1, q_nz_nI, q_len_tab, psh_some, psh_none, sm_up_at, sm_up_ne, nI_add, nI_lt2, nI_le2, nI_eq2, ls_set0, ls_setS, Nat.reduceAdd, Nat.zero_add, Nat.add_zero, not_true_eq_false, not_false_eq_true, ite_true, ite_false, nI_rem3, nI_div2, nI_sub2, q_max_nI, q_min_nI, t_isWalker, h1, h2, h3, q]
        · simp (disch := first | assumption | omega) only [w_TwoPrints_go_0, w_TwoPrints_go_1, w_TwoPrints_go_4, w_TwoPrints_go_7, w_TwoPrints_go_8, w_TwoPrints_go_11, w_TwoPrints_go_12, w_TwoPrints_go_14, w_TwoPrints_go_17, w_TwoPrints_go_18, w_TwoPrints_go_21, w_TwoPrints_go_22, w_TwoPrints_go_25, w_TwoPrints_go_28, w_TwoPrints_go_30, w_TwoPrints_go_33, w_TwoPrints_go_35, w_TwoPrints_go_36, w_TwoPrints_go_39, w_TwoPrints_go_40, w_TwoPrints_go_41, w_TwoPrints_go_42, w_TwoPrints_go_44, w_TwoPrints_go_46, w_TwoPrints_go_48, w_TwoPrints_go_50, w_TwoPrints_go_52, w_TwoPrints_go_53, q_rd_eq, q_nt_0, q_nt_s, q_ld_tab, q_st_tab, q_aa13, q_aa14, q_is_eq, q_wr_eq, q_01_0, q_01_1, q_nz_nI, q_len_tab, psh_some, psh_none, sm_up_at, sm_up_ne, nI_add, nI_lt2, nI_le2, nI_eq2, ls_set0, ls_setS, Nat.reduceAdd, Nat.zero_add, Nat.add_zero, not_true_eq_false, not_false_eq_true, ite_true, ite_false, nI_rem3, nI_div2, nI_sub2, q_max_nI, q_min_nI, t_isWalker, h1, h2, h3, q, q2, q3]
    · rcases inr_x (by omega) hu with q | ⟨q, q2, q3⟩
      · simp (disch := first | assumption | omega) only [w_TwoPrints_go_0, w_TwoPrints_go_1, w_TwoPrints_go_4, w_TwoPrints_go_7, w_TwoPrints_go_8, w_TwoPrints_go_11, w_TwoPrints_go_12, w_TwoPrints_go_14, w_TwoPrints_go_17, w_TwoPrints_go_18, w_TwoPrints_go_21, w_TwoPrints_go_22, w_TwoPrints_go_25, w_TwoPrints_go_28, w_TwoPrints_go_30, w_TwoPrints_go_33, w_TwoPrints_go_35, w_TwoPrints_go_36, w_TwoPrints_go_39, w_TwoPrints_go_40, w_TwoPrints_go_41, w_TwoPrints_go_42, w_TwoPrints_go_44, w_TwoPrints_go_46, w_TwoPrints_go_48, w_TwoPrints_go_50, w_TwoPrints_go_52, w_TwoPrints_go_53, q_rd_eq, q_nt_0, q_nt_s, q_ld_tab, q_st_tab, q_aa13, q_aa14, q_is_eq, q_wr_eq, q_01_0, q_01_1, q_nz_nI, q_len_tab, psh_some, psh_none, sm_up_at, sm_up_ne, nI_add, nI_lt2, nI_le2, nI_eq2, ls_set0, ls_setS, Nat.reduceAdd, Nat.zero_add, Nat.add_zero, not_true_eq_false, not_false_eq_true, ite_true, ite_false, nI_rem3, nI_div2, nI_sub2, q_max_nI, q_min_nI, t_isWalker, h1, q]
      · simp (disch := first | assumption | omega) only [w_TwoPrints_go_0, w_TwoPrints_go_1, w_TwoPrints_go_4, w_TwoPrints_go_7, w_TwoPrints_go_8, w_TwoPrints_go_11, w_TwoPrints_go_12, w_TwoPrints_go_14, w_TwoPrints_go_17, w_TwoPrints_go_18, w_TwoPrints_go_21, w_TwoPrints_go_22, w_TwoPrints_go_25, w_TwoPrints_go_28, w_TwoPrints_go_30, w_TwoPrints_go_33, w_TwoPrints_go_35, w_TwoPrints_go_36, w_TwoPrints_go_39, w_TwoPrints_go_40, w_TwoPrints_go_41, w_TwoPrints_go_42, w_TwoPrints_go_44, w_TwoPrints_go_46, w_TwoPrints_go_48, w_TwoPrints_go_50, w_TwoPrints_go_52, w_TwoPrints_go_53, q_rd_eq, q_nt_0, q_nt_s, q_ld_tab, q_st_tab, q_aa13, q_aa14, q_is_eq, q_wr_eq, q_01_0, q_01_1, q_nz_nI, q_len_tab, psh_some, psh_none, sm_up_at, sm_up_ne, nI_add, nI_lt2, nI_le2, nI_eq2, ls_set0, ls_setS, Nat.reduceAdd, Nat.zero_add, Nat.add_zero, not_true_eq_false, not_false_eq_true, ite_true, ite_false, nI_rem3, nI_div2, nI_sub2, q_max_nI, q_min_nI, t_isWalker, h1, q, q2, q3]
  · simp (disch := first | assumption | omega) only [w_TwoPrints_go_0, w_TwoPrints_go_1, w_TwoPrints_go_4, w_TwoPrints_go_7, w_TwoPrints_go_8, w_TwoPrints_go_11, w_TwoPrints_go_12, w_TwoPrints_go_14, w_TwoPrints_go_17, w_TwoPrints_go_18, w_TwoPrints_go_21, w_TwoPrints_go_22, w_TwoPrints_go_25, w_TwoPrints_go_28, w_TwoPrints_go_30, w_TwoPrints_go_33, w_TwoPrints_go_35, w_TwoPrints_go_36, w_TwoPrints_go_39, w_TwoPrints_go_40, w_TwoPrints_go_41, w_TwoPrints_go_42, w_TwoPrints_go_44, w_TwoPrints_go_46, w_TwoPrints_go_48, w_TwoPrints_go_50, w_TwoPrints_go_52, w_TwoPrints_go_53, q_rd_eq, q_nt_0, q_nt_s, q_ld_tab, q_st_tab, q_aa13, q_aa14, q_is_eq, q_wr_eq, q_01_0, q_01_1, q_nz_nI, q_len_tab, psh_some, psh_none, sm_up_at, sm_up_ne, nI_add, nI_lt2, nI_le2, nI_eq2, ls_set0, ls_setS, Nat.reduceAdd, Nat.zero_add, Nat.add_zero, not_true_eq_false, not_false_eq_true, ite_true, ite_false, nI_rem3, nI_div2, nI_sub2, q_max_nI, q_min_nI, f_isWalker]
/-! strangers -/
def stS (B : Nat → Nat → Bool) (a d : Nat) (q : Nat × Int32) : Nat × Int32 := if B a d = true then (q.1 + 1, if q.1 = 0 then nI (10 * a + d) else q.2) else q
def stI (B : Nat → Nat → Bool) (a : Nat) (q : Nat × Int32) : Nat → Nat × Int32
  | 0 => q
  | i + 1 => stS B a (2 + i) (stI B a q i)
def stO (B : Nat → Nat → Bool) : Nat → Nat × Int32
  | 0 => (0, -9)
  | a + 1 => stI B a (stO B a) 8
theorem stS_le (B : Nat → Nat → Bool) (a d : Nat) (q : Nat × Int32) : (stS B a d q).1 ≤ q.1 + 1 := by
  unfold stS
  split
  · exact Nat.le_refl _
  · exact Nat.le_succ _
theorem stI_le (B : Nat → Nat → Bool) (a : Nat) (q : Nat × Int32) : ∀ i, (stI B a q i).1 ≤ q.1 + i
  | 0 => Nat.le_refl _
  | i + 1 => by
    have h1 := stI_le B a q i
    have h2 := stS_le B a (2 + i) (stI B a q i)
    show (stS B a (2 + i) (stI B a q i)).1 ≤ _
    omega
theorem stO_le (B : Nat → Nat → Bool) : ∀ a, (stO B a).1 ≤ 8 * a
  | 0 => Nat.le_refl _
  | a + 1 => by
    have h1 := stO_le B a
    have h2 := stI_le B a (stO B a) 8
    show (stI B a (stO B a) 8).1 ≤ _
    omega
theorem stS_congr {B B' : Nat → Nat → Bool} {a d : Nat} {q : Nat × Int32} (e : B a d = B' a d) : stS B a d q = stS B' a d q := by unfold stS; rw [e]
theorem stI_congr {B B' : Nat → Nat → Bool} {a : Nat} {q : Nat × Int32} : ∀ i, (∀ d, 2 ≤ d → d < 2 + i → B a d = B' a d) → stI B a q i = stI B' a q i
  | 0, _ => rfl
  | i + 1, e => by
    show stS B a (2 + i) (stI B a q i) = stS B' a (2 + i) (stI B' a q i)
    rw [stI_congr i (fun d h1 h2 => e d h1 (by omega)), stS_congr (e (2 + i) (by omega) (by omega))]
theorem stO_congr {B B' : Nat → Nat → Bool} : ∀ a, (∀ a' d, a' < a → 2 ≤ d → d ≤ 9 → B a' d = B' a' d) → stO B a = stO B' a
  | 0, _ => rfl
  | a + 1, e => by
    show stI B a (stO B a) 8 = stI B' a (stO B' a) 8
    rw [stO_congr a (fun a' d h1 h2 h3 => e a' d (by omega) h2 h3)]
    exact stI_congr 8 (fun d h1 h2 => e a d (by omega) h1 (by omega))
def strB (s : CS) (a d : Nat) : Bool := decide (andn s.2.2.2.2.2.1.1 (trkN s.2.1.1.1 a d 0) = 0)
theorem str_in (I : InvC h s j) (ok : StOk s) {a : Nat} (ha : a < 10) {q : Nat × Int32} (hq : q.1 ≤ 72) {w1 : Int32} : ∀ m i, i + m = 8 → Wp xs m_TwoPrints_strangers 29 [.ref 0, .int w1, .int (nI (stI (strB s) a q i).1), .int (stI (strB s) a q i).2, .int (nI a), .int (nI (2 + i))] [] h 0 0 K = Wp xs m_TwoPrints_strangers 88 [.ref 0, .int w1, .int (nI (stI (strB s) a q 8).1), .int (stI (strB s) a q 8).2, .int (nI a), .int (nI 10)] [] h 0 0 K := by
  intro m
  have hl := ok.2.1.2.1
  have hf := pow61 hl ok.2.2.2.2.2.1
  have h61 : (2 : Nat) ^ 61 = 2305843009213693952 := by decide
  have H := I.pt
  induction m with
  | zero =>
    intro i hi
    have e1 : i = 8 := by omega
    subst e1
    have h1 : (9 : Nat) < 10 := by omega
    rw [w_TwoPrints_strangers_29]
    simp (disch := omega) only [w_TwoPrints_strangers_31, w_TwoPrints_strangers_33, w_TwoPrints_strangers_36, w_TwoPrints_strangers_37, w_TwoPrints_strangers_40, w_TwoPrints_strangers_41, w_TwoPrints_strangers_44, w_TwoPrints_strangers_46, w_TwoPrints_strangers_48, w_TwoPrints_strangers_49, w_TwoPrints_strangers_52, w_TwoPrints_strangers_55, w_TwoPrints_strangers_56, w_TwoPrints_strangers_57, w_TwoPrints_strangers_58, w_TwoPrints_strangers_59, w_TwoPrints_strangers_62, w_TwoPrints_strangers_63, w_TwoPrints_strangers_66, w_TwoPrints_strangers_68, w_TwoPrints_strangers_70, w_TwoPrints_strangers_71, w_TwoPrints_strangers_73, w_TwoPrints_strangers_74, w_TwoPrints_strangers_77, w_TwoPrints_strangers_78, w_TwoPrints_strangers_79, w_TwoPrints_strangers_82, w_TwoPrints_strangers_85, q_rd_eq, q_nt_0, q_nt_s, q_ld_tab, q_st_tab, q_aa13, q_aa14, q_is_eq, q_wr_eq, q_01_0, q_01_1, q_nz_nI, q_len_tab, psh_some, psh_none, sm_up_at, sm_up_ne, nI_add, nI_lt2, nI_le2, nI_eq2, ls_set0, ls_setS, Nat.reduceAdd, Nat.zero_add, Nat.add_zero, not_true_eq_false, not_false_eq_true, ite_true, ite_false, nI_rem3, nI_div2, nI_sub2, q_max_nI, q_min_nI, h1]
  | succ m ih =>
    intro i hi
    have h1 : ¬ 9 < 2 + i := by omega
    have e1 := ih (i + 1) (by omega)
    have hle := stI_le (strB s) a q i
    have es : stI (strB s) a q (i + 1) = if strB s a (2 + i) = true then ((stI (strB s) a q i).1 + 1, if (stI (strB s) a q i).1 = 0 then nI (10 * a + (2 + i)) else (stI (strB s) a q i).2) else stI (strB s) a q i := rfl
    have ha2 : andn s.2.2.2.2.2.1.1 (trkN s.2.1.1.1 a (2 + i) 0) < 9223372036854775808 := by
      have := andn_lt (t := trkN s.2.1.1.1 a (2 + i) 0) hf
      omega
    have et : ∀ K, Wp xs m_Path_trackOf 0 [.ref (cLp j), .int (nI a), .int (nI (2 + i)), .int (nI 0), .null, .null, .null, .null] [] h 0 0 K = _ := fun K => p_trackOf H hl (by omega) (by omega) (by omega) (by omega)
    rw [← Nat.add_assoc] at e1
    rw [w_TwoPrints_strangers_29]
    have h01 : ¬ (1 : Nat) = 0 := by omega
    by_cases hc : andn s.2.2.2.2.2.1.1 (trkN s.2.1.1.1 a (2 + i) 0) = 0
    · have hB : strB s a (2 + i) = true := decide_eq_true hc
      rw [es, if_pos hB] at e1
      by_cases h0 : (stI (strB s) a q i).1 = 0
      · rw [if_pos h0, h0] at e1
        rw [h0]
        simp (disch := omega) only [w_TwoPrints_strangers_31, w_TwoPrints_strangers_33, w_TwoPrints_strangers_36, w_TwoPrints_strangers_37, w_TwoPrints_strangers_40, w_TwoPrints_strangers_41, w_TwoPrints_strangers_44, w_TwoPrints_strangers_46, w_TwoPrints_strangers_48, w_TwoPrints_strangers_49, w_TwoPrints_strangers_52, w_TwoPrints_strangers_55, w_TwoPrints_strangers_56, w_TwoPrints_strangers_57, w_TwoPrints_strangers_58, w_TwoPrints_strangers_59, w_TwoPrints_strangers_62, w_TwoPrints_strangers_63, w_TwoPrints_strangers_66, w_TwoPrints_strangers_68, w_TwoPrints_strangers_70, w_TwoPrints_strangers_71, w_TwoPrints_strangers_73, w_TwoPrints_strangers_74, w_TwoPrints_strangers_77, w_TwoPrints_strangers_78, w_TwoPrints_strangers_79, w_TwoPrints_strangers_82, w_TwoPrints_strangers_85, q_rd_eq, q_nt_0, q_nt_s, q_ld_tab, q_st_tab, q_aa13, q_aa14, q_is_eq, q_wr_eq, q_01_0, q_01_1, q_nz_nI, q_len_tab, psh_some, psh_none, sm_up_at, sm_up_ne, nI_add, nI_lt2, nI_le2, nI_eq2, ls_set0, ls_setS, Nat.reduceAdd, Nat.zero_add, Nat.add_zero, not_true_eq_false, not_false_eq_true, ite_true, ite_false, nI_rem3, nI_div2, nI_sub2, q_max_nI, q_min_nI, h1, I.o0, I.pt.c0, et, bl_andn, bl_cmp0, hc, if_true, pk_mul]
        exact e1
      · rw [if_neg h0] at e1
        simp (disch := omega) only [w_TwoPrints_strangers_31, w_TwoPrints_strangers_33, w_TwoPrints_strangers_36, w_TwoPrints_strangers_37, w_TwoPrints_strangers_40, w_TwoPrints_strangers_41, w_TwoPrints_strangers_44, w_TwoPrints_strangers_46, w_TwoPrints_strangers_48, w_TwoPrints_strangers_49, w_TwoPrints_strangers_52, w_TwoPrints_strangers_55, w_TwoPrints_strangers_56, w_TwoPrints_strangers_57, w_TwoPrints_strangers_58, w_TwoPrints_strangers_59, w_TwoPrints_strangers_62, w_TwoPrints_strangers_63, w_TwoPrints_strangers_66, w_TwoPrints_strangers_68, w_TwoPrints_strangers_70, w_TwoPrints_strangers_71, w_TwoPrints_strangers_73, w_TwoPrints_strangers_74, w_TwoPrints_strangers_77, w_TwoPrints_strangers_78, w_TwoPrints_strangers_79, w_TwoPrints_strangers_82, w_TwoPrints_strangers_85, q_rd_eq, q_nt_0, q_nt_s, q_ld_tab, q_st_tab, q_aa13, q_aa14, q_is_eq, q_wr_eq, q_01_0, q_01_1, q_nz_nI, q_len_tab, psh_some, psh_none, sm_up_at, sm_up_ne, nI_add, nI_lt2, nI_le2, nI_eq2, ls_set0, ls_setS, Nat.reduceAdd, Nat.zero_add, Nat.add_zero, not_true_eq_false, not_false_eq_true, ite_true, ite_false, nI_rem3, nI_div2, nI_sub2, q_max_nI, q_min_nI, h1, I.o0, I.pt.c0, et, bl_andn, bl_cmp0, hc, if_true, pk_mul, h0]
        exact e1
    · rw [es, if_neg (by unfold strB; rw [decide_eq_false hc]; decide)] at e1
      simp (disch := omega) only [w_TwoPrints_strangers_31, w_TwoPrints_strangers_33, w_TwoPrints_strangers_36, w_TwoPrints_strangers_37, w_TwoPrints_strangers_40, w_TwoPrints_strangers_41, w_TwoPrints_strangers_44, w_TwoPrints_strangers_46, w_TwoPrints_strangers_48, w_TwoPrints_strangers_49, w_TwoPrints_strangers_52, w_TwoPrints_strangers_55, w_TwoPrints_strangers_56, w_TwoPrints_strangers_57, w_TwoPrints_strangers_58, w_TwoPrints_strangers_59, w_TwoPrints_strangers_62, w_TwoPrints_strangers_63, w_TwoPrints_strangers_66, w_TwoPrints_strangers_68, w_TwoPrints_strangers_70, w_TwoPrints_strangers_71, w_TwoPrints_strangers_73, w_TwoPrints_strangers_74, w_TwoPrints_strangers_77, w_TwoPrints_strangers_78, w_TwoPrints_strangers_79, w_TwoPrints_strangers_82, w_TwoPrints_strangers_85, q_rd_eq, q_nt_0, q_nt_s, q_ld_tab, q_st_tab, q_aa13, q_aa14, q_is_eq, q_wr_eq, q_01_0, q_01_1, q_nz_nI, q_len_tab, psh_some, psh_none, sm_up_at, sm_up_ne, nI_add, nI_lt2, nI_le2, nI_eq2, ls_set0, ls_setS, Nat.reduceAdd, Nat.zero_add, Nat.add_zero, not_true_eq_false, not_false_eq_true, ite_true, ite_false, nI_rem3, nI_div2, nI_sub2, q_max_nI, q_min_nI, h1, I.o0, I.pt.c0, et, bl_andn, bl_cmp0, hc, if_false, h01]
      exact e1
theorem str_out (I : InvC h s j) (ok : StOk s) {w1 : Int32} : ∀ m a a5, a + m = 10 → Wp xs m_TwoPrints_strangers 19 [.ref 0, .int w1, .int (nI (stO (strB s) a).1), .int (stO (strB s) a).2, .int (nI a), a5] [] h 0 0 K = Wp xs m_TwoPrints_strangers 94 [.ref 0, .int w1, .int (nI (stO (strB s) 10).1), .int (stO (strB s) 10).2, .int (nI 10), if m = 0 then a5 else .int (nI 10)] [] h 0 0 K := by
  intro m
  induction m with
  | zero =>
    intro a a5 hi
    have e1 : a = 10 := by omega
    subst e1
    have h1 : (9 : Nat) < 10 := by omega
    rw [w_TwoPrints_strangers_19]
    simp (disch := omega) only [w_TwoPrints_strangers_21, w_TwoPrints_strangers_23, w_TwoPrints_strangers_26, w_TwoPrints_strangers_27, q_rd_eq, q_nt_0, q_nt_s, q_ld_tab, q_st_tab, q_aa13, q_aa14, q_is_eq, q_wr_eq, q_01_0, q_01_1, q_nz_nI, q_len_tab, psh_some, psh_none, sm_up_at, sm_up_ne, nI_add, nI_lt2, nI_le2, nI_eq2, ls_set0, ls_setS, Nat.reduceAdd, Nat.zero_add, Nat.add_zero, not_true_eq_false, not_false_eq_true, ite_true, ite_false, nI_rem3, nI_div2, nI_sub2, q_max_nI, q_min_nI, h1, if_true]
  | succ m ih =>
    intro a a5 hi
    have h1 : ¬ 9 < a := by omega
    have hle := stO_le (strB s) a
    rw [w_TwoPrints_strangers_19]
    simp (disch := omega) only [w_TwoPrints_strangers_21, w_TwoPrints_strangers_23, w_TwoPrints_strangers_26, w_TwoPrints_strangers_27, q_rd_eq, q_nt_0, q_nt_s, q_ld_tab, q_st_tab, q_aa13, q_aa14, q_is_eq, q_wr_eq, q_01_0, q_01_1, q_nz_nI, q_len_tab, psh_some, psh_none, sm_up_at, sm_up_ne, nI_add, nI_lt2, nI_le2, nI_eq2, ls_set0, ls_setS, Nat.reduceAdd, Nat.zero_add, Nat.add_zero, not_true_eq_false, not_false_eq_true, ite_true, ite_false, nI_rem3, nI_div2, nI_sub2, q_max_nI, q_min_nI, h1]
    refine Eq.trans (str_in (q := stO (strB s) a) I ok (by omega) (by omega) 8 0 (by omega)) ?_
    simp (disch := omega) only [w_TwoPrints_strangers_88, w_TwoPrints_strangers_91, q_rd_eq, q_nt_0, q_nt_s, q_ld_tab, q_st_tab, q_aa13, q_aa14, q_is_eq, q_wr_eq, q_01_0, q_01_1, q_nz_nI, q_len_tab, psh_some, psh_none, sm_up_at, sm_up_ne, nI_add, nI_lt2, nI_le2, nI_eq2, ls_set0, ls_setS, Nat.reduceAdd, Nat.zero_add, Nat.add_zero, not_true_eq_false, not_false_eq_true, ite_true, ite_false, nI_rem3, nI_div2, nI_sub2, q_max_nI, q_min_nI]
    refine Eq.trans (ih (a + 1) (.int (nI 10)) (by omega)) ?_
    rw [if_neg (show ¬ m + 1 = 0 by omega)]
    have e2 : (if m = 0 then Value.int (nI 10) else .int (nI 10)) = .int (nI 10) := by split <;> rfl
    rw [e2]
def aStr (B : Nat → Nat → Bool) (n : Nat) : Int32 := if n = 0 then nI (stO B 10).1 else (stO B 10).2
theorem c_strangers (I : InvC h s j) (ok : StOk s) (hn : n < 2) : Wp xs m_TwoPrints_strangers 0 [.ref 0, .int (nI n), .null, .null, .null, .null] [] h 0 0 K = K (some (.int (aStr (strB s) n))) h := by
  have h6 : ¬ n < 0 := by omega
  have h7 : n ≤ 1 := by omega
  simp (disch := first | assumption | omega) only [w_TwoPrints_strangers_0, w_TwoPrints_strangers_1, w_TwoPrints_strangers_4, w_TwoPrints_strangers_5, w_TwoPrints_strangers_6, w_TwoPrints_strangers_9, w_TwoPrints_strangers_10, w_TwoPrints_strangers_11, w_TwoPrints_strangers_12, w_TwoPrints_strangers_13, w_TwoPrints_strangers_15, w_TwoPrints_strangers_16, w_TwoPrints_strangers_17, q_rd_eq, q_nt_0, q_nt_s, q_ld_tab, q_st_tab, q_aa13, q_aa14, q_is_eq, q_wr_eq, q_01_0, q_01_1, q_nz_nI, q_len_tab, psh_some, psh_none, sm_up_at, sm_up_ne, nI_add, nI_lt2, nI_le2, nI_eq2, ls_set0, ls_setS, Nat.reduceAdd, Nat.zero_add, Nat.add_zero, not_true_eq_false, not_false_eq_true, ite_true, ite_false, nI_rem3, nI_div2, nI_sub2, q_max_nI, q_min_nI, h6, h7]
  refine Eq.trans (str_out I ok 10 0 .null (by omega)) ?_
  unfold aStr
  by_cases c0 : n = 0
  · rw [if_pos c0]
    simp (disch := first | assumption | omega) only [w_TwoPrints_strangers_94, w_TwoPrints_strangers_95, w_TwoPrints_strangers_98, w_TwoPrints_strangers_99, w_TwoPrints_strangers_102, w_TwoPrints_strangers_103, q_rd_eq, q_nt_0, q_nt_s, q_ld_tab, q_st_tab, q_aa13, q_aa14, q_is_eq, q_wr_eq, q_01_0, q_01_1, q_nz_nI, q_len_tab, psh_some, psh_none, sm_up_at, sm_up_ne, nI_add, nI_lt2, nI_le2, nI_eq2, ls_set0, ls_setS, Nat.reduceAdd, Nat.zero_add, Nat.add_zero, not_true_eq_false, not_false_eq_true, ite_true, ite_false, nI_rem3, nI_div2, nI_sub2, q_max_nI, q_min_nI, c0]
  · rw [if_neg c0]
    simp (disch := first | assumption | omega) only [w_TwoPrints_strangers_94, w_TwoPrints_strangers_95, w_TwoPrints_strangers_98, w_TwoPrints_strangers_99, w_TwoPrints_strangers_102, w_TwoPrints_strangers_103, q_rd_eq, q_nt_0, q_nt_s, q_ld_tab, q_st_tab, q_aa13, q_aa14, q_is_eq, q_wr_eq, q_01_0, q_01_1, q_nz_nI, q_len_tab, psh_some, psh_none, sm_up_at, sm_up_ne, nI_add, nI_lt2, nI_le2, nI_eq2, ls_set0, ls_setS, Nat.reduceAdd, Nat.zero_add, Nat.add_zero, not_true_eq_false, not_false_eq_true, ite_true, ite_false, nI_rem3, nI_div2, nI_sub2, q_max_nI, q_min_nI, c0]
theorem c_strangersX (hu : ¬ inr u 2) : Wp xs m_TwoPrints_strangers 0 [.ref 0, .int u, .null, .null, .null, .null] [] h 0 0 K = K (some (.int (-1))) h := by
  rcases inr_x (by omega) hu with q | ⟨q, q2, q3⟩
  · simp (disch := first | assumption | omega) only [w_TwoPrints_strangers_0, w_TwoPrints_strangers_1, w_TwoPrints_strangers_4, w_TwoPrints_strangers_5, w_TwoPrints_strangers_6, w_TwoPrints_strangers_9, w_TwoPrints_strangers_10, w_TwoPrints_strangers_11, w_TwoPrints_strangers_12, w_TwoPrints_strangers_13, w_TwoPrints_strangers_15, w_TwoPrints_strangers_16, w_TwoPrints_strangers_17, q_rd_eq, q_nt_0, q_nt_s, q_ld_tab, q_st_tab, q_aa13, q_aa14, q_is_eq, q_wr_eq, q_01_0, q_01_1, q_nz_nI, q_len_tab, psh_some, psh_none, sm_up_at, sm_up_ne, nI_add, nI_lt2, nI_le2, nI_eq2, ls_set0, ls_setS, Nat.reduceAdd, Nat.zero_add, Nat.add_zero, not_true_eq_false, not_false_eq_true, ite_true, ite_false, nI_rem3, nI_div2, nI_sub2, q_max_nI, q_min_nI, q]
  · simp (disch := first | assumption | omega) only [w_TwoPrints_strangers_0, w_TwoPrints_strangers_1, w_TwoPrints_strangers_4, w_TwoPrints_strangers_5, w_TwoPrints_strangers_6, w_TwoPrints_strangers_9, w_TwoPrints_strangers_10, w_TwoPrints_strangers_11, w_TwoPrints_strangers_12, w_TwoPrints_strangers_13, w_TwoPrints_strangers_15, w_TwoPrints_strangers_16, w_TwoPrints_strangers_17, q_rd_eq, q_nt_0, q_nt_s, q_ld_tab, q_st_tab, q_aa13, q_aa14, q_is_eq, q_wr_eq, q_01_0, q_01_1, q_nz_nI, q_len_tab, psh_some, psh_none, sm_up_at, sm_up_ne, nI_add, nI_lt2, nI_le2, nI_eq2, ls_set0, ls_setS, Nat.reduceAdd, Nat.zero_add, Nat.add_zero, not_true_eq_false, not_false_eq_true, ite_true, ite_false, nI_rem3, nI_div2, nI_sub2, q_max_nI, q_min_nI, q, q2, q3]
end ODD
