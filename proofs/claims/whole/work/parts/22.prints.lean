/-! Prints: what is asked of them -/
section PRI
variable {xs : List Int32} {h : sm_Hp} {K : Option Value → sm_Hp → Prop} {p k n : Nat} {P : PrS}
theorem deeper_loop (hd : DepOk P) (hk : k < 2) (hn : n ≤ 9) : ∀ m x many, x + m = 61 → many = cnt (fun x => decide (n < P.1 k x)) x → Wp xs m_Prints_deeperThan 5 [.ref p, .int (nI k), .int (nI n), .int (nI many), .int (nI x)] [] (setPr h p P) 0 0 K = K (some (.int (nI (cnt (fun x => decide (n < P.1 k x)) 61)))) (setPr h p P) := by
  intro m
  induction m with
  | zero =>
    intro x many hx hm
    have : x = 61 := by omega
    subst this
    simp (disch := omega) only [w_Prints_deeperThan_0, w_Prints_deeperThan_1, w_Prints_deeperThan_2, w_Prints_deeperThan_3, w_Prints_deeperThan_5, w_Prints_deeperThan_7, w_Prints_deeperThan_9, w_Prints_deeperThan_12, w_Prints_deeperThan_13, w_Prints_deeperThan_16, w_Prints_deeperThan_17, w_Prints_deeperThan_18, w_Prints_deeperThan_20, w_Prints_deeperThan_21, w_Prints_deeperThan_22, w_Prints_deeperThan_25, w_Prints_deeperThan_28, w_Prints_deeperThan_31, w_Prints_deeperThan_34, w_Prints_deeperThan_35, q_rd_eq, q_nt_0, q_nt_s, q_ld_tab, q_st_tab, q_aa13, q_aa14, q_is_eq, q_wr_eq, q_01_0, q_01_1, q_nz_nI, q_len_tab, psh_some, psh_none, sm_up_at, sm_up_ne, nI_add, nI_lt2, nI_le2, nI_eq2, ls_set0, ls_setS, Nat.reduceAdd, Nat.zero_add, Nat.add_zero, not_true_eq_false, not_false_eq_true, ite_true, ite_false, Nat.le_refl, hm]
  | succ m ih =>
    intro x many hx hm
    rw [w_Prints_deeperThan_5]
    have h1 : ¬ 61 ≤ x := by omega
    have h9 := hd k x
    simp (disch := omega) only [w_Prints_deeperThan_0, w_Prints_deeperThan_1, w_Prints_deeperThan_2, w_Prints_deeperThan_3, w_Prints_deeperThan_7, w_Prints_deeperThan_9, w_Prints_deeperThan_12, w_Prints_deeperThan_13, w_Prints_deeperThan_16, w_Prints_deeperThan_17, w_Prints_deeperThan_18, w_Prints_deeperThan_20, w_Prints_deeperThan_21, w_Prints_deeperThan_22, w_Prints_deeperThan_25, w_Prints_deeperThan_28, w_Prints_deeperThan_31, w_Prints_deeperThan_34, w_Prints_deeperThan_35, q_rd_eq, q_nt_0, q_nt_s, q_ld_tab, q_st_tab, q_aa13, q_aa14, q_is_eq, q_wr_eq, q_01_0, q_01_1, q_nz_nI, q_len_tab, psh_some, psh_none, sm_up_at, sm_up_ne, nI_add, nI_lt2, nI_le2, nI_eq2, ls_set0, ls_setS, Nat.reduceAdd, Nat.zero_add, Nat.add_zero, not_true_eq_false, not_false_eq_true, ite_true, ite_false, pr0, pr1, pr2, h1]
    by_cases hc : P.1 k x ≤ n
    · rw [if_pos hc]
      exact ih (x + 1) many (by omega) (by rw [hm]; simp [cnt, hc])
    · rw [if_neg hc]
      exact ih (x + 1) (many + 1) (by omega) (by rw [hm]; simp [cnt]; omega)
theorem e_deeper (hd : DepOk P) (hk : k < 2) (hn : n ≤ 9) : Wp xs m_Prints_deeperThan 0 [.ref p, .int (nI k), .int (nI n), .null, .null] [] (setPr h p P) 0 0 K = K (some (.int (nI (cnt (fun x => decide (n < P.1 k x)) 61)))) (setPr h p P) := by
  simp (disch := omega) only [w_Prints_deeperThan_0, w_Prints_deeperThan_1, w_Prints_deeperThan_2, w_Prints_deeperThan_3, w_Prints_deeperThan_7, w_Prints_deeperThan_9, w_Prints_deeperThan_12, w_Prints_deeperThan_13, w_Prints_deeperThan_16, w_Prints_deeperThan_17, w_Prints_deeperThan_18, w_Prints_deeperThan_20, w_Prints_deeperThan_21, w_Prints_deeperThan_22, w_Prints_deeperThan_25, w_Prints_deeperThan_28, w_Prints_deeperThan_31, w_Prints_deeperThan_34, w_Prints_deeperThan_35, q_rd_eq, q_nt_0, q_nt_s, q_ld_tab, q_st_tab, q_aa13, q_aa14, q_is_eq, q_wr_eq, q_01_0, q_01_1, q_nz_nI, q_len_tab, psh_some, psh_none, sm_up_at, sm_up_ne, nI_add, nI_lt2, nI_le2, nI_eq2, ls_set0, ls_setS, Nat.reduceAdd, Nat.zero_add, Nat.add_zero, not_true_eq_false, not_false_eq_true, ite_true, ite_false]
  exact deeper_loop hd hk hn 61 0 0 (by omega) rfl
/-! whether there is a print, a gift -/
def hasP (P : PrS) (k x : Nat) : Bool := decide (0 < P.1 k x)
def b2n (b : Bool) : Nat := if b = true then 1 else 0
theorem b2n_le (b : Bool) : b2n b ≤ 1 := by cases b <;> decide
theorem b2n_0 (b : Bool) : (b2n b = 0) = (b = false) := by cases b <;> simp [b2n]
theorem nI_b2n0 (b : Bool) : (nI (b2n b) = nI 0) = (b = false) := by rw [nI_eq2 (by have := b2n_le b; omega) (by omega), b2n_0]
theorem e_hasPrint {x : Nat} (hd : DepOk P) (hk : k < 2) (hx : x < 61) : Wp xs m_Prints_hasPrint 0 [.ref p, .int (nI k), .int (nI x)] [] (setPr h p P) 0 0 K = K (some (.int (nI (b2n (hasP P k x))))) (setPr h p P) := by
  have h9 := hd k x
  simp (disch := omega) only [w_Prints_hasPrint_0, w_Prints_hasPrint_1, w_Prints_hasPrint_4, w_Prints_hasPrint_5, w_Prints_hasPrint_6, w_Prints_hasPrint_7, w_Prints_hasPrint_8, w_Prints_hasPrint_11, w_Prints_hasPrint_12, w_Prints_hasPrint_15, w_Prints_hasPrint_16, q_rd_eq, q_nt_0, q_nt_s, q_ld_tab, q_st_tab, q_aa13, q_aa14, q_is_eq, q_wr_eq, q_01_0, q_01_1, q_nz_nI, q_len_tab, psh_some, psh_none, sm_up_at, sm_up_ne, nI_add, nI_lt2, nI_le2, nI_eq2, ls_set0, ls_setS, Nat.reduceAdd, Nat.zero_add, Nat.add_zero, not_true_eq_false, not_false_eq_true, ite_true, ite_false, pr0, pr1, pr2]
  by_cases hc : P.1 k x ≤ 0
  · have e : hasP P k x = false := decide_eq_false (by omega)
    rw [if_pos hc, e]
    rfl
  · have e : hasP P k x = true := decide_eq_true (by omega)
    rw [if_neg hc, e]
    rfl
theorem e_hasGift {x : Nat} (hg : ∀ k, P.2.1 k < 2 ^ 61) (hk : k < 2) (hx : x < 61) : Wp xs m_Prints_hasGift 0 [.ref p, .int (nI k), .int (nI x)] [] (setPr h p P) 0 0 K = K (some (.int (nI (bitI (P.2.1 k) x)))) (setPr h p P) := by
  have h1 := hg k
  have h2 : (2 : Nat) ^ 61 = 2305843009213693952 := by decide
  have h3 := bitI_le (P.2.1 k) x
  simp (disch := omega) only [w_Prints_hasGift_0, w_Prints_hasGift_1, w_Prints_hasGift_4, w_Prints_hasGift_5, w_Prints_hasGift_6, w_Prints_hasGift_7, w_Prints_hasGift_8, w_Prints_hasGift_9, w_Prints_hasGift_10, w_Prints_hasGift_11, w_Prints_hasGift_12, w_Prints_hasGift_15, w_Prints_hasGift_16, w_Prints_hasGift_19, w_Prints_hasGift_20, q_rd_eq, q_nt_0, q_nt_s, q_ld_tab, q_st_tab, q_aa13, q_aa14, q_is_eq, q_wr_eq, q_01_0, q_01_1, q_nz_nI, q_len_tab, psh_some, psh_none, sm_up_at, sm_up_ne, nI_add, nI_lt2, nI_le2, nI_eq2, ls_set0, ls_setS, Nat.reduceAdd, Nat.zero_add, Nat.add_zero, not_true_eq_false, not_false_eq_true, ite_true, ite_false, pr0, pr4, bl_test]
  by_cases hc : bitI (P.2.1 k) x = 0
  · rw [if_pos hc, hc]
  · have : bitI (P.2.1 k) x = 1 := by omega
    rw [if_neg hc, this]
/-! ofBoth, feetOfBoth, leastRainForPeace -/
def nPr (P : PrS) (k n : Nat) : Nat := cnt (fun x => decide (n < P.1 k x)) 61
theorem nPr_le (P : PrS) (k n : Nat) : nPr P k n ≤ 61 := cnt_le _ 61
theorem e_ofBoth (hd : DepOk P) : Wp xs m_Prints_ofBoth 0 [.ref p] [] (setPr h p P) 0 0 K = K (some (.int (nI (nPr P 0 0 + nPr P 1 0)))) (setPr h p P) := by
  simp (disch := first | exact hd | omega) only [w_Prints_ofBoth_0, w_Prints_ofBoth_1, w_Prints_ofBoth_2, w_Prints_ofBoth_3, w_Prints_ofBoth_6, w_Prints_ofBoth_7, w_Prints_ofBoth_8, w_Prints_ofBoth_9, w_Prints_ofBoth_12, w_Prints_ofBoth_13, q_rd_eq, q_nt_0, q_nt_s, q_ld_tab, q_st_tab, q_aa13, q_aa14, q_is_eq, q_wr_eq, q_01_0, q_01_1, q_nz_nI, q_len_tab, psh_some, psh_none, sm_up_at, sm_up_ne, nI_add, nI_lt2, nI_le2, nI_eq2, ls_set0, ls_setS, Nat.reduceAdd, Nat.zero_add, Nat.add_zero, not_true_eq_false, not_false_eq_true, ite_true, ite_false, pr0, e_deeper]
  rfl
theorem feet_loop (hd : DepOk P) : ∀ m x many, x + m = 61 → many = cnt (fun x => hasP P 0 x && hasP P 1 x) x → Wp xs m_Prints_feetOfBoth 4 [.ref p, .int (nI many), .int (nI x)] [] (setPr h p P) 0 0 K = K (some (.int (nI (cnt (fun x => hasP P 0 x && hasP P 1 x) 61)))) (setPr h p P) := by
  intro m
  induction m with
  | zero =>
    intro x many hx hm
    have : x = 61 := by omega
    subst this
    simp (disch := omega) only [w_Prints_feetOfBoth_0, w_Prints_feetOfBoth_1, w_Prints_feetOfBoth_2, w_Prints_feetOfBoth_3, w_Prints_feetOfBoth_4, w_Prints_feetOfBoth_5, w_Prints_feetOfBoth_7, w_Prints_feetOfBoth_10, w_Prints_feetOfBoth_11, w_Prints_feetOfBoth_12, w_Prints_feetOfBoth_13, w_Prints_feetOfBoth_16, w_Prints_feetOfBoth_19, w_Prints_feetOfBoth_20, w_Prints_feetOfBoth_21, w_Prints_feetOfBoth_22, w_Prints_feetOfBoth_25, w_Prints_feetOfBoth_28, w_Prints_feetOfBoth_31, w_Prints_feetOfBoth_34, w_Prints_feetOfBoth_37, w_Prints_feetOfBoth_38, q_rd_eq, q_nt_0, q_nt_s, q_ld_tab, q_st_tab, q_aa13, q_aa14, q_is_eq, q_wr_eq, q_01_0, q_01_1, q_nz_nI, q_len_tab, psh_some, psh_none, sm_up_at, sm_up_ne, nI_add, nI_lt2, nI_le2, nI_eq2, ls_set0, ls_setS, Nat.reduceAdd, Nat.zero_add, Nat.add_zero, not_true_eq_false, not_false_eq_true, ite_true, ite_false, Nat.le_refl, hm]
  | succ m ih =>
    intro x many hx hm
    rw [w_Prints_feetOfBoth_4]
    have h1 : ¬ 61 ≤ x := by omega
    simp (disch := first | exact hd | omega) only [w_Prints_feetOfBoth_0, w_Prints_feetOfBoth_1, w_Prints_feetOfBoth_2, w_Prints_feetOfBoth_3, w_Prints_feetOfBoth_5, w_Prints_feetOfBoth_7, w_Prints_feetOfBoth_10, w_Prints_feetOfBoth_11, w_Prints_feetOfBoth_12, w_Prints_feetOfBoth_13, w_Prints_feetOfBoth_16, w_Prints_feetOfBoth_19, w_Prints_feetOfBoth_20, w_Prints_feetOfBoth_21, w_Prints_feetOfBoth_22, w_Prints_feetOfBoth_25, w_Prints_feetOfBoth_28, w_Prints_feetOfBoth_31, w_Prints_feetOfBoth_34, w_Prints_feetOfBoth_37, w_Prints_feetOfBoth_38, q_rd_eq, q_nt_0, q_nt_s, q_ld_tab, q_st_tab, q_aa13, q_aa14, q_is_eq, q_wr_eq, q_01_0, q_01_1, q_nz_nI, q_len_tab, psh_some, psh_none, sm_up_at, sm_up_ne, nI_add, nI_lt2, nI_le2, nI_eq2, ls_set0, ls_setS, Nat.reduceAdd, Nat.zero_add, Nat.add_zero, not_true_eq_false, not_false_eq_true, ite_true, ite_false, pr0, e_hasPrint, h1, nI_b2n0]
    cases h0 : hasP P 0 x with
    | false =>
      simp only [if_true]
      exact ih (x + 1) many (by omega) (by rw [hm]; simp [cnt, h0])
    | true =>
      cases h2 : hasP P 1 x with
      | false =>
        simp only [if_true, Bool.true_eq_false, if_false]
        exact ih (x + 1) many (by omega) (by rw [hm]; simp [cnt, h0, h2])
      | true =>
        simp only [Bool.true_eq_false, if_false]
        exact ih (x + 1) (many + 1) (by omega) (by rw [hm]; simp [cnt, h0, h2])
theorem e_feet (hd : DepOk P) : Wp xs m_Prints_feetOfBoth 0 [.ref p, .null, .null] [] (setPr h p P) 0 0 K = K (some (.int (nI (cnt (fun x => hasP P 0 x && hasP P 1 x) 61)))) (setPr h p P) := by
  simp (disch := omega) only [w_Prints_feetOfBoth_0, w_Prints_feetOfBoth_1, w_Prints_feetOfBoth_2, w_Prints_feetOfBoth_3, w_Prints_feetOfBoth_5, w_Prints_feetOfBoth_7, w_Prints_feetOfBoth_10, w_Prints_feetOfBoth_11, w_Prints_feetOfBoth_12, w_Prints_feetOfBoth_13, w_Prints_feetOfBoth_16, w_Prints_feetOfBoth_19, w_Prints_feetOfBoth_20, w_Prints_feetOfBoth_21, w_Prints_feetOfBoth_22, w_Prints_feetOfBoth_25, w_Prints_feetOfBoth_28, w_Prints_feetOfBoth_31, w_Prints_feetOfBoth_34, w_Prints_feetOfBoth_37, w_Prints_feetOfBoth_38, q_rd_eq, q_nt_0, q_nt_s, q_ld_tab, q_st_tab, q_aa13, q_aa14, q_is_eq, q_wr_eq, q_01_0, q_01_1, q_nz_nI, q_len_tab, psh_some, psh_none, sm_up_at, sm_up_ne, nI_add, nI_lt2, nI_le2, nI_eq2, ls_set0, ls_setS, Nat.reduceAdd, Nat.zero_add, Nat.add_zero, not_true_eq_false, not_false_eq_true, ite_true, ite_false]
  exact feet_loop hd 61 0 0 (by omega) rfl
theorem q_max_nI {a b : Nat} (ha : a < 2147483648) (hb : b < 2147483648) : q_max (nI a) (nI b) = nI (max a b) := by
  unfold q_max
  by_cases hc : a < b
  · rw [if_pos ((nI_ltI ha hb).mpr hc), Nat.max_eq_right (by omega)]
  · rw [if_neg (fun q => hc ((nI_ltI ha hb).mp q)), Nat.max_eq_left (by omega)]
theorem q_min_nI {a b : Nat} (ha : a < 2147483648) (hb : b < 2147483648) : q_min (nI a) (nI b) = nI (min a b) := by
  unfold q_min
  by_cases hc : b < a
  · rw [if_pos ((nI_ltI hb ha).mpr hc), Nat.min_eq_right (by omega)]
  · rw [if_neg (fun q => hc ((nI_ltI hb ha).mp q)), Nat.min_eq_left (by omega)]
theorem q_max0 {a b : Nat} (ha : a < 1073741824) (hb : b < 1073741824) : q_max (nI 0) (nI a - nI b) = nI (a - b) := by
  by_cases hab : b ≤ a
  · rw [pk_sub hab, q_max_nI (by omega) (by omega), Nat.zero_max]
  · have h1 := pk_sneg (a := a) (b := b) hb (by omega)
    unfold q_max
    rw [if_neg]
    · congr 1; omega
    · rw [nI_0]
      intro q
      have := Int32.lt_asymm h1
      exact this q
/-- the least rain by which no foot below n has prints of both -/
def peaceN (P : PrS) : Nat → Nat
  | 0 => 0
  | n + 1 => max (peaceN P n) (min (P.1 0 n) (P.1 1 n))
theorem peace_le (hd : DepOk P) : ∀ n, peaceN P n ≤ 9
  | 0 => Nat.zero_le 9
  | n + 1 => by
    have h1 := peace_le hd n
    have h2 := hd 0 n
    show max (peaceN P n) (min (P.1 0 n) (P.1 1 n)) ≤ 9
    omega
theorem peace_loop (hd : DepOk P) : ∀ m x r, x + m = 61 → r = peaceN P x → Wp xs m_Prints_leastRainForPeace 4 [.ref p, .int (nI r), .int (nI x)] [] (setPr h p P) 0 0 K = K (some (.int (nI (peaceN P 61)))) (setPr h p P) := by
  intro m
  induction m with
  | zero =>
    intro x r hx hm
    have : x = 61 := by omega
    subst this
    simp (disch := omega) only [w_Prints_leastRainForPeace_0, w_Prints_leastRainForPeace_1, w_Prints_leastRainForPeace_2, w_Prints_leastRainForPeace_3, w_Prints_leastRainForPeace_4, w_Prints_leastRainForPeace_5, w_Prints_leastRainForPeace_7, w_Prints_leastRainForPeace_10, w_Prints_leastRainForPeace_11, w_Prints_leastRainForPeace_12, w_Prints_leastRainForPeace_15, w_Prints_leastRainForPeace_16, w_Prints_leastRainForPeace_17, w_Prints_leastRainForPeace_18, w_Prints_leastRainForPeace_19, w_Prints_leastRainForPeace_20, w_Prints_leastRainForPeace_23, w_Prints_leastRainForPeace_24, w_Prints_leastRainForPeace_25, w_Prints_leastRainForPeace_26, w_Prints_leastRainForPeace_27, w_Prints_leastRainForPeace_30, w_Prints_leastRainForPeace_33, w_Prints_leastRainForPeace_34, w_Prints_leastRainForPeace_37, w_Prints_leastRainForPeace_40, w_Prints_leastRainForPeace_41, q_rd_eq, q_nt_0, q_nt_s, q_ld_tab, q_st_tab, q_aa13, q_aa14, q_is_eq, q_wr_eq, q_01_0, q_01_1, q_nz_nI, q_len_tab, psh_some, psh_none, sm_up_at, sm_up_ne, nI_add, nI_lt2, nI_le2, nI_eq2, ls_set0, ls_setS, Nat.reduceAdd, Nat.zero_add, Nat.add_zero, not_true_eq_false, not_false_eq_true, ite_true, ite_false, Nat.le_refl, hm]
  | succ m ih =>
    intro x r hx hm
    rw [w_Prints_leastRainForPeace_4]
    have h1 : ¬ 61 ≤ x := by omega
    have h2 := hd 0 x
    have h3 := hd 1 x
    have h4 := peace_le hd x
    have c0 : (setPr h p P).1 (p + 2) = (10, tab 61 (fun x => .int (nI (P.1 0 x)))) := pr2 (k := 0) (by omega)
    have c1 : (setPr h p P).1 (p + 3) = (10, tab 61 (fun x => .int (nI (P.1 1 x)))) := pr2 (k := 1) (by omega)
    simp (disch := omega) only [w_Prints_leastRainForPeace_0, w_Prints_leastRainForPeace_1, w_Prints_leastRainForPeace_2, w_Prints_leastRainForPeace_3, w_Prints_leastRainForPeace_5, w_Prints_leastRainForPeace_7, w_Prints_leastRainForPeace_10, w_Prints_leastRainForPeace_11, w_Prints_leastRainForPeace_12, w_Prints_leastRainForPeace_15, w_Prints_leastRainForPeace_16, w_Prints_leastRainForPeace_17, w_Prints_leastRainForPeace_18, w_Prints_leastRainForPeace_19, w_Prints_leastRainForPeace_20, w_Prints_leastRainForPeace_23, w_Prints_leastRainForPeace_24, w_Prints_leastRainForPeace_25, w_Prints_leastRainForPeace_26, w_Prints_leastRainForPeace_27, w_Prints_leastRainForPeace_30, w_Prints_leastRainForPeace_33, w_Prints_leastRainForPeace_34, w_Prints_leastRainForPeace_37, w_Prints_leastRainForPeace_40, w_Prints_leastRainForPeace_41, q_rd_eq, q_nt_0, q_nt_s, q_ld_tab, q_st_tab, q_aa13, q_aa14, q_is_eq, q_wr_eq, q_01_0, q_01_1, q_nz_nI, q_len_tab, psh_some, psh_none, sm_up_at, sm_up_ne, nI_add, nI_lt2, nI_le2, nI_eq2, ls_set0, ls_setS, Nat.reduceAdd, Nat.zero_add, Nat.add_zero, not_true_eq_false, not_false_eq_true, ite_true, ite_false, pr0, pr1, c0, c1, h1, Nat.add_assoc, q_min_nI, q_max_nI]
    exact ih (x + 1) _ (by omega) (by rw [hm]; rfl)
theorem e_peace (hd : DepOk P) : Wp xs m_Prints_leastRainForPeace 0 [.ref p, .null, .null] [] (setPr h p P) 0 0 K = K (some (.int (nI (peaceN P 61)))) (setPr h p P) := by
  simp (disch := omega) only [w_Prints_leastRainForPeace_0, w_Prints_leastRainForPeace_1, w_Prints_leastRainForPeace_2, w_Prints_leastRainForPeace_3, w_Prints_leastRainForPeace_5, w_Prints_leastRainForPeace_7, w_Prints_leastRainForPeace_10, w_Prints_leastRainForPeace_11, w_Prints_leastRainForPeace_12, w_Prints_leastRainForPeace_15, w_Prints_leastRainForPeace_16, w_Prints_leastRainForPeace_17, w_Prints_leastRainForPeace_18, w_Prints_leastRainForPeace_19, w_Prints_leastRainForPeace_20, w_Prints_leastRainForPeace_23, w_Prints_leastRainForPeace_24, w_Prints_leastRainForPeace_25, w_Prints_leastRainForPeace_26, w_Prints_leastRainForPeace_27, w_Prints_leastRainForPeace_30, w_Prints_leastRainForPeace_33, w_Prints_leastRainForPeace_34, w_Prints_leastRainForPeace_37, w_Prints_leastRainForPeace_40, w_Prints_leastRainForPeace_41, q_rd_eq, q_nt_0, q_nt_s, q_ld_tab, q_st_tab, q_aa13, q_aa14, q_is_eq, q_wr_eq, q_01_0, q_01_1, q_nz_nI, q_len_tab, psh_some, psh_none, sm_up_at, sm_up_ne, nI_add, nI_lt2, nI_le2, nI_eq2, ls_set0, ls_setS, Nat.reduceAdd, Nat.zero_add, Nat.add_zero, not_true_eq_false, not_false_eq_true, ite_true, ite_false]
  exact peace_loop hd 61 0 0 (by omega) rfl
end PRI
