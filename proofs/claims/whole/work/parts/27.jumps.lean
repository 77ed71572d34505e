/-! jumps, the lowest and the highest foot -/
section JMP
variable {xs : List Int32} {h : sm_Hp} {K : Option Value → sm_Hp → Prop} {p k d : Nat} {P : PrS}
/-- how many x with lo ≤ x < n have B -/
def cntF (B : Nat → Bool) (lo n : Nat) : Nat := cnt (fun x => decide (lo ≤ x) && B x) n
theorem near_loop (hd : DepOk P) {x d e : Nat} (he : e < 61) (lo : Nat) : ∀ m y many, y + m = e + 1 → lo ≤ y → many = cntF (hasP P 1) lo y → Wp xs m_Prints_countNear 21 [.ref p, .int (nI x), .int (nI d), .int (nI many), .int (nI e), .int (nI y)] [] (setPr h p P) 0 0 K = K (some (.int (nI (cntF (hasP P 1) lo (e + 1))))) (setPr h p P) := by
  intro m
  induction m with
  | zero =>
    intro y many hy hlo hm
    have : y = e + 1 := by omega
    subst this
    rw [w_Prints_countNear_21]
    have h1 : e < e + 1 := by omega
    simp (disch := omega) only [w_Prints_countNear_23, w_Prints_countNear_25, w_Prints_countNear_28, w_Prints_countNear_29, w_Prints_countNear_30, w_Prints_countNear_32, w_Prints_countNear_35, w_Prints_countNear_38, w_Prints_countNear_41, w_Prints_countNear_44, w_Prints_countNear_47, w_Prints_countNear_48, q_rd_eq, q_nt_0, q_nt_s, q_ld_tab, q_st_tab, q_aa13, q_aa14, q_is_eq, q_wr_eq, q_01_0, q_01_1, q_nz_nI, q_len_tab, psh_some, psh_none, sm_up_at, sm_up_ne, nI_add, nI_lt2, nI_le2, nI_eq2, ls_set0, ls_setS, Nat.reduceAdd, Nat.zero_add, Nat.add_zero, not_true_eq_false, not_false_eq_true, ite_true, ite_false, h1, hm]
  | succ m ih =>
    intro y many hy hlo hm
    rw [w_Prints_countNear_21]
    have h1 : ¬ e < y := by omega
    simp (disch := first | exact hd | omega) only [w_Prints_countNear_23, w_Prints_countNear_25, w_Prints_countNear_28, w_Prints_countNear_29, w_Prints_countNear_30, w_Prints_countNear_32, w_Prints_countNear_35, w_Prints_countNear_38, w_Prints_countNear_41, w_Prints_countNear_44, w_Prints_countNear_47, w_Prints_countNear_48, q_rd_eq, q_nt_0, q_nt_s, q_ld_tab, q_st_tab, q_aa13, q_aa14, q_is_eq, q_wr_eq, q_01_0, q_01_1, q_nz_nI, q_len_tab, psh_some, psh_none, sm_up_at, sm_up_ne, nI_add, nI_lt2, nI_le2, nI_eq2, ls_set0, ls_setS, Nat.reduceAdd, Nat.zero_add, Nat.add_zero, not_true_eq_false, not_false_eq_true, ite_true, ite_false, pr0, e_hasPrint, h1, nI_b2n0]
    have hs : cntF (hasP P 1) lo (y + 1) = cntF (hasP P 1) lo y + (if hasP P 1 y = true then 1 else 0) := by
      show cnt _ y + _ = _
      simp [cntF, hlo]
    cases h2 : hasP P 1 y with
    | false =>
      simp only [if_true]
      exact ih (y + 1) many (by omega) (by omega) (by rw [hs, hm, h2]; rfl)
    | true =>
      simp only [Bool.true_eq_false, if_false]
      exact ih (y + 1) (many + 1) (by omega) (by omega) (by rw [hs, hm, h2]; rfl)
theorem cntF_lo (B : Nat → Bool) (lo : Nat) : ∀ n, n ≤ lo → cntF B lo n = 0
  | 0, _ => rfl
  | n + 1, hn => by
    have := cntF_lo B lo n (by omega)
    show cntF B lo n + (if (decide (lo ≤ n) && B n) = true then 1 else 0) = 0
    rw [this, if_neg (by simp; omega)]
theorem e_near (hd : DepOk P) {x : Nat} (hx : x < 61) (hdd : d ≤ 60) : Wp xs m_Prints_countNear 0 [.ref p, .int (nI x), .int (nI d), .null, .null, .null] [] (setPr h p P) 0 0 K = K (some (.int (nI (cntF (hasP P 1) (x - d) (min 60 (x + d) + 1))))) (setPr h p P) := by
  simp (disch := omega) only [w_Prints_countNear_0, w_Prints_countNear_1, w_Prints_countNear_2, w_Prints_countNear_4, w_Prints_countNear_5, w_Prints_countNear_6, w_Prints_countNear_7, w_Prints_countNear_10, w_Prints_countNear_12, w_Prints_countNear_13, w_Prints_countNear_14, w_Prints_countNear_15, w_Prints_countNear_16, w_Prints_countNear_19, q_rd_eq, q_nt_0, q_nt_s, q_ld_tab, q_st_tab, q_aa13, q_aa14, q_is_eq, q_wr_eq, q_01_0, q_01_1, q_nz_nI, q_len_tab, psh_some, psh_none, sm_up_at, sm_up_ne, nI_add, nI_lt2, nI_le2, nI_eq2, ls_set0, ls_setS, Nat.reduceAdd, Nat.zero_add, Nat.add_zero, not_true_eq_false, not_false_eq_true, ite_true, ite_false, q_min_nI, q_max0]
  exact near_loop hd (by omega) (x - d) (min 60 (x + d) + 1 - (x - d)) (x - d) 0 (by omega) (by omega) (cntF_lo _ _ _ (by omega)).symm
def sumTo (f : Nat → Nat) : Nat → Nat
  | 0 => 0
  | n + 1 => sumTo f n + f n
theorem sumTo_le {f : Nat → Nat} {c : Nat} (hf : ∀ x, f x ≤ c) : ∀ n, sumTo f n ≤ n * c
  | 0 => by simp [sumTo]
  | n + 1 => by
    have h1 := sumTo_le hf n
    have h2 := hf n
    show sumTo f n + f n ≤ (n + 1) * c
    rw [Nat.add_mul]
    omega
theorem sumTo_congr {f g : Nat → Nat} : ∀ {n : Nat}, (∀ x, x < n → f x = g x) → sumTo f n = sumTo g n
  | 0, _ => rfl
  | n + 1, h => by
    show sumTo f n + f n = sumTo g n + g n
    rw [sumTo_congr (fun x hx => h x (by omega)), h n (by omega)]
def jmpF (P : PrS) (d x : Nat) : Nat := if hasP P 0 x = true then cntF (hasP P 1) (x - d) (min 60 (x + d) + 1) else 0
theorem jmpF_le (P : PrS) (d x : Nat) : jmpF P d x ≤ 61 := by
  unfold jmpF
  split
  · have := cnt_le (fun y => decide (x - d ≤ y) && hasP P 1 y) (min 60 (x + d) + 1)
    show cnt _ _ ≤ 61
    omega
  · omega
theorem jumps_loop (hd : DepOk P) (hdd : d ≤ 60) : ∀ m x many, x + m = 61 → many = sumTo (jmpF P d) x → Wp xs m_Prints_countJumps 4 [.ref p, .int (nI d), .int (nI many), .int (nI x)] [] (setPr h p P) 0 0 K = K (some (.int (nI (sumTo (jmpF P d) 61)))) (setPr h p P) := by
  intro m
  induction m with
  | zero =>
    intro x many hx hm
    have : x = 61 := by omega
    subst this
    rw [w_Prints_countJumps_4]
    simp (disch := omega) only [w_Prints_countJumps_5, w_Prints_countJumps_7, w_Prints_countJumps_10, w_Prints_countJumps_11, w_Prints_countJumps_12, w_Prints_countJumps_13, w_Prints_countJumps_16, w_Prints_countJumps_19, w_Prints_countJumps_20, w_Prints_countJumps_21, w_Prints_countJumps_22, w_Prints_countJumps_23, w_Prints_countJumps_26, w_Prints_countJumps_27, w_Prints_countJumps_28, w_Prints_countJumps_31, w_Prints_countJumps_34, w_Prints_countJumps_35, q_rd_eq, q_nt_0, q_nt_s, q_ld_tab, q_st_tab, q_aa13, q_aa14, q_is_eq, q_wr_eq, q_01_0, q_01_1, q_nz_nI, q_len_tab, psh_some, psh_none, sm_up_at, sm_up_ne, nI_add, nI_lt2, nI_le2, nI_eq2, ls_set0, ls_setS, Nat.reduceAdd, Nat.zero_add, Nat.add_zero, not_true_eq_false, not_false_eq_true, ite_true, ite_false, Nat.le_refl, hm]
  | succ m ih =>
    intro x many hx hm
    rw [w_Prints_countJumps_4]
    have h1 : ¬ 61 ≤ x := by omega
    have hs : sumTo (jmpF P d) (x + 1) = sumTo (jmpF P d) x + jmpF P d x := rfl
    simp (disch := first | exact hd | omega) only [w_Prints_countJumps_5, w_Prints_countJumps_7, w_Prints_countJumps_10, w_Prints_countJumps_11, w_Prints_countJumps_12, w_Prints_countJumps_13, w_Prints_countJumps_16, w_Prints_countJumps_19, w_Prints_countJumps_20, w_Prints_countJumps_21, w_Prints_countJumps_22, w_Prints_countJumps_23, w_Prints_countJumps_26, w_Prints_countJumps_27, w_Prints_countJumps_28, w_Prints_countJumps_31, w_Prints_countJumps_34, w_Prints_countJumps_35, q_rd_eq, q_nt_0, q_nt_s, q_ld_tab, q_st_tab, q_aa13, q_aa14, q_is_eq, q_wr_eq, q_01_0, q_01_1, q_nz_nI, q_len_tab, psh_some, psh_none, sm_up_at, sm_up_ne, nI_add, nI_lt2, nI_le2, nI_eq2, ls_set0, ls_setS, Nat.reduceAdd, Nat.zero_add, Nat.add_zero, not_true_eq_false, not_false_eq_true, ite_true, ite_false, pr0, e_hasPrint, e_near, h1, nI_b2n0]
    cases h2 : hasP P 0 x with
    | false =>
      simp only [if_true]
      exact ih (x + 1) many (by omega) (by rw [hs, hm]; simp [jmpF, h2])
    | true =>
      simp only [Bool.true_eq_false, if_false]
      exact ih (x + 1) _ (by omega) (by rw [hs, hm]; simp [jmpF, h2])
theorem e_countJumps (hd : DepOk P) (hdd : d ≤ 60) : Wp xs m_Prints_countJumps 0 [.ref p, .int (nI d), .null, .null] [] (setPr h p P) 0 0 K = K (some (.int (nI (sumTo (jmpF P d) 61)))) (setPr h p P) := by
  simp (disch := omega) only [w_Prints_countJumps_0, w_Prints_countJumps_1, w_Prints_countJumps_2, w_Prints_countJumps_3, q_rd_eq, q_nt_0, q_nt_s, q_ld_tab, q_st_tab, q_aa13, q_aa14, q_is_eq, q_wr_eq, q_01_0, q_01_1, q_nz_nI, q_len_tab, psh_some, psh_none, sm_up_at, sm_up_ne, nI_add, nI_lt2, nI_le2, nI_eq2, ls_set0, ls_setS, Nat.reduceAdd, Nat.zero_add, Nat.add_zero, not_true_eq_false, not_false_eq_true, ite_true, ite_false]
  exact jumps_loop hd hdd 61 0 0 (by omega) rfl
/-- the first x from a on, below a + m, that has B -/
def firstF (B : Nat → Bool) : Nat → Nat → Option Nat
  | _, 0 => none
  | a, m + 1 => if B a = true then some a else firstF B (a + 1) m
def oI : Option Nat → Int32
  | none => -9
  | some a => nI a
theorem from_loop (hd : DepOk P) (hk : k < 2) {a0 : Int32} : ∀ m x, x + m = 61 → Wp xs m_Prints_firstFrom 2 [.ref p, .int (nI k), .int a0, .int (nI x)] [] (setPr h p P) 0 0 K = K (some (.int (oI (firstF (hasP P k) x m)))) (setPr h p P) := by
  intro m
  induction m with
  | zero =>
    intro x hx
    have : x = 61 := by omega
    subst this
    rw [w_Prints_firstFrom_2]
    simp (disch := omega) only [w_Prints_firstFrom_3, w_Prints_firstFrom_5, w_Prints_firstFrom_8, w_Prints_firstFrom_9, w_Prints_firstFrom_10, w_Prints_firstFrom_11, w_Prints_firstFrom_14, w_Prints_firstFrom_17, w_Prints_firstFrom_18, w_Prints_firstFrom_19, w_Prints_firstFrom_22, w_Prints_firstFrom_25, w_Prints_firstFrom_27, q_rd_eq, q_nt_0, q_nt_s, q_ld_tab, q_st_tab, q_aa13, q_aa14, q_is_eq, q_wr_eq, q_01_0, q_01_1, q_nz_nI, q_len_tab, psh_some, psh_none, sm_up_at, sm_up_ne, nI_add, nI_lt2, nI_le2, nI_eq2, ls_set0, ls_setS, Nat.reduceAdd, Nat.zero_add, Nat.add_zero, not_true_eq_false, not_false_eq_true, ite_true, ite_false, Nat.le_refl]
    rfl
  | succ m ih =>
    intro x hx
    rw [w_Prints_firstFrom_2]
    have h1 : ¬ 61 ≤ x := by omega
    simp (disch := first | exact hd | omega) only [w_Prints_firstFrom_3, w_Prints_firstFrom_5, w_Prints_firstFrom_8, w_Prints_firstFrom_9, w_Prints_firstFrom_10, w_Prints_firstFrom_11, w_Prints_firstFrom_14, w_Prints_firstFrom_17, w_Prints_firstFrom_18, w_Prints_firstFrom_19, w_Prints_firstFrom_22, w_Prints_firstFrom_25, w_Prints_firstFrom_27, q_rd_eq, q_nt_0, q_nt_s, q_ld_tab, q_st_tab, q_aa13, q_aa14, q_is_eq, q_wr_eq, q_01_0, q_01_1, q_nz_nI, q_len_tab, psh_some, psh_none, sm_up_at, sm_up_ne, nI_add, nI_lt2, nI_le2, nI_eq2, ls_set0, ls_setS, Nat.reduceAdd, Nat.zero_add, Nat.add_zero, not_true_eq_false, not_false_eq_true, ite_true, ite_false, pr0, e_hasPrint, h1, nI_b2n0]
    cases h2 : hasP P k x with
    | false =>
      simp only [if_true]
      rw [ih (x + 1) (by omega), firstF, h2]
      rfl
    | true =>
      simp only [Bool.true_eq_false, if_false]
      rw [firstF, h2]
      rfl
theorem e_firstFrom (hd : DepOk P) (hk : k < 2) {a : Nat} (ha : a ≤ 61) : Wp xs m_Prints_firstFrom 0 [.ref p, .int (nI k), .int (nI a), .null] [] (setPr h p P) 0 0 K = K (some (.int (oI (firstF (hasP P k) a (61 - a))))) (setPr h p P) := by
  simp (disch := omega) only [w_Prints_firstFrom_0, w_Prints_firstFrom_1, q_rd_eq, q_nt_0, q_nt_s, q_ld_tab, q_st_tab, q_aa13, q_aa14, q_is_eq, q_wr_eq, q_01_0, q_01_1, q_nz_nI, q_len_tab, psh_some, psh_none, sm_up_at, sm_up_ne, nI_add, nI_lt2, nI_le2, nI_eq2, ls_set0, ls_setS, Nat.reduceAdd, Nat.zero_add, Nat.add_zero, not_true_eq_false, not_false_eq_true, ite_true, ite_false]
  exact from_loop hd hk (61 - a) a (by omega)
theorem low_loop (hd : DepOk P) : ∀ m x, x + m = 61 → Wp xs m_Prints_lowestFoot 2 [.ref p, .int (nI x)] [] (setPr h p P) 0 0 K = K (some (.int (oI (firstF (fun x => hasP P 0 x || hasP P 1 x) x m)))) (setPr h p P) := by
  intro m
  induction m with
  | zero =>
    intro x hx
    have : x = 61 := by omega
    subst this
    rw [w_Prints_lowestFoot_2]
    simp (disch := omega) only [w_Prints_lowestFoot_3, w_Prints_lowestFoot_5, w_Prints_lowestFoot_8, w_Prints_lowestFoot_9, w_Prints_lowestFoot_10, w_Prints_lowestFoot_11, w_Prints_lowestFoot_14, w_Prints_lowestFoot_17, w_Prints_lowestFoot_18, w_Prints_lowestFoot_19, w_Prints_lowestFoot_20, w_Prints_lowestFoot_23, w_Prints_lowestFoot_26, w_Prints_lowestFoot_27, w_Prints_lowestFoot_28, w_Prints_lowestFoot_31, w_Prints_lowestFoot_34, w_Prints_lowestFoot_36, q_rd_eq, q_nt_0, q_nt_s, q_ld_tab, q_st_tab, q_aa13, q_aa14, q_is_eq, q_wr_eq, q_01_0, q_01_1, q_nz_nI, q_len_tab, psh_some, psh_none, sm_up_at, sm_up_ne, nI_add, nI_lt2, nI_le2, nI_eq2, ls_set0, ls_setS, Nat.reduceAdd, Nat.zero_add, Nat.add_zero, not_true_eq_false, not_false_eq_true, ite_true, ite_false, Nat.le_refl]
    rfl
  | succ m ih =>
    intro x hx
    rw [w_Prints_lowestFoot_2]
    have h1 : ¬ 61 ≤ x := by omega
    simp (disch := first | exact hd | omega) only [w_Prints_lowestFoot_3, w_Prints_lowestFoot_5, w_Prints_lowestFoot_8, w_Prints_lowestFoot_9, w_Prints_lowestFoot_10, w_Prints_lowestFoot_11, w_Prints_lowestFoot_14, w_Prints_lowestFoot_17, w_Prints_lowestFoot_18, w_Prints_lowestFoot_19, w_Prints_lowestFoot_20, w_Prints_lowestFoot_23, w_Prints_lowestFoot_26, w_Prints_lowestFoot_27, w_Prints_lowestFoot_28, w_Prints_lowestFoot_31, w_Prints_lowestFoot_34, w_Prints_lowestFoot_36, q_rd_eq, q_nt_0, q_nt_s, q_ld_tab, q_st_tab, q_aa13, q_aa14, q_is_eq, q_wr_eq, q_01_0, q_01_1, q_nz_nI, q_len_tab, psh_some, psh_none, sm_up_at, sm_up_ne, nI_add, nI_lt2, nI_le2, nI_eq2, ls_set0, ls_setS, Nat.reduceAdd, Nat.zero_add, Nat.add_zero, not_true_eq_false, not_false_eq_true, ite_true, ite_false, pr0, e_hasPrint, h1, nI_b2n0]
    cases h0 : hasP P 0 x with
    | true =>
      simp [firstF, h0]
      rfl
    | false =>
      cases h2 : hasP P 1 x with
      | true =>
        simp [firstF, h0, h2]
        rfl
      | false =>
        simp only [not_true_eq_false, if_false, if_true]
        rw [ih (x + 1) (by omega)]
        simp [firstF, h0, h2]
theorem e_low (hd : DepOk P) : Wp xs m_Prints_lowestFoot 0 [.ref p, .null] [] (setPr h p P) 0 0 K = K (some (.int (oI (firstF (fun x => hasP P 0 x || hasP P 1 x) 0 61)))) (setPr h p P) := by
  simp (disch := omega) only [w_Prints_lowestFoot_0, w_Prints_lowestFoot_1, q_rd_eq, q_nt_0, q_nt_s, q_ld_tab, q_st_tab, q_aa13, q_aa14, q_is_eq, q_wr_eq, q_01_0, q_01_1, q_nz_nI, q_len_tab, psh_some, psh_none, sm_up_at, sm_up_ne, nI_add, nI_lt2, nI_le2, nI_eq2, ls_set0, ls_setS, Nat.reduceAdd, Nat.zero_add, Nat.add_zero, not_true_eq_false, not_false_eq_true, ite_true, ite_false]
  exact low_loop hd 61 0 (by omega)
/-- the last x below m that has B -/
def lastF (B : Nat → Bool) : Nat → Option Nat
  | 0 => none
  | m + 1 => if B m = true then some m else lastF B m
theorem high_loop (hd : DepOk P) : ∀ m, m ≤ 60 → Wp xs m_Prints_highestFoot 3 [.ref p, .int (nI m)] [] (setPr h p P) 0 0 K = K (some (.int (oI (lastF (fun x => hasP P 0 x || hasP P 1 x) (m + 1))))) (setPr h p P) := by
  intro m
  induction m with
  | zero =>
    intro hm
    rw [w_Prints_highestFoot_3]
    have hneg : (nI 0 + (-1) : Int32) < nI 0 := by decide
    have h0' : ¬ (0 : Nat) < 0 := by omega
    have e9 := w_Prints_highestFoot_3 (xs := xs) (a0 := .ref p) (v := nI 0 + (-1)) (S := []) (h := setPr h p P) (K := K)
    simp (disch := first | exact hd | omega) only [w_Prints_highestFoot_4, w_Prints_highestFoot_7, w_Prints_highestFoot_8, w_Prints_highestFoot_9, w_Prints_highestFoot_10, w_Prints_highestFoot_13, w_Prints_highestFoot_16, w_Prints_highestFoot_17, w_Prints_highestFoot_18, w_Prints_highestFoot_19, w_Prints_highestFoot_22, w_Prints_highestFoot_25, w_Prints_highestFoot_26, w_Prints_highestFoot_27, w_Prints_highestFoot_30, w_Prints_highestFoot_33, w_Prints_highestFoot_35, q_rd_eq, q_nt_0, q_nt_s, q_ld_tab, q_st_tab, q_aa13, q_aa14, q_is_eq, q_wr_eq, q_01_0, q_01_1, q_nz_nI, q_len_tab, psh_some, psh_none, sm_up_at, sm_up_ne, nI_add, nI_lt2, nI_le2, nI_eq2, ls_set0, ls_setS, Nat.reduceAdd, Nat.zero_add, Nat.add_zero, not_true_eq_false, not_false_eq_true, ite_true, ite_false, pr0, e_hasPrint, h0', nI_b2n0]
    cases h0 : hasP P 0 0 with
    | true =>
      simp [lastF, h0]
      rfl
    | false =>
      cases h2 : hasP P 1 0 with
      | true =>
        simp [lastF, h0, h2]
        rfl
      | false =>
        simp only [not_true_eq_false, if_false, if_true]
        rw [e9]
        simp only [w_Prints_highestFoot_4, w_Prints_highestFoot_7, w_Prints_highestFoot_8, w_Prints_highestFoot_9, w_Prints_highestFoot_10, w_Prints_highestFoot_13, w_Prints_highestFoot_16, w_Prints_highestFoot_17, w_Prints_highestFoot_18, w_Prints_highestFoot_19, w_Prints_highestFoot_22, w_Prints_highestFoot_25, w_Prints_highestFoot_26, w_Prints_highestFoot_27, w_Prints_highestFoot_30, w_Prints_highestFoot_33, w_Prints_highestFoot_35, hneg, if_true]
        simp [lastF, h0, h2]
        rfl
  | succ m ih =>
    intro hm
    rw [w_Prints_highestFoot_3]
    have h1 : ¬ m + 1 < 0 := by omega
    simp (disch := first | exact hd | omega) only [w_Prints_highestFoot_4, w_Prints_highestFoot_7, w_Prints_highestFoot_8, w_Prints_highestFoot_9, w_Prints_highestFoot_10, w_Prints_highestFoot_13, w_Prints_highestFoot_16, w_Prints_highestFoot_17, w_Prints_highestFoot_18, w_Prints_highestFoot_19, w_Prints_highestFoot_22, w_Prints_highestFoot_25, w_Prints_highestFoot_26, w_Prints_highestFoot_27, w_Prints_highestFoot_30, w_Prints_highestFoot_33, w_Prints_highestFoot_35, q_rd_eq, q_nt_0, q_nt_s, q_ld_tab, q_st_tab, q_aa13, q_aa14, q_is_eq, q_wr_eq, q_01_0, q_01_1, q_nz_nI, q_len_tab, psh_some, psh_none, sm_up_at, sm_up_ne, nI_add, nI_lt2, nI_le2, nI_eq2, ls_set0, ls_setS, Nat.reduceAdd, Nat.zero_add, Nat.add_zero, not_true_eq_false, not_false_eq_true, ite_true, ite_false, pr0, e_hasPrint, h1, nI_b2n0, pk_m1]
    cases h0 : hasP P 0 (m + 1) with
    | true =>
      simp [lastF, h0]
      rfl
    | false =>
      cases h2 : hasP P 1 (m + 1) with
      | true =>
        simp [lastF, h0, h2]
        rfl
      | false =>
        simp only [not_true_eq_false, if_false, if_true]
        rw [ih (by omega)]
        simp [lastF, h0, h2]
theorem e_high (hd : DepOk P) : Wp xs m_Prints_highestFoot 0 [.ref p, .null] [] (setPr h p P) 0 0 K = K (some (.int (oI (lastF (fun x => hasP P 0 x || hasP P 1 x) 61)))) (setPr h p P) := by
  simp (disch := omega) only [w_Prints_highestFoot_0, w_Prints_highestFoot_2, q_rd_eq, q_nt_0, q_nt_s, q_ld_tab, q_st_tab, q_aa13, q_aa14, q_is_eq, q_wr_eq, q_01_0, q_01_1, q_nz_nI, q_len_tab, psh_some, psh_none, sm_up_at, sm_up_ne, nI_add, nI_lt2, nI_le2, nI_eq2, ls_set0, ls_setS, Nat.reduceAdd, Nat.zero_add, Nat.add_zero, not_true_eq_false, not_false_eq_true, ite_true, ite_false]
  exact high_loop hd 60 (by omega)
end JMP
