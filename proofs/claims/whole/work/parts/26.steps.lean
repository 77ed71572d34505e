/-! snow, rain, a print removed, a track trodden; the past -/
section STP
variable {xs : List Int32} {h : sm_Hp} {K : Option Value → sm_Hp → Prop} {p q k n : Nat} {P Q : PrS}
/-- no prints, gifts, walks of those below k -/
def snowP (P : PrS) (k : Nat) : PrS := (fun j x => if j < k then 0 else P.1 j x, fun j => if j < k then 0 else P.2.1 j, fun j => if j < k then 0 else P.2.2.1 j, P.2.2.2)
theorem snow_s (P : PrS) (k : Nat) : ((fun k' x' => if k' = k then 0 else (snowP P k).1 k' x', fun k' => if k' = k then 0 else (snowP P k).2.1 k', fun k' => if k' = k then 0 else (snowP P k).2.2.1 k', (snowP P k).2.2.2) : PrS) = snowP P (k + 1) := by
  have key : ∀ (g : Nat → Nat) (j : Nat), (if j = k then 0 else (if j < k then 0 else g j)) = (if j < k + 1 then 0 else g j) := by
    intro g j
    by_cases c1 : j = k
    · subst c1
      rw [if_pos rfl, if_pos (by omega)]
    · rw [if_neg c1]
      by_cases c2 : j < k
      · rw [if_pos c2, if_pos (by omega)]
      · rw [if_neg c2, if_neg (by omega)]
  unfold snowP
  refine Prod.ext (funext fun j => funext fun x => ?_) (Prod.ext (funext fun j => ?_) (Prod.ext (funext fun j => ?_) rfl))
  · exact key (fun j => P.1 j x) j
  · exact key P.2.1 j
  · exact key P.2.2.1 j
theorem snow_loop : ∀ m k, k + m = 2 → Wp xs m_Prints_snowOver 2 [.ref p, .int (nI k)] [] (setPr h p (snowP P k)) 0 0 K = K none (setPr h p (snowP P 2)) := by
  intro m
  induction m with
  | zero =>
    intro k hk
    have : k = 2 := by omega
    subst this
    simp (disch := omega) only [w_Prints_snowOver_0, w_Prints_snowOver_1, w_Prints_snowOver_2, w_Prints_snowOver_3, w_Prints_snowOver_4, w_Prints_snowOver_7, w_Prints_snowOver_8, w_Prints_snowOver_11, w_Prints_snowOver_12, w_Prints_snowOver_13, w_Prints_snowOver_14, w_Prints_snowOver_17, w_Prints_snowOver_18, w_Prints_snowOver_21, w_Prints_snowOver_22, w_Prints_snowOver_23, w_Prints_snowOver_24, w_Prints_snowOver_25, w_Prints_snowOver_28, w_Prints_snowOver_29, w_Prints_snowOver_30, w_Prints_snowOver_31, w_Prints_snowOver_34, w_Prints_snowOver_37, q_rd_eq, q_nt_0, q_nt_s, q_ld_tab, q_st_tab, q_aa13, q_aa14, q_is_eq, q_wr_eq, q_01_0, q_01_1, q_nz_nI, q_len_tab, psh_some, psh_none, sm_up_at, sm_up_ne, nI_add, nI_lt2, nI_le2, nI_eq2, ls_set0, ls_setS, Nat.reduceAdd, Nat.zero_add, Nat.add_zero, not_true_eq_false, not_false_eq_true, ite_true, ite_false, Nat.le_refl]
  | succ m ih =>
    intro k hk
    rw [w_Prints_snowOver_2]
    have h1 : ¬ 2 ≤ k := by omega
    have e0 : (0 : Int64) = lN 0 := rfl
    simp (disch := omega) only [w_Prints_snowOver_0, w_Prints_snowOver_1, w_Prints_snowOver_3, w_Prints_snowOver_4, w_Prints_snowOver_7, w_Prints_snowOver_8, w_Prints_snowOver_11, w_Prints_snowOver_12, w_Prints_snowOver_13, w_Prints_snowOver_14, w_Prints_snowOver_17, w_Prints_snowOver_18, w_Prints_snowOver_21, w_Prints_snowOver_22, w_Prints_snowOver_23, w_Prints_snowOver_24, w_Prints_snowOver_25, w_Prints_snowOver_28, w_Prints_snowOver_29, w_Prints_snowOver_30, w_Prints_snowOver_31, w_Prints_snowOver_34, w_Prints_snowOver_37, q_rd_eq, q_nt_0, q_nt_s, q_ld_tab, q_st_tab, q_aa13, q_aa14, q_is_eq, q_wr_eq, q_01_0, q_01_1, q_nz_nI, q_len_tab, psh_some, psh_none, sm_up_at, sm_up_ne, nI_add, nI_lt2, nI_le2, nI_eq2, ls_set0, ls_setS, Nat.reduceAdd, Nat.zero_add, Nat.add_zero, not_true_eq_false, not_false_eq_true, ite_true, ite_false, pr0, pr1, h1]
    rw [e_fill (n := 61) (by omega) (pr2 (by omega))]
    simp (disch := omega) only [w_Prints_snowOver_0, w_Prints_snowOver_1, w_Prints_snowOver_3, w_Prints_snowOver_4, w_Prints_snowOver_7, w_Prints_snowOver_8, w_Prints_snowOver_11, w_Prints_snowOver_12, w_Prints_snowOver_13, w_Prints_snowOver_14, w_Prints_snowOver_17, w_Prints_snowOver_18, w_Prints_snowOver_21, w_Prints_snowOver_22, w_Prints_snowOver_23, w_Prints_snowOver_24, w_Prints_snowOver_25, w_Prints_snowOver_28, w_Prints_snowOver_29, w_Prints_snowOver_30, w_Prints_snowOver_31, w_Prints_snowOver_34, w_Prints_snowOver_37, q_rd_eq, q_nt_0, q_nt_s, q_ld_tab, q_st_tab, q_aa13, q_aa14, q_is_eq, q_wr_eq, q_01_0, q_01_1, q_nz_nI, q_len_tab, psh_some, psh_none, sm_up_at, sm_up_ne, nI_add, nI_lt2, nI_le2, nI_eq2, ls_set0, ls_setS, Nat.reduceAdd, Nat.zero_add, Nat.add_zero, not_true_eq_false, not_false_eq_true, ite_true, ite_false, pr0, pr4, pr5, up_Drow, e0, up_G, up_W]
    rw [snow_s]
    exact ih (k + 1) (by omega)
theorem e_snow : Wp xs m_Prints_snowOver 0 [.ref p, .null] [] (setPr h p P) 0 0 K = K none (setPr h p (snowP P 2)) := by
  simp (disch := omega) only [w_Prints_snowOver_0, w_Prints_snowOver_1, w_Prints_snowOver_3, w_Prints_snowOver_4, w_Prints_snowOver_7, w_Prints_snowOver_8, w_Prints_snowOver_11, w_Prints_snowOver_12, w_Prints_snowOver_13, w_Prints_snowOver_14, w_Prints_snowOver_17, w_Prints_snowOver_18, w_Prints_snowOver_21, w_Prints_snowOver_22, w_Prints_snowOver_23, w_Prints_snowOver_24, w_Prints_snowOver_25, w_Prints_snowOver_28, w_Prints_snowOver_29, w_Prints_snowOver_30, w_Prints_snowOver_31, w_Prints_snowOver_34, w_Prints_snowOver_37, q_rd_eq, q_nt_0, q_nt_s, q_ld_tab, q_st_tab, q_aa13, q_aa14, q_is_eq, q_wr_eq, q_01_0, q_01_1, q_nz_nI, q_len_tab, psh_some, psh_none, sm_up_at, sm_up_ne, nI_add, nI_lt2, nI_le2, nI_eq2, ls_set0, ls_setS, Nat.reduceAdd, Nat.zero_add, Nat.add_zero, not_true_eq_false, not_false_eq_true, ite_true, ite_false]
  exact snow_loop (P := P) 2 0 (by omega)
def zeroP : PrS := (fun _ _ => 0, fun _ => 0, fun _ => 0, fun _ => 0)
theorem e_wipe : Wp xs m_Prints_wipe 0 [.ref p] [] (setPr h p P) 0 0 K = K none (setPr h p zeroP) := by
  simp (disch := omega) only [w_Prints_wipe_0, w_Prints_wipe_1, w_Prints_wipe_4, w_Prints_wipe_5, w_Prints_wipe_8, w_Prints_wipe_9, w_Prints_wipe_12, q_rd_eq, q_nt_0, q_nt_s, q_ld_tab, q_st_tab, q_aa13, q_aa14, q_is_eq, q_wr_eq, q_01_0, q_01_1, q_nz_nI, q_len_tab, psh_some, psh_none, sm_up_at, sm_up_ne, nI_add, nI_lt2, nI_le2, nI_eq2, ls_set0, ls_setS, Nat.reduceAdd, Nat.zero_add, Nat.add_zero, not_true_eq_false, not_false_eq_true, ite_true, ite_false, pr0, e_snow]
  rw [e_fill (n := 2) (by omega) pr6]
  simp (disch := omega) only [w_Prints_wipe_0, w_Prints_wipe_1, w_Prints_wipe_4, w_Prints_wipe_5, w_Prints_wipe_8, w_Prints_wipe_9, w_Prints_wipe_12, q_rd_eq, q_nt_0, q_nt_s, q_ld_tab, q_st_tab, q_aa13, q_aa14, q_is_eq, q_wr_eq, q_01_0, q_01_1, q_nz_nI, q_len_tab, psh_some, psh_none, sm_up_at, sm_up_ne, nI_add, nI_lt2, nI_le2, nI_eq2, ls_set0, ls_setS, Nat.reduceAdd, Nat.zero_add, Nat.add_zero, not_true_eq_false, not_false_eq_true, ite_true, ite_false]
  congr 1
  refine (setPr_of (j := 6) (P' := zeroP) (by omega) rfl (fun i hi hne => ?_))
  match i, hi, hne with
  | 0, _, _ => rfl
  | 1, _, _ => rfl
  | 2, _, _ => rfl
  | 3, _, _ => rfl
  | 4, _, _ => exact congrArg (fun l => ((11 : Nat), l)) (tab_congr (fun x hx => by show Value.long (lN (if x < 2 then 0 else _)) = _; rw [if_pos hx]; rfl))
  | 5, _, _ => exact congrArg (fun l => ((10 : Nat), l)) (tab_congr (fun x hx => by show Value.int (nI (if x < 2 then 0 else _)) = _; rw [if_pos hx]; rfl))
  | 6, _, hne => exact absurd rfl hne
  | i + 7, hi, _ => exact absurd hi (by omega)
/-- rain of n on those below (k, x) -/
def rainP (P : PrS) (n k x : Nat) : PrS := (fun j y => if j < k ∨ (j = k ∧ y < x) then P.1 j y - n else P.1 j y, P.2)
theorem rain_in (hd : DepOk P) (hn : n ≤ 9) (hk : k < 2) : ∀ m x, x + m = 61 → Wp xs m_Prints_rainOn 9 [.ref p, .int (nI n), .int (nI k), .int (nI x)] [] (setPr h p (rainP P n k x)) 0 0 K = Wp xs m_Prints_rainOn 43 [.ref p, .int (nI n), .int (nI k), .int (nI 61)] [] (setPr h p (rainP P n k 61)) 0 0 K := by
  intro m
  induction m with
  | zero =>
    intro x hx
    have : x = 61 := by omega
    subst this
    rw [w_Prints_rainOn_9]
    simp (disch := omega) only [w_Prints_rainOn_10, w_Prints_rainOn_12, q_rd_eq, q_nt_0, q_nt_s, q_ld_tab, q_st_tab, q_aa13, q_aa14, q_is_eq, q_wr_eq, q_01_0, q_01_1, q_nz_nI, q_len_tab, psh_some, psh_none, sm_up_at, sm_up_ne, nI_add, nI_lt2, nI_le2, nI_eq2, ls_set0, ls_setS, Nat.reduceAdd, Nat.zero_add, Nat.add_zero, not_true_eq_false, not_false_eq_true, ite_true, ite_false, Nat.le_refl]
  | succ m ih =>
    intro x hx
    rw [w_Prints_rainOn_9]
    have h1 : ¬ 61 ≤ x := by omega
    have h9 := hd k x
    have e1 : (rainP P n k x).1 k x = P.1 k x := by
      show (if k < k ∨ (k = k ∧ x < x) then _ else _) = _
      rw [if_neg (by omega)]
    simp (disch := omega) only [w_Prints_rainOn_10, w_Prints_rainOn_12, w_Prints_rainOn_15, w_Prints_rainOn_16, w_Prints_rainOn_19, w_Prints_rainOn_20, w_Prints_rainOn_21, w_Prints_rainOn_22, w_Prints_rainOn_23, w_Prints_rainOn_24, w_Prints_rainOn_27, w_Prints_rainOn_28, w_Prints_rainOn_29, w_Prints_rainOn_30, w_Prints_rainOn_31, w_Prints_rainOn_32, w_Prints_rainOn_33, w_Prints_rainOn_36, w_Prints_rainOn_37, w_Prints_rainOn_40, q_rd_eq, q_nt_0, q_nt_s, q_ld_tab, q_st_tab, q_aa13, q_aa14, q_is_eq, q_wr_eq, q_01_0, q_01_1, q_nz_nI, q_len_tab, psh_some, psh_none, sm_up_at, sm_up_ne, nI_add, nI_lt2, nI_le2, nI_eq2, ls_set0, ls_setS, Nat.reduceAdd, Nat.zero_add, Nat.add_zero, not_true_eq_false, not_false_eq_true, ite_true, ite_false, pr0, pr1, pr2, h1, e1, q_max0, up_D]
    have e2 : ((fun k' x' => if k' = k ∧ x' = x then P.1 k x - n else (rainP P n k x).1 k' x', (rainP P n k x).2) : PrS) = rainP P n k (x + 1) := by
      refine Prod.ext (funext fun j => funext fun y => ?_) rfl
      show (if j = k ∧ y = x then P.1 k x - n else (if j < k ∨ (j = k ∧ y < x) then P.1 j y - n else P.1 j y)) = (if j < k ∨ (j = k ∧ y < x + 1) then P.1 j y - n else P.1 j y)
      by_cases c1 : j = k ∧ y = x
      · obtain ⟨rfl, rfl⟩ := c1
        rw [if_pos ⟨rfl, rfl⟩, if_pos (by omega)]
      · rw [if_neg c1]
        by_cases c2 : j < k ∨ (j = k ∧ y < x)
        · rw [if_pos c2, if_pos (by omega)]
        · rw [if_neg c2, if_neg (by omega)]
    rw [e2]
    exact ih (x + 1) (by omega)
theorem rain_loop (hd : DepOk P) (hn : n ≤ 9) : ∀ m k x0, k + m = 2 → Wp xs m_Prints_rainOn 2 [.ref p, .int (nI n), .int (nI k), x0] [] (setPr h p (rainP P n k 0)) 0 0 K = K none (setPr h p (rainP P n 2 0)) := by
  intro m
  induction m with
  | zero =>
    intro k x0 hk
    have : k = 2 := by omega
    subst this
    rw [w_Prints_rainOn_2]
    simp (disch := omega) only [w_Prints_rainOn_3, w_Prints_rainOn_4, w_Prints_rainOn_49, q_rd_eq, q_nt_0, q_nt_s, q_ld_tab, q_st_tab, q_aa13, q_aa14, q_is_eq, q_wr_eq, q_01_0, q_01_1, q_nz_nI, q_len_tab, psh_some, psh_none, sm_up_at, sm_up_ne, nI_add, nI_lt2, nI_le2, nI_eq2, ls_set0, ls_setS, Nat.reduceAdd, Nat.zero_add, Nat.add_zero, not_true_eq_false, not_false_eq_true, ite_true, ite_false, Nat.le_refl]
  | succ m ih =>
    intro k x0 hk
    rw [w_Prints_rainOn_2]
    have h1 : ¬ 2 ≤ k := by omega
    simp (disch := omega) only [w_Prints_rainOn_3, w_Prints_rainOn_4, w_Prints_rainOn_7, w_Prints_rainOn_8, q_rd_eq, q_nt_0, q_nt_s, q_ld_tab, q_st_tab, q_aa13, q_aa14, q_is_eq, q_wr_eq, q_01_0, q_01_1, q_nz_nI, q_len_tab, psh_some, psh_none, sm_up_at, sm_up_ne, nI_add, nI_lt2, nI_le2, nI_eq2, ls_set0, ls_setS, Nat.reduceAdd, Nat.zero_add, Nat.add_zero, not_true_eq_false, not_false_eq_true, ite_true, ite_false, h1]
    rw [rain_in hd hn (by omega) 61 0 (by omega)]
    simp (disch := omega) only [w_Prints_rainOn_43, w_Prints_rainOn_46, q_rd_eq, q_nt_0, q_nt_s, q_ld_tab, q_st_tab, q_aa13, q_aa14, q_is_eq, q_wr_eq, q_01_0, q_01_1, q_nz_nI, q_len_tab, psh_some, psh_none, sm_up_at, sm_up_ne, nI_add, nI_lt2, nI_le2, nI_eq2, ls_set0, ls_setS, Nat.reduceAdd, Nat.zero_add, Nat.add_zero, not_true_eq_false, not_false_eq_true, ite_true, ite_false]
    have e : setPr h p (rainP P n k 61) = setPr h p (rainP P n (k + 1) 0) := by
      refine PrEq.setPr ⟨fun j hj x hx => ?_, fun j hj => ⟨rfl, rfl, rfl⟩⟩
      show (if j < k ∨ (j = k ∧ x < 61) then _ else _) = (if j < k + 1 ∨ (j = k + 1 ∧ x < 0) then _ else _)
      by_cases c : j < k + 1
      · rw [if_pos (by omega), if_pos (by omega)]
      · rw [if_neg (by omega), if_neg (by omega)]
    rw [e]
    exact ih (k + 1) _ (by omega)
theorem e_rain (hd : DepOk P) (hn : n ≤ 9) : Wp xs m_Prints_rainOn 0 [.ref p, .int (nI n), .null, .null] [] (setPr h p P) 0 0 K = K none (setPr h p (fun j y => P.1 j y - n, P.2)) := by
  simp (disch := omega) only [w_Prints_rainOn_0, w_Prints_rainOn_1, q_rd_eq, q_nt_0, q_nt_s, q_ld_tab, q_st_tab, q_aa13, q_aa14, q_is_eq, q_wr_eq, q_01_0, q_01_1, q_nz_nI, q_len_tab, psh_some, psh_none, sm_up_at, sm_up_ne, nI_add, nI_lt2, nI_le2, nI_eq2, ls_set0, ls_setS, Nat.reduceAdd, Nat.zero_add, Nat.add_zero, not_true_eq_false, not_false_eq_true, ite_true, ite_false]
  have e0 : setPr h p P = setPr h p (rainP P n 0 0) := PrEq.setPr ⟨fun j hj x hx => by show _ = (if j < 0 ∨ (j = 0 ∧ x < 0) then _ else _); rw [if_neg (by omega)], fun j hj => ⟨rfl, rfl, rfl⟩⟩
  rw [e0, rain_loop hd hn 2 0 _ (by omega)]
  exact congrArg (K none) (PrEq.setPr ⟨fun j hj x hx => by show (if j < 2 ∨ (j = 2 ∧ x < 0) then P.1 j x - n else P.1 j x) = P.1 j x - n; rw [if_pos (by omega)], fun j hj => ⟨rfl, rfl, rfl⟩⟩)
/-- a print, and a gift in it, is none any more -/
def remP (P : PrS) (k x : Nat) : PrS := (fun j y => if j = k ∧ y = x then 0 else P.1 j y, fun j => if j = k then andn (P.2.1 k) (2 ^ x) else P.2.1 j, P.2.2)
theorem e_remove {x : Nat} (hk : k < 2) (hx : x < 61) : Wp xs m_Prints_removePrint 0 [.ref p, .int (nI k), .int (nI x)] [] (setPr h p P) 0 0 K = K none (setPr h p (remP P k x)) := by
  simp (disch := omega) only [w_Prints_removePrint_0, w_Prints_removePrint_1, w_Prints_removePrint_4, w_Prints_removePrint_5, w_Prints_removePrint_6, w_Prints_removePrint_7, w_Prints_removePrint_8, w_Prints_removePrint_9, w_Prints_removePrint_10, w_Prints_removePrint_13, w_Prints_removePrint_14, w_Prints_removePrint_15, w_Prints_removePrint_16, w_Prints_removePrint_17, w_Prints_removePrint_18, w_Prints_removePrint_19, w_Prints_removePrint_22, w_Prints_removePrint_23, w_Prints_removePrint_24, w_Prints_removePrint_25, q_rd_eq, q_nt_0, q_nt_s, q_ld_tab, q_st_tab, q_aa13, q_aa14, q_is_eq, q_wr_eq, q_01_0, q_01_1, q_nz_nI, q_len_tab, psh_some, psh_none, sm_up_at, sm_up_ne, nI_add, nI_lt2, nI_le2, nI_eq2, ls_set0, ls_setS, Nat.reduceAdd, Nat.zero_add, Nat.add_zero, not_true_eq_false, not_false_eq_true, ite_true, ite_false, pr0, pr1, pr2, pr4, up_D, bl_shl, bl_andn, up_G]
  rfl
/-- each foot below x of a track (bits) is trodden on by k -/
def treadP (P : PrS) (k t x : Nat) : PrS := (fun j y => if j = k ∧ y < x ∧ t.testBit y = true then 9 else P.1 j y, P.2)
theorem tread_loop {t : Nat} (ht : t < 2 ^ 61) (hk : k < 2) : ∀ m x, x + m = 61 → Wp xs m_Prints_tread 3 [.ref p, .int (nI k), .long (lN t), .null, .int (nI x)] [] (setPr h p (treadP P k t x)) 0 0 K = Wp xs m_Prints_tread 38 [.ref p, .int (nI k), .long (lN t), .null, .int (nI 61)] [] (setPr h p (treadP P k t 61)) 0 0 K := by
  have p61 : (2 : Nat) ^ 61 = 2305843009213693952 := by decide
  intro m
  induction m with
  | zero =>
    intro x hx
    have : x = 61 := by omega
    subst this
    rw [w_Prints_tread_3]
    simp (disch := omega) only [w_Prints_tread_5, w_Prints_tread_7, q_rd_eq, q_nt_0, q_nt_s, q_ld_tab, q_st_tab, q_aa13, q_aa14, q_is_eq, q_wr_eq, q_01_0, q_01_1, q_nz_nI, q_len_tab, psh_some, psh_none, sm_up_at, sm_up_ne, nI_add, nI_lt2, nI_le2, nI_eq2, ls_set0, ls_setS, Nat.reduceAdd, Nat.zero_add, Nat.add_zero, not_true_eq_false, not_false_eq_true, ite_true, ite_false, Nat.le_refl]
  | succ m ih =>
    intro x hx
    rw [w_Prints_tread_3]
    have h1 : ¬ 61 ≤ x := by omega
    have hb := bitI_le t x
    simp (disch := omega) only [w_Prints_tread_5, w_Prints_tread_7, w_Prints_tread_10, w_Prints_tread_11, w_Prints_tread_13, w_Prints_tread_14, w_Prints_tread_15, w_Prints_tread_16, w_Prints_tread_17, w_Prints_tread_18, w_Prints_tread_21, w_Prints_tread_22, w_Prints_tread_25, w_Prints_tread_26, w_Prints_tread_27, w_Prints_tread_29, w_Prints_tread_31, w_Prints_tread_32, w_Prints_tread_35, q_rd_eq, q_nt_0, q_nt_s, q_ld_tab, q_st_tab, q_aa13, q_aa14, q_is_eq, q_wr_eq, q_01_0, q_01_1, q_nz_nI, q_len_tab, psh_some, psh_none, sm_up_at, sm_up_ne, nI_add, nI_lt2, nI_le2, nI_eq2, ls_set0, ls_setS, Nat.reduceAdd, Nat.zero_add, Nat.add_zero, not_true_eq_false, not_false_eq_true, ite_true, ite_false, pr0, pr1, pr2, h1, bl_test, up_D]
    cases hc : t.testBit x with
    | false =>
      have e0 : bitI t x = 0 := by simp [bitI, hc]
      rw [if_pos e0]
      have e2 : treadP P k t x = treadP P k t (x + 1) := by
        refine Prod.ext (funext fun j => funext fun y => ?_) rfl
        show (if j = k ∧ y < x ∧ t.testBit y = true then 9 else P.1 j y) = (if j = k ∧ y < x + 1 ∧ t.testBit y = true then 9 else P.1 j y)
        by_cases c1 : y = x
        · subst c1
          rw [if_neg (by simp [hc]), if_neg (by simp [hc])]
        · by_cases c2 : j = k ∧ y < x ∧ t.testBit y = true
          · rw [if_pos c2, if_pos ⟨c2.1, by omega, c2.2.2⟩]
          · rw [if_neg c2, if_neg (fun z => c2 ⟨z.1, by omega, z.2.2⟩)]
      rw [e2]
      exact ih (x + 1) (by omega)
    | true =>
      have e0 : ¬ bitI t x = 0 := by simp [bitI, hc]
      rw [if_neg e0]
      have e2 : ((fun k' x' => if k' = k ∧ x' = x then 9 else (treadP P k t x).1 k' x', (treadP P k t x).2) : PrS) = treadP P k t (x + 1) := by
        refine Prod.ext (funext fun j => funext fun y => ?_) rfl
        show (if j = k ∧ y = x then 9 else (if j = k ∧ y < x ∧ t.testBit y = true then 9 else P.1 j y)) = (if j = k ∧ y < x + 1 ∧ t.testBit y = true then 9 else P.1 j y)
        by_cases c1 : j = k ∧ y = x
        · obtain ⟨rfl, rfl⟩ := c1
          rw [if_pos ⟨rfl, rfl⟩, if_pos ⟨rfl, by omega, hc⟩]
        · rw [if_neg c1]
          by_cases c2 : j = k ∧ y < x ∧ t.testBit y = true
          · rw [if_pos c2, if_pos ⟨c2.1, by omega, c2.2.2⟩]
          · rw [if_neg c2, if_neg (fun z => c2 ⟨z.1, by omega, z.2.2⟩)]
      rw [e2]
      exact ih (x + 1) (by omega)
/-- WALKED: depths, gifts taken, walks -/
def walkP (P : PrS) (k t : Nat) : PrS := (fun j y => if j = k ∧ t.testBit y = true then 9 else P.1 j y, fun j => if j = k then andn (P.2.1 k) t else P.2.1 j, fun j => if j = k then P.2.2.1 k + 1 else P.2.2.1 j, fun j => if j = k then min 9999 (P.2.2.2 k + cnt (fun i => (P.2.1 k &&& t).testBit i) 64) else P.2.2.2 j)
theorem e_tread {t : Nat} (ht : t < 2 ^ 61) (hk : k < 2) (hg : P.2.1 k < 2 ^ 61) (hT : P.2.2.2 k ≤ 9999) : Wp xs m_Prints_tread 0 [.ref p, .int (nI k), .long (lN t), .null, .null] [] (setPr h p P) 0 0 K = K none (setPr h p (walkP P k t)) := by
  simp (disch := omega) only [w_Prints_tread_0, w_Prints_tread_1, q_rd_eq, q_nt_0, q_nt_s, q_ld_tab, q_st_tab, q_aa13, q_aa14, q_is_eq, q_wr_eq, q_01_0, q_01_1, q_nz_nI, q_len_tab, psh_some, psh_none, sm_up_at, sm_up_ne, nI_add, nI_lt2, nI_le2, nI_eq2, ls_set0, ls_setS, Nat.reduceAdd, Nat.zero_add, Nat.add_zero, not_true_eq_false, not_false_eq_true, ite_true, ite_false]
  have e0 : setPr h p P = setPr h p (treadP P k t 0) := PrEq.setPr ⟨fun j hj x hx => by show _ = (if j = k ∧ x < 0 ∧ t.testBit x = true then 9 else _); rw [if_neg (by omega)], fun j hj => ⟨rfl, rfl, rfl⟩⟩
  rw [e0, tread_loop ht hk 61 0 (by omega)]
  have e1 : setPr h p (treadP P k t 61) = setPr h p (fun j y => if j = k ∧ t.testBit y = true then 9 else P.1 j y, P.2) := PrEq.setPr ⟨fun j hj x hx => by
    show (if j = k ∧ x < 61 ∧ t.testBit x = true then 9 else P.1 j x) = (if j = k ∧ t.testBit x = true then 9 else P.1 j x)
    by_cases c : j = k ∧ t.testBit x = true
    · rw [if_pos c, if_pos ⟨c.1, hx, c.2⟩]
    · rw [if_neg c, if_neg (fun z => c ⟨z.1, z.2.2⟩)], fun j hj => ⟨rfl, rfl, rfl⟩⟩
  have hgt : P.2.1 k &&& t < 2 ^ 61 := and_lt hg
  have hc := cnt_le (fun i => (P.2.1 k &&& t).testBit i) 64
  rw [e1]
  simp (disch := first | exact hgt | omega) only [w_Prints_tread_38, w_Prints_tread_39, w_Prints_tread_42, w_Prints_tread_43, w_Prints_tread_46, w_Prints_tread_47, w_Prints_tread_50, w_Prints_tread_51, w_Prints_tread_52, w_Prints_tread_53, w_Prints_tread_56, w_Prints_tread_57, w_Prints_tread_58, w_Prints_tread_59, w_Prints_tread_60, w_Prints_tread_63, w_Prints_tread_64, w_Prints_tread_67, w_Prints_tread_68, w_Prints_tread_69, w_Prints_tread_72, w_Prints_tread_73, w_Prints_tread_74, w_Prints_tread_75, w_Prints_tread_76, w_Prints_tread_79, w_Prints_tread_80, w_Prints_tread_81, w_Prints_tread_82, w_Prints_tread_83, w_Prints_tread_86, w_Prints_tread_87, w_Prints_tread_88, w_Prints_tread_89, w_Prints_tread_90, w_Prints_tread_91, w_Prints_tread_92, q_rd_eq, q_nt_0, q_nt_s, q_ld_tab, q_st_tab, q_aa13, q_aa14, q_is_eq, q_wr_eq, q_01_0, q_01_1, q_nz_nI, q_len_tab, psh_some, psh_none, sm_up_at, sm_up_ne, nI_add, nI_lt2, nI_le2, nI_eq2, ls_set0, ls_setS, Nat.reduceAdd, Nat.zero_add, Nat.add_zero, not_true_eq_false, not_false_eq_true, ite_true, ite_false, pr0, pr4, pr5, pr6, bl_and, e_bitCount, q_min_nI, up_T, bl_andn, up_G, up_W]
  rfl
end STP
