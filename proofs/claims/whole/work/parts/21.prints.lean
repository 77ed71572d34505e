/-! Prints: what is asked of them -/
section PRI
variable {xs : List Int32} {h : sm_Hp} {K : Option Value → sm_Hp → Prop} {p k n : Nat} {P : PrS}
theorem deeper_loop (hd : DepOk P) (hk : k < 2) (hn : n ≤ 9) : ∀ m x many, x + m = 61 → many = cnt (fun x => decide (n < P.1 k x)) x → Wp xs m_Prints_deeperThan 5 [.ref p, .int (nI k), .int (nI n), .int (nI many), .int (nI x)] [] (setPr h p P) 0 0 K = K (some (.int (nI (cnt (fun x => decide (n < P.1 k x)) 61)))) (setPr h p P) := by
  intro m
  induction m with
  | zero =>
    intro x many hx hm
    have : x = 61 := by omega
    subst this
    simp (disch := omega) only [w_Prints_deeperThan_0, w_Prints_deeperThan_1, w_Prints_deeperThan_2, w_Prints_deeperThan_3, w_Prints_deeperThan_5, w_Prints_deeperThan_7, w_Prints_deeperThan_9, w_Prints_deeperThan_12, w_Prints_deeperThan_13, w_Prints_deeperThan_16, w_Prints_deeperThan_17, w_Prints_deeperThan_18, w_Prints_deeperThan_20, w_Prints_deeperThan_21, w_Prints_deeperThan_22, w_Prints_deeperThan_25, w_Prints_deeperThan_28, w_Prints_deeperThan_31, w_Prints_deeperThan_34, w_Prints_deeperThan_35, q_rd_eq, q_nt_0, q_nt_s, q_ld_tab, q_st_tab, q_aa13, q_aa14, q_is_eq, q_wr_eq, q_01_0, q_01_1, q_nz_nI, q_len_tab, psh_some, psh_none, sm_up_at, sm_up_ne, nI_add, nI_lt2, nI_le2, nI_eq2, ls_set0, ls_setS, Nat.reduceAdd, Nat.zero_add, Nat.add_zero, not_true_eq_false, not_false_eq_true, ite_true, ite_false, Nat.le_refl, hm]
  | succ m ih =>
    intro x many hx hm
    rw [w_Prints_deeperThan_5]
    have h1 : ¬ 61 ≤ x := by omega
    have h9 := hd k x
    simp (disch := omega) only [w_Prints_deeperThan_0, w_Prints_deeperThan_1, w_Prints_deeperThan_2, w_Prints_deeperThan_3, w_Prints_deeperThan_7, w_Prints_deeperThan_9, w_Prints_deeperThan_12, w_Prints_deeperThan_13, w_Prints_deeperThan_16, w_Prints_deeperThan_17, w_Prints_deeperThan_18, w_Prints_deeperThan_20, w_Prints_deeperThan_21, w_Prints_deeperThan_22, w_Prints_deeperThan_25, w_Prints_deeperThan_28, w_Prints_deeperThan_31, w_Prints_deeperThan_34, w_Prints_deeperThan_35, q_rd_eq, q_nt_0, q_nt_s, q_ld_tab, q_st_tab, q_aa13, q_aa14, q_is_eq, q_wr_eq, q_01_0, q_01_1, q_nz_nI, q_len_tab, psh_some, psh_none, sm_up_at, sm_up_ne, nI_add, nI_lt2, nI_le2, nI_eq2, ls_set0, ls_setS, Nat.reduceAdd, Nat.zero_add, Nat.add_zero, not_true_eq_false, not_false_eq_true, ite_true, ite_false, pr0, pr1, pr2, h1]
    by_cases hc : P.1 k x ≤ n
    · rw [if_pos hc]
      exact ih (x + 1) many (by omega) (by rw [hm]; simp [cnt, hc])
    · rw [if_neg hc]
      exact ih (x + 1) (many + 1) (by omega) (by rw [hm]; simp [cnt]; omega)
theorem e_deeper (hd : DepOk P) (hk : k < 2) (hn : n ≤ 9) : Wp xs m_Prints_deeperThan 0 [.ref p, .int (nI k), .int (nI n), .null, .null] [] (setPr h p P) 0 0 K = K (some (.int (nI (cnt (fun x => decide (n < P.1 k x)) 61)))) (setPr h p P) := by
  simp (disch := omega) only [w_Prints_deeperThan_0, w_Prints_deeperThan_1, w_Prints_deeperThan_2, w_Prints_deeperThan_3, w_Prints_deeperThan_7, w_Prints_deeperThan_9, w_Prints_deeperThan_12, w_Prints_deeperThan_13, w_Prints_deeperThan_16, w_Prints_deeperThan_17, w_Prints_deeperThan_18, w_Prints_deeperThan_20, w_Prints_deeperThan_21, w_Prints_deeperThan_22, w_Prints_deeperThan_25, w_Prints_deeperThan_28, w_Prints_deeperThan_31, w_Prints_deeperThan_34, w_Prints_deeperThan_35, q_rd_eq, q_nt_0, q_nt_s, q_ld_tab, q_st_tab, q_aa13, q_aa14, q_is_eq, q_wr_eq, q_01_0, q_01_1, q_nz_nI, q_len_tab, psh_some, psh_none, sm_up_at, sm_up_ne, nI_add, nI_lt2, nI_le2, nI_eq2, ls_set0, ls_setS, Nat.reduceAdd, Nat.zero_add, Nat.add_zero, not_true_eq_false, not_false_eq_true, ite_true, ite_false]
  exact deeper_loop hd hk hn 61 0 0 (by omega) rfl
end PRI
