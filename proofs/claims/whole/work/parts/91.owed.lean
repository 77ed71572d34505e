/-! the law from its beginning -/
theorem sm_owed_all (xs : List Int32) (hx : xs.length ≤ 320) : ∃ (n : Nat) (h' : sm_Hp), sm_run xs n m_Law_law 0 [.retAddr 0, .null, .null, .null] [] (fun _ => (99, []), 0) 0 0 = some (some (.int 1), h') := by
  have W : Wp xs m_Law_law 0 [.retAddr 0, .null, .null, .null] [] (fun _ => (99, []), 0) 0 0 (fun r _ => r = some (.int 1)) := by
    generalize hh : ((fun _ => (99, []), 0) : sm_Hp) = h
    have h2 : h.2 = 0 := by rw [← hh]
    simp (disch := omega) only [w_Law_law_0, w_Law_law_3, w_Law_law_4, q_rd_eq, q_nt_0, q_nt_s, q_ld_tab, q_st_tab, q_aa13, q_aa14, q_is_eq, q_wr_eq, q_01_0, q_01_1, q_nz_nI, q_len_tab, psh_some, psh_none, sm_up_at, sm_up_ne, nI_add, nI_lt2, nI_le2, nI_eq2, ls_set0, ls_setS, Nat.reduceAdd, Nat.zero_add, Nat.add_zero, not_true_eq_false, not_false_eq_true, ite_true, ite_false, h2]
    refine i_Two (nw_at h2) (by rw [nw_2, h2]) (fun hA IA a2 => ?_)
    simp (disch := omega) only [w_Law_law_7, w_Law_law_8, w_Law_law_11, w_Law_law_12, q_rd_eq, q_nt_0, q_nt_s, q_ld_tab, q_st_tab, q_aa13, q_aa14, q_is_eq, q_wr_eq, q_01_0, q_01_1, q_nz_nI, q_len_tab, psh_some, psh_none, sm_up_at, sm_up_ne, nI_add, nI_lt2, nI_le2, nI_eq2, ls_set0, ls_setS, Nat.reduceAdd, Nat.zero_add, Nat.add_zero, not_true_eq_false, not_false_eq_true, ite_true, ite_false, a2]
    refine i_Model (nw_at a2) (by rw [nw_2, a2]) (fun hB hm b3 b4 => ?_)
    obtain ⟨m, J, R⟩ := hm
    simp (disch := omega) only [w_Law_law_15, w_Law_law_16, w_Law_law_17, q_rd_eq, q_nt_0, q_nt_s, q_ld_tab, q_st_tab, q_aa13, q_aa14, q_is_eq, q_wr_eq, q_01_0, q_01_1, q_nz_nI, q_len_tab, psh_some, psh_none, sm_up_at, sm_up_ne, nI_add, nI_lt2, nI_le2, nI_eq2, ls_set0, ls_setS, Nat.reduceAdd, Nat.zero_add, Nat.add_zero, not_true_eq_false, not_false_eq_true, ite_true, ite_false]
    have IB : InvC hB s0 j0 := (show InvC (hA.1, 111) s0 j0 from IA).frM ⟨fun a ha => (b3 a ha).trans (nw_ne (by omega)), b4⟩
    exact law_loop hx (fun _ => rfl) xs.length 0 hB s0 (by omega) (by omega) ⟨j0, m, IB, J, R, s0_ok, b4⟩
  obtain ⟨n, r, h', hr, e⟩ := W
  subst e
  exact ⟨n, h', hr⟩
