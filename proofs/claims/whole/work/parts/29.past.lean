/-! the past; the first jump -/
section PST
variable {xs : List Int32} {h : sm_Hp} {K : Option Value → sm_Hp → Prop} {p k d : Nat} {P : PrS}
/-- the past at cell 10: ring 11, prints at 12 + 7 i -/
theorem e_remember {R : PrS} {nx kn : Nat} (hn : nx < 8) (hk : kn ≤ 8) (h10 : h.1 10 = (1, [.ref 11, .int (nI kn), .int (nI nx)])) (h11 : h.1 11 = (14, tab 8 (fun i => .ref (12 + 7 * i)))) (HP : PrAt h 3 P) (HR : PrAt h (12 + 7 * nx) R) :
    Wp xs m_Past_remember 0 [.ref 10, .ref 3] [] h 0 0 K = K none (sm_up (setPr h (12 + 7 * nx) P) 10 (1, [.ref 11, .int (nI (min 8 (kn + 1))), .int (nI ((nx + 1) % 8))])) := by
  have e := setPr_self HR
  have hd : 3 + 7 ≤ 12 + 7 * nx ∨ 12 + 7 * nx + 7 ≤ 3 := by omega
  have hb : ∀ K', Wp xs m_Prints_becomes 0 [.ref (12 + 7 * nx), .ref 3, .null] [] h 0 0 K' = K' none (setPr h (12 + 7 * nx) P) := fun K' => by
    conv => lhs; rw [← e]
    exact e_becomes HP (by omega)
  have c10 : (setPr h (12 + 7 * nx) P).1 10 = (1, [.ref 11, .int (nI kn), .int (nI nx)]) := by rw [setPr_ne (by omega)]; exact h10
  simp (disch := omega) only [w_Past_remember_0, w_Past_remember_1, w_Past_remember_4, w_Past_remember_5, w_Past_remember_8, w_Past_remember_9, w_Past_remember_10, w_Past_remember_13, w_Past_remember_14, w_Past_remember_15, w_Past_remember_18, w_Past_remember_19, w_Past_remember_20, w_Past_remember_22, w_Past_remember_23, w_Past_remember_26, w_Past_remember_27, w_Past_remember_29, w_Past_remember_30, w_Past_remember_33, w_Past_remember_34, w_Past_remember_35, w_Past_remember_38, w_Past_remember_41, q_rd_eq, q_nt_0, q_nt_s, q_ld_tab, q_st_tab, q_aa13, q_aa14, q_is_eq, q_wr_eq, q_01_0, q_01_1, q_nz_nI, q_len_tab, psh_some, psh_none, sm_up_at, sm_up_ne, nI_add, nI_lt2, nI_le2, nI_eq2, ls_set0, ls_setS, Nat.reduceAdd, Nat.zero_add, Nat.add_zero, not_true_eq_false, not_false_eq_true, ite_true, ite_false, nI_rem3, nI_div2, nI_sub2, q_max_nI, q_min_nI, h10, h11, HR.c0, hb, c10, sm_up_twice]
theorem e_lose {r : Value} {kn nx : Int32} (h10 : h.1 10 = (1, [r, .int kn, .int nx])) : Wp xs m_Past_loseAll 0 [.ref 10] [] h 0 0 K = K none (sm_up h 10 (1, [r, .int (nI 0), .int nx])) := by
  simp (disch := omega) only [w_Past_loseAll_0, w_Past_loseAll_1, w_Past_loseAll_2, w_Past_loseAll_5, q_rd_eq, q_nt_0, q_nt_s, q_ld_tab, q_st_tab, q_aa13, q_aa14, q_is_eq, q_wr_eq, q_01_0, q_01_1, q_nz_nI, q_len_tab, psh_some, psh_none, sm_up_at, sm_up_ne, nI_add, nI_lt2, nI_le2, nI_eq2, ls_set0, ls_setS, Nat.reduceAdd, Nat.zero_add, Nat.add_zero, not_true_eq_false, not_false_eq_true, ite_true, ite_false, nI_rem3, nI_div2, nI_sub2, q_max_nI, q_min_nI, h10]
theorem e_recall0 {nx : Nat} {r : Value} (h10 : h.1 10 = (1, [r, .int (nI 0), .int (nI nx)])) : Wp xs m_Past_recallInto 0 [.ref 10, .ref 3] [] h 0 0 K = K (some (.int (nI 0))) h := by
  simp (disch := omega) only [w_Past_recallInto_0, w_Past_recallInto_1, w_Past_recallInto_4, w_Past_recallInto_7, w_Past_recallInto_8, w_Past_recallInto_9, w_Past_recallInto_10, w_Past_recallInto_11, w_Past_recallInto_14, w_Past_recallInto_15, w_Past_recallInto_16, w_Past_recallInto_19, w_Past_recallInto_20, w_Past_recallInto_21, w_Past_recallInto_24, w_Past_recallInto_26, w_Past_recallInto_27, w_Past_recallInto_28, w_Past_recallInto_29, w_Past_recallInto_31, w_Past_recallInto_32, w_Past_recallInto_35, w_Past_recallInto_36, w_Past_recallInto_37, w_Past_recallInto_40, w_Past_recallInto_41, w_Past_recallInto_44, w_Past_recallInto_45, w_Past_recallInto_48, w_Past_recallInto_49, q_rd_eq, q_nt_0, q_nt_s, q_ld_tab, q_st_tab, q_aa13, q_aa14, q_is_eq, q_wr_eq, q_01_0, q_01_1, q_nz_nI, q_len_tab, psh_some, psh_none, sm_up_at, sm_up_ne, nI_add, nI_lt2, nI_le2, nI_eq2, ls_set0, ls_setS, Nat.reduceAdd, Nat.zero_add, Nat.add_zero, not_true_eq_false, not_false_eq_true, ite_true, ite_false, nI_rem3, nI_div2, nI_sub2, q_max_nI, q_min_nI, h10]
theorem e_recall {R : PrS} {nx kn : Nat} (hn : nx < 8) (hk : kn < 8) (h10 : h.1 10 = (1, [.ref 11, .int (nI (kn + 1)), .int (nI nx)])) (h11 : h.1 11 = (14, tab 8 (fun i => .ref (12 + 7 * i)))) (HP : PrAt h 3 P) (HR : PrAt h (12 + 7 * ((nx + 7) % 8)) R) :
    Wp xs m_Past_recallInto 0 [.ref 10, .ref 3] [] h 0 0 K = K (some (.int (nI 1))) (setPr (sm_up h 10 (1, [.ref 11, .int (nI kn), .int (nI ((nx + 7) % 8))])) 3 R) := by
  have h1 : ¬ kn + 1 = 0 := by omega
  have e2 : nx + 8 - 1 = nx + 7 := by omega
  have hb : ∀ K', Wp xs m_Prints_becomes 0 [.ref 3, .ref (12 + 7 * ((nx + 7) % 8)), .null] [] (sm_up h 10 (1, [.ref 11, .int (nI kn), .int (nI ((nx + 7) % 8))])) 0 0 K' = K' none (setPr (sm_up h 10 (1, [.ref 11, .int (nI kn), .int (nI ((nx + 7) % 8))])) 3 R) := fun K' => by
    have HP2 : PrAt (sm_up h 10 (1, [.ref 11, .int (nI kn), .int (nI ((nx + 7) % 8))])) 3 P := HP.up (by omega)
    have HR2 : PrAt (sm_up h 10 (1, [.ref 11, .int (nI kn), .int (nI ((nx + 7) % 8))])) (12 + 7 * ((nx + 7) % 8)) R := HR.up (by omega)
    conv => lhs; rw [← setPr_self HP2]
    exact e_becomes HR2 (by omega)
  have c3 : h.1 3 = _ := HP.c0
  simp (disch := omega) only [w_Past_recallInto_0, w_Past_recallInto_1, w_Past_recallInto_4, w_Past_recallInto_7, w_Past_recallInto_8, w_Past_recallInto_9, w_Past_recallInto_10, w_Past_recallInto_11, w_Past_recallInto_14, w_Past_recallInto_15, w_Past_recallInto_16, w_Past_recallInto_19, w_Past_recallInto_20, w_Past_recallInto_21, w_Past_recallInto_24, w_Past_recallInto_26, w_Past_recallInto_27, w_Past_recallInto_28, w_Past_recallInto_29, w_Past_recallInto_31, w_Past_recallInto_32, w_Past_recallInto_35, w_Past_recallInto_36, w_Past_recallInto_37, w_Past_recallInto_40, w_Past_recallInto_41, w_Past_recallInto_44, w_Past_recallInto_45, w_Past_recallInto_48, w_Past_recallInto_49, q_rd_eq, q_nt_0, q_nt_s, q_ld_tab, q_st_tab, q_aa13, q_aa14, q_is_eq, q_wr_eq, q_01_0, q_01_1, q_nz_nI, q_len_tab, psh_some, psh_none, sm_up_at, sm_up_ne, nI_add, nI_lt2, nI_le2, nI_eq2, ls_set0, ls_setS, Nat.reduceAdd, Nat.zero_add, Nat.add_zero, not_true_eq_false, not_false_eq_true, ite_true, ite_false, nI_rem3, nI_div2, nI_sub2, q_max_nI, q_min_nI, h10, h11, h1, Nat.add_sub_cancel, e2, sm_up_twice, c3, hb]
/-- the first jump from x on -/
def fJ (P : PrS) (d : Nat) : Nat → Nat → Option (Nat × Nat)
  | _, 0 => none
  | x, m + 1 => if hasP P 0 x = true then (match firstF (hasP P 1) (x - d) (61 - (x - d)) with
    | some y => if y ≤ x + d then some (x, y) else fJ P d (x + 1) m
    | none => fJ P d (x + 1) m) else fJ P d (x + 1) m
def jI : Option (Nat × Nat) → Int32
  | none => -9
  | some q => nI (100 * q.1 + q.2)
theorem firstF_lt (B : Nat → Bool) : ∀ m a y, firstF B a m = some y → a ≤ y ∧ y < a + m ∧ B y = true ∧ ∀ z, a ≤ z → z < y → B z = false
  | 0, a, y, h => by cases h
  | m + 1, a, y, h => by
    rw [firstF] at h
    split at h
    next hb =>
      cases h
      exact ⟨Nat.le_refl _, by omega, hb, fun z h1 h2 => absurd h2 (by omega)⟩
    next hb =>
      obtain ⟨g1, g2, g3, g4⟩ := firstF_lt B m (a + 1) y h
      refine ⟨by omega, by omega, g3, fun z h1 h2 => ?_⟩
      by_cases e : z = a
      · subst e
        cases hz : B z with
        | false => rfl
        | true => exact absurd hz hb
      · exact g4 z (by omega) h2
theorem firstF_none (B : Nat → Bool) : ∀ m a, firstF B a m = none → ∀ z, a ≤ z → z < a + m → B z = false
  | 0, a, h, z, h1, h2 => absurd h2 (by omega)
  | m + 1, a, h, z, h1, h2 => by
    rw [firstF] at h
    split at h
    · cases h
    next hb =>
      by_cases e : z = a
      · subst e
        cases hz : B z with
        | false => rfl
        | true => exact absurd hz hb
      · exact firstF_none B m (a + 1) h z (by omega) (by omega)
theorem fjump_loop (hd : DepOk P) (hdd : d ≤ 60) : ∀ m x y0, x + m = 61 → Wp xs m_Prints_firstJump 2 [.ref p, .int (nI d), .int (nI x), y0] [] (setPr h p P) 0 0 K = K (some (.int (jI (fJ P d x m)))) (setPr h p P) := by
  intro m
  induction m with
  | zero =>
    intro x y0 hx
    have : x = 61 := by omega
    subst this
    rw [w_Prints_firstJump_2]
    simp (disch := omega) only [w_Prints_firstJump_3, w_Prints_firstJump_5, w_Prints_firstJump_8, w_Prints_firstJump_9, w_Prints_firstJump_10, w_Prints_firstJump_11, w_Prints_firstJump_14, w_Prints_firstJump_17, w_Prints_firstJump_18, w_Prints_firstJump_19, w_Prints_firstJump_20, w_Prints_firstJump_21, w_Prints_firstJump_22, w_Prints_firstJump_23, w_Prints_firstJump_26, w_Prints_firstJump_29, w_Prints_firstJump_32, w_Prints_firstJump_34, w_Prints_firstJump_35, w_Prints_firstJump_36, w_Prints_firstJump_38, w_Prints_firstJump_41, w_Prints_firstJump_42, w_Prints_firstJump_43, w_Prints_firstJump_44, w_Prints_firstJump_45, w_Prints_firstJump_48, w_Prints_firstJump_50, w_Prints_firstJump_51, w_Prints_firstJump_52, w_Prints_firstJump_53, w_Prints_firstJump_54, w_Prints_firstJump_55, w_Prints_firstJump_58, w_Prints_firstJump_61, w_Prints_firstJump_63, q_rd_eq, q_nt_0, q_nt_s, q_ld_tab, q_st_tab, q_aa13, q_aa14, q_is_eq, q_wr_eq, q_01_0, q_01_1, q_nz_nI, q_len_tab, psh_some, psh_none, sm_up_at, sm_up_ne, nI_add, nI_lt2, nI_le2, nI_eq2, ls_set0, ls_setS, Nat.reduceAdd, Nat.zero_add, Nat.add_zero, not_true_eq_false, not_false_eq_true, ite_true, ite_false, nI_rem3, nI_div2, nI_sub2, q_max_nI, q_min_nI, Nat.le_refl]
    rfl
  | succ m ih =>
    intro x y0 hx
    rw [w_Prints_firstJump_2]
    have h1 : ¬ 61 ≤ x := by omega
    simp (disch := first | exact hd | omega) only [w_Prints_firstJump_3, w_Prints_firstJump_5, w_Prints_firstJump_8, w_Prints_firstJump_9, w_Prints_firstJump_10, w_Prints_firstJump_11, w_Prints_firstJump_14, w_Prints_firstJump_17, w_Prints_firstJump_18, w_Prints_firstJump_19, w_Prints_firstJump_20, w_Prints_firstJump_21, w_Prints_firstJump_22, w_Prints_firstJump_23, w_Prints_firstJump_26, w_Prints_firstJump_29, w_Prints_firstJump_32, w_Prints_firstJump_34, w_Prints_firstJump_35, w_Prints_firstJump_36, w_Prints_firstJump_38, w_Prints_firstJump_41, w_Prints_firstJump_42, w_Prints_firstJump_43, w_Prints_firstJump_44, w_Prints_firstJump_45, w_Prints_firstJump_48, w_Prints_firstJump_50, w_Prints_firstJump_51, w_Prints_firstJump_52, w_Prints_firstJump_53, w_Prints_firstJump_54, w_Prints_firstJump_55, w_Prints_firstJump_58, w_Prints_firstJump_61, w_Prints_firstJump_63, q_rd_eq, q_nt_0, q_nt_s, q_ld_tab, q_st_tab, q_aa13, q_aa14, q_is_eq, q_wr_eq, q_01_0, q_01_1, q_nz_nI, q_len_tab, psh_some, psh_none, sm_up_at, sm_up_ne, nI_add, nI_lt2, nI_le2, nI_eq2, ls_set0, ls_setS, Nat.reduceAdd, Nat.zero_add, Nat.add_zero, not_true_eq_false, not_false_eq_true, ite_true, ite_false, nI_rem3, nI_div2, nI_sub2, q_max_nI, q_min_nI, pr0, e_hasPrint, q_max0, e_firstFrom, h1, nI_b2n0]
    cases h2 : hasP P 0 x with
    | false =>
      simp only [if_true]
      rw [ih (x + 1) _ (by omega), fJ, h2]
      rfl
    | true =>
      simp only [Bool.true_eq_false, if_false]
      cases hF : firstF (hasP P 1) (x - d) (61 - (x - d)) with
      | none =>
        have e9 : oI none = -9 := rfl
        simp only [e9, if_true]
        rw [ih (x + 1) _ (by omega), fJ, h2, hF]
        rfl
      | some y =>
        obtain ⟨g1, g2, -, -⟩ := firstF_lt _ _ _ _ hF
        have e9 : oI (some y) = nI y := rfl
        have hne : ¬ nI y = -9 := by
          intro q
          have := congrArg Int32.toInt q
          rw [nI_toInt (by omega)] at this
          have h9 : (-9 : Int32).toInt = -9 := by decide
          rw [h9] at this
          omega
        simp (disch := omega) only [e9, hne, if_false, nI_lt2, pk_mul, nI_add]
        rw [fJ, h2, hF]
        simp only [if_true]
        by_cases hc : y ≤ x + d
        · rw [if_neg (by omega), if_pos hc]
          rfl
        · rw [if_pos (by omega), if_neg hc, ih (x + 1) _ (by omega)]
theorem e_firstJump (hd : DepOk P) (hdd : d ≤ 60) : Wp xs m_Prints_firstJump 0 [.ref p, .int (nI d), .null, .null] [] (setPr h p P) 0 0 K = K (some (.int (jI (fJ P d 0 61)))) (setPr h p P) := by
  simp (disch := omega) only [w_Prints_firstJump_0, w_Prints_firstJump_1, q_rd_eq, q_nt_0, q_nt_s, q_ld_tab, q_st_tab, q_aa13, q_aa14, q_is_eq, q_wr_eq, q_01_0, q_01_1, q_nz_nI, q_len_tab, psh_some, psh_none, sm_up_at, sm_up_ne, nI_add, nI_lt2, nI_le2, nI_eq2, ls_set0, ls_setS, Nat.reduceAdd, Nat.zero_add, Nat.add_zero, not_true_eq_false, not_false_eq_true, ite_true, ite_false, nI_rem3, nI_div2, nI_sub2, q_max_nI, q_min_nI]
  exact fjump_loop hd hdd 61 0 _ (by omega)
end PST
