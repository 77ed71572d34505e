/-! the model's tracks -/
abbrev mpa (m : MC) : PathS := ((m.2.2.1.2.1 0, m.2.2.1.2.1 1, m.2.2.1.2.1 2, m.2.2.1.2.1 3), m.2.2.1.2.2.1, m.2.2.1.2.2.2.1, m.2.2.1.2.2.2.2)
theorem andn_pow {x t : Nat} : (andn (2 ^ x) t = 0) = (t.testBit x = true) := by
  refine propext ⟨fun e => ?_, fun e => ?_⟩
  · have h := andn_bit (2 ^ x) t x
    rw [e, Nat.zero_testBit, Nat.testBit_two_pow_self] at h
    cases ht : t.testBit x
    · rw [ht] at h; cases h
    · rfl
  · apply Nat.eq_of_testBit_eq
    intro i
    rw [andn_bit, Nat.zero_testBit]
    by_cases hi : x = i
    · subst hi
      rw [e]
      simp
    · rw [Nat.testBit_two_pow_of_ne hi]
      rfl
section MTR
variable {xs : List Int32} {h : sm_Hp} {K : Option Value → sm_Hp → Prop} {m : MC} {k x n : Nat} {v u w t : Int32}
theorem m_on (I : MAt h m) (hk : k < 2) (hd : 2 ≤ m.2.2.1.2.2.2.1 k) (hd9 : m.2.2.1.2.2.2.1 k ≤ 9) {sh a i : Nat} (hs : sh ≤ 1) (ha : a ≤ 1000) (hi : i ≤ 1000) : Wp xs m_Model_on 0 [.ref 98, .int (nI k), .int (nI sh), .int (nI a), .int (nI i)] [] h 0 0 K = K (some (.int (nI (a + (m.2.2.1.2.2.2.1 k - (if i % 2 = 0 then sh else 0)))))) h := by
  by_cases c : sh = 1
  · subst c
    by_cases c2 : i % 2 = 0
    · have e : a + m.2.2.1.2.2.2.1 k - 1 = a + (m.2.2.1.2.2.2.1 k - 1) := by omega
      simp (disch := omega) only [w_Model_on_0, w_Model_on_1, w_Model_on_2, w_Model_on_5, w_Model_on_6, w_Model_on_7, w_Model_on_8, w_Model_on_9, w_Model_on_10, w_Model_on_13, w_Model_on_15, w_Model_on_16, w_Model_on_17, w_Model_on_20, w_Model_on_21, w_Model_on_24, w_Model_on_25, w_Model_on_26, q_rd_eq, q_nt_0, q_nt_s, q_ld_tab, q_st_tab, q_aa13, q_aa14, q_is_eq, q_wr_eq, q_01_0, q_01_1, q_nz_nI, q_len_tab, psh_some, psh_none, sm_up_at, sm_up_ne, nI_add, nI_lt2, nI_le2, nI_eq2, ls_set0, ls_setS, Nat.reduceAdd, Nat.zero_add, Nat.add_zero, not_true_eq_false, not_false_eq_true, ite_true, ite_false, nI_rem3, nI_div2, nI_sub2, q_max_nI, q_min_nI, I.o, I.sd, c2, if_true, e]
    · have e : a + m.2.2.1.2.2.2.1 k - 0 = a + (m.2.2.1.2.2.2.1 k - 0) := by omega
      simp (disch := omega) only [w_Model_on_0, w_Model_on_1, w_Model_on_2, w_Model_on_5, w_Model_on_6, w_Model_on_7, w_Model_on_8, w_Model_on_9, w_Model_on_10, w_Model_on_13, w_Model_on_15, w_Model_on_16, w_Model_on_17, w_Model_on_20, w_Model_on_21, w_Model_on_24, w_Model_on_25, w_Model_on_26, q_rd_eq, q_nt_0, q_nt_s, q_ld_tab, q_st_tab, q_aa13, q_aa14, q_is_eq, q_wr_eq, q_01_0, q_01_1, q_nz_nI, q_len_tab, psh_some, psh_none, sm_up_at, sm_up_ne, nI_add, nI_lt2, nI_le2, nI_eq2, ls_set0, ls_setS, Nat.reduceAdd, Nat.zero_add, Nat.add_zero, not_true_eq_false, not_false_eq_true, ite_true, ite_false, nI_rem3, nI_div2, nI_sub2, q_max_nI, q_min_nI, I.o, I.sd, c2, if_false, e]
  · have c0 : sh = 0 := by omega
    subst c0
    have h01 : ¬ (0 : Nat) = 1 := by omega
    have e : a + m.2.2.1.2.2.2.1 k - 0 = a + (m.2.2.1.2.2.2.1 k - (if i % 2 = 0 then 0 else 0)) := by split <;> omega
    simp (disch := omega) only [w_Model_on_0, w_Model_on_1, w_Model_on_2, w_Model_on_5, w_Model_on_6, w_Model_on_7, w_Model_on_8, w_Model_on_9, w_Model_on_10, w_Model_on_13, w_Model_on_15, w_Model_on_16, w_Model_on_17, w_Model_on_20, w_Model_on_21, w_Model_on_24, w_Model_on_25, w_Model_on_26, q_rd_eq, q_nt_0, q_nt_s, q_ld_tab, q_st_tab, q_aa13, q_aa14, q_is_eq, q_wr_eq, q_01_0, q_01_1, q_nz_nI, q_len_tab, psh_some, psh_none, sm_up_at, sm_up_ne, nI_add, nI_lt2, nI_le2, nI_eq2, ls_set0, ls_setS, Nat.reduceAdd, Nat.zero_add, Nat.add_zero, not_true_eq_false, not_false_eq_true, ite_true, ite_false, nI_rem3, nI_div2, nI_sub2, q_max_nI, q_min_nI, I.o, I.sd, h01, e]
theorem has_loop (I : MAt h m) (ok : PathOk (mpa m)) {j : Nat} (hj : j < 4) (hx : x ≤ m.2.2.1.2.1 0) : ∀ r i, i ≤ 61 → x + 1 - ft (m.2.2.1.2.2.1 (j % 2)) (m.2.2.1.2.2.2.1 (j % 2)) (j / 2) i ≤ r → (∀ i', i' < i → ft (m.2.2.1.2.2.1 (j % 2)) (m.2.2.1.2.2.2.1 (j % 2)) (j / 2) i' < x) → Wp xs m_Model_has 15 [.ref 98, .int (nI j), .int (nI x), .int (nI (j % 2)), .int (nI (ft (m.2.2.1.2.2.1 (j % 2)) (m.2.2.1.2.2.2.1 (j % 2)) (j / 2) i)), .int (nI (i + 1))] [] h 0 0 K = K (some (.int (nI (b2n ((trk (mpa m) j).testBit x))))) h := by
  have hl : m.2.2.1.2.1 0 ≤ 60 := ok.2.1
  obtain ⟨w1, w2, w3, -, -⟩ := ok.2.2.2.2.2.2 (j % 2) (by omega)
  have hd2 : 2 ≤ m.2.2.1.2.2.2.1 (j % 2) := w2
  have hd9 : m.2.2.1.2.2.2.1 (j % 2) ≤ 9 := w3
  have hbit : (trk (mpa m) j).testBit x = true ↔ x ≤ m.2.2.1.2.1 0 ∧ onT (m.2.2.1.2.2.1 (j % 2)) (m.2.2.1.2.2.2.1 (j % 2)) (j / 2) x := trk_bit ok hj x
  have hb01 : b2n true = 1 := rfl
  have hb00 : b2n false = 0 := rfl
  intro r
  induction r with
  | zero =>
    intro i hi hr hlt
    have h0 : x < ft (m.2.2.1.2.2.1 (j % 2)) (m.2.2.1.2.2.2.1 (j % 2)) (j / 2) i := by omega
    have hle : ft (m.2.2.1.2.2.1 (j % 2)) (m.2.2.1.2.2.2.1 (j % 2)) (j / 2) i ≤ 1000 := by
      have a1 := ft_le (m.2.2.1.2.2.1 (j % 2)) (m.2.2.1.2.2.2.1 (j % 2)) (j / 2) i
      have a2 : m.2.2.1.2.2.2.1 (j % 2) * i ≤ 9 * 61 := Nat.mul_le_mul hd9 hi
      have a3 : m.2.2.1.2.2.1 (j % 2) ≤ 9 := w1
      omega
    have hf : (trk (mpa m) j).testBit x = false := by
      cases hc : (trk (mpa m) j).testBit x
      · rfl
      · obtain ⟨-, i2, e2⟩ := hbit.mp hc
        rcases Nat.lt_trichotomy i2 i with a | a | a
        · have := hlt i2 a; omega
        · subst a; omega
        · have := ft_mono (s := m.2.2.1.2.2.1 (j % 2)) hd2 (show j / 2 ≤ 1 by omega) a; omega
    have h1 : x ≤ ft (m.2.2.1.2.2.1 (j % 2)) (m.2.2.1.2.2.2.1 (j % 2)) (j / 2) i := by omega
    have h2 : ¬ ft (m.2.2.1.2.2.1 (j % 2)) (m.2.2.1.2.2.2.1 (j % 2)) (j / 2) i = x := by omega
    rw [w_Model_has_15, hf]
    simp (disch := omega) only [w_Model_has_17, w_Model_has_18, w_Model_has_21, w_Model_has_22, w_Model_has_23, w_Model_has_24, w_Model_has_25, w_Model_has_26, w_Model_has_28, w_Model_has_30, w_Model_has_33, w_Model_has_35, w_Model_has_38, w_Model_has_41, w_Model_has_43, w_Model_has_44, w_Model_has_47, w_Model_has_48, w_Model_has_51, w_Model_has_52, q_rd_eq, q_nt_0, q_nt_s, q_ld_tab, q_st_tab, q_aa13, q_aa14, q_is_eq, q_wr_eq, q_01_0, q_01_1, q_nz_nI, q_len_tab, psh_some, psh_none, sm_up_at, sm_up_ne, nI_add, nI_lt2, nI_le2, nI_eq2, ls_set0, ls_setS, Nat.reduceAdd, Nat.zero_add, Nat.add_zero, not_true_eq_false, not_false_eq_true, ite_true, ite_false, nI_rem3, nI_div2, nI_sub2, q_max_nI, q_min_nI, h1, h2, hb00]
  | succ r ih =>
    intro i hi hr hlt
    have hle : ft (m.2.2.1.2.2.1 (j % 2)) (m.2.2.1.2.2.2.1 (j % 2)) (j / 2) i ≤ 1000 := by
      have a1 := ft_le (m.2.2.1.2.2.1 (j % 2)) (m.2.2.1.2.2.2.1 (j % 2)) (j / 2) i
      have a2 : m.2.2.1.2.2.2.1 (j % 2) * i ≤ 9 * 61 := Nat.mul_le_mul hd9 hi
      have a3 : m.2.2.1.2.2.1 (j % 2) ≤ 9 := w1
      omega
    rw [w_Model_has_15]
    by_cases h1 : x ≤ ft (m.2.2.1.2.2.1 (j % 2)) (m.2.2.1.2.2.2.1 (j % 2)) (j / 2) i
    · by_cases h2 : ft (m.2.2.1.2.2.1 (j % 2)) (m.2.2.1.2.2.2.1 (j % 2)) (j / 2) i = x
      · have hf : (trk (mpa m) j).testBit x = true := hbit.mpr ⟨hx, i, h2⟩
        rw [hf]
        simp (disch := omega) only [w_Model_has_17, w_Model_has_18, w_Model_has_21, w_Model_has_22, w_Model_has_23, w_Model_has_24, w_Model_has_25, w_Model_has_26, w_Model_has_28, w_Model_has_30, w_Model_has_33, w_Model_has_35, w_Model_has_38, w_Model_has_41, w_Model_has_43, w_Model_has_44, w_Model_has_47, w_Model_has_48, w_Model_has_51, w_Model_has_52, q_rd_eq, q_nt_0, q_nt_s, q_ld_tab, q_st_tab, q_aa13, q_aa14, q_is_eq, q_wr_eq, q_01_0, q_01_1, q_nz_nI, q_len_tab, psh_some, psh_none, sm_up_at, sm_up_ne, nI_add, nI_lt2, nI_le2, nI_eq2, ls_set0, ls_setS, Nat.reduceAdd, Nat.zero_add, Nat.add_zero, not_true_eq_false, not_false_eq_true, ite_true, ite_false, nI_rem3, nI_div2, nI_sub2, q_max_nI, q_min_nI, h1, h2, hb01, Nat.le_refl]
      · have hf : (trk (mpa m) j).testBit x = false := by
          cases hc : (trk (mpa m) j).testBit x
          · rfl
          · obtain ⟨-, i2, e2⟩ := hbit.mp hc
            rcases Nat.lt_trichotomy i2 i with a | a | a
            · have := hlt i2 a; omega
            · subst a; omega
            · have := ft_mono (s := m.2.2.1.2.2.1 (j % 2)) hd2 (show j / 2 ≤ 1 by omega) a; omega
        rw [hf]
        simp (disch := omega) only [w_Model_has_17, w_Model_has_18, w_Model_has_21, w_Model_has_22, w_Model_has_23, w_Model_has_24, w_Model_has_25, w_Model_has_26, w_Model_has_28, w_Model_has_30, w_Model_has_33, w_Model_has_35, w_Model_has_38, w_Model_has_41, w_Model_has_43, w_Model_has_44, w_Model_has_47, w_Model_has_48, w_Model_has_51, w_Model_has_52, q_rd_eq, q_nt_0, q_nt_s, q_ld_tab, q_st_tab, q_aa13, q_aa14, q_is_eq, q_wr_eq, q_01_0, q_01_1, q_nz_nI, q_len_tab, psh_some, psh_none, sm_up_at, sm_up_ne, nI_add, nI_lt2, nI_le2, nI_eq2, ls_set0, ls_setS, Nat.reduceAdd, Nat.zero_add, Nat.add_zero, not_true_eq_false, not_false_eq_true, ite_true, ite_false, nI_rem3, nI_div2, nI_sub2, q_max_nI, q_min_nI, h1, h2, hb00]
    · have hg := ft_ge (s := m.2.2.1.2.2.1 (j % 2)) hd2 (show j / 2 ≤ 1 by omega) i
      have hm := ft_lt (s := m.2.2.1.2.2.1 (j % 2)) hd2 (show j / 2 ≤ 1 by omega) i
      have eo : ∀ K, Wp xs m_Model_on 0 [.ref 98, .int (nI (j % 2)), .int (nI (j / 2)), .int (nI (ft (m.2.2.1.2.2.1 (j % 2)) (m.2.2.1.2.2.2.1 (j % 2)) (j / 2) i)), .int (nI (i + 1))] [] h 0 0 K = K (some (.int (nI (ft (m.2.2.1.2.2.1 (j % 2)) (m.2.2.1.2.2.2.1 (j % 2)) (j / 2) (i + 1))))) h := fun K => m_on I (by omega) hd2 hd9 (by omega) hle (by omega)
      simp (disch := omega) only [w_Model_has_17, w_Model_has_18, w_Model_has_21, w_Model_has_22, w_Model_has_23, w_Model_has_24, w_Model_has_25, w_Model_has_26, w_Model_has_28, w_Model_has_30, w_Model_has_33, w_Model_has_35, w_Model_has_38, q_rd_eq, q_nt_0, q_nt_s, q_ld_tab, q_st_tab, q_aa13, q_aa14, q_is_eq, q_wr_eq, q_01_0, q_01_1, q_nz_nI, q_len_tab, psh_some, psh_none, sm_up_at, sm_up_ne, nI_add, nI_lt2, nI_le2, nI_eq2, ls_set0, ls_setS, Nat.reduceAdd, Nat.zero_add, Nat.add_zero, not_true_eq_false, not_false_eq_true, ite_true, ite_false, nI_rem3, nI_div2, nI_sub2, q_max_nI, q_min_nI, I.o, h1, eo]
      refine ih (i + 1) (by omega) (by omega) (fun i' hi' => ?_)
      by_cases e : i' = i
      · subst e; omega
      · exact hlt i' (by omega)
theorem m_has (I : MAt h m) (ok : PathOk (mpa m)) {j : Nat} (hj : j < 4) (hx : x ≤ m.2.2.1.2.1 0) : Wp xs m_Model_has 0 [.ref 98, .int (nI j), .int (nI x), .null, .null, .null] [] h 0 0 K = K (some (.int (nI (b2n ((trk (mpa m) j).testBit x))))) h := by
  have hl : m.2.2.1.2.1 0 ≤ 60 := ok.2.1
  simp (disch := omega) only [w_Model_has_0, w_Model_has_1, w_Model_has_2, w_Model_has_3, w_Model_has_4, w_Model_has_5, w_Model_has_8, w_Model_has_9, w_Model_has_10, w_Model_has_12, w_Model_has_13, q_rd_eq, q_nt_0, q_nt_s, q_ld_tab, q_st_tab, q_aa13, q_aa14, q_is_eq, q_wr_eq, q_01_0, q_01_1, q_nz_nI, q_len_tab, psh_some, psh_none, sm_up_at, sm_up_ne, nI_add, nI_lt2, nI_le2, nI_eq2, ls_set0, ls_setS, Nat.reduceAdd, Nat.zero_add, Nat.add_zero, not_true_eq_false, not_false_eq_true, ite_true, ite_false, nI_rem3, nI_div2, nI_sub2, q_max_nI, q_min_nI, I.o, I.st]
  exact has_loop I ok hj hx (x + 1) 0 (by omega) (by omega) (fun i' hi' => absurd hi' (by omega))
theorem whoseIs_loop (I : MAt h m) (ok : PathOk (mpa m)) (hx : x ≤ m.2.2.1.2.1 0) : ∀ r j, j + r = 4 → Wp xs m_Model_whoseIs 4 [.ref 98, .int (nI x), .int (nI (twN (2 ^ x) (trk (mpa m)) j)), .int (nI j)] [] h 0 0 K = K (some (.int (nI (twN (2 ^ x) (trk (mpa m)) 4)))) h := by
  intro r
  induction r with
  | zero =>
    intro j hj
    have e : j = 4 := by omega
    subst e
    rw [w_Model_whoseIs_4]
    simp (disch := omega) only [w_Model_whoseIs_0, w_Model_whoseIs_1, w_Model_whoseIs_2, w_Model_whoseIs_3, w_Model_whoseIs_5, w_Model_whoseIs_6, w_Model_whoseIs_9, w_Model_whoseIs_10, w_Model_whoseIs_11, w_Model_whoseIs_12, w_Model_whoseIs_13, w_Model_whoseIs_16, w_Model_whoseIs_19, w_Model_whoseIs_20, w_Model_whoseIs_21, w_Model_whoseIs_22, w_Model_whoseIs_25, w_Model_whoseIs_26, w_Model_whoseIs_27, w_Model_whoseIs_28, w_Model_whoseIs_31, w_Model_whoseIs_34, w_Model_whoseIs_35, q_rd_eq, q_nt_0, q_nt_s, q_ld_tab, q_st_tab, q_aa13, q_aa14, q_is_eq, q_wr_eq, q_01_0, q_01_1, q_nz_nI, q_len_tab, psh_some, psh_none, sm_up_at, sm_up_ne, nI_add, nI_lt2, nI_le2, nI_eq2, ls_set0, ls_setS, Nat.reduceAdd, Nat.zero_add, Nat.add_zero, not_true_eq_false, not_false_eq_true, ite_true, ite_false, nI_rem3, nI_div2, nI_sub2, q_max_nI, q_min_nI, Nat.le_refl]
  | succ r ih =>
    intro j hj
    have h1 : ¬ 4 ≤ j := by omega
    have h01 : ¬ (1 : Nat) = 0 := by omega
    have hb01 : b2n true = 1 := rfl
    have hb00 : b2n false = 0 := rfl
    have eh : ∀ K, Wp xs m_Model_has 0 [.ref 98, .int (nI j), .int (nI x), .null, .null, .null] [] h 0 0 K = _ := fun K => m_has I ok (j := j) (by omega) hx
    have es : twN (2 ^ x) (trk (mpa m)) (j + 1) = if andn (2 ^ x) (trk (mpa m) j) = 0 then twN (2 ^ x) (trk (mpa m)) j ||| 2 ^ j else twN (2 ^ x) (trk (mpa m)) j := rfl
    have e1 := ih (j + 1) (by omega)
    have hz : ∀ a : Nat, a ||| 0 = a := fun a => Nat.or_zero a
    rw [w_Model_whoseIs_4]
    cases hc : (trk (mpa m) j).testBit x with
    | true =>
      rw [hc] at eh
      rw [es, if_pos (andn_pow.mpr hc)] at e1
      simp (disch := omega) only [w_Model_whoseIs_0, w_Model_whoseIs_1, w_Model_whoseIs_2, w_Model_whoseIs_3, w_Model_whoseIs_5, w_Model_whoseIs_6, w_Model_whoseIs_9, w_Model_whoseIs_10, w_Model_whoseIs_11, w_Model_whoseIs_12, w_Model_whoseIs_13, w_Model_whoseIs_16, w_Model_whoseIs_19, w_Model_whoseIs_20, w_Model_whoseIs_21, w_Model_whoseIs_22, w_Model_whoseIs_25, w_Model_whoseIs_26, w_Model_whoseIs_27, w_Model_whoseIs_28, w_Model_whoseIs_31, w_Model_whoseIs_34, w_Model_whoseIs_35, q_rd_eq, q_nt_0, q_nt_s, q_ld_tab, q_st_tab, q_aa13, q_aa14, q_is_eq, q_wr_eq, q_01_0, q_01_1, q_nz_nI, q_len_tab, psh_some, psh_none, sm_up_at, sm_up_ne, nI_add, nI_lt2, nI_le2, nI_eq2, ls_set0, ls_setS, Nat.reduceAdd, Nat.zero_add, Nat.add_zero, not_true_eq_false, not_false_eq_true, ite_true, ite_false, nI_rem3, nI_div2, nI_sub2, q_max_nI, q_min_nI, I.o, h1, eh, hb01, h01, nI_shl4, nI_or]
      exact e1
    | false =>
      rw [hc] at eh
      rw [es, if_neg (fun q => by rw [andn_pow, hc] at q; cases q)] at e1
      simp (disch := omega) only [w_Model_whoseIs_0, w_Model_whoseIs_1, w_Model_whoseIs_2, w_Model_whoseIs_3, w_Model_whoseIs_5, w_Model_whoseIs_6, w_Model_whoseIs_9, w_Model_whoseIs_10, w_Model_whoseIs_11, w_Model_whoseIs_12, w_Model_whoseIs_13, w_Model_whoseIs_16, w_Model_whoseIs_19, w_Model_whoseIs_20, w_Model_whoseIs_21, w_Model_whoseIs_22, w_Model_whoseIs_25, w_Model_whoseIs_26, w_Model_whoseIs_27, w_Model_whoseIs_28, w_Model_whoseIs_31, w_Model_whoseIs_34, w_Model_whoseIs_35, q_rd_eq, q_nt_0, q_nt_s, q_ld_tab, q_st_tab, q_aa13, q_aa14, q_is_eq, q_wr_eq, q_01_0, q_01_1, q_nz_nI, q_len_tab, psh_some, psh_none, sm_up_at, sm_up_ne, nI_add, nI_lt2, nI_le2, nI_eq2, ls_set0, ls_setS, Nat.reduceAdd, Nat.zero_add, Nat.add_zero, not_true_eq_false, not_false_eq_true, ite_true, ite_false, nI_rem3, nI_div2, nI_sub2, q_max_nI, q_min_nI, I.o, h1, eh, hb00, nI_or, hz]
      exact e1
theorem m_whoseIs (I : MAt h m) (ok : PathOk (mpa m)) (hx : x ≤ m.2.2.1.2.1 0) : Wp xs m_Model_whoseIs 0 [.ref 98, .int (nI x), .null, .null] [] h 0 0 K = K (some (.int (nI (twN (2 ^ x) (trk (mpa m)) 4)))) h := by
  simp (disch := omega) only [w_Model_whoseIs_0, w_Model_whoseIs_1, w_Model_whoseIs_2, w_Model_whoseIs_3, w_Model_whoseIs_5, w_Model_whoseIs_6, w_Model_whoseIs_9, w_Model_whoseIs_10, w_Model_whoseIs_11, w_Model_whoseIs_12, w_Model_whoseIs_13, w_Model_whoseIs_16, w_Model_whoseIs_19, w_Model_whoseIs_20, w_Model_whoseIs_21, w_Model_whoseIs_22, w_Model_whoseIs_25, w_Model_whoseIs_26, w_Model_whoseIs_27, w_Model_whoseIs_28, w_Model_whoseIs_31, w_Model_whoseIs_34, w_Model_whoseIs_35, q_rd_eq, q_nt_0, q_nt_s, q_ld_tab, q_st_tab, q_aa13, q_aa14, q_is_eq, q_wr_eq, q_01_0, q_01_1, q_nz_nI, q_len_tab, psh_some, psh_none, sm_up_at, sm_up_ne, nI_add, nI_lt2, nI_le2, nI_eq2, ls_set0, ls_setS, Nat.reduceAdd, Nat.zero_add, Nat.add_zero, not_true_eq_false, not_false_eq_true, ite_true, ite_false, nI_rem3, nI_div2, nI_sub2, q_max_nI, q_min_nI]
  exact whoseIs_loop I ok hx 4 0 (by omega)
theorem m_whose (I : MAt h m) (ok : PathOk (mpa m)) (hx : x ≤ m.2.2.1.2.1 0) : Wp xs m_Model_whose 0 [.ref 98, .int (nI x)] [] h 0 0 K = K (some (.int (nI (twN (2 ^ x) (trk (mpa m)) 4)))) h := by
  have hl : m.2.2.1.2.1 0 ≤ 60 := ok.2.1
  have h01 : ¬ (1 : Nat) = 0 := by omega
  simp (disch := first | assumption | omega) only [w_Model_whose_0, w_Model_whose_1, w_Model_whose_2, w_Model_whose_5, w_Model_whose_6, w_Model_whose_7, w_Model_whose_10, w_Model_whose_13, w_Model_whose_14, w_Model_whose_15, w_Model_whose_18, w_Model_whose_21, w_Model_whose_22, q_rd_eq, q_nt_0, q_nt_s, q_ld_tab, q_st_tab, q_aa13, q_aa14, q_is_eq, q_wr_eq, q_01_0, q_01_1, q_nz_nI, q_len_tab, psh_some, psh_none, sm_up_at, sm_up_ne, nI_add, nI_lt2, nI_le2, nI_eq2, ls_set0, ls_setS, Nat.reduceAdd, Nat.zero_add, Nat.add_zero, not_true_eq_false, not_false_eq_true, ite_true, ite_false, nI_rem3, nI_div2, nI_sub2, q_max_nI, q_min_nI, I.o, I.th, t_mFoot I, h01, m_whoseIs I ok]
theorem m_whoseX (I : MAt h m) (hl : m.2.2.1.2.1 0 ≤ 60) (hu : ¬ inr u (m.2.2.1.2.1 0 + 1)) : Wp xs m_Model_whose 0 [.ref 98, .int u] [] h 0 0 K = K (some (.int (-1))) h := by
  simp (disch := first | assumption | omega) only [w_Model_whose_0, w_Model_whose_1, w_Model_whose_2, w_Model_whose_5, w_Model_whose_6, w_Model_whose_7, w_Model_whose_10, w_Model_whose_13, w_Model_whose_14, w_Model_whose_15, w_Model_whose_18, w_Model_whose_21, w_Model_whose_22, q_rd_eq, q_nt_0, q_nt_s, q_ld_tab, q_st_tab, q_aa13, q_aa14, q_is_eq, q_wr_eq, q_01_0, q_01_1, q_nz_nI, q_len_tab, psh_some, psh_none, sm_up_at, sm_up_ne, nI_add, nI_lt2, nI_le2, nI_eq2, ls_set0, ls_setS, Nat.reduceAdd, Nat.zero_add, Nat.add_zero, not_true_eq_false, not_false_eq_true, ite_true, ite_false, nI_rem3, nI_div2, nI_sub2, q_max_nI, q_min_nI, I.o, I.th, f_mFoot I]
/-! where both tread; what tells two tracks -/
theorem both_loop (I : MAt h m) (ok : PathOk (mpa m)) : ∀ r x p, x + r = m.2.2.1.2.1 0 + 1 → p ≤ x → Wp xs m_Model_both 16 [.ref 98, .int u, .int (nI p), .int (nI x)] [] h 0 0 K = K (some (.int (if u = -1 then nI (p + cnt (fun i => (trk (mpa m) 0).testBit (x + i) && (trk (mpa m) 1).testBit (x + i)) r) else nthF (fun i => (trk (mpa m) 0).testBit i && (trk (mpa m) 1).testBit i) u r x p))) h := by
  have hl : m.2.2.1.2.1 0 ≤ 60 := ok.2.1
  intro r
  induction r with
  | zero =>
    intro x p hx hp
    have h1 : m.2.2.1.2.1 0 < x := by omega
    rw [w_Model_both_16]
    simp (disch := omega) only [w_Model_both_17, w_Model_both_18, w_Model_both_21, w_Model_both_22, w_Model_both_23, w_Model_both_26, w_Model_both_27, w_Model_both_28, w_Model_both_29, w_Model_both_32, w_Model_both_35, w_Model_both_36, w_Model_both_37, w_Model_both_38, w_Model_both_41, w_Model_both_44, w_Model_both_45, w_Model_both_46, w_Model_both_49, w_Model_both_50, w_Model_both_51, w_Model_both_54, w_Model_both_57, w_Model_both_60, w_Model_both_61, w_Model_both_62, w_Model_both_65, w_Model_both_66, w_Model_both_69, w_Model_both_71, q_rd_eq, q_nt_0, q_nt_s, q_ld_tab, q_st_tab, q_aa13, q_aa14, q_is_eq, q_wr_eq, q_01_0, q_01_1, q_nz_nI, q_len_tab, psh_some, psh_none, sm_up_at, sm_up_ne, nI_add, nI_lt2, nI_le2, nI_eq2, ls_set0, ls_setS, Nat.reduceAdd, Nat.zero_add, Nat.add_zero, not_true_eq_false, not_false_eq_true, ite_true, ite_false, nI_rem3, nI_div2, nI_sub2, q_max_nI, q_min_nI, I.o, I.mn, h1]
    by_cases c : u = -1
    · rw [if_neg (not_not_intro c), if_pos c]; rfl
    · rw [if_pos c, if_neg c]; rfl
  | succ r ih =>
    intro x p hx hp
    have h1 : ¬ m.2.2.1.2.1 0 < x := by omega
    have h01 : ¬ (1 : Nat) = 0 := by omega
    have hb01 : b2n true = 1 := rfl
    have hb00 : b2n false = 0 := rfl
    have e0 : ∀ K, Wp xs m_Model_has 0 [.ref 98, .int (nI 0), .int (nI x), .null, .null, .null] [] h 0 0 K = _ := fun K => m_has I ok (j := 0) (by omega) (x := x) (by omega)
    have e1 : ∀ K, Wp xs m_Model_has 0 [.ref 98, .int (nI 1), .int (nI x), .null, .null, .null] [] h 0 0 K = _ := fun K => m_has I ok (j := 1) (by omega) (x := x) (by omega)
    have ec : cnt (fun i => (trk (mpa m) 0).testBit (x + i) && (trk (mpa m) 1).testBit (x + i)) (r + 1) = (if ((trk (mpa m) 0).testBit x && (trk (mpa m) 1).testBit x) = true then 1 else 0) + cnt (fun i => (trk (mpa m) 0).testBit (x + 1 + i) && (trk (mpa m) 1).testBit (x + 1 + i)) r := by
      have q := cnt_shift (fun i => (trk (mpa m) 0).testBit (x + i) && (trk (mpa m) 1).testBit (x + i)) 1 r
      rw [Nat.add_comm 1 r] at q
      rw [q]
      congr 1
      · show 0 + _ = _
        rw [Nat.zero_add]
        rfl
      · exact cnt_congr (fun i _ => by rw [Nat.add_assoc x 1 i])
    have hft : ¬ (false = true) := by decide
    have htt : true = true := rfl
    rw [w_Model_both_16, ec]
    unfold nthF
    cases c0 : (trk (mpa m) 0).testBit x with
    | false =>
      rw [c0] at e0
      simp (disch := omega) only [w_Model_both_17, w_Model_both_18, w_Model_both_21, w_Model_both_22, w_Model_both_23, w_Model_both_26, w_Model_both_27, w_Model_both_28, w_Model_both_29, w_Model_both_32, w_Model_both_35, w_Model_both_36, w_Model_both_37, w_Model_both_38, w_Model_both_41, w_Model_both_44, w_Model_both_45, w_Model_both_46, w_Model_both_49, w_Model_both_50, w_Model_both_51, w_Model_both_54, w_Model_both_57, w_Model_both_60, w_Model_both_61, w_Model_both_62, w_Model_both_65, w_Model_both_66, w_Model_both_69, w_Model_both_71, q_rd_eq, q_nt_0, q_nt_s, q_ld_tab, q_st_tab, q_aa13, q_aa14, q_is_eq, q_wr_eq, q_01_0, q_01_1, q_nz_nI, q_len_tab, psh_some, psh_none, sm_up_at, sm_up_ne, nI_add, nI_lt2, nI_le2, nI_eq2, ls_set0, ls_setS, Nat.reduceAdd, Nat.zero_add, Nat.add_zero, not_true_eq_false, not_false_eq_true, ite_true, ite_false, nI_rem3, nI_div2, nI_sub2, q_max_nI, q_min_nI, I.o, I.mn, h1, e0, hb00]
      have e := ih (x + 1) p (by omega) (by omega)
      rw [e, Bool.false_and, if_neg hft, Nat.zero_add, if_neg hft]
    | true =>
      rw [c0] at e0
      cases c1 : (trk (mpa m) 1).testBit x with
      | false =>
        rw [c1] at e1
        simp (disch := omega) only [w_Model_both_17, w_Model_both_18, w_Model_both_21, w_Model_both_22, w_Model_both_23, w_Model_both_26, w_Model_both_27, w_Model_both_28, w_Model_both_29, w_Model_both_32, w_Model_both_35, w_Model_both_36, w_Model_both_37, w_Model_both_38, w_Model_both_41, w_Model_both_44, w_Model_both_45, w_Model_both_46, w_Model_both_49, w_Model_both_50, w_Model_both_51, w_Model_both_54, w_Model_both_57, w_Model_both_60, w_Model_both_61, w_Model_both_62, w_Model_both_65, w_Model_both_66, w_Model_both_69, w_Model_both_71, q_rd_eq, q_nt_0, q_nt_s, q_ld_tab, q_st_tab, q_aa13, q_aa14, q_is_eq, q_wr_eq, q_01_0, q_01_1, q_nz_nI, q_len_tab, psh_some, psh_none, sm_up_at, sm_up_ne, nI_add, nI_lt2, nI_le2, nI_eq2, ls_set0, ls_setS, Nat.reduceAdd, Nat.zero_add, Nat.add_zero, not_true_eq_false, not_false_eq_true, ite_true, ite_false, nI_rem3, nI_div2, nI_sub2, q_max_nI, q_min_nI, I.o, I.mn, h1, e0, e1, hb00, hb01, h01]
        have e := ih (x + 1) p (by omega) (by omega)
        rw [e, Bool.and_false, if_neg hft, Nat.zero_add, if_neg hft]
      | true =>
        rw [c1] at e1
        simp (disch := omega) only [w_Model_both_17, w_Model_both_18, w_Model_both_21, w_Model_both_22, w_Model_both_23, w_Model_both_26, w_Model_both_27, w_Model_both_28, w_Model_both_29, w_Model_both_32, w_Model_both_35, w_Model_both_36, w_Model_both_37, w_Model_both_38, w_Model_both_41, w_Model_both_44, w_Model_both_45, w_Model_both_46, w_Model_both_49, w_Model_both_50, w_Model_both_51, w_Model_both_54, w_Model_both_57, w_Model_both_60, w_Model_both_61, w_Model_both_62, w_Model_both_65, w_Model_both_66, w_Model_both_69, w_Model_both_71, q_rd_eq, q_nt_0, q_nt_s, q_ld_tab, q_st_tab, q_aa13, q_aa14, q_is_eq, q_wr_eq, q_01_0, q_01_1, q_nz_nI, q_len_tab, psh_some, psh_none, sm_up_at, sm_up_ne, nI_add, nI_lt2, nI_le2, nI_eq2, ls_set0, ls_setS, Nat.reduceAdd, Nat.zero_add, Nat.add_zero, not_true_eq_false, not_false_eq_true, ite_true, ite_false, nI_rem3, nI_div2, nI_sub2, q_max_nI, q_min_nI, I.o, I.mn, h1, e0, e1, hb01, h01]
        rw [Bool.and_true, if_pos htt, if_pos htt]
        by_cases cu : nI p = u
        · have hu : ¬ u = -1 := by
            intro q
            rw [← cu] at q
            have := congrArg Int32.toInt q
            rw [nI_toInt (by omega)] at this
            have h2 : (-1 : Int32).toInt = -1 := by decide
            omega
          rw [if_neg (not_not_intro cu), if_neg hu, if_pos cu]
        · rw [if_pos cu, if_neg cu]
          have e := ih (x + 1) (p + 1) (by omega) (by omega)
          rw [e, Nat.add_assoc]
def mBoth (m : MC) (u : Int32) : Int32 := if u = -1 then nI (cnt (fun i => (trk (mpa m) 0).testBit i && (trk (mpa m) 1).testBit i) (m.2.2.1.2.1 0 + 1)) else nthF (fun i => (trk (mpa m) 0).testBit i && (trk (mpa m) 1).testBit i) u (m.2.2.1.2.1 0 + 1) 0 0
theorem m_both (I : MAt h m) (ok : PathOk (mpa m)) (hu : (-1 : Int32) ≤ u) : Wp xs m_Model_both 0 [.ref 98, .int u, .null, .null] [] h 0 0 K = K (some (.int (mBoth m u))) h := by
  simp (disch := first | assumption | omega) only [w_Model_both_0, w_Model_both_1, w_Model_both_2, w_Model_both_5, w_Model_both_6, w_Model_both_7, w_Model_both_10, w_Model_both_11, w_Model_both_12, w_Model_both_13, w_Model_both_14, w_Model_both_15, q_rd_eq, q_nt_0, q_nt_s, q_ld_tab, q_st_tab, q_aa13, q_aa14, q_is_eq, q_wr_eq, q_01_0, q_01_1, q_nz_nI, q_len_tab, psh_some, psh_none, sm_up_at, sm_up_ne, nI_add, nI_lt2, nI_le2, nI_eq2, ls_set0, ls_setS, Nat.reduceAdd, Nat.zero_add, Nat.add_zero, not_true_eq_false, not_false_eq_true, ite_true, ite_false, nI_rem3, nI_div2, nI_sub2, q_max_nI, q_min_nI, I.o, I.th, hu]
  refine Eq.trans (both_loop I ok (m.2.2.1.2.1 0 + 1) 0 0 (by omega) (by omega)) ?_
  unfold mBoth
  simp only [Nat.zero_add]
theorem m_bothX (I : MAt h m) (hu : ¬ (-1 : Int32) ≤ u) : Wp xs m_Model_both 0 [.ref 98, .int u, .null, .null] [] h 0 0 K = K (some (.int (-1))) h := by
  simp (disch := first | assumption | omega) only [w_Model_both_0, w_Model_both_1, w_Model_both_2, w_Model_both_5, w_Model_both_6, w_Model_both_7, w_Model_both_10, w_Model_both_11, w_Model_both_12, w_Model_both_13, w_Model_both_14, w_Model_both_15, q_rd_eq, q_nt_0, q_nt_s, q_ld_tab, q_st_tab, q_aa13, q_aa14, q_is_eq, q_wr_eq, q_01_0, q_01_1, q_nz_nI, q_len_tab, psh_some, psh_none, sm_up_at, sm_up_ne, nI_add, nI_lt2, nI_le2, nI_eq2, ls_set0, ls_setS, Nat.reduceAdd, Nat.zero_add, Nat.add_zero, not_true_eq_false, not_false_eq_true, ite_true, ite_false, nI_rem3, nI_div2, nI_sub2, q_max_nI, q_min_nI, I.o, I.th, hu]
theorem tells_loop (I : MAt h m) (ok : PathOk (mpa m)) (hk : k < 4) (hn : n < 4) : ∀ r x, x + r = m.2.2.1.2.1 0 + 1 → Wp xs m_Model_tells 27 [.ref 98, .int (nI k), .int (nI n), .int (nI x)] [] h 0 0 K = K (some (.int (oI (firstF (fun i => (trk (mpa m) k ^^^ trk (mpa m) n).testBit i) x r)))) h := by
  have hl : m.2.2.1.2.1 0 ≤ 60 := ok.2.1
  intro r
  induction r with
  | zero =>
    intro x hx
    have h1 : m.2.2.1.2.1 0 < x := by omega
    rw [w_Model_tells_27]
    simp (disch := omega) only [w_Model_tells_28, w_Model_tells_29, w_Model_tells_32, w_Model_tells_33, w_Model_tells_34, w_Model_tells_37, w_Model_tells_38, w_Model_tells_39, w_Model_tells_40, w_Model_tells_43, w_Model_tells_44, w_Model_tells_45, w_Model_tells_46, w_Model_tells_49, w_Model_tells_52, w_Model_tells_53, w_Model_tells_54, w_Model_tells_57, w_Model_tells_60, w_Model_tells_62, q_rd_eq, q_nt_0, q_nt_s, q_ld_tab, q_st_tab, q_aa13, q_aa14, q_is_eq, q_wr_eq, q_01_0, q_01_1, q_nz_nI, q_len_tab, psh_some, psh_none, sm_up_at, sm_up_ne, nI_add, nI_lt2, nI_le2, nI_eq2, ls_set0, ls_setS, Nat.reduceAdd, Nat.zero_add, Nat.add_zero, not_true_eq_false, not_false_eq_true, ite_true, ite_false, nI_rem3, nI_div2, nI_sub2, q_max_nI, q_min_nI, I.o, I.mn, h1]
    rfl
  | succ r ih =>
    intro x hx
    have h1 : ¬ m.2.2.1.2.1 0 < x := by omega
    have h01 : ¬ (1 : Nat) = 0 := by omega
    have h10 : ¬ (0 : Nat) = 1 := by omega
    have hb01 : b2n true = 1 := rfl
    have hb00 : b2n false = 0 := rfl
    have e0 : ∀ K, Wp xs m_Model_has 0 [.ref 98, .int (nI k), .int (nI x), .null, .null, .null] [] h 0 0 K = _ := fun K => m_has I ok hk (x := x) (by omega)
    have e1 : ∀ K, Wp xs m_Model_has 0 [.ref 98, .int (nI n), .int (nI x), .null, .null, .null] [] h 0 0 K = _ := fun K => m_has I ok hn (x := x) (by omega)
    rw [w_Model_tells_27]
    show _ = K (some (.int (oI (if (trk (mpa m) k ^^^ trk (mpa m) n).testBit x = true then some x else firstF (fun i => (trk (mpa m) k ^^^ trk (mpa m) n).testBit i) (x + 1) r)))) h
    rw [Nat.testBit_xor]
    cases c0 : (trk (mpa m) k).testBit x <;> cases c1 : (trk (mpa m) n).testBit x <;> rw [c0] at e0 <;> rw [c1] at e1
    · simp (disch := omega) only [w_Model_tells_28, w_Model_tells_29, w_Model_tells_32, w_Model_tells_33, w_Model_tells_34, w_Model_tells_37, w_Model_tells_38, w_Model_tells_39, w_Model_tells_40, w_Model_tells_43, w_Model_tells_44, w_Model_tells_45, w_Model_tells_46, w_Model_tells_49, w_Model_tells_52, w_Model_tells_53, w_Model_tells_54, w_Model_tells_57, w_Model_tells_60, w_Model_tells_62, q_rd_eq, q_nt_0, q_nt_s, q_ld_tab, q_st_tab, q_aa13, q_aa14, q_is_eq, q_wr_eq, q_01_0, q_01_1, q_nz_nI, q_len_tab, psh_some, psh_none, sm_up_at, sm_up_ne, nI_add, nI_lt2, nI_le2, nI_eq2, ls_set0, ls_setS, Nat.reduceAdd, Nat.zero_add, Nat.add_zero, not_true_eq_false, not_false_eq_true, ite_true, ite_false, nI_rem3, nI_div2, nI_sub2, q_max_nI, q_min_nI, I.o, I.mn, h1, e0, e1, hb00]
      rw [if_neg (by decide)]
      exact ih (x + 1) (by omega)
    · simp (disch := omega) only [w_Model_tells_28, w_Model_tells_29, w_Model_tells_32, w_Model_tells_33, w_Model_tells_34, w_Model_tells_37, w_Model_tells_38, w_Model_tells_39, w_Model_tells_40, w_Model_tells_43, w_Model_tells_44, w_Model_tells_45, w_Model_tells_46, w_Model_tells_49, w_Model_tells_52, w_Model_tells_53, w_Model_tells_54, w_Model_tells_57, w_Model_tells_60, w_Model_tells_62, q_rd_eq, q_nt_0, q_nt_s, q_ld_tab, q_st_tab, q_aa13, q_aa14, q_is_eq, q_wr_eq, q_01_0, q_01_1, q_nz_nI, q_len_tab, psh_some, psh_none, sm_up_at, sm_up_ne, nI_add, nI_lt2, nI_le2, nI_eq2, ls_set0, ls_setS, Nat.reduceAdd, Nat.zero_add, Nat.add_zero, not_true_eq_false, not_false_eq_true, ite_true, ite_false, nI_rem3, nI_div2, nI_sub2, q_max_nI, q_min_nI, I.o, I.mn, h1, e0, e1, hb00, hb01, h10]
      rw [if_pos (by decide)]
      rfl
    · simp (disch := omega) only [w_Model_tells_28, w_Model_tells_29, w_Model_tells_32, w_Model_tells_33, w_Model_tells_34, w_Model_tells_37, w_Model_tells_38, w_Model_tells_39, w_Model_tells_40, w_Model_tells_43, w_Model_tells_44, w_Model_tells_45, w_Model_tells_46, w_Model_tells_49, w_Model_tells_52, w_Model_tells_53, w_Model_tells_54, w_Model_tells_57, w_Model_tells_60, w_Model_tells_62, q_rd_eq, q_nt_0, q_nt_s, q_ld_tab, q_st_tab, q_aa13, q_aa14, q_is_eq, q_wr_eq, q_01_0, q_01_1, q_nz_nI, q_len_tab, psh_some, psh_none, sm_up_at, sm_up_ne, nI_add, nI_lt2, nI_le2, nI_eq2, ls_set0, ls_setS, Nat.reduceAdd, Nat.zero_add, Nat.add_zero, not_true_eq_false, not_false_eq_true, ite_true, ite_false, nI_rem3, nI_div2, nI_sub2, q_max_nI, q_min_nI, I.o, I.mn, h1, e0, e1, hb00, hb01, h01]
      rw [if_pos (by decide)]
      rfl
    · simp (disch := omega) only [w_Model_tells_28, w_Model_tells_29, w_Model_tells_32, w_Model_tells_33, w_Model_tells_34, w_Model_tells_37, w_Model_tells_38, w_Model_tells_39, w_Model_tells_40, w_Model_tells_43, w_Model_tells_44, w_Model_tells_45, w_Model_tells_46, w_Model_tells_49, w_Model_tells_52, w_Model_tells_53, w_Model_tells_54, w_Model_tells_57, w_Model_tells_60, w_Model_tells_62, q_rd_eq, q_nt_0, q_nt_s, q_ld_tab, q_st_tab, q_aa13, q_aa14, q_is_eq, q_wr_eq, q_01_0, q_01_1, q_nz_nI, q_len_tab, psh_some, psh_none, sm_up_at, sm_up_ne, nI_add, nI_lt2, nI_le2, nI_eq2, ls_set0, ls_setS, Nat.reduceAdd, Nat.zero_add, Nat.add_zero, not_true_eq_false, not_false_eq_true, ite_true, ite_false, nI_rem3, nI_div2, nI_sub2, q_max_nI, q_min_nI, I.o, I.mn, h1, e0, e1, hb01]
      rw [if_neg (by decide)]
      exact ih (x + 1) (by omega)
theorem m_tells (I : MAt h m) (ok : PathOk (mpa m)) (hk : k < 4) (hn : n < 4) : Wp xs m_Model_tells 0 [.ref 98, .int (nI k), .int (nI n), .null] [] h 0 0 K = K (some (.int (oI (firstF (fun i => (trk (mpa m) k ^^^ trk (mpa m) n).testBit i) 0 (m.2.2.1.2.1 0 + 1))))) h := by
  have h01 : ¬ (1 : Nat) = 0 := by omega
  simp (disch := first | assumption | omega) only [w_Model_tells_0, w_Model_tells_1, w_Model_tells_2, w_Model_tells_5, w_Model_tells_6, w_Model_tells_7, w_Model_tells_8, w_Model_tells_11, w_Model_tells_14, w_Model_tells_15, w_Model_tells_16, w_Model_tells_17, w_Model_tells_20, w_Model_tells_23, w_Model_tells_24, w_Model_tells_25, w_Model_tells_26, q_rd_eq, q_nt_0, q_nt_s, q_ld_tab, q_st_tab, q_aa13, q_aa14, q_is_eq, q_wr_eq, q_01_0, q_01_1, q_nz_nI, q_len_tab, psh_some, psh_none, sm_up_at, sm_up_ne, nI_add, nI_lt2, nI_le2, nI_eq2, ls_set0, ls_setS, Nat.reduceAdd, Nat.zero_add, Nat.add_zero, not_true_eq_false, not_false_eq_true, ite_true, ite_false, nI_rem3, nI_div2, nI_sub2, q_max_nI, q_min_nI, I.o, I.th, t_in, h01]
  exact tells_loop I ok hk hn (m.2.2.1.2.1 0 + 1) 0 (by omega)
theorem m_tellsX (I : MAt h m) (hb : ¬ inr v 4 ∨ ¬ inr u 4) : Wp xs m_Model_tells 0 [.ref 98, .int v, .int u, .null] [] h 0 0 K = K (some (.int (-1))) h := by
  have h1 : ¬ (1 : Nat) = 0 := by omega
  by_cases hv : inr v 4
  · obtain ⟨k, hk, rfl⟩ := hv
    have hu : ¬ inr u 4 := hb.elim (fun q => absurd ⟨k, hk, rfl⟩ q) id
    simp (disch := first | assumption | omega) only [w_Model_tells_0, w_Model_tells_1, w_Model_tells_2, w_Model_tells_5, w_Model_tells_6, w_Model_tells_7, w_Model_tells_8, w_Model_tells_11, w_Model_tells_14, w_Model_tells_15, w_Model_tells_16, w_Model_tells_17, w_Model_tells_20, w_Model_tells_23, w_Model_tells_24, w_Model_tells_25, w_Model_tells_26, q_rd_eq, q_nt_0, q_nt_s, q_ld_tab, q_st_tab, q_aa13, q_aa14, q_is_eq, q_wr_eq, q_01_0, q_01_1, q_nz_nI, q_len_tab, psh_some, psh_none, sm_up_at, sm_up_ne, nI_add, nI_lt2, nI_le2, nI_eq2, ls_set0, ls_setS, Nat.reduceAdd, Nat.zero_add, Nat.add_zero, not_true_eq_false, not_false_eq_true, ite_true, ite_false, nI_rem3, nI_div2, nI_sub2, q_max_nI, q_min_nI, I.o, I.th, t_in, f_in (n := 3), h1]
  · simp (disch := first | assumption | omega) only [w_Model_tells_0, w_Model_tells_1, w_Model_tells_2, w_Model_tells_5, w_Model_tells_6, w_Model_tells_7, w_Model_tells_8, w_Model_tells_11, w_Model_tells_14, w_Model_tells_15, w_Model_tells_16, w_Model_tells_17, w_Model_tells_20, w_Model_tells_23, w_Model_tells_24, w_Model_tells_25, w_Model_tells_26, q_rd_eq, q_nt_0, q_nt_s, q_ld_tab, q_st_tab, q_aa13, q_aa14, q_is_eq, q_wr_eq, q_01_0, q_01_1, q_nz_nI, q_len_tab, psh_some, psh_none, sm_up_at, sm_up_ne, nI_add, nI_lt2, nI_le2, nI_eq2, ls_set0, ls_setS, Nat.reduceAdd, Nat.zero_add, Nat.add_zero, not_true_eq_false, not_false_eq_true, ite_true, ite_false, nI_rem3, nI_div2, nI_sub2, q_max_nI, q_min_nI, I.o, I.th, f_in (n := 3)]
/-! who limped -/
def whF (m : MC) : Nat → Nat
  | 0 => 15
  | e + 1 => whF m e &&& twN (2 ^ m.2.2.2.1.2.2.2 e) (trk (mpa m)) 4
theorem who_loop (I : MAt h m) (ok : PathOk (mpa m)) (hf : m.1.2.2.2 ≤ 6) (hfd : ∀ e, e < m.1.2.2.2 → m.2.2.2.1.2.2.2 e ≤ m.2.2.1.2.1 0) : ∀ r e, e + r = m.1.2.2.2 → Wp xs m_Model_who 10 [.ref 98, .int (nI (whF m e)), .int (nI e)] [] h 0 0 K = K (some (.int (nI (whF m m.1.2.2.2)))) h := by
  intro r
  induction r with
  | zero =>
    intro e he
    have e1 : e = m.1.2.2.2 := by omega
    subst e1
    rw [w_Model_who_10]
    simp (disch := omega) only [w_Model_who_11, w_Model_who_12, w_Model_who_15, w_Model_who_18, w_Model_who_19, w_Model_who_20, w_Model_who_21, w_Model_who_24, w_Model_who_25, w_Model_who_26, w_Model_who_29, w_Model_who_30, w_Model_who_31, w_Model_who_34, w_Model_who_37, w_Model_who_38, q_rd_eq, q_nt_0, q_nt_s, q_ld_tab, q_st_tab, q_aa13, q_aa14, q_is_eq, q_wr_eq, q_01_0, q_01_1, q_nz_nI, q_len_tab, psh_some, psh_none, sm_up_at, sm_up_ne, nI_add, nI_lt2, nI_le2, nI_eq2, ls_set0, ls_setS, Nat.reduceAdd, Nat.zero_add, Nat.add_zero, not_true_eq_false, not_false_eq_true, ite_true, ite_false, nI_rem3, nI_div2, nI_sub2, q_max_nI, q_min_nI, I.o, Nat.le_refl]
  | succ r ih =>
    intro e he
    have h1 : ¬ m.1.2.2.2 ≤ e := by omega
    have ew : ∀ K, Wp xs m_Model_whoseIs 0 [.ref 98, .int (nI (m.2.2.2.1.2.2.2 e)), .null, .null] [] h 0 0 K = _ := fun K => m_whoseIs I ok (hfd e (by omega))
    rw [w_Model_who_10]
    simp (disch := omega) only [w_Model_who_11, w_Model_who_12, w_Model_who_15, w_Model_who_18, w_Model_who_19, w_Model_who_20, w_Model_who_21, w_Model_who_24, w_Model_who_25, w_Model_who_26, w_Model_who_29, w_Model_who_30, w_Model_who_31, w_Model_who_34, w_Model_who_37, w_Model_who_38, q_rd_eq, q_nt_0, q_nt_s, q_ld_tab, q_st_tab, q_aa13, q_aa14, q_is_eq, q_wr_eq, q_01_0, q_01_1, q_nz_nI, q_len_tab, psh_some, psh_none, sm_up_at, sm_up_ne, nI_add, nI_lt2, nI_le2, nI_eq2, ls_set0, ls_setS, Nat.reduceAdd, Nat.zero_add, Nat.add_zero, not_true_eq_false, not_false_eq_true, ite_true, ite_false, nI_rem3, nI_div2, nI_sub2, q_max_nI, q_min_nI, I.o, I.fd, h1, ew, nI_and]
    exact ih (e + 1) (by omega)
theorem m_who (I : MAt h m) (ok : PathOk (mpa m)) (hf : m.1.2.2.2 ≤ 6) (hfd : ∀ e, e < m.1.2.2.2 → m.2.2.2.1.2.2.2 e ≤ m.2.2.1.2.1 0) : Wp xs m_Model_who 0 [.ref 98, .null, .null] [] h 0 0 K = K (some (.int (nI (whF m m.1.2.2.2)))) h := by
  simp (disch := first | assumption | omega) only [w_Model_who_0, w_Model_who_1, w_Model_who_2, w_Model_who_5, w_Model_who_7, w_Model_who_8, w_Model_who_9, q_rd_eq, q_nt_0, q_nt_s, q_ld_tab, q_st_tab, q_aa13, q_aa14, q_is_eq, q_wr_eq, q_01_0, q_01_1, q_nz_nI, q_len_tab, psh_some, psh_none, sm_up_at, sm_up_ne, nI_add, nI_lt2, nI_le2, nI_eq2, ls_set0, ls_setS, Nat.reduceAdd, Nat.zero_add, Nat.add_zero, not_true_eq_false, not_false_eq_true, ite_true, ite_false, nI_rem3, nI_div2, nI_sub2, q_max_nI, q_min_nI, I.o, I.th]
  exact who_loop I ok hf hfd m.1.2.2.2 0 (by omega)
/-! strangers -/
def strE (fd : Nat → Nat) (a d : Nat) : Nat → Bool
  | 0 => true
  | e + 1 => strE fd a d e && decide (a ≤ fd e) && decide ((fd e - a) % d = 0)
theorem strE_loop (I : MAt h m) (hf : m.1.2.2.2 ≤ 6) (hfd : ∀ e, e < m.1.2.2.2 → m.2.2.2.1.2.2.2 e ≤ 60) {a d : Nat} (ha : a < 10) (hd : 2 ≤ d) (hd9 : d ≤ 9) {w1 w2 w3 : Int32} : ∀ r e, e + r = m.1.2.2.2 → Wp xs m_Model_strangers 47 [.ref 98, .int w1, .int w2, .int w3, .int (nI a), .int (nI d), .int (nI (b2n (strE m.2.2.2.1.2.2.2 a d e))), .int (nI e)] [] h 0 0 K = Wp xs m_Model_strangers 102 [.ref 98, .int w1, .int w2, .int w3, .int (nI a), .int (nI d), .int (nI (b2n (strE m.2.2.2.1.2.2.2 a d m.1.2.2.2))), .int (nI m.1.2.2.2)] [] h 0 0 K := by
  intro r
  induction r with
  | zero =>
    intro e he
    have e1 : e = m.1.2.2.2 := by omega
    subst e1
    rw [w_Model_strangers_47]
    simp (disch := omega) only [w_Model_strangers_49, w_Model_strangers_50, w_Model_strangers_53, w_Model_strangers_56, w_Model_strangers_58, w_Model_strangers_61, w_Model_strangers_62, w_Model_strangers_65, w_Model_strangers_67, w_Model_strangers_68, w_Model_strangers_70, w_Model_strangers_73, w_Model_strangers_74, w_Model_strangers_77, w_Model_strangers_79, w_Model_strangers_80, w_Model_strangers_82, w_Model_strangers_83, w_Model_strangers_85, w_Model_strangers_86, w_Model_strangers_89, w_Model_strangers_90, w_Model_strangers_93, w_Model_strangers_94, w_Model_strangers_96, w_Model_strangers_99, q_rd_eq, q_nt_0, q_nt_s, q_ld_tab, q_st_tab, q_aa13, q_aa14, q_is_eq, q_wr_eq, q_01_0, q_01_1, q_nz_nI, q_len_tab, psh_some, psh_none, sm_up_at, sm_up_ne, nI_add, nI_lt2, nI_le2, nI_eq2, ls_set0, ls_setS, Nat.reduceAdd, Nat.zero_add, Nat.add_zero, not_true_eq_false, not_false_eq_true, ite_true, ite_false, nI_rem3, nI_div2, nI_sub2, q_max_nI, q_min_nI, I.o, Nat.le_refl]
  | succ r ih =>
    intro e he
    have h1 : ¬ m.1.2.2.2 ≤ e := by omega
    have h01 : ¬ (1 : Nat) = 0 := by omega
    have hb01 : b2n true = 1 := rfl
    have hb00 : b2n false = 0 := rfl
    have h60 := hfd e (by omega)
    have e1 := ih (e + 1) (by omega)
    have es : strE m.2.2.2.1.2.2.2 a d (e + 1) = (strE m.2.2.2.1.2.2.2 a d e && decide (a ≤ m.2.2.2.1.2.2.2 e) && decide ((m.2.2.2.1.2.2.2 e - a) % d = 0)) := rfl
    rw [es] at e1
    rw [w_Model_strangers_47]
    cases c0 : strE m.2.2.2.1.2.2.2 a d e with
    | false =>
      rw [c0, Bool.false_and, Bool.false_and] at e1
      simp (disch := omega) only [w_Model_strangers_49, w_Model_strangers_50, w_Model_strangers_53, w_Model_strangers_56, w_Model_strangers_58, w_Model_strangers_61, w_Model_strangers_62, w_Model_strangers_65, w_Model_strangers_67, w_Model_strangers_68, w_Model_strangers_70, w_Model_strangers_73, w_Model_strangers_74, w_Model_strangers_77, w_Model_strangers_79, w_Model_strangers_80, w_Model_strangers_82, w_Model_strangers_83, w_Model_strangers_85, w_Model_strangers_86, w_Model_strangers_89, w_Model_strangers_90, w_Model_strangers_93, w_Model_strangers_94, w_Model_strangers_96, w_Model_strangers_99, q_rd_eq, q_nt_0, q_nt_s, q_ld_tab, q_st_tab, q_aa13, q_aa14, q_is_eq, q_wr_eq, q_01_0, q_01_1, q_nz_nI, q_len_tab, psh_some, psh_none, sm_up_at, sm_up_ne, nI_add, nI_lt2, nI_le2, nI_eq2, ls_set0, ls_setS, Nat.reduceAdd, Nat.zero_add, Nat.add_zero, not_true_eq_false, not_false_eq_true, ite_true, ite_false, nI_rem3, nI_div2, nI_sub2, q_max_nI, q_min_nI, I.o, h1, hb00]
      exact e1
    | true =>
      by_cases c1 : a ≤ m.2.2.2.1.2.2.2 e
      · have c1' : ¬ m.2.2.2.1.2.2.2 e < a := by omega
        by_cases c2 : (m.2.2.2.1.2.2.2 e - a) % d = 0
        · rw [c0, decide_eq_true c1, decide_eq_true c2] at e1
          simp (disch := omega) only [w_Model_strangers_49, w_Model_strangers_50, w_Model_strangers_53, w_Model_strangers_56, w_Model_strangers_58, w_Model_strangers_61, w_Model_strangers_62, w_Model_strangers_65, w_Model_strangers_67, w_Model_strangers_68, w_Model_strangers_70, w_Model_strangers_73, w_Model_strangers_74, w_Model_strangers_77, w_Model_strangers_79, w_Model_strangers_80, w_Model_strangers_82, w_Model_strangers_83, w_Model_strangers_85, w_Model_strangers_86, w_Model_strangers_89, w_Model_strangers_90, w_Model_strangers_93, w_Model_strangers_94, w_Model_strangers_96, w_Model_strangers_99, q_rd_eq, q_nt_0, q_nt_s, q_ld_tab, q_st_tab, q_aa13, q_aa14, q_is_eq, q_wr_eq, q_01_0, q_01_1, q_nz_nI, q_len_tab, psh_some, psh_none, sm_up_at, sm_up_ne, nI_add, nI_lt2, nI_le2, nI_eq2, ls_set0, ls_setS, Nat.reduceAdd, Nat.zero_add, Nat.add_zero, not_true_eq_false, not_false_eq_true, ite_true, ite_false, nI_rem3, nI_div2, nI_sub2, q_max_nI, q_min_nI, I.o, I.fd, h1, hb01, h01, c1', c2]
          exact e1
        · have hm : (m.2.2.2.1.2.2.2 e - a) % d < 2147483648 := Nat.lt_of_le_of_lt (Nat.mod_le _ _) (by omega)
          rw [c0, decide_eq_true c1, decide_eq_false c2] at e1
          simp (disch := omega) only [w_Model_strangers_49, w_Model_strangers_50, w_Model_strangers_53, w_Model_strangers_56, w_Model_strangers_58, w_Model_strangers_61, w_Model_strangers_62, w_Model_strangers_65, w_Model_strangers_67, w_Model_strangers_68, w_Model_strangers_70, w_Model_strangers_73, w_Model_strangers_74, w_Model_strangers_77, w_Model_strangers_79, w_Model_strangers_80, w_Model_strangers_82, w_Model_strangers_83, w_Model_strangers_85, w_Model_strangers_86, w_Model_strangers_89, w_Model_strangers_90, w_Model_strangers_93, w_Model_strangers_94, w_Model_strangers_96, w_Model_strangers_99, q_rd_eq, q_nt_0, q_nt_s, q_ld_tab, q_st_tab, q_aa13, q_aa14, q_is_eq, q_wr_eq, q_01_0, q_01_1, q_nz_nI, q_len_tab, psh_some, psh_none, sm_up_at, sm_up_ne, nI_add, nI_lt2, nI_le2, nI_eq2, ls_set0, ls_setS, Nat.reduceAdd, Nat.zero_add, Nat.add_zero, not_true_eq_false, not_false_eq_true, ite_true, ite_false, nI_rem3, nI_div2, nI_sub2, q_max_nI, q_min_nI, I.o, I.fd, h1, hb01, h01, c1', c2]
          exact e1
      · have c1' : m.2.2.2.1.2.2.2 e < a := by omega
        rw [c0, decide_eq_false c1, Bool.and_false, Bool.false_and] at e1
        simp (disch := omega) only [w_Model_strangers_49, w_Model_strangers_50, w_Model_strangers_53, w_Model_strangers_56, w_Model_strangers_58, w_Model_strangers_61, w_Model_strangers_62, w_Model_strangers_65, w_Model_strangers_67, w_Model_strangers_68, w_Model_strangers_70, w_Model_strangers_73, w_Model_strangers_74, w_Model_strangers_77, w_Model_strangers_79, w_Model_strangers_80, w_Model_strangers_82, w_Model_strangers_83, w_Model_strangers_85, w_Model_strangers_86, w_Model_strangers_89, w_Model_strangers_90, w_Model_strangers_93, w_Model_strangers_94, w_Model_strangers_96, w_Model_strangers_99, q_rd_eq, q_nt_0, q_nt_s, q_ld_tab, q_st_tab, q_aa13, q_aa14, q_is_eq, q_wr_eq, q_01_0, q_01_1, q_nz_nI, q_len_tab, psh_some, psh_none, sm_up_at, sm_up_ne, nI_add, nI_lt2, nI_le2, nI_eq2, ls_set0, ls_setS, Nat.reduceAdd, Nat.zero_add, Nat.add_zero, not_true_eq_false, not_false_eq_true, ite_true, ite_false, nI_rem3, nI_div2, nI_sub2, q_max_nI, q_min_nI, I.o, I.fd, h1, hb01, h01, c1']
        exact e1
def strM (m : MC) (a d : Nat) : Bool := strE m.2.2.2.1.2.2.2 a d m.1.2.2.2
theorem strI_loop (I : MAt h m) (hf : m.1.2.2.2 ≤ 6) (hfd : ∀ e, e < m.1.2.2.2 → m.2.2.2.1.2.2.2 e ≤ 60) {a : Nat} (ha : a < 10) {q : Nat × Int32} (hq : q.1 ≤ 72) {w1 : Int32} : ∀ r i a6 a7, i + r = 8 → Wp xs m_Model_strangers 34 [.ref 98, .int w1, .int (nI (stI (strM m) a q i).1), .int (stI (strM m) a q i).2, .int (nI a), .int (nI (2 + i)), a6, a7] [] h 0 0 K = Wp xs m_Model_strangers 143 [.ref 98, .int w1, .int (nI (stI (strM m) a q 8).1), .int (stI (strM m) a q 8).2, .int (nI a), .int (nI 10), if r = 0 then a6 else .int (nI (b2n (strM m a 9))), if r = 0 then a7 else .int (nI m.1.2.2.2)] [] h 0 0 K := by
  intro r
  induction r with
  | zero =>
    intro i a6 a7 hi
    have e1 : i = 8 := by omega
    subst e1
    have h1 : (10 : Nat) ≤ 10 := Nat.le_refl _
    rw [w_Model_strangers_34]
    simp (disch := omega) only [w_Model_strangers_36, w_Model_strangers_38, w_Model_strangers_41, w_Model_strangers_42, w_Model_strangers_44, w_Model_strangers_45, q_rd_eq, q_nt_0, q_nt_s, q_ld_tab, q_st_tab, q_aa13, q_aa14, q_is_eq, q_wr_eq, q_01_0, q_01_1, q_nz_nI, q_len_tab, psh_some, psh_none, sm_up_at, sm_up_ne, nI_add, nI_lt2, nI_le2, nI_eq2, ls_set0, ls_setS, Nat.reduceAdd, Nat.zero_add, Nat.add_zero, not_true_eq_false, not_false_eq_true, ite_true, ite_false, nI_rem3, nI_div2, nI_sub2, q_max_nI, q_min_nI, Nat.le_refl, if_true]
  | succ r ih =>
    intro i a6 a7 hi
    have h1 : ¬ 10 ≤ 2 + i := by omega
    have h01 : ¬ (1 : Nat) = 0 := by omega
    have hb01 : b2n true = 1 := rfl
    have hb00 : b2n false = 0 := rfl
    have hle := stI_le (strM m) a q i
    have el := strE_loop (xs := xs) (K := K) I hf hfd (d := 2 + i) ha (by omega) (by omega) (w1 := w1) (w2 := nI (stI (strM m) a q i).1) (w3 := (stI (strM m) a q i).2) m.1.2.2.2 0 (by omega)
    have es : stI (strM m) a q (i + 1) = if strM m a (2 + i) = true then ((stI (strM m) a q i).1 + 1, if (stI (strM m) a q i).1 = 0 then nI (10 * a + (2 + i)) else (stI (strM m) a q i).2) else stI (strM m) a q i := rfl
    have e1 : ∀ a6 a7, _ := fun a6 a7 => ih (i + 1) a6 a7 (by omega)
    have e9 : ∀ b : Nat, b = 2 + i → (if r = 0 then Value.int (nI (b2n (strM m a b))) else .int (nI (b2n (strM m a 9)))) = .int (nI (b2n (strM m a 9))) := by
      intro b hb
      by_cases hr : r = 0
      · rw [if_pos hr, hb, show 2 + i = 9 by omega]
      · rw [if_neg hr]
    have e8 : (if r = 0 then Value.int (nI m.1.2.2.2) else .int (nI m.1.2.2.2)) = .int (nI m.1.2.2.2) := by split <;> rfl
    rw [← Nat.add_assoc, es] at e1
    rw [w_Model_strangers_34, if_neg (show ¬ r + 1 = 0 by omega), if_neg (show ¬ r + 1 = 0 by omega)]
    simp (disch := omega) only [w_Model_strangers_36, w_Model_strangers_38, w_Model_strangers_41, w_Model_strangers_42, w_Model_strangers_44, w_Model_strangers_45, q_rd_eq, q_nt_0, q_nt_s, q_ld_tab, q_st_tab, q_aa13, q_aa14, q_is_eq, q_wr_eq, q_01_0, q_01_1, q_nz_nI, q_len_tab, psh_some, psh_none, sm_up_at, sm_up_ne, nI_add, nI_lt2, nI_le2, nI_eq2, ls_set0, ls_setS, Nat.reduceAdd, Nat.zero_add, Nat.add_zero, not_true_eq_false, not_false_eq_true, ite_true, ite_false, nI_rem3, nI_div2, nI_sub2, q_max_nI, q_min_nI, h1]
    refine Eq.trans el ?_
    cases c0 : strM m a (2 + i) with
    | true =>
      have c0' : strE m.2.2.2.1.2.2.2 a (2 + i) m.1.2.2.2 = true := c0
      have ea := e1 (.int (nI 1)) (.int (nI m.1.2.2.2))
      have e9' := e9 (2 + i) rfl
      rw [c0, hb01] at e9'
      rw [e8, e9', c0, if_pos rfl] at ea
      by_cases h0 : (stI (strM m) a q i).1 = 0
      · rw [if_pos h0, h0] at ea
        rw [h0, c0']
        simp (disch := omega) only [w_Model_strangers_102, w_Model_strangers_104, w_Model_strangers_107, w_Model_strangers_108, w_Model_strangers_111, w_Model_strangers_113, w_Model_strangers_115, w_Model_strangers_116, w_Model_strangers_118, w_Model_strangers_119, w_Model_strangers_122, w_Model_strangers_123, w_Model_strangers_124, w_Model_strangers_125, w_Model_strangers_127, w_Model_strangers_130, w_Model_strangers_131, w_Model_strangers_134, w_Model_strangers_135, w_Model_strangers_136, w_Model_strangers_137, w_Model_strangers_140, q_rd_eq, q_nt_0, q_nt_s, q_ld_tab, q_st_tab, q_aa13, q_aa14, q_is_eq, q_wr_eq, q_01_0, q_01_1, q_nz_nI, q_len_tab, psh_some, psh_none, sm_up_at, sm_up_ne, nI_add, nI_lt2, nI_le2, nI_eq2, ls_set0, ls_setS, Nat.reduceAdd, Nat.zero_add, Nat.add_zero, not_true_eq_false, not_false_eq_true, ite_true, ite_false, nI_rem3, nI_div2, nI_sub2, q_max_nI, q_min_nI, hb01, h01, pk_mul]
        exact ea
      · rw [if_neg h0] at ea
        rw [c0']
        simp (disch := omega) only [w_Model_strangers_102, w_Model_strangers_104, w_Model_strangers_107, w_Model_strangers_108, w_Model_strangers_111, w_Model_strangers_113, w_Model_strangers_115, w_Model_strangers_116, w_Model_strangers_118, w_Model_strangers_119, w_Model_strangers_122, w_Model_strangers_123, w_Model_strangers_124, w_Model_strangers_125, w_Model_strangers_127, w_Model_strangers_130, w_Model_strangers_131, w_Model_strangers_134, w_Model_strangers_135, w_Model_strangers_136, w_Model_strangers_137, w_Model_strangers_140, q_rd_eq, q_nt_0, q_nt_s, q_ld_tab, q_st_tab, q_aa13, q_aa14, q_is_eq, q_wr_eq, q_01_0, q_01_1, q_nz_nI, q_len_tab, psh_some, psh_none, sm_up_at, sm_up_ne, nI_add, nI_lt2, nI_le2, nI_eq2, ls_set0, ls_setS, Nat.reduceAdd, Nat.zero_add, Nat.add_zero, not_true_eq_false, not_false_eq_true, ite_true, ite_false, nI_rem3, nI_div2, nI_sub2, q_max_nI, q_min_nI, hb01, h01, pk_mul, h0]
        exact ea
    | false =>
      have c0' : strE m.2.2.2.1.2.2.2 a (2 + i) m.1.2.2.2 = false := c0
      have ea := e1 (.int (nI 0)) (.int (nI m.1.2.2.2))
      have e9' := e9 (2 + i) rfl
      rw [c0, hb00] at e9'
      rw [e8, e9', c0, if_neg (by decide)] at ea
      rw [c0']
      simp (disch := omega) only [w_Model_strangers_102, w_Model_strangers_104, w_Model_strangers_107, w_Model_strangers_108, w_Model_strangers_111, w_Model_strangers_113, w_Model_strangers_115, w_Model_strangers_116, w_Model_strangers_118, w_Model_strangers_119, w_Model_strangers_122, w_Model_strangers_123, w_Model_strangers_124, w_Model_strangers_125, w_Model_strangers_127, w_Model_strangers_130, w_Model_strangers_131, w_Model_strangers_134, w_Model_strangers_135, w_Model_strangers_136, w_Model_strangers_137, w_Model_strangers_140, q_rd_eq, q_nt_0, q_nt_s, q_ld_tab, q_st_tab, q_aa13, q_aa14, q_is_eq, q_wr_eq, q_01_0, q_01_1, q_nz_nI, q_len_tab, psh_some, psh_none, sm_up_at, sm_up_ne, nI_add, nI_lt2, nI_le2, nI_eq2, ls_set0, ls_setS, Nat.reduceAdd, Nat.zero_add, Nat.add_zero, not_true_eq_false, not_false_eq_true, ite_true, ite_false, nI_rem3, nI_div2, nI_sub2, q_max_nI, q_min_nI, hb00]
      exact ea
theorem strO_loop (I : MAt h m) (hf : m.1.2.2.2 ≤ 6) (hfd : ∀ e, e < m.1.2.2.2 → m.2.2.2.1.2.2.2 e ≤ 60) (hn : n < 2) : ∀ r a a5 a6 a7, a + r = 10 → Wp xs m_Model_strangers 24 [.ref 98, .int (nI n), .int (nI (stO (strM m) a).1), .int (stO (strM m) a).2, .int (nI a), a5, a6, a7] [] h 0 0 K = K (some (.int (aStr (strM m) n))) h := by
  intro r
  induction r with
  | zero =>
    intro a a5 a6 a7 hi
    have e1 : a = 10 := by omega
    subst e1
    rw [w_Model_strangers_24]
    unfold aStr
    by_cases c0 : n = 0
    · rw [if_pos c0]
      simp (disch := omega) only [w_Model_strangers_26, w_Model_strangers_28, w_Model_strangers_31, w_Model_strangers_32, w_Model_strangers_149, w_Model_strangers_150, w_Model_strangers_153, w_Model_strangers_154, w_Model_strangers_157, w_Model_strangers_158, q_rd_eq, q_nt_0, q_nt_s, q_ld_tab, q_st_tab, q_aa13, q_aa14, q_is_eq, q_wr_eq, q_01_0, q_01_1, q_nz_nI, q_len_tab, psh_some, psh_none, sm_up_at, sm_up_ne, nI_add, nI_lt2, nI_le2, nI_eq2, ls_set0, ls_setS, Nat.reduceAdd, Nat.zero_add, Nat.add_zero, not_true_eq_false, not_false_eq_true, ite_true, ite_false, nI_rem3, nI_div2, nI_sub2, q_max_nI, q_min_nI, Nat.le_refl, c0]
    · rw [if_neg c0]
      simp (disch := omega) only [w_Model_strangers_26, w_Model_strangers_28, w_Model_strangers_31, w_Model_strangers_32, w_Model_strangers_149, w_Model_strangers_150, w_Model_strangers_153, w_Model_strangers_154, w_Model_strangers_157, w_Model_strangers_158, q_rd_eq, q_nt_0, q_nt_s, q_ld_tab, q_st_tab, q_aa13, q_aa14, q_is_eq, q_wr_eq, q_01_0, q_01_1, q_nz_nI, q_len_tab, psh_some, psh_none, sm_up_at, sm_up_ne, nI_add, nI_lt2, nI_le2, nI_eq2, ls_set0, ls_setS, Nat.reduceAdd, Nat.zero_add, Nat.add_zero, not_true_eq_false, not_false_eq_true, ite_true, ite_false, nI_rem3, nI_div2, nI_sub2, q_max_nI, q_min_nI, Nat.le_refl, c0]
  | succ r ih =>
    intro a a5 a6 a7 hi
    have h1 : ¬ 10 ≤ a := by omega
    have hle := stO_le (strM m) a
    rw [w_Model_strangers_24]
    simp (disch := omega) only [w_Model_strangers_26, w_Model_strangers_28, w_Model_strangers_31, w_Model_strangers_32, q_rd_eq, q_nt_0, q_nt_s, q_ld_tab, q_st_tab, q_aa13, q_aa14, q_is_eq, q_wr_eq, q_01_0, q_01_1, q_nz_nI, q_len_tab, psh_some, psh_none, sm_up_at, sm_up_ne, nI_add, nI_lt2, nI_le2, nI_eq2, ls_set0, ls_setS, Nat.reduceAdd, Nat.zero_add, Nat.add_zero, not_true_eq_false, not_false_eq_true, ite_true, ite_false, nI_rem3, nI_div2, nI_sub2, q_max_nI, q_min_nI, h1]
    refine Eq.trans (strI_loop (q := stO (strM m) a) I hf hfd (by omega) (by omega) 8 0 _ _ (by omega)) ?_
    simp (disch := omega) only [w_Model_strangers_143, w_Model_strangers_146, q_rd_eq, q_nt_0, q_nt_s, q_ld_tab, q_st_tab, q_aa13, q_aa14, q_is_eq, q_wr_eq, q_01_0, q_01_1, q_nz_nI, q_len_tab, psh_some, psh_none, sm_up_at, sm_up_ne, nI_add, nI_lt2, nI_le2, nI_eq2, ls_set0, ls_setS, Nat.reduceAdd, Nat.zero_add, Nat.add_zero, not_true_eq_false, not_false_eq_true, ite_true, ite_false, nI_rem3, nI_div2, nI_sub2, q_max_nI, q_min_nI]
    exact ih (a + 1) _ _ _ (by omega)
theorem m_strangers (I : MAt h m) (hf : m.1.2.2.2 ≤ 6) (hfd : ∀ e, e < m.1.2.2.2 → m.2.2.2.1.2.2.2 e ≤ 60) (hn : n < 2) : Wp xs m_Model_strangers 0 [.ref 98, .int (nI n), .null, .null, .null, .null, .null, .null] [] h 0 0 K = K (some (.int (aStr (strM m) n))) h := by
  have h01 : ¬ (1 : Nat) = 0 := by omega
  simp (disch := first | assumption | omega) only [w_Model_strangers_0, w_Model_strangers_1, w_Model_strangers_2, w_Model_strangers_5, w_Model_strangers_6, w_Model_strangers_7, w_Model_strangers_8, w_Model_strangers_11, w_Model_strangers_14, w_Model_strangers_15, w_Model_strangers_16, w_Model_strangers_17, w_Model_strangers_18, w_Model_strangers_20, w_Model_strangers_21, w_Model_strangers_22, q_rd_eq, q_nt_0, q_nt_s, q_ld_tab, q_st_tab, q_aa13, q_aa14, q_is_eq, q_wr_eq, q_01_0, q_01_1, q_nz_nI, q_len_tab, psh_some, psh_none, sm_up_at, sm_up_ne, nI_add, nI_lt2, nI_le2, nI_eq2, ls_set0, ls_setS, Nat.reduceAdd, Nat.zero_add, Nat.add_zero, not_true_eq_false, not_false_eq_true, ite_true, ite_false, nI_rem3, nI_div2, nI_sub2, q_max_nI, q_min_nI, I.o, I.th, t_in, h01]
  exact strO_loop I hf hfd hn 10 0 _ _ _ (by omega)
theorem m_strangersX (I : MAt h m) (hu : ¬ inr u 2) : Wp xs m_Model_strangers 0 [.ref 98, .int u, .null, .null, .null, .null, .null, .null] [] h 0 0 K = K (some (.int (-1))) h := by
  simp (disch := first | assumption | omega) only [w_Model_strangers_0, w_Model_strangers_1, w_Model_strangers_2, w_Model_strangers_5, w_Model_strangers_6, w_Model_strangers_7, w_Model_strangers_8, w_Model_strangers_11, w_Model_strangers_14, w_Model_strangers_15, w_Model_strangers_16, w_Model_strangers_17, w_Model_strangers_18, w_Model_strangers_20, w_Model_strangers_21, w_Model_strangers_22, q_rd_eq, q_nt_0, q_nt_s, q_ld_tab, q_st_tab, q_aa13, q_aa14, q_is_eq, q_wr_eq, q_01_0, q_01_1, q_nz_nI, q_len_tab, psh_some, psh_none, sm_up_at, sm_up_ne, nI_add, nI_lt2, nI_le2, nI_eq2, ls_set0, ls_setS, Nat.reduceAdd, Nat.zero_add, Nat.add_zero, not_true_eq_false, not_false_eq_true, ite_true, ite_false, nI_rem3, nI_div2, nI_sub2, q_max_nI, q_min_nI, I.o, I.th, f_in (n := 1)]
end MTR
