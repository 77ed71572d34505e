/-! the child's way, by the model: child() -/
theorem oI_m9 {o : Option Nat} (h : ∀ y, o = some y → y < 1000) : (oI o = -9) = (o = none) := by
  cases o with
  | none => simp [oI]
  | some y =>
    have h1 := h y rfl
    have : ¬ (oI (some y) = -9) := by
      intro q
      have q2 := congrArg Int32.toInt q
      have e : oI (some y) = nI y := rfl
      rw [e, nI_toInt (by omega)] at q2
      have h9 : (-9 : Int32).toInt = -9 := by decide
      omega
    simp [this]
theorem lastF_lt (B : Nat → Bool) : ∀ m y, lastF B m = some y → y < m ∧ B y = true ∧ ∀ z, y < z → z < m → B z = false
  | 0, y, h => by cases h
  | m + 1, y, h => by
    unfold lastF at h
    by_cases c : B m = true
    · rw [if_pos c] at h
      cases h
      exact ⟨by omega, c, fun z h1 h2 => absurd h1 (by omega)⟩
    · rw [if_neg c] at h
      obtain ⟨h1, h2, h3⟩ := lastF_lt B m y h
      refine ⟨by omega, h2, fun z h4 h5 => ?_⟩
      by_cases e : z = m
      · rw [e]
        cases q : B m
        · rfl
        · exact absurd q c
      · exact h3 z h4 (by omega)
def mBb (m : MC) (x : Nat) : Bool := decide (0 < m.2.2.2.1.1 (61 * 0 + x)) || decide (0 < m.2.2.2.1.1 (61 * 1 + x))
section MCD
variable {xs : List Int32} {h : sm_Hp} {K : Option Value → sm_Hp → Prop} {m : MC} {f w : Nat → Nat} {d e lo : Nat} {u : Int32}
theorem endF_loop (I : MAt h m) (hs : SfOk m.2.2.2.1.1) (hl : m.2.2.1.2.1 0 ≤ 60) : ∀ r x a4, x + r = m.2.2.1.2.1 0 + 1 → Wp xs m_Model_endOf 5 [.ref 98, .int (nI 0), .int (oI (firstF (mBb m) 0 x)), .int (nI x), a4] [] h 0 0 K = K (some (.int (oI (firstF (mBb m) 0 (m.2.2.1.2.1 0 + 1))))) h := by
  intro r
  induction r with
  | zero =>
    intro x a4 hx
    have h1 : m.2.2.1.2.1 0 < x := by omega
    have e : x = m.2.2.1.2.1 0 + 1 := by omega
    rw [w_Model_endOf_5]
    simp (disch := omega) only [w_Model_endOf_6, w_Model_endOf_7, w_Model_endOf_10, w_Model_endOf_11, w_Model_endOf_12, w_Model_endOf_15, w_Model_endOf_16, w_Model_endOf_17, w_Model_endOf_18, w_Model_endOf_21, w_Model_endOf_24, w_Model_endOf_25, w_Model_endOf_26, w_Model_endOf_27, w_Model_endOf_30, w_Model_endOf_33, w_Model_endOf_34, w_Model_endOf_37, w_Model_endOf_38, w_Model_endOf_40, w_Model_endOf_42, w_Model_endOf_45, w_Model_endOf_46, w_Model_endOf_49, w_Model_endOf_50, w_Model_endOf_52, w_Model_endOf_55, w_Model_endOf_56, w_Model_endOf_59, w_Model_endOf_60, w_Model_endOf_61, w_Model_endOf_64, w_Model_endOf_67, w_Model_endOf_68, q_rd_eq, q_nt_0, q_nt_s, q_ld_tab, q_st_tab, q_aa13, q_aa14, q_is_eq, q_wr_eq, q_01_0, q_01_1, q_nz_nI, q_len_tab, psh_some, psh_none, sm_up_at, sm_up_ne, nI_add, nI_lt2, nI_le2, nI_eq2, ls_set0, ls_setS, Nat.reduceAdd, Nat.zero_add, Nat.add_zero, not_true_eq_false, not_false_eq_true, ite_true, ite_false, nI_rem3, nI_div2, nI_sub2, q_max_nI, q_min_nI, I.o, I.mn, h1]
    rw [e]
  | succ r ih =>
    intro x a4 hx
    have h1 : ¬ m.2.2.1.2.1 0 < x := by omega
    have ht : b2n true = 1 := rfl
    have hf : b2n false = 0 := rfl
    have c10 : ¬ (1 : Nat) = 0 := by omega
    have e0 : ∀ K, Wp xs m_Model_hasPrint 0 [.ref 98, .int (nI 0), .int (nI x)] [] h 0 0 K = _ := fun K => m_hasPrint I hs (k := 0) (by omega) (by omega)
    have e1 : ∀ K, Wp xs m_Model_hasPrint 0 [.ref 98, .int (nI 1), .int (nI x)] [] h 0 0 K = _ := fun K => m_hasPrint I hs (k := 1) (by omega) (by omega)
    have E := fun a4 => ih (x + 1) a4 (by omega)
    have ea := firstF_app (mBb m) x 0
    rw [Nat.zero_add] at ea
    rw [ea] at E
    have hb : ∀ y, firstF (mBb m) 0 x = some y → y < 1000 := fun y hy => by have := (firstF_lt _ _ _ _ hy).2.1; omega
    have em := oI_m9 hb
    rw [w_Model_endOf_5]
    have yes : mBb m x = true → Wp xs m_Model_endOf 38 [.ref 98, .int (nI 0), .int (oI (firstF (mBb m) 0 x)), .int (nI x), a4] [.int (nI 1)] h 0 0 K = K (some (.int (oI (firstF (mBb m) 0 (m.2.2.1.2.1 0 + 1))))) h := by
      intro hB
      cases q : firstF (mBb m) 0 x with
      | none =>
        rw [q] at E
        have e9 : ¬ ¬ (oI none = -9) := not_not_intro rfl
        have E' : ∀ a4, Wp xs m_Model_endOf 5 [.ref 98, .int (nI 0), .int (nI x), .int (nI (x + 1)), a4] [] h 0 0 K = K (some (.int (oI (firstF (mBb m) 0 (m.2.2.1.2.1 0 + 1))))) h := fun a4 => by
          have := E a4
          dsimp only at this
          rw [if_pos hB] at this
          exact this
        simp (disch := first | assumption | omega) only [w_Model_endOf_38, w_Model_endOf_40, w_Model_endOf_42, w_Model_endOf_45, w_Model_endOf_46, w_Model_endOf_49, w_Model_endOf_50, w_Model_endOf_52, w_Model_endOf_55, w_Model_endOf_56, w_Model_endOf_59, w_Model_endOf_60, w_Model_endOf_61, w_Model_endOf_64, q_rd_eq, q_nt_0, q_nt_s, q_ld_tab, q_st_tab, q_aa13, q_aa14, q_is_eq, q_wr_eq, q_01_0, q_01_1, q_nz_nI, q_len_tab, psh_some, psh_none, sm_up_at, sm_up_ne, nI_add, nI_lt2, nI_le2, nI_eq2, ls_set0, ls_setS, Nat.reduceAdd, Nat.zero_add, Nat.add_zero, not_true_eq_false, not_false_eq_true, ite_true, ite_false, nI_rem3, nI_div2, nI_sub2, q_max_nI, q_min_nI, c10, e9]
        exact E' _
      | some y =>
        rw [q] at E em
        have e9 : ¬ (oI (some y) = -9) := by rw [em]; intro z; cases z
        simp (disch := first | assumption | omega) only [w_Model_endOf_38, w_Model_endOf_40, w_Model_endOf_42, w_Model_endOf_45, w_Model_endOf_46, w_Model_endOf_49, w_Model_endOf_50, w_Model_endOf_52, w_Model_endOf_55, w_Model_endOf_56, w_Model_endOf_59, w_Model_endOf_60, w_Model_endOf_61, w_Model_endOf_64, q_rd_eq, q_nt_0, q_nt_s, q_ld_tab, q_st_tab, q_aa13, q_aa14, q_is_eq, q_wr_eq, q_01_0, q_01_1, q_nz_nI, q_len_tab, psh_some, psh_none, sm_up_at, sm_up_ne, nI_add, nI_lt2, nI_le2, nI_eq2, ls_set0, ls_setS, Nat.reduceAdd, Nat.zero_add, Nat.add_zero, not_true_eq_false, not_false_eq_true, ite_true, ite_false, nI_rem3, nI_div2, nI_sub2, q_max_nI, q_min_nI, c10, e9]
        exact E _
    by_cases b0 : 0 < m.2.2.2.1.1 (61 * 0 + x)
    · have hB : mBb m x = true := by unfold mBb; rw [decide_eq_true b0]; rfl
      rw [decide_eq_true b0] at e0
      simp (disch := first | assumption | omega) only [w_Model_endOf_6, w_Model_endOf_7, w_Model_endOf_10, w_Model_endOf_11, w_Model_endOf_12, w_Model_endOf_15, w_Model_endOf_16, w_Model_endOf_17, w_Model_endOf_18, w_Model_endOf_21, w_Model_endOf_24, w_Model_endOf_25, w_Model_endOf_26, w_Model_endOf_27, w_Model_endOf_30, w_Model_endOf_33, w_Model_endOf_34, q_rd_eq, q_nt_0, q_nt_s, q_ld_tab, q_st_tab, q_aa13, q_aa14, q_is_eq, q_wr_eq, q_01_0, q_01_1, q_nz_nI, q_len_tab, psh_some, psh_none, sm_up_at, sm_up_ne, nI_add, nI_lt2, nI_le2, nI_eq2, ls_set0, ls_setS, Nat.reduceAdd, Nat.zero_add, Nat.add_zero, not_true_eq_false, not_false_eq_true, ite_true, ite_false, nI_rem3, nI_div2, nI_sub2, q_max_nI, q_min_nI, I.o, I.mn, h1, e0, ht, c10]
      exact yes hB
    · rw [decide_eq_false b0] at e0
      by_cases b1 : 0 < m.2.2.2.1.1 (61 * 1 + x)
      · have hB : mBb m x = true := by unfold mBb; rw [decide_eq_true b1, Bool.or_true]
        rw [decide_eq_true b1] at e1
        simp (disch := first | assumption | omega) only [w_Model_endOf_6, w_Model_endOf_7, w_Model_endOf_10, w_Model_endOf_11, w_Model_endOf_12, w_Model_endOf_15, w_Model_endOf_16, w_Model_endOf_17, w_Model_endOf_18, w_Model_endOf_21, w_Model_endOf_24, w_Model_endOf_25, w_Model_endOf_26, w_Model_endOf_27, w_Model_endOf_30, w_Model_endOf_33, w_Model_endOf_34, q_rd_eq, q_nt_0, q_nt_s, q_ld_tab, q_st_tab, q_aa13, q_aa14, q_is_eq, q_wr_eq, q_01_0, q_01_1, q_nz_nI, q_len_tab, psh_some, psh_none, sm_up_at, sm_up_ne, nI_add, nI_lt2, nI_le2, nI_eq2, ls_set0, ls_setS, Nat.reduceAdd, Nat.zero_add, Nat.add_zero, not_true_eq_false, not_false_eq_true, ite_true, ite_false, nI_rem3, nI_div2, nI_sub2, q_max_nI, q_min_nI, I.o, I.mn, h1, e0, e1, ht, hf, c10]
        exact yes hB
      · have hB : mBb m x = false := by unfold mBb; rw [decide_eq_false b0, decide_eq_false b1]; rfl
        rw [decide_eq_false b1] at e1
        have E' : ∀ a4, Wp xs m_Model_endOf 5 [.ref 98, .int (nI 0), .int (oI (firstF (mBb m) 0 x)), .int (nI (x + 1)), a4] [] h 0 0 K = K (some (.int (oI (firstF (mBb m) 0 (m.2.2.1.2.1 0 + 1))))) h := fun a4 => by
          have := E a4
          cases q : firstF (mBb m) 0 x with
          | none =>
            rw [q] at this
            dsimp only at this
            rw [hB, if_neg (by decide)] at this
            exact this
          | some y =>
            rw [q] at this
            exact this
        simp (disch := first | assumption | omega) only [w_Model_endOf_6, w_Model_endOf_7, w_Model_endOf_10, w_Model_endOf_11, w_Model_endOf_12, w_Model_endOf_15, w_Model_endOf_16, w_Model_endOf_17, w_Model_endOf_18, w_Model_endOf_21, w_Model_endOf_24, w_Model_endOf_25, w_Model_endOf_26, w_Model_endOf_27, w_Model_endOf_30, w_Model_endOf_33, w_Model_endOf_34, w_Model_endOf_37, w_Model_endOf_38, w_Model_endOf_40, w_Model_endOf_42, w_Model_endOf_45, w_Model_endOf_46, w_Model_endOf_49, w_Model_endOf_50, w_Model_endOf_52, w_Model_endOf_55, w_Model_endOf_56, w_Model_endOf_59, w_Model_endOf_60, w_Model_endOf_61, w_Model_endOf_64, q_rd_eq, q_nt_0, q_nt_s, q_ld_tab, q_st_tab, q_aa13, q_aa14, q_is_eq, q_wr_eq, q_01_0, q_01_1, q_nz_nI, q_len_tab, psh_some, psh_none, sm_up_at, sm_up_ne, nI_add, nI_lt2, nI_le2, nI_eq2, ls_set0, ls_setS, Nat.reduceAdd, Nat.zero_add, Nat.add_zero, not_true_eq_false, not_false_eq_true, ite_true, ite_false, nI_rem3, nI_div2, nI_sub2, q_max_nI, q_min_nI, I.o, I.mn, h1, e0, e1, hf]
        exact E' _
theorem endT_loop (I : MAt h m) (hs : SfOk m.2.2.2.1.1) (hl : m.2.2.1.2.1 0 ≤ 60) : ∀ r x a4, x + r = m.2.2.1.2.1 0 + 1 → Wp xs m_Model_endOf 5 [.ref 98, .int (nI 1), .int (oI (lastF (mBb m) x)), .int (nI x), a4] [] h 0 0 K = K (some (.int (oI (lastF (mBb m) (m.2.2.1.2.1 0 + 1))))) h := by
  intro r
  induction r with
  | zero =>
    intro x a4 hx
    have h1 : m.2.2.1.2.1 0 < x := by omega
    have e : x = m.2.2.1.2.1 0 + 1 := by omega
    rw [w_Model_endOf_5]
    simp (disch := omega) only [w_Model_endOf_6, w_Model_endOf_7, w_Model_endOf_10, w_Model_endOf_11, w_Model_endOf_12, w_Model_endOf_15, w_Model_endOf_16, w_Model_endOf_17, w_Model_endOf_18, w_Model_endOf_21, w_Model_endOf_24, w_Model_endOf_25, w_Model_endOf_26, w_Model_endOf_27, w_Model_endOf_30, w_Model_endOf_33, w_Model_endOf_34, w_Model_endOf_37, w_Model_endOf_38, w_Model_endOf_40, w_Model_endOf_42, w_Model_endOf_45, w_Model_endOf_46, w_Model_endOf_49, w_Model_endOf_50, w_Model_endOf_52, w_Model_endOf_55, w_Model_endOf_56, w_Model_endOf_59, w_Model_endOf_60, w_Model_endOf_61, w_Model_endOf_64, w_Model_endOf_67, w_Model_endOf_68, q_rd_eq, q_nt_0, q_nt_s, q_ld_tab, q_st_tab, q_aa13, q_aa14, q_is_eq, q_wr_eq, q_01_0, q_01_1, q_nz_nI, q_len_tab, psh_some, psh_none, sm_up_at, sm_up_ne, nI_add, nI_lt2, nI_le2, nI_eq2, ls_set0, ls_setS, Nat.reduceAdd, Nat.zero_add, Nat.add_zero, not_true_eq_false, not_false_eq_true, ite_true, ite_false, nI_rem3, nI_div2, nI_sub2, q_max_nI, q_min_nI, I.o, I.mn, h1]
    rw [e]
  | succ r ih =>
    intro x a4 hx
    have h1 : ¬ m.2.2.1.2.1 0 < x := by omega
    have ht : b2n true = 1 := rfl
    have hf : b2n false = 0 := rfl
    have c10 : ¬ (1 : Nat) = 0 := by omega
    have e0 : ∀ K, Wp xs m_Model_hasPrint 0 [.ref 98, .int (nI 0), .int (nI x)] [] h 0 0 K = _ := fun K => m_hasPrint I hs (k := 0) (by omega) (by omega)
    have e1 : ∀ K, Wp xs m_Model_hasPrint 0 [.ref 98, .int (nI 1), .int (nI x)] [] h 0 0 K = _ := fun K => m_hasPrint I hs (k := 1) (by omega) (by omega)
    have E := fun a4 => ih (x + 1) a4 (by omega)
    have ea : lastF (mBb m) (x + 1) = if mBb m x = true then some x else lastF (mBb m) x := rfl
    rw [ea] at E
    rw [w_Model_endOf_5]
    by_cases b0 : 0 < m.2.2.2.1.1 (61 * 0 + x)
    · have hB : mBb m x = true := by unfold mBb; rw [decide_eq_true b0]; rfl
      rw [decide_eq_true b0] at e0
      rw [if_pos hB] at E
      simp (disch := first | assumption | omega) only [w_Model_endOf_6, w_Model_endOf_7, w_Model_endOf_10, w_Model_endOf_11, w_Model_endOf_12, w_Model_endOf_15, w_Model_endOf_16, w_Model_endOf_17, w_Model_endOf_18, w_Model_endOf_21, w_Model_endOf_24, w_Model_endOf_25, w_Model_endOf_26, w_Model_endOf_27, w_Model_endOf_30, w_Model_endOf_33, w_Model_endOf_34, w_Model_endOf_37, w_Model_endOf_38, w_Model_endOf_40, w_Model_endOf_42, w_Model_endOf_45, w_Model_endOf_46, w_Model_endOf_49, w_Model_endOf_50, w_Model_endOf_52, w_Model_endOf_55, w_Model_endOf_56, w_Model_endOf_59, w_Model_endOf_60, w_Model_endOf_61, w_Model_endOf_64, q_rd_eq, q_nt_0, q_nt_s, q_ld_tab, q_st_tab, q_aa13, q_aa14, q_is_eq, q_wr_eq, q_01_0, q_01_1, q_nz_nI, q_len_tab, psh_some, psh_none, sm_up_at, sm_up_ne, nI_add, nI_lt2, nI_le2, nI_eq2, ls_set0, ls_setS, Nat.reduceAdd, Nat.zero_add, Nat.add_zero, not_true_eq_false, not_false_eq_true, ite_true, ite_false, nI_rem3, nI_div2, nI_sub2, q_max_nI, q_min_nI, I.o, I.mn, h1, e0, ht, c10]
      exact E _
    · rw [decide_eq_false b0] at e0
      by_cases b1 : 0 < m.2.2.2.1.1 (61 * 1 + x)
      · have hB : mBb m x = true := by unfold mBb; rw [decide_eq_true b1, Bool.or_true]
        rw [decide_eq_true b1] at e1
        rw [if_pos hB] at E
        simp (disch := first | assumption | omega) only [w_Model_endOf_6, w_Model_endOf_7, w_Model_endOf_10, w_Model_endOf_11, w_Model_endOf_12, w_Model_endOf_15, w_Model_endOf_16, w_Model_endOf_17, w_Model_endOf_18, w_Model_endOf_21, w_Model_endOf_24, w_Model_endOf_25, w_Model_endOf_26, w_Model_endOf_27, w_Model_endOf_30, w_Model_endOf_33, w_Model_endOf_34, w_Model_endOf_37, w_Model_endOf_38, w_Model_endOf_40, w_Model_endOf_42, w_Model_endOf_45, w_Model_endOf_46, w_Model_endOf_49, w_Model_endOf_50, w_Model_endOf_52, w_Model_endOf_55, w_Model_endOf_56, w_Model_endOf_59, w_Model_endOf_60, w_Model_endOf_61, w_Model_endOf_64, q_rd_eq, q_nt_0, q_nt_s, q_ld_tab, q_st_tab, q_aa13, q_aa14, q_is_eq, q_wr_eq, q_01_0, q_01_1, q_nz_nI, q_len_tab, psh_some, psh_none, sm_up_at, sm_up_ne, nI_add, nI_lt2, nI_le2, nI_eq2, ls_set0, ls_setS, Nat.reduceAdd, Nat.zero_add, Nat.add_zero, not_true_eq_false, not_false_eq_true, ite_true, ite_false, nI_rem3, nI_div2, nI_sub2, q_max_nI, q_min_nI, I.o, I.mn, h1, e0, e1, ht, hf, c10]
        exact E _
      · have hB : mBb m x = false := by unfold mBb; rw [decide_eq_false b0, decide_eq_false b1]; rfl
        rw [decide_eq_false b1] at e1
        rw [if_neg (by rw [hB]; decide)] at E
        simp (disch := first | assumption | omega) only [w_Model_endOf_6, w_Model_endOf_7, w_Model_endOf_10, w_Model_endOf_11, w_Model_endOf_12, w_Model_endOf_15, w_Model_endOf_16, w_Model_endOf_17, w_Model_endOf_18, w_Model_endOf_21, w_Model_endOf_24, w_Model_endOf_25, w_Model_endOf_26, w_Model_endOf_27, w_Model_endOf_30, w_Model_endOf_33, w_Model_endOf_34, w_Model_endOf_37, w_Model_endOf_38, w_Model_endOf_40, w_Model_endOf_42, w_Model_endOf_45, w_Model_endOf_46, w_Model_endOf_49, w_Model_endOf_50, w_Model_endOf_52, w_Model_endOf_55, w_Model_endOf_56, w_Model_endOf_59, w_Model_endOf_60, w_Model_endOf_61, w_Model_endOf_64, q_rd_eq, q_nt_0, q_nt_s, q_ld_tab, q_st_tab, q_aa13, q_aa14, q_is_eq, q_wr_eq, q_01_0, q_01_1, q_nz_nI, q_len_tab, psh_some, psh_none, sm_up_at, sm_up_ne, nI_add, nI_lt2, nI_le2, nI_eq2, ls_set0, ls_setS, Nat.reduceAdd, Nat.zero_add, Nat.add_zero, not_true_eq_false, not_false_eq_true, ite_true, ite_false, nI_rem3, nI_div2, nI_sub2, q_max_nI, q_min_nI, I.o, I.mn, h1, e0, e1, hf]
        exact E _
theorem m_endF (I : MAt h m) (hs : SfOk m.2.2.2.1.1) (hl : m.2.2.1.2.1 0 ≤ 60) : Wp xs m_Model_endOf 0 [.ref 98, .int (nI 0), .null, .null, .null] [] h 0 0 K = K (some (.int (oI (firstF (mBb m) 0 (m.2.2.1.2.1 0 + 1))))) h := by
  simp (disch := omega) only [w_Model_endOf_0, w_Model_endOf_2, w_Model_endOf_3, w_Model_endOf_4, q_rd_eq, q_nt_0, q_nt_s, q_ld_tab, q_st_tab, q_aa13, q_aa14, q_is_eq, q_wr_eq, q_01_0, q_01_1, q_nz_nI, q_len_tab, psh_some, psh_none, sm_up_at, sm_up_ne, nI_add, nI_lt2, nI_le2, nI_eq2, ls_set0, ls_setS, Nat.reduceAdd, Nat.zero_add, Nat.add_zero, not_true_eq_false, not_false_eq_true, ite_true, ite_false, nI_rem3, nI_div2, nI_sub2, q_max_nI, q_min_nI]
  exact endF_loop I hs hl (m.2.2.1.2.1 0 + 1) 0 _ (by omega)
theorem m_endT (I : MAt h m) (hs : SfOk m.2.2.2.1.1) (hl : m.2.2.1.2.1 0 ≤ 60) : Wp xs m_Model_endOf 0 [.ref 98, .int (nI 1), .null, .null, .null] [] h 0 0 K = K (some (.int (oI (lastF (mBb m) (m.2.2.1.2.1 0 + 1))))) h := by
  simp (disch := omega) only [w_Model_endOf_0, w_Model_endOf_2, w_Model_endOf_3, w_Model_endOf_4, q_rd_eq, q_nt_0, q_nt_s, q_ld_tab, q_st_tab, q_aa13, q_aa14, q_is_eq, q_wr_eq, q_01_0, q_01_1, q_nz_nI, q_len_tab, psh_some, psh_none, sm_up_at, sm_up_ne, nI_add, nI_lt2, nI_le2, nI_eq2, ls_set0, ls_setS, Nat.reduceAdd, Nat.zero_add, Nat.add_zero, not_true_eq_false, not_false_eq_true, ite_true, ite_false, nI_rem3, nI_div2, nI_sub2, q_max_nI, q_min_nI]
  exact endT_loop I hs hl (m.2.2.1.2.1 0 + 1) 0 _ (by omega)
theorem m_nearest (I : MAt h m) (hlo : lo ≤ 60) (hF : ∀ q, q < 122 → f q ≤ 1000000) : Wp xs m_Model_nearest 0 [.ref 98, .int (nI lo), .null, .null] [] (ZH h (fun i => nI (f i)) (fun i => nI (w i))) 0 0 K = K (some (.int (nI (lfN f lo)))) (ZH h (fun i => nI (f i)) (fun i => nI (w i))) := by
  have h1 := hF lo (by omega)
  have h2 := hF (61 + lo) (by omega)
  unfold lfN
  by_cases c : f (61 + lo) ≤ f lo
  · rw [Nat.min_eq_right c]
    simp (disch := omega) only [w_Model_nearest_0, w_Model_nearest_1, w_Model_nearest_4, w_Model_nearest_5, w_Model_nearest_6, w_Model_nearest_7, w_Model_nearest_8, w_Model_nearest_11, w_Model_nearest_13, w_Model_nearest_14, w_Model_nearest_15, w_Model_nearest_16, w_Model_nearest_17, w_Model_nearest_18, w_Model_nearest_19, w_Model_nearest_22, w_Model_nearest_23, w_Model_nearest_26, w_Model_nearest_27, q_rd_eq, q_nt_0, q_nt_s, q_ld_tab, q_st_tab, q_aa13, q_aa14, q_is_eq, q_wr_eq, q_01_0, q_01_1, q_nz_nI, q_len_tab, psh_some, psh_none, sm_up_at, sm_up_ne, nI_add, nI_lt2, nI_le2, nI_eq2, ls_set0, ls_setS, Nat.reduceAdd, Nat.zero_add, Nat.add_zero, not_true_eq_false, not_false_eq_true, ite_true, ite_false, nI_rem3, nI_div2, nI_sub2, q_max_nI, q_min_nI, zh98, zh109, I.o, c]
  · rw [Nat.min_eq_left (by omega)]
    simp (disch := omega) only [w_Model_nearest_0, w_Model_nearest_1, w_Model_nearest_4, w_Model_nearest_5, w_Model_nearest_6, w_Model_nearest_7, w_Model_nearest_8, w_Model_nearest_11, w_Model_nearest_13, w_Model_nearest_14, w_Model_nearest_15, w_Model_nearest_16, w_Model_nearest_17, w_Model_nearest_18, w_Model_nearest_19, w_Model_nearest_22, w_Model_nearest_23, w_Model_nearest_26, w_Model_nearest_27, q_rd_eq, q_nt_0, q_nt_s, q_ld_tab, q_st_tab, q_aa13, q_aa14, q_is_eq, q_wr_eq, q_01_0, q_01_1, q_nz_nI, q_len_tab, psh_some, psh_none, sm_up_at, sm_up_ne, nI_add, nI_lt2, nI_le2, nI_eq2, ls_set0, ls_setS, Nat.reduceAdd, Nat.zero_add, Nat.add_zero, not_true_eq_false, not_false_eq_true, ite_true, ite_false, nI_rem3, nI_div2, nI_sub2, q_max_nI, q_min_nI, zh98, zh109, I.o, c]
/-- on to the next print -/
theorem mc_while (I : MAt h m) (hF : ∀ q, q < 122 → f q ≤ 1000000) {D U L0 : Value} {lf k p y : Nat} {a5 : Value} (hy : y < 61) (hk : k < lf) (hlf : lf ≤ 122) (hfy : f (oth p + y) = lf - (k + 1)) (hno : ∀ z, p % 61 ≤ z → z < y → f (oth p + z) ≠ lf - (k + 1)) (Q : Wp xs m_Model_child 189 [.ref 98, D, U, L0, .int (nI lf), .int (nI (oth p + y)), .int (nI (k + 1)), .int (nI (oth p + y))] [] (ZH h (fun i => nI (f i)) (fun i => nI (w i))) 0 0 K) : ∀ r z, z + r = y → p % 61 ≤ z → Wp xs m_Model_child 213 [.ref 98, D, U, L0, .int (nI lf), .int (nI p), .int (nI k), .int (nI (oth p + z))] [] (ZH h (fun i => nI (f i)) (fun i => nI (w i))) 0 0 K := by
  intro r
  induction r with
  | zero =>
    intro z hz hpz
    have : z = y := by omega
    subst this
    have hlt := oth_lt (p := p) hy
    have hf := hF _ hlt
    have e : f (oth p + z) = lf - k - 1 := by omega
    rw [w_Model_child_213]
    simp (disch := first | assumption | omega) only [w_Model_child_214, w_Model_child_217, w_Model_child_219, w_Model_child_220, w_Model_child_222, w_Model_child_224, w_Model_child_225, w_Model_child_226, w_Model_child_227, w_Model_child_230, w_Model_child_233, w_Model_child_236, w_Model_child_238, w_Model_child_240, w_Model_child_243, q_rd_eq, q_nt_0, q_nt_s, q_ld_tab, q_st_tab, q_aa13, q_aa14, q_is_eq, q_wr_eq, q_01_0, q_01_1, q_nz_nI, q_len_tab, psh_some, psh_none, sm_up_at, sm_up_ne, nI_add, nI_lt2, nI_le2, nI_eq2, ls_set0, ls_setS, Nat.reduceAdd, Nat.zero_add, Nat.add_zero, not_true_eq_false, not_false_eq_true, ite_true, ite_false, nI_rem3, nI_div2, nI_sub2, q_max_nI, q_min_nI, zh98, zh109, I.o, eq_true e]
    exact Q
  | succ r ih =>
    intro z hz hpz
    have hlt := oth_lt (p := p) (show z < 61 by omega)
    have hf := hF _ hlt
    have e : ¬ f (oth p + z) = lf - k - 1 := by
      have := hno z hpz (by omega)
      omega
    rw [w_Model_child_213]
    simp (disch := first | assumption | omega) only [w_Model_child_214, w_Model_child_217, w_Model_child_219, w_Model_child_220, w_Model_child_222, w_Model_child_224, w_Model_child_225, w_Model_child_226, w_Model_child_227, w_Model_child_230, w_Model_child_233, q_rd_eq, q_nt_0, q_nt_s, q_ld_tab, q_st_tab, q_aa13, q_aa14, q_is_eq, q_wr_eq, q_01_0, q_01_1, q_nz_nI, q_len_tab, psh_some, psh_none, sm_up_at, sm_up_ne, nI_add, nI_lt2, nI_le2, nI_eq2, ls_set0, ls_setS, Nat.reduceAdd, Nat.zero_add, Nat.add_zero, not_true_eq_false, not_false_eq_true, ite_true, ite_false, nI_rem3, nI_div2, nI_sub2, q_max_nI, q_min_nI, zh98, zh109, I.o, e]
    exact ih (z + 1) (by omega) (by omega)
theorem mc_steps (I : MAt h m) {B : Nat → Bool} (V : Lev B d e f w) (hF : ∀ q, q < 122 → f q ≤ 1000000) (hlo : lo ≤ 60) (hfar : lfN f lo ≠ 1000000) {k : Nat} (hk : k ≤ lfN f lo) {D L0 : Value} (Q : K (some (.int (nI (100 * (atK f (a0N f lo) k / 61) + atK f (a0N f lo) k % 61)))) (ZH h (fun i => nI (f i)) (fun i => nI (w i)))) : ∀ r n a7, n + r = k → Wp xs m_Model_child 189 [.ref 98, D, .int (nI k), L0, .int (nI (lfN f lo)), .int (nI (atK f (a0N f lo) n)), .int (nI n), a7] [] (ZH h (fun i => nI (f i)) (fun i => nI (w i))) 0 0 K := by
  have hle := lf_le V hlo hfar
  intro r
  induction r with
  | zero =>
    intro n a7 hn
    have : n = k := by omega
    subst this
    have hlt := (atK_f V hlo hfar n hk).1
    rw [w_Model_child_189]
    simp (disch := first | assumption | omega) only [w_Model_child_191, w_Model_child_192, w_Model_child_246, w_Model_child_248, w_Model_child_250, w_Model_child_252, w_Model_child_253, w_Model_child_254, w_Model_child_256, w_Model_child_258, w_Model_child_259, w_Model_child_260, q_rd_eq, q_nt_0, q_nt_s, q_ld_tab, q_st_tab, q_aa13, q_aa14, q_is_eq, q_wr_eq, q_01_0, q_01_1, q_nz_nI, q_len_tab, psh_some, psh_none, sm_up_at, sm_up_ne, nI_add, nI_lt2, nI_le2, nI_eq2, ls_set0, ls_setS, Nat.reduceAdd, Nat.zero_add, Nat.add_zero, not_true_eq_false, not_false_eq_true, ite_true, ite_false, nI_rem3, nI_div2, nI_sub2, q_max_nI, q_min_nI, Nat.le_refl, pk_mul, dm]
    exact Q
  | succ r ih =>
    intro n a7 hn
    obtain ⟨hlt, hfn⟩ := atK_f V hlo hfar n (by omega)
    obtain ⟨c1, c2, c3, c4, c5⟩ := nxY_spec V hlt (v := lfN f lo - (n + 1)) (by omega) (by omega)
    have h1 : ¬ k ≤ n := by omega
    have E := ih (n + 1) (.int (nI (oth (atK f (a0N f lo) n) + nxY f (atK f (a0N f lo) n)))) (by omega)
    have W := mc_while (xs := xs) (K := K) (w := w) (D := D) (U := .int (nI k)) (L0 := L0) (a5 := .null) I hF c2 (show n < lfN f lo by omega) hle c4 c5 E (nxY f (atK f (a0N f lo) n) - atK f (a0N f lo) n % 61) (atK f (a0N f lo) n % 61) (by omega) (by omega)
    generalize atK f (a0N f lo) n = p at hlt W ⊢
    rw [w_Model_child_189]
    simp (disch := first | assumption | omega) only [w_Model_child_191, w_Model_child_192, w_Model_child_195, w_Model_child_197, w_Model_child_198, w_Model_child_200, w_Model_child_202, w_Model_child_203, w_Model_child_204, w_Model_child_205, w_Model_child_207, w_Model_child_209, w_Model_child_210, w_Model_child_211, q_rd_eq, q_nt_0, q_nt_s, q_ld_tab, q_st_tab, q_aa13, q_aa14, q_is_eq, q_wr_eq, q_01_0, q_01_1, q_nz_nI, q_len_tab, psh_some, psh_none, sm_up_at, sm_up_ne, nI_add, nI_lt2, nI_le2, nI_eq2, ls_set0, ls_setS, Nat.reduceAdd, Nat.zero_add, Nat.add_zero, not_true_eq_false, not_false_eq_true, ite_true, ite_false, nI_rem3, nI_div2, nI_sub2, q_max_nI, q_min_nI, h1, pk_mul, dm]
    exact W
theorem m2_le {u : Int32} (h : (-2 : Int32) ≤ u) : u = -2 ∨ u = -1 ∨ ¬ u < nI 0 := by
  rw [Int32.le_iff_toInt_le] at h
  have h2 : (-2 : Int32).toInt = -2 := by decide
  rw [h2] at h
  by_cases c2 : u.toInt = -2
  · left; exact Int32.toInt_inj.mp (by rw [c2, h2])
  · by_cases c1 : u.toInt = -1
    · right; left; exact Int32.toInt_inj.mp (by rw [c1]; decide)
    · right; right
      rw [Int32.lt_iff_toInt_lt, nI_toInt (by omega)]
      omega
theorem M_child (I : MAt h m) (hs : SfOk m.2.2.2.1.1) (hl : m.2.2.1.2.1 0 ≤ 60) (hd : d ≤ 60) (hu : (-2 : Int32) ≤ u) (hB : ∀ p, p < 122 → mB m p = true → p % 61 ≤ m.2.2.1.2.1 0) (q0 : firstF (mBb m) 0 (m.2.2.1.2.1 0 + 1) = none → K (some (.int (if u = -2 then nI 0 else -9))) h) (q1 : ∀ lo e, firstF (mBb m) 0 (m.2.2.1.2.1 0 + 1) = some lo → lastF (mBb m) (m.2.2.1.2.1 0 + 1) = some e → K (some (.int (chA (lvM m d e).1 (lvM m d e).2 lo u))) (ZH h (fun i => nI ((lvM m d e).1 i)) (fun i => nI ((lvM m d e).2 i)))) : Wp xs m_Model_child 0 [.ref 98, .int (nI d), .int u, .null, .null, .null, .null, .null] [] h 0 0 K := by
  have hu0 : (-2 : Int32) ≤ u := hu
  have c10 : ¬ (1 : Nat) = 0 := by omega
  cases qf : firstF (mBb m) 0 (m.2.2.1.2.1 0 + 1) with
  | none =>
    have q0' := q0 qf
    have e9 : ¬ ¬ (oI none = -9) := not_not_intro rfl
    by_cases c : u = -2
    · have c' : ¬ ¬ u = -2 := not_not_intro c
      rw [if_pos c] at q0'
      simp (disch := first | assumption | omega) only [w_Model_child_0, w_Model_child_1, w_Model_child_2, w_Model_child_5, w_Model_child_6, w_Model_child_7, w_Model_child_9, w_Model_child_12, w_Model_child_15, w_Model_child_16, w_Model_child_18, w_Model_child_21, w_Model_child_22, w_Model_child_23, w_Model_child_24, w_Model_child_25, w_Model_child_28, w_Model_child_29, w_Model_child_30, w_Model_child_32, w_Model_child_35, w_Model_child_36, w_Model_child_38, w_Model_child_41, w_Model_child_42, w_Model_child_45, w_Model_child_47, q_rd_eq, q_nt_0, q_nt_s, q_ld_tab, q_st_tab, q_aa13, q_aa14, q_is_eq, q_wr_eq, q_01_0, q_01_1, q_nz_nI, q_len_tab, psh_some, psh_none, sm_up_at, sm_up_ne, nI_add, nI_lt2, nI_le2, nI_eq2, ls_set0, ls_setS, Nat.reduceAdd, Nat.zero_add, Nat.add_zero, not_true_eq_false, not_false_eq_true, ite_true, ite_false, nI_rem3, nI_div2, nI_sub2, q_max_nI, q_min_nI, I.o, sm_up_self I.o, t_in, c10, hu0, m_endF I hs hl, qf, e9, c']
      exact q0'
    · rw [if_neg c] at q0'
      simp (disch := first | assumption | omega) only [w_Model_child_0, w_Model_child_1, w_Model_child_2, w_Model_child_5, w_Model_child_6, w_Model_child_7, w_Model_child_9, w_Model_child_12, w_Model_child_15, w_Model_child_16, w_Model_child_18, w_Model_child_21, w_Model_child_22, w_Model_child_23, w_Model_child_24, w_Model_child_25, w_Model_child_28, w_Model_child_29, w_Model_child_30, w_Model_child_32, w_Model_child_35, w_Model_child_36, w_Model_child_38, w_Model_child_41, w_Model_child_42, w_Model_child_45, w_Model_child_47, q_rd_eq, q_nt_0, q_nt_s, q_ld_tab, q_st_tab, q_aa13, q_aa14, q_is_eq, q_wr_eq, q_01_0, q_01_1, q_nz_nI, q_len_tab, psh_some, psh_none, sm_up_at, sm_up_ne, nI_add, nI_lt2, nI_le2, nI_eq2, ls_set0, ls_setS, Nat.reduceAdd, Nat.zero_add, Nat.add_zero, not_true_eq_false, not_false_eq_true, ite_true, ite_false, nI_rem3, nI_div2, nI_sub2, q_max_nI, q_min_nI, I.o, sm_up_self I.o, t_in, c10, hu0, m_endF I hs hl, qf, e9, c]
      exact q0'
  | some lo =>
    obtain ⟨l1, l2, l3, l4⟩ := firstF_lt _ _ _ _ qf
    have hlo : lo ≤ 60 := by omega
    have em := oI_m9 (o := some lo) (fun y hy => by cases hy; omega)
    have e9 : ¬ (oI (some lo) = -9) := by rw [em]; intro z; cases z
    have elo : oI (some lo) = nI lo := rfl
    rw [elo] at e9
    cases ql : lastF (mBb m) (m.2.2.1.2.1 0 + 1) with
    | none =>
      exfalso
      have key : ∀ n, lastF (mBb m) n = none → ∀ z, z < n → mBb m z = false := by
        intro n
        induction n with
        | zero => intro _ z hz; omega
        | succ n ih =>
          intro hn z hz
          unfold lastF at hn
          by_cases c : mBb m n = true
          · rw [if_pos c] at hn; cases hn
          · rw [if_neg c] at hn
            by_cases ez : z = n
            · rw [ez]; cases q : mBb m n
              · rfl
              · exact absurd q c
            · exact ih hn z (by omega)
      rw [key _ ql lo (by omega)] at l3
      cases l3
    | some e =>
      obtain ⟨e1, e2, e3⟩ := lastF_lt _ _ _ ql
      have ee : oI (some e) = nI e := rfl
      have q1' := q1 lo e qf ql
      have V := lvM_lev (d := d) (e := e) hl hB
      have hF : ∀ q, q < 122 → (lvM m d e).1 q ≤ 1000000 := fun q hq => by
        by_cases c : (lvM m d e).1 q = 1000000
        · omega
        · have := (V.1 q hq c).2; omega
      have hW : ∀ q, q < 122 → (lvM m d e).2 q < 1000003 := V.2.2.2.2.2.2
      have MM := M_measures (xs := xs) (d := d) (e := e) (K := fun r h' => Wp xs m_Model_child 58 [.ref 98, .int (nI d), .int u, .int (nI lo), .null, .null, .null, .null] (psh r []) h' 0 0 K) I hs hl hd (by omega) hB ?_
      · simp (disch := first | assumption | omega) only [w_Model_child_0, w_Model_child_1, w_Model_child_2, w_Model_child_5, w_Model_child_6, w_Model_child_7, w_Model_child_9, w_Model_child_12, w_Model_child_15, w_Model_child_16, w_Model_child_18, w_Model_child_21, w_Model_child_22, w_Model_child_23, w_Model_child_24, w_Model_child_25, w_Model_child_28, w_Model_child_29, w_Model_child_30, w_Model_child_32, w_Model_child_35, w_Model_child_36, w_Model_child_38, w_Model_child_41, w_Model_child_42, w_Model_child_45, w_Model_child_47, w_Model_child_48, w_Model_child_49, w_Model_child_50, w_Model_child_51, w_Model_child_52, w_Model_child_55, q_rd_eq, q_nt_0, q_nt_s, q_ld_tab, q_st_tab, q_aa13, q_aa14, q_is_eq, q_wr_eq, q_01_0, q_01_1, q_nz_nI, q_len_tab, psh_some, psh_none, sm_up_at, sm_up_ne, nI_add, nI_lt2, nI_le2, nI_eq2, ls_set0, ls_setS, Nat.reduceAdd, Nat.zero_add, Nat.add_zero, not_true_eq_false, not_false_eq_true, ite_true, ite_false, nI_rem3, nI_div2, nI_sub2, q_max_nI, q_min_nI, I.o, sm_up_self I.o, t_in, c10, hu0, m_endF I hs hl, m_endT I hs hl, qf, ql, elo, ee, e9]
        exact MM
      · generalize (lvM m d e).1 = f at q1' V hF ⊢
        generalize (lvM m d e).2 = w at q1' V hW ⊢
        have hlfb : lfN f lo ≤ 1000000 := by
          have := hF lo (by omega)
          unfold lfN
          omega
        by_cases cf : lfN f lo = 1000000
        · have cf' : ¬ ¬ lfN f lo = 1000000 := not_not_intro cf
          unfold chA at q1'
          rw [if_pos cf] at q1'
          by_cases c : u = -2
          · have c' : ¬ ¬ u = -2 := not_not_intro c
            rw [if_pos c] at q1'
            simp (disch := first | assumption | omega) only [w_Model_child_58, w_Model_child_59, w_Model_child_60, w_Model_child_63, w_Model_child_65, w_Model_child_67, w_Model_child_69, w_Model_child_72, w_Model_child_73, w_Model_child_75, w_Model_child_78, w_Model_child_79, w_Model_child_82, w_Model_child_84, q_rd_eq, q_nt_0, q_nt_s, q_ld_tab, q_st_tab, q_aa13, q_aa14, q_is_eq, q_wr_eq, q_01_0, q_01_1, q_nz_nI, q_len_tab, psh_some, psh_none, sm_up_at, sm_up_ne, nI_add, nI_lt2, nI_le2, nI_eq2, ls_set0, ls_setS, Nat.reduceAdd, Nat.zero_add, Nat.add_zero, not_true_eq_false, not_false_eq_true, ite_true, ite_false, nI_rem3, nI_div2, nI_sub2, q_max_nI, q_min_nI, zh98, I.o, m_nearest I, cf', c']
            exact q1'
          · rw [if_neg c] at q1'
            simp (disch := first | assumption | omega) only [w_Model_child_58, w_Model_child_59, w_Model_child_60, w_Model_child_63, w_Model_child_65, w_Model_child_67, w_Model_child_69, w_Model_child_72, w_Model_child_73, w_Model_child_75, w_Model_child_78, w_Model_child_79, w_Model_child_82, w_Model_child_84, q_rd_eq, q_nt_0, q_nt_s, q_ld_tab, q_st_tab, q_aa13, q_aa14, q_is_eq, q_wr_eq, q_01_0, q_01_1, q_nz_nI, q_len_tab, psh_some, psh_none, sm_up_at, sm_up_ne, nI_add, nI_lt2, nI_le2, nI_eq2, ls_set0, ls_setS, Nat.reduceAdd, Nat.zero_add, Nat.add_zero, not_true_eq_false, not_false_eq_true, ite_true, ite_false, nI_rem3, nI_div2, nI_sub2, q_max_nI, q_min_nI, zh98, I.o, m_nearest I, cf', c]
            exact q1'
        · unfold chA at q1'
          rw [if_neg cf] at q1'
          have hle := lf_le V hlo cf
          have hfl := hF lo (by omega)
          have hfh := hF (61 + lo) (by omega)
          have hwl := hW lo (by omega)
          have hwh := hW (61 + lo) (by omega)
          rcases m2_le hu with c | c | c
          · subst c
            have d1 : ¬ ((-2 : Int32) = -1) := by decide
            have d2 : ¬ (nI 0 ≤ (-2 : Int32)) := by decide
            rw [if_neg d1, if_pos rfl] at q1'
            by_cases g1 : f lo = lfN f lo
            · have g1' : ¬ ¬ f lo = lfN f lo := not_not_intro g1
              rw [if_pos g1] at q1'
              by_cases g2 : f (61 + lo) = lfN f lo
              · have g2' : ¬ ¬ f (61 + lo) = lfN f lo := not_not_intro g2
                rw [if_pos g2] at q1'
                simp (disch := first | assumption | omega) only [w_Model_child_58, w_Model_child_59, w_Model_child_60, w_Model_child_63, w_Model_child_65, w_Model_child_67, w_Model_child_69, w_Model_child_72, w_Model_child_73, w_Model_child_75, w_Model_child_78, w_Model_child_79, w_Model_child_82, w_Model_child_84, w_Model_child_85, w_Model_child_86, w_Model_child_89, w_Model_child_90, w_Model_child_93, w_Model_child_94, w_Model_child_95, w_Model_child_97, w_Model_child_100, w_Model_child_101, w_Model_child_104, w_Model_child_105, w_Model_child_106, w_Model_child_109, w_Model_child_110, w_Model_child_111, w_Model_child_114, w_Model_child_116, w_Model_child_117, w_Model_child_118, w_Model_child_119, w_Model_child_121, w_Model_child_124, w_Model_child_125, w_Model_child_128, w_Model_child_130, w_Model_child_131, w_Model_child_132, w_Model_child_133, w_Model_child_136, w_Model_child_137, w_Model_child_138, w_Model_child_140, w_Model_child_141, w_Model_child_142, w_Model_child_145, w_Model_child_147, w_Model_child_150, w_Model_child_152, w_Model_child_154, w_Model_child_155, q_rd_eq, q_nt_0, q_nt_s, q_ld_tab, q_st_tab, q_aa13, q_aa14, q_is_eq, q_wr_eq, q_01_0, q_01_1, q_nz_nI, q_len_tab, psh_some, psh_none, sm_up_at, sm_up_ne, nI_add, nI_lt2, nI_le2, nI_eq2, ls_set0, ls_setS, Nat.reduceAdd, Nat.zero_add, Nat.add_zero, not_true_eq_false, not_false_eq_true, ite_true, ite_false, nI_rem3, nI_div2, nI_sub2, q_max_nI, q_min_nI, zh98, zh109, zh110, I.o, m_nearest I, cf, d1, d2, g1', g2']
                exact q1'
              · rw [if_neg g2, Nat.add_zero] at q1'
                simp (disch := first | assumption | omega) only [w_Model_child_58, w_Model_child_59, w_Model_child_60, w_Model_child_63, w_Model_child_65, w_Model_child_67, w_Model_child_69, w_Model_child_72, w_Model_child_73, w_Model_child_75, w_Model_child_78, w_Model_child_79, w_Model_child_82, w_Model_child_84, w_Model_child_85, w_Model_child_86, w_Model_child_89, w_Model_child_90, w_Model_child_93, w_Model_child_94, w_Model_child_95, w_Model_child_97, w_Model_child_100, w_Model_child_101, w_Model_child_104, w_Model_child_105, w_Model_child_106, w_Model_child_109, w_Model_child_110, w_Model_child_111, w_Model_child_114, w_Model_child_116, w_Model_child_117, w_Model_child_118, w_Model_child_119, w_Model_child_121, w_Model_child_124, w_Model_child_125, w_Model_child_128, w_Model_child_130, w_Model_child_131, w_Model_child_132, w_Model_child_133, w_Model_child_136, w_Model_child_137, w_Model_child_138, w_Model_child_140, w_Model_child_141, w_Model_child_142, w_Model_child_145, w_Model_child_147, w_Model_child_150, w_Model_child_152, w_Model_child_154, w_Model_child_155, q_rd_eq, q_nt_0, q_nt_s, q_ld_tab, q_st_tab, q_aa13, q_aa14, q_is_eq, q_wr_eq, q_01_0, q_01_1, q_nz_nI, q_len_tab, psh_some, psh_none, sm_up_at, sm_up_ne, nI_add, nI_lt2, nI_le2, nI_eq2, ls_set0, ls_setS, Nat.reduceAdd, Nat.zero_add, Nat.add_zero, not_true_eq_false, not_false_eq_true, ite_true, ite_false, nI_rem3, nI_div2, nI_sub2, q_max_nI, q_min_nI, zh98, zh109, zh110, I.o, m_nearest I, cf, d1, d2, g1', g2]
                exact q1'
            · rw [if_neg g1, Nat.zero_add] at q1'
              by_cases g2 : f (61 + lo) = lfN f lo
              · have g2' : ¬ ¬ f (61 + lo) = lfN f lo := not_not_intro g2
                rw [if_pos g2] at q1'
                simp (disch := first | assumption | omega) only [w_Model_child_58, w_Model_child_59, w_Model_child_60, w_Model_child_63, w_Model_child_65, w_Model_child_67, w_Model_child_69, w_Model_child_72, w_Model_child_73, w_Model_child_75, w_Model_child_78, w_Model_child_79, w_Model_child_82, w_Model_child_84, w_Model_child_85, w_Model_child_86, w_Model_child_89, w_Model_child_90, w_Model_child_93, w_Model_child_94, w_Model_child_95, w_Model_child_97, w_Model_child_100, w_Model_child_101, w_Model_child_104, w_Model_child_105, w_Model_child_106, w_Model_child_109, w_Model_child_110, w_Model_child_111, w_Model_child_114, w_Model_child_116, w_Model_child_117, w_Model_child_118, w_Model_child_119, w_Model_child_121, w_Model_child_124, w_Model_child_125, w_Model_child_128, w_Model_child_130, w_Model_child_131, w_Model_child_132, w_Model_child_133, w_Model_child_136, w_Model_child_137, w_Model_child_138, w_Model_child_140, w_Model_child_141, w_Model_child_142, w_Model_child_145, w_Model_child_147, w_Model_child_150, w_Model_child_152, w_Model_child_154, w_Model_child_155, q_rd_eq, q_nt_0, q_nt_s, q_ld_tab, q_st_tab, q_aa13, q_aa14, q_is_eq, q_wr_eq, q_01_0, q_01_1, q_nz_nI, q_len_tab, psh_some, psh_none, sm_up_at, sm_up_ne, nI_add, nI_lt2, nI_le2, nI_eq2, ls_set0, ls_setS, Nat.reduceAdd, Nat.zero_add, Nat.add_zero, not_true_eq_false, not_false_eq_true, ite_true, ite_false, nI_rem3, nI_div2, nI_sub2, q_max_nI, q_min_nI, zh98, zh109, zh110, I.o, m_nearest I, cf, d1, d2, g1, g2']
                exact q1'
              · rw [if_neg g2] at q1'
                simp (disch := first | assumption | omega) only [w_Model_child_58, w_Model_child_59, w_Model_child_60, w_Model_child_63, w_Model_child_65, w_Model_child_67, w_Model_child_69, w_Model_child_72, w_Model_child_73, w_Model_child_75, w_Model_child_78, w_Model_child_79, w_Model_child_82, w_Model_child_84, w_Model_child_85, w_Model_child_86, w_Model_child_89, w_Model_child_90, w_Model_child_93, w_Model_child_94, w_Model_child_95, w_Model_child_97, w_Model_child_100, w_Model_child_101, w_Model_child_104, w_Model_child_105, w_Model_child_106, w_Model_child_109, w_Model_child_110, w_Model_child_111, w_Model_child_114, w_Model_child_116, w_Model_child_117, w_Model_child_118, w_Model_child_119, w_Model_child_121, w_Model_child_124, w_Model_child_125, w_Model_child_128, w_Model_child_130, w_Model_child_131, w_Model_child_132, w_Model_child_133, w_Model_child_136, w_Model_child_137, w_Model_child_138, w_Model_child_140, w_Model_child_141, w_Model_child_142, w_Model_child_145, w_Model_child_147, w_Model_child_150, w_Model_child_152, w_Model_child_154, w_Model_child_155, q_rd_eq, q_nt_0, q_nt_s, q_ld_tab, q_st_tab, q_aa13, q_aa14, q_is_eq, q_wr_eq, q_01_0, q_01_1, q_nz_nI, q_len_tab, psh_some, psh_none, sm_up_at, sm_up_ne, nI_add, nI_lt2, nI_le2, nI_eq2, ls_set0, ls_setS, Nat.reduceAdd, Nat.zero_add, Nat.add_zero, not_true_eq_false, not_false_eq_true, ite_true, ite_false, nI_rem3, nI_div2, nI_sub2, q_max_nI, q_min_nI, zh98, zh109, zh110, I.o, m_nearest I, cf, d1, d2, g1, g2]
                exact q1'
          · subst c
            have d1 : ¬ ¬ ((-1 : Int32) = -1) := not_not_intro rfl
            have d2 : ¬ (nI 0 ≤ (-1 : Int32)) := by decide
            rw [if_pos rfl] at q1'
            by_cases g1 : f lo = lfN f lo
            · have g1' : ¬ ¬ f lo = lfN f lo := not_not_intro g1
              by_cases g2 : f (61 + lo) = lfN f lo
              · have g2' : ¬ ¬ f (61 + lo) = lfN f lo := not_not_intro g2
                simp (disch := first | assumption | omega) only [w_Model_child_58, w_Model_child_59, w_Model_child_60, w_Model_child_63, w_Model_child_65, w_Model_child_67, w_Model_child_69, w_Model_child_72, w_Model_child_73, w_Model_child_75, w_Model_child_78, w_Model_child_79, w_Model_child_82, w_Model_child_84, w_Model_child_85, w_Model_child_86, w_Model_child_89, w_Model_child_90, w_Model_child_93, w_Model_child_94, w_Model_child_95, w_Model_child_97, w_Model_child_100, w_Model_child_101, w_Model_child_104, w_Model_child_105, w_Model_child_106, w_Model_child_109, w_Model_child_110, w_Model_child_111, w_Model_child_114, w_Model_child_116, w_Model_child_117, w_Model_child_118, w_Model_child_119, w_Model_child_121, w_Model_child_124, w_Model_child_125, w_Model_child_128, w_Model_child_130, w_Model_child_131, w_Model_child_132, w_Model_child_133, w_Model_child_136, w_Model_child_137, w_Model_child_138, w_Model_child_140, w_Model_child_141, w_Model_child_142, w_Model_child_145, w_Model_child_147, w_Model_child_150, w_Model_child_152, w_Model_child_154, w_Model_child_155, q_rd_eq, q_nt_0, q_nt_s, q_ld_tab, q_st_tab, q_aa13, q_aa14, q_is_eq, q_wr_eq, q_01_0, q_01_1, q_nz_nI, q_len_tab, psh_some, psh_none, sm_up_at, sm_up_ne, nI_add, nI_lt2, nI_le2, nI_eq2, ls_set0, ls_setS, Nat.reduceAdd, Nat.zero_add, Nat.add_zero, not_true_eq_false, not_false_eq_true, ite_true, ite_false, nI_rem3, nI_div2, nI_sub2, q_max_nI, q_min_nI, zh98, zh109, zh110, I.o, m_nearest I, cf, d1, d2, g1', g2']
                exact q1'
              · simp (disch := first | assumption | omega) only [w_Model_child_58, w_Model_child_59, w_Model_child_60, w_Model_child_63, w_Model_child_65, w_Model_child_67, w_Model_child_69, w_Model_child_72, w_Model_child_73, w_Model_child_75, w_Model_child_78, w_Model_child_79, w_Model_child_82, w_Model_child_84, w_Model_child_85, w_Model_child_86, w_Model_child_89, w_Model_child_90, w_Model_child_93, w_Model_child_94, w_Model_child_95, w_Model_child_97, w_Model_child_100, w_Model_child_101, w_Model_child_104, w_Model_child_105, w_Model_child_106, w_Model_child_109, w_Model_child_110, w_Model_child_111, w_Model_child_114, w_Model_child_116, w_Model_child_117, w_Model_child_118, w_Model_child_119, w_Model_child_121, w_Model_child_124, w_Model_child_125, w_Model_child_128, w_Model_child_130, w_Model_child_131, w_Model_child_132, w_Model_child_133, w_Model_child_136, w_Model_child_137, w_Model_child_138, w_Model_child_140, w_Model_child_141, w_Model_child_142, w_Model_child_145, w_Model_child_147, w_Model_child_150, w_Model_child_152, w_Model_child_154, w_Model_child_155, q_rd_eq, q_nt_0, q_nt_s, q_ld_tab, q_st_tab, q_aa13, q_aa14, q_is_eq, q_wr_eq, q_01_0, q_01_1, q_nz_nI, q_len_tab, psh_some, psh_none, sm_up_at, sm_up_ne, nI_add, nI_lt2, nI_le2, nI_eq2, ls_set0, ls_setS, Nat.reduceAdd, Nat.zero_add, Nat.add_zero, not_true_eq_false, not_false_eq_true, ite_true, ite_false, nI_rem3, nI_div2, nI_sub2, q_max_nI, q_min_nI, zh98, zh109, zh110, I.o, m_nearest I, cf, d1, d2, g1', g2]
                exact q1'
            · by_cases g2 : f (61 + lo) = lfN f lo
              · have g2' : ¬ ¬ f (61 + lo) = lfN f lo := not_not_intro g2
                simp (disch := first | assumption | omega) only [w_Model_child_58, w_Model_child_59, w_Model_child_60, w_Model_child_63, w_Model_child_65, w_Model_child_67, w_Model_child_69, w_Model_child_72, w_Model_child_73, w_Model_child_75, w_Model_child_78, w_Model_child_79, w_Model_child_82, w_Model_child_84, w_Model_child_85, w_Model_child_86, w_Model_child_89, w_Model_child_90, w_Model_child_93, w_Model_child_94, w_Model_child_95, w_Model_child_97, w_Model_child_100, w_Model_child_101, w_Model_child_104, w_Model_child_105, w_Model_child_106, w_Model_child_109, w_Model_child_110, w_Model_child_111, w_Model_child_114, w_Model_child_116, w_Model_child_117, w_Model_child_118, w_Model_child_119, w_Model_child_121, w_Model_child_124, w_Model_child_125, w_Model_child_128, w_Model_child_130, w_Model_child_131, w_Model_child_132, w_Model_child_133, w_Model_child_136, w_Model_child_137, w_Model_child_138, w_Model_child_140, w_Model_child_141, w_Model_child_142, w_Model_child_145, w_Model_child_147, w_Model_child_150, w_Model_child_152, w_Model_child_154, w_Model_child_155, q_rd_eq, q_nt_0, q_nt_s, q_ld_tab, q_st_tab, q_aa13, q_aa14, q_is_eq, q_wr_eq, q_01_0, q_01_1, q_nz_nI, q_len_tab, psh_some, psh_none, sm_up_at, sm_up_ne, nI_add, nI_lt2, nI_le2, nI_eq2, ls_set0, ls_setS, Nat.reduceAdd, Nat.zero_add, Nat.add_zero, not_true_eq_false, not_false_eq_true, ite_true, ite_false, nI_rem3, nI_div2, nI_sub2, q_max_nI, q_min_nI, zh98, zh109, zh110, I.o, m_nearest I, cf, d1, d2, g1, g2']
                exact q1'
              · simp (disch := first | assumption | omega) only [w_Model_child_58, w_Model_child_59, w_Model_child_60, w_Model_child_63, w_Model_child_65, w_Model_child_67, w_Model_child_69, w_Model_child_72, w_Model_child_73, w_Model_child_75, w_Model_child_78, w_Model_child_79, w_Model_child_82, w_Model_child_84, w_Model_child_85, w_Model_child_86, w_Model_child_89, w_Model_child_90, w_Model_child_93, w_Model_child_94, w_Model_child_95, w_Model_child_97, w_Model_child_100, w_Model_child_101, w_Model_child_104, w_Model_child_105, w_Model_child_106, w_Model_child_109, w_Model_child_110, w_Model_child_111, w_Model_child_114, w_Model_child_116, w_Model_child_117, w_Model_child_118, w_Model_child_119, w_Model_child_121, w_Model_child_124, w_Model_child_125, w_Model_child_128, w_Model_child_130, w_Model_child_131, w_Model_child_132, w_Model_child_133, w_Model_child_136, w_Model_child_137, w_Model_child_138, w_Model_child_140, w_Model_child_141, w_Model_child_142, w_Model_child_145, w_Model_child_147, w_Model_child_150, w_Model_child_152, w_Model_child_154, w_Model_child_155, q_rd_eq, q_nt_0, q_nt_s, q_ld_tab, q_st_tab, q_aa13, q_aa14, q_is_eq, q_wr_eq, q_01_0, q_01_1, q_nz_nI, q_len_tab, psh_some, psh_none, sm_up_at, sm_up_ne, nI_add, nI_lt2, nI_le2, nI_eq2, ls_set0, ls_setS, Nat.reduceAdd, Nat.zero_add, Nat.add_zero, not_true_eq_false, not_false_eq_true, ite_true, ite_false, nI_rem3, nI_div2, nI_sub2, q_max_nI, q_min_nI, zh98, zh109, zh110, I.o, m_nearest I, cf, d1, d2, g1, g2]
                exact q1'
          · have d0 : nI 0 ≤ u := nI_nlt0 c
            have u1 : ¬ (u = -1) := fun z => by rw [z] at c; exact c (by decide)
            have u2 : ¬ (u = -2) := fun z => by rw [z] at c; exact c (by decide)
            rw [if_neg u1, if_neg u2] at q1'
            by_cases cu : inr u (lfN f lo + 1)
            · obtain ⟨k, hk, rfl⟩ := cu
              have hkl : k ≤ lfN f lo := by omega
              have d3 : nI k ≤ nI (lfN f lo) := by rw [nI_le2 (by omega) (by omega)]; exact hkl
              rw [if_pos d3, nI_clamp (show k < 2 ^ 31 by omega)] at q1'
              have S := mc_steps (xs := xs) (K := K) (D := .int (nI d)) (L0 := .int (nI lo)) I V hF hlo cf hkl q1' k 0 .null (by omega)
              have d0' : 0 ≤ k := Nat.zero_le _
              have ea0 : atK f (a0N f lo) 0 = a0N f lo := rfl
              rw [ea0] at S
              unfold a0N at S
              by_cases g1 : f lo = lfN f lo
              · have g1' : ¬ ¬ f lo = lfN f lo := not_not_intro g1
                rw [if_pos g1] at S
                simp (disch := first | assumption | omega) only [w_Model_child_58, w_Model_child_59, w_Model_child_60, w_Model_child_63, w_Model_child_65, w_Model_child_67, w_Model_child_69, w_Model_child_72, w_Model_child_73, w_Model_child_75, w_Model_child_78, w_Model_child_79, w_Model_child_82, w_Model_child_84, w_Model_child_85, w_Model_child_86, w_Model_child_156, w_Model_child_157, w_Model_child_160, w_Model_child_161, w_Model_child_162, w_Model_child_164, w_Model_child_167, w_Model_child_168, w_Model_child_171, w_Model_child_173, w_Model_child_174, w_Model_child_175, w_Model_child_177, w_Model_child_178, w_Model_child_180, w_Model_child_183, w_Model_child_185, w_Model_child_186, w_Model_child_187, q_rd_eq, q_nt_0, q_nt_s, q_ld_tab, q_st_tab, q_aa13, q_aa14, q_is_eq, q_wr_eq, q_01_0, q_01_1, q_nz_nI, q_len_tab, psh_some, psh_none, sm_up_at, sm_up_ne, nI_add, nI_lt2, nI_le2, nI_eq2, ls_set0, ls_setS, Nat.reduceAdd, Nat.zero_add, Nat.add_zero, not_true_eq_false, not_false_eq_true, ite_true, ite_false, nI_rem3, nI_div2, nI_sub2, q_max_nI, q_min_nI, zh98, zh109, I.o, m_nearest I, cf, d0', g1', hkl]
                exact S
              · rw [if_neg g1] at S
                simp (disch := first | assumption | omega) only [w_Model_child_58, w_Model_child_59, w_Model_child_60, w_Model_child_63, w_Model_child_65, w_Model_child_67, w_Model_child_69, w_Model_child_72, w_Model_child_73, w_Model_child_75, w_Model_child_78, w_Model_child_79, w_Model_child_82, w_Model_child_84, w_Model_child_85, w_Model_child_86, w_Model_child_156, w_Model_child_157, w_Model_child_160, w_Model_child_161, w_Model_child_162, w_Model_child_164, w_Model_child_167, w_Model_child_168, w_Model_child_171, w_Model_child_173, w_Model_child_174, w_Model_child_175, w_Model_child_177, w_Model_child_178, w_Model_child_180, w_Model_child_183, w_Model_child_185, w_Model_child_186, w_Model_child_187, q_rd_eq, q_nt_0, q_nt_s, q_ld_tab, q_st_tab, q_aa13, q_aa14, q_is_eq, q_wr_eq, q_01_0, q_01_1, q_nz_nI, q_len_tab, psh_some, psh_none, sm_up_at, sm_up_ne, nI_add, nI_lt2, nI_le2, nI_eq2, ls_set0, ls_setS, Nat.reduceAdd, Nat.zero_add, Nat.add_zero, not_true_eq_false, not_false_eq_true, ite_true, ite_false, nI_rem3, nI_div2, nI_sub2, q_max_nI, q_min_nI, zh98, zh109, I.o, m_nearest I, cf, d0', g1, hkl]
                exact S
            · rcases inr_no (by omega) cu with z | ⟨-, z⟩
              · exact absurd z c
              · have d3 : ¬ u ≤ nI (lfN f lo) := (nI_step (by omega) z).2.1
                rw [if_neg d3] at q1'
                by_cases g1 : f lo = lfN f lo
                · have g1' : ¬ ¬ f lo = lfN f lo := not_not_intro g1
                  simp (disch := first | assumption | omega) only [w_Model_child_58, w_Model_child_59, w_Model_child_60, w_Model_child_63, w_Model_child_65, w_Model_child_67, w_Model_child_69, w_Model_child_72, w_Model_child_73, w_Model_child_75, w_Model_child_78, w_Model_child_79, w_Model_child_82, w_Model_child_84, w_Model_child_85, w_Model_child_86, w_Model_child_156, w_Model_child_157, w_Model_child_160, w_Model_child_161, w_Model_child_162, w_Model_child_164, w_Model_child_167, w_Model_child_168, w_Model_child_171, w_Model_child_173, w_Model_child_174, w_Model_child_175, w_Model_child_177, w_Model_child_178, w_Model_child_180, w_Model_child_183, w_Model_child_185, w_Model_child_186, w_Model_child_187, q_rd_eq, q_nt_0, q_nt_s, q_ld_tab, q_st_tab, q_aa13, q_aa14, q_is_eq, q_wr_eq, q_01_0, q_01_1, q_nz_nI, q_len_tab, psh_some, psh_none, sm_up_at, sm_up_ne, nI_add, nI_lt2, nI_le2, nI_eq2, ls_set0, ls_setS, Nat.reduceAdd, Nat.zero_add, Nat.add_zero, not_true_eq_false, not_false_eq_true, ite_true, ite_false, nI_rem3, nI_div2, nI_sub2, q_max_nI, q_min_nI, zh98, zh109, I.o, m_nearest I, cf, d0, g1', d3]
                  exact q1'
                · simp (disch := first | assumption | omega) only [w_Model_child_58, w_Model_child_59, w_Model_child_60, w_Model_child_63, w_Model_child_65, w_Model_child_67, w_Model_child_69, w_Model_child_72, w_Model_child_73, w_Model_child_75, w_Model_child_78, w_Model_child_79, w_Model_child_82, w_Model_child_84, w_Model_child_85, w_Model_child_86, w_Model_child_156, w_Model_child_157, w_Model_child_160, w_Model_child_161, w_Model_child_162, w_Model_child_164, w_Model_child_167, w_Model_child_168, w_Model_child_171, w_Model_child_173, w_Model_child_174, w_Model_child_175, w_Model_child_177, w_Model_child_178, w_Model_child_180, w_Model_child_183, w_Model_child_185, w_Model_child_186, w_Model_child_187, q_rd_eq, q_nt_0, q_nt_s, q_ld_tab, q_st_tab, q_aa13, q_aa14, q_is_eq, q_wr_eq, q_01_0, q_01_1, q_nz_nI, q_len_tab, psh_some, psh_none, sm_up_at, sm_up_ne, nI_add, nI_lt2, nI_le2, nI_eq2, ls_set0, ls_setS, Nat.reduceAdd, Nat.zero_add, Nat.add_zero, not_true_eq_false, not_false_eq_true, ite_true, ite_false, nI_rem3, nI_div2, nI_sub2, q_max_nI, q_min_nI, zh98, zh109, I.o, m_nearest I, cf, d0, g1, d3]
                  exact q1'
theorem m_childX (I : MAt h m) {v : Int32} (hb : ¬ (inr v 61 ∧ (-2 : Int32) ≤ u)) : Wp xs m_Model_child 0 [.ref 98, .int v, .int u, .null, .null, .null, .null, .null] [] h 0 0 K = K (some (.int (-1))) h := by
  have c10 : ¬ (1 : Nat) = 0 := by omega
  by_cases c : inr v 61
  · have hu : ¬ (-2 : Int32) ≤ u := fun z => hb ⟨c, z⟩
    obtain ⟨k, hk, rfl⟩ := c
    simp (disch := first | assumption | omega) only [w_Model_child_0, w_Model_child_1, w_Model_child_2, w_Model_child_5, w_Model_child_6, w_Model_child_7, w_Model_child_9, w_Model_child_12, w_Model_child_15, w_Model_child_16, w_Model_child_18, w_Model_child_21, w_Model_child_22, q_rd_eq, q_nt_0, q_nt_s, q_ld_tab, q_st_tab, q_aa13, q_aa14, q_is_eq, q_wr_eq, q_01_0, q_01_1, q_nz_nI, q_len_tab, psh_some, psh_none, sm_up_at, sm_up_ne, nI_add, nI_lt2, nI_le2, nI_eq2, ls_set0, ls_setS, Nat.reduceAdd, Nat.zero_add, Nat.add_zero, not_true_eq_false, not_false_eq_true, ite_true, ite_false, nI_rem3, nI_div2, nI_sub2, q_max_nI, q_min_nI, I.o, sm_up_self I.o, t_in, c10, hu]
  · simp (disch := first | assumption | omega) only [w_Model_child_0, w_Model_child_1, w_Model_child_2, w_Model_child_5, w_Model_child_6, w_Model_child_7, w_Model_child_9, w_Model_child_12, w_Model_child_15, w_Model_child_16, w_Model_child_18, w_Model_child_21, w_Model_child_22, q_rd_eq, q_nt_0, q_nt_s, q_ld_tab, q_st_tab, q_aa13, q_aa14, q_is_eq, q_wr_eq, q_01_0, q_01_1, q_nz_nI, q_len_tab, psh_some, psh_none, sm_up_at, sm_up_ne, nI_add, nI_lt2, nI_le2, nI_eq2, ls_set0, ls_setS, Nat.reduceAdd, Nat.zero_add, Nat.add_zero, not_true_eq_false, not_false_eq_true, ite_true, ite_false, nI_rem3, nI_div2, nI_sub2, q_max_nI, q_min_nI, I.o, sm_up_self I.o, f_in]
end MCD
