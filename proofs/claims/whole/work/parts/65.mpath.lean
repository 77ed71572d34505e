/-! path(), by the model -/
def Low (m : MC) (mn st sd sp : Nat → Nat) : Prop := (∀ i, i < 4 → mn i = m.2.2.1.2.1 i) ∧ ∀ k, k < 2 → st k = m.2.2.1.2.2.1 k ∧ sd k = m.2.2.1.2.2.2.1 k ∧ sp k = m.2.2.1.2.2.2.2 k
/-- what was told so far lies behind what stands -/
def TP (m : MC) (mn st sd sp : Nat → Nat) (pa : PathS) : Prop := (mn 4 = pa.1.1 ∧ mn 5 = pa.1.2.1 ∧ mn 6 = pa.1.2.2.1 ∧ mn 7 = pa.1.2.2.2) ∧ (∀ k, k < 2 → st (2 + k) = pa.2.1 k ∧ sd (2 + k) = pa.2.2.1 k ∧ sp (2 + k) = pa.2.2.2 k) ∧ Low m mn st sd sp
def tB (fl : FlS) : Nat := fl.1 + 2 * fl.2.1 + 4 * fl.2.2
theorem tB_b : ∀ b, b < 2 → ∀ p, p < 2 → ∀ t, t < 2 → ((b + 2 * p + 4 * t) &&& 1 = b ∧ (b + 2 * p + 4 * t) &&& 2 = 2 * p ∧ (b + 2 * p + 4 * t) &&& 4 = 4 * t ∧ (b + 2 * p + 4 * t) ||| 1 = 1 + 2 * p + 4 * t ∧ (b + 2 * p + 4 * t) ||| 2 = b + 2 * 1 + 4 * t ∧ (b + 2 * p + 4 * t) ||| 4 = b + 2 * p + 4 * 1) := by decide
theorem isL_no {T : Nat → Nat} {n a : Nat} {first : Bool} {fl : FlS} {pa : PathS} (h : isL (T a) = false) : itS T n first fl pa a = .inl a := by
  have h1 := of_decide_eq_false h
  unfold itS
  rw [if_neg (by omega), if_neg (by omega), if_neg (by omega), if_neg (by omega), if_neg (by omega)]
theorem Low.up_mn {m : MC} {mn st sd sp : Nat → Nat} {i v : Nat} (L : Low m mn st sd sp) (hi : 4 ≤ i) : Low m (fup mn i v) st sd sp := ⟨fun j hj => by rw [fup_ne (by omega)]; exact L.1 j hj, L.2⟩
theorem Low.up_w {m : MC} {mn st sd sp : Nat → Nat} {k a b c : Nat} (L : Low m mn st sd sp) : Low m mn (fup st (2 + k) a) (fup sd (2 + k) b) (fup sp (2 + k) c) := ⟨L.1, fun j hj => by rw [fup_ne (by omega), fup_ne (by omega), fup_ne (by omega)]; exact L.2 j hj⟩
section MPT
variable {xs : List Int32} {h : sm_Hp} {K : Option Value → sm_Hp → Prop} {m : MC} {mn st sd sp : Nat → Nat} {nx tk pl vl tl : Int32} {q items : Nat} {fl : FlS} {pa : PathS}
theorem l_tok {T : Nat → Nat} {n q : Nat} (hs : sk T n 120 q < n) (hl : isL (T (sk T n 120 q)) = true) : aK T n q = 1 ∧ aX T n q = sk T n 120 q + 1 ∧ ∀ v, aV T n q v = nI (T (sk T n 120 q)) := by
  have h1 := of_decide_eq_true hl
  refine ⟨?_, ?_, fun v => ?_⟩
  · unfold aK
    rw [if_neg (by omega), if_neg (by omega), if_neg (by omega), if_pos hl]
  · unfold aX
    rw [if_neg (by omega), if_neg (by omega)]
  · unfold aV
    rw [if_neg (by omega), if_neg (by omega)]
theorem nl_tok {T : Nat → Nat} {n q : Nat} (hl : isL (T (sk T n 120 q)) = false) : aK T n q ≠ 1 := by
  unfold aK
  split
  · decide
  · split
    · split <;> decide
    · split
      · decide
      · rw [if_neg (by rw [hl]; decide)]
        decide
/-- it may stand or not: both go on at 89 -/
theorem may_any {w b : Nat} (hw : w ≤ 999) (hb : b ≤ 7) (hit : items ≤ 200) {a2 a3 : Value} (Q : ∀ x, x ≤ 1 → Wp xs m_Model_path 89 [.ref 98, .int (nI items), a2, a3] [.int (nI x)] (YH h m mn st sd sp nx tk pl (nI w) vl (nI b)) 0 0 K) : Wp xs m_Model_path 39 [.ref 98, .int (nI items), a2, a3] [] (YH h m mn st sd sp nx tk pl (nI w) vl (nI b)) 0 0 K := by
  have Q0 := Q 0 (by omega)
  have Q1 := Q 1 (by omega)
  by_cases c1 : w = 108
  · have c1' : ¬ ¬ w = 108 := not_not_intro c1
    by_cases c2 : items = 0
    · have c2' : ¬ ¬ items = 0 := not_not_intro c2
      simp (disch := first | assumption | omega) only [w_Model_path_39, w_Model_path_40, w_Model_path_43, w_Model_path_45, w_Model_path_48, w_Model_path_49, w_Model_path_52, w_Model_path_53, w_Model_path_56, w_Model_path_57, w_Model_path_60, w_Model_path_61, w_Model_path_64, w_Model_path_66, w_Model_path_69, w_Model_path_70, w_Model_path_73, w_Model_path_74, w_Model_path_77, w_Model_path_80, w_Model_path_81, w_Model_path_84, w_Model_path_85, w_Model_path_88, q_rd_eq, q_nt_0, q_nt_s, q_ld_tab, q_st_tab, q_aa13, q_aa14, q_is_eq, q_wr_eq, q_01_0, q_01_1, q_nz_nI, q_len_tab, psh_some, psh_none, sm_up_at, sm_up_ne, nI_add, nI_lt2, nI_le2, nI_eq2, ls_set0, ls_setS, Nat.reduceAdd, Nat.zero_add, Nat.add_zero, not_true_eq_false, not_false_eq_true, ite_true, ite_false, nI_rem3, nI_div2, nI_sub2, q_max_nI, q_min_nI, yh98, c1', c2']
      exact Q1
    · simp (disch := first | assumption | omega) only [w_Model_path_39, w_Model_path_40, w_Model_path_43, w_Model_path_45, w_Model_path_48, w_Model_path_49, w_Model_path_52, w_Model_path_53, w_Model_path_56, w_Model_path_57, w_Model_path_60, w_Model_path_61, w_Model_path_64, w_Model_path_66, w_Model_path_69, w_Model_path_70, w_Model_path_73, w_Model_path_74, w_Model_path_77, w_Model_path_80, w_Model_path_81, w_Model_path_84, w_Model_path_85, w_Model_path_88, q_rd_eq, q_nt_0, q_nt_s, q_ld_tab, q_st_tab, q_aa13, q_aa14, q_is_eq, q_wr_eq, q_01_0, q_01_1, q_nz_nI, q_len_tab, psh_some, psh_none, sm_up_at, sm_up_ne, nI_add, nI_lt2, nI_le2, nI_eq2, ls_set0, ls_setS, Nat.reduceAdd, Nat.zero_add, Nat.add_zero, not_true_eq_false, not_false_eq_true, ite_true, ite_false, nI_rem3, nI_div2, nI_sub2, q_max_nI, q_min_nI, yh98, c1', c2]
      exact Q0
  · by_cases c2 : w = 119
    · simp (disch := first | assumption | omega) only [w_Model_path_39, w_Model_path_40, w_Model_path_43, w_Model_path_45, w_Model_path_48, w_Model_path_49, w_Model_path_52, w_Model_path_53, w_Model_path_56, w_Model_path_57, w_Model_path_60, w_Model_path_61, w_Model_path_64, w_Model_path_66, w_Model_path_69, w_Model_path_70, w_Model_path_73, w_Model_path_74, w_Model_path_77, w_Model_path_80, w_Model_path_81, w_Model_path_84, w_Model_path_85, w_Model_path_88, q_rd_eq, q_nt_0, q_nt_s, q_ld_tab, q_st_tab, q_aa13, q_aa14, q_is_eq, q_wr_eq, q_01_0, q_01_1, q_nz_nI, q_len_tab, psh_some, psh_none, sm_up_at, sm_up_ne, nI_add, nI_lt2, nI_le2, nI_eq2, ls_set0, ls_setS, Nat.reduceAdd, Nat.zero_add, Nat.add_zero, not_true_eq_false, not_false_eq_true, ite_true, ite_false, nI_rem3, nI_div2, nI_sub2, q_max_nI, q_min_nI, yh98, c1, eq_true c2]
      exact Q1
    · have hbw : b &&& bO w < 2147483648 := Nat.lt_of_le_of_lt Nat.and_le_left (by omega)
      by_cases c3 : b &&& bO w = 0
      · have c3' : ¬ ¬ b &&& bO w = 0 := not_not_intro c3
        simp (disch := first | assumption | omega) only [w_Model_path_39, w_Model_path_40, w_Model_path_43, w_Model_path_45, w_Model_path_48, w_Model_path_49, w_Model_path_52, w_Model_path_53, w_Model_path_56, w_Model_path_57, w_Model_path_60, w_Model_path_61, w_Model_path_64, w_Model_path_66, w_Model_path_69, w_Model_path_70, w_Model_path_73, w_Model_path_74, w_Model_path_77, w_Model_path_80, w_Model_path_81, w_Model_path_84, w_Model_path_85, w_Model_path_88, q_rd_eq, q_nt_0, q_nt_s, q_ld_tab, q_st_tab, q_aa13, q_aa14, q_is_eq, q_wr_eq, q_01_0, q_01_1, q_nz_nI, q_len_tab, psh_some, psh_none, sm_up_at, sm_up_ne, nI_add, nI_lt2, nI_le2, nI_eq2, ls_set0, ls_setS, Nat.reduceAdd, Nat.zero_add, Nat.add_zero, not_true_eq_false, not_false_eq_true, ite_true, ite_false, nI_rem3, nI_div2, nI_sub2, q_max_nI, q_min_nI, yh98, c1, c2, m_bitOf, nI_and, c3']
        exact Q1
      · simp (disch := first | assumption | omega) only [w_Model_path_39, w_Model_path_40, w_Model_path_43, w_Model_path_45, w_Model_path_48, w_Model_path_49, w_Model_path_52, w_Model_path_53, w_Model_path_56, w_Model_path_57, w_Model_path_60, w_Model_path_61, w_Model_path_64, w_Model_path_66, w_Model_path_69, w_Model_path_70, w_Model_path_73, w_Model_path_74, w_Model_path_77, w_Model_path_80, w_Model_path_81, w_Model_path_84, w_Model_path_85, w_Model_path_88, q_rd_eq, q_nt_0, q_nt_s, q_ld_tab, q_st_tab, q_aa13, q_aa14, q_is_eq, q_wr_eq, q_01_0, q_01_1, q_nz_nI, q_len_tab, psh_some, psh_none, sm_up_at, sm_up_ne, nI_add, nI_lt2, nI_le2, nI_eq2, ls_set0, ls_setS, Nat.reduceAdd, Nat.zero_add, Nat.add_zero, not_true_eq_false, not_false_eq_true, ite_true, ite_false, nI_rem3, nI_div2, nI_sub2, q_max_nI, q_min_nI, yh98, c1, c2, m_bitOf, nI_and, c3]
        exact Q0
/-- the item's end, where something was wrong -/
theorem end_f {e k : Nat} (he : e ≤ 120) (hk : k ≤ 4) {a2 a3 : Int32} (Q : Wp xs m_Model_path 25 [.ref 98, .int (nI (items + 1)), .int a2, .int a3] [] (YH h m mn st sd sp nx (nI k) pl vl (nI e) tl) 0 0 K) : Wp xs m_Model_path 124 [.ref 98, .int (nI items), .int a2, .int a3] [] (YH h m mn st sd sp nx (nI k) pl vl (nI e) tl) 0 0 K := by
  by_cases c : k = 3
  · have c' : ¬ ¬ k = 3 := not_not_intro c
    simp (disch := first | assumption | omega) only [w_Model_path_124, w_Model_path_125, w_Model_path_126, w_Model_path_129, w_Model_path_130, w_Model_path_133, w_Model_path_134, w_Model_path_137, w_Model_path_138, w_Model_path_141, w_Model_path_142, w_Model_path_145, q_rd_eq, q_nt_0, q_nt_s, q_ld_tab, q_st_tab, q_aa13, q_aa14, q_is_eq, q_wr_eq, q_01_0, q_01_1, q_nz_nI, q_len_tab, psh_some, psh_none, sm_up_at, sm_up_ne, nI_add, nI_lt2, nI_le2, nI_eq2, ls_set0, ls_setS, Nat.reduceAdd, Nat.zero_add, Nat.add_zero, not_true_eq_false, not_false_eq_true, ite_true, ite_false, nI_rem3, nI_div2, nI_sub2, q_max_nI, q_min_nI, yh98, c', m_takesF]
    exact Q
  · simp (disch := first | assumption | omega) only [w_Model_path_124, w_Model_path_125, w_Model_path_126, w_Model_path_129, w_Model_path_130, w_Model_path_133, w_Model_path_134, w_Model_path_137, w_Model_path_138, w_Model_path_141, w_Model_path_142, w_Model_path_145, q_rd_eq, q_nt_0, q_nt_s, q_ld_tab, q_st_tab, q_aa13, q_aa14, q_is_eq, q_wr_eq, q_01_0, q_01_1, q_nz_nI, q_len_tab, psh_some, psh_none, sm_up_at, sm_up_ne, nI_add, nI_lt2, nI_le2, nI_eq2, ls_set0, ls_setS, Nat.reduceAdd, Nat.zero_add, Nat.add_zero, not_true_eq_false, not_false_eq_true, ite_true, ite_false, nI_rem3, nI_div2, nI_sub2, q_max_nI, q_min_nI, yh98, c, m_takesF]
    exact Q
/-- the item's end, where all was well -/
theorem end_q (I : MAt h m) (hn : m.1.2.1 ≤ 120) (hT : ∀ i, m.2.2.1.1 i < 256) (hq : q ≤ m.1.2.1) {v a2 a3 : Int32} (Qe : ¬ (sk m.2.2.1.1 m.1.2.1 120 q < m.1.2.1 ∧ m.2.2.1.1 (sk m.2.2.1.1 m.1.2.1 120 q) = 59) → Wp xs m_Model_path 25 [.ref 98, .int (nI (items + 1)), .int a2, .int a3] [] (YF h m mn st sd sp q v tl) 0 0 K) (Qk : sk m.2.2.1.1 m.1.2.1 120 q < m.1.2.1 ∧ m.2.2.1.1 (sk m.2.2.1.1 m.1.2.1 120 q) = 59 → Wp xs m_Model_path 25 [.ref 98, .int (nI (items + 1)), .int a2, .int a3] [] (YQ h m mn st sd sp (sk m.2.2.1.1 m.1.2.1 120 q + 1) (aV m.2.2.1.1 m.1.2.1 q v) tl) 0 0 K) : Wp xs m_Model_path 124 [.ref 98, .int (nI items), .int a2, .int a3] [] (YQ h m mn st sd sp q v tl) 0 0 K := by
  have bk := aK_le (T := m.2.2.1.1) (n := m.1.2.1) (q := q)
  unfold YF at Qe
  unfold YQ at Qk ⊢
  by_cases c : sk m.2.2.1.1 m.1.2.1 120 q < m.1.2.1 ∧ m.2.2.1.1 (sk m.2.2.1.1 m.1.2.1 120 q) = 59
  · obtain ⟨e1, e2⟩ := (stop_tok hq).1 c
    have Q := Qk c
    have c' : ¬ ¬ aK m.2.2.1.1 m.1.2.1 q = 3 := not_not_intro e1
    simp (disch := first | assumption | omega) only [w_Model_path_124, w_Model_path_125, w_Model_path_126, w_Model_path_129, w_Model_path_130, w_Model_path_133, w_Model_path_134, w_Model_path_137, w_Model_path_138, w_Model_path_141, w_Model_path_142, w_Model_path_145, q_rd_eq, q_nt_0, q_nt_s, q_ld_tab, q_st_tab, q_aa13, q_aa14, q_is_eq, q_wr_eq, q_01_0, q_01_1, q_nz_nI, q_len_tab, psh_some, psh_none, sm_up_at, sm_up_ne, nI_add, nI_lt2, nI_le2, nI_eq2, ls_set0, ls_setS, Nat.reduceAdd, Nat.zero_add, Nat.add_zero, not_true_eq_false, not_false_eq_true, ite_true, ite_false, nI_rem3, nI_div2, nI_sub2, q_max_nI, q_min_nI, yh98, c', e2, m_takes1 I hn hT]
    exact Q
  · have e1 := (stop_tok hq).2 c
    have Q := Qe c
    simp (disch := first | assumption | omega) only [w_Model_path_124, w_Model_path_125, w_Model_path_126, w_Model_path_129, w_Model_path_130, w_Model_path_133, w_Model_path_134, w_Model_path_137, w_Model_path_138, w_Model_path_141, w_Model_path_142, w_Model_path_145, q_rd_eq, q_nt_0, q_nt_s, q_ld_tab, q_st_tab, q_aa13, q_aa14, q_is_eq, q_wr_eq, q_01_0, q_01_1, q_nz_nI, q_len_tab, psh_some, psh_none, sm_up_at, sm_up_ne, nI_add, nI_lt2, nI_le2, nI_eq2, ls_set0, ls_setS, Nat.reduceAdd, Nat.zero_add, Nat.add_zero, not_true_eq_false, not_false_eq_true, ite_true, ite_false, nI_rem3, nI_div2, nI_sub2, q_max_nI, q_min_nI, yh98, e1, m_takes0]
    exact Q
/-- no letter that may stand here -/
theorem bad_item (hq : q ≤ m.1.2.1) (hn : m.1.2.1 ≤ 120) {x : Nat} (hx : x ≤ 1) (hb : aK m.2.2.1.1 m.1.2.1 q ≠ 1 ∨ x = 0) {v : Int32} {a2 a3 : Value} (Q : ∀ a2 a3, Wp xs m_Model_path 25 [.ref 98, .int (nI (items + 1)), .int a2, .int a3] [] (YF h m mn st sd sp q v tl) 0 0 K) : Wp xs m_Model_path 89 [.ref 98, .int (nI items), a2, a3] [.int (nI x)] (YQ h m mn st sd sp q v tl) 0 0 K := by
  have bk := aK_le (T := m.2.2.1.1) (n := m.1.2.1) (q := q)
  have bs := sk_le (T := m.2.2.1.1) 120 q hq
  have Q1 : Wp xs m_Model_path 124 [.ref 98, .int (nI items), .int (nI x), .int (nI 0)] [] (YF h m mn st sd sp q v tl) 0 0 K := end_f (by omega) bk (Q _ _)
  unfold YF at Q1
  unfold YQ
  by_cases c : aK m.2.2.1.1 m.1.2.1 q = 1
  · have c' : ¬ ¬ aK m.2.2.1.1 m.1.2.1 q = 1 := not_not_intro c
    have x0 : x = 0 := hb.resolve_left (not_not_intro c)
    subst x0
    simp (disch := first | assumption | omega) only [w_Model_path_89, w_Model_path_90, w_Model_path_91, w_Model_path_92, w_Model_path_95, w_Model_path_96, w_Model_path_99, w_Model_path_100, w_Model_path_103, w_Model_path_104, w_Model_path_107, w_Model_path_108, w_Model_path_111, w_Model_path_112, w_Model_path_113, w_Model_path_116, w_Model_path_119, w_Model_path_120, w_Model_path_121, q_rd_eq, q_nt_0, q_nt_s, q_ld_tab, q_st_tab, q_aa13, q_aa14, q_is_eq, q_wr_eq, q_01_0, q_01_1, q_nz_nI, q_len_tab, psh_some, psh_none, sm_up_at, sm_up_ne, nI_add, nI_lt2, nI_le2, nI_eq2, ls_set0, ls_setS, Nat.reduceAdd, Nat.zero_add, Nat.add_zero, not_true_eq_false, not_false_eq_true, ite_true, ite_false, nI_rem3, nI_div2, nI_sub2, q_max_nI, q_min_nI, yh98, c', m_takes0, m_isWell0]
    exact Q1
  · simp (disch := first | assumption | omega) only [w_Model_path_89, w_Model_path_90, w_Model_path_91, w_Model_path_92, w_Model_path_95, w_Model_path_96, w_Model_path_99, w_Model_path_100, w_Model_path_103, w_Model_path_104, w_Model_path_107, w_Model_path_108, w_Model_path_111, w_Model_path_112, w_Model_path_113, w_Model_path_116, w_Model_path_119, w_Model_path_120, w_Model_path_121, q_rd_eq, q_nt_0, q_nt_s, q_ld_tab, q_st_tab, q_aa13, q_aa14, q_is_eq, q_wr_eq, q_01_0, q_01_1, q_nz_nI, q_len_tab, psh_some, psh_none, sm_up_at, sm_up_ne, nI_add, nI_lt2, nI_le2, nI_eq2, ls_set0, ls_setS, Nat.reduceAdd, Nat.zero_add, Nat.add_zero, not_true_eq_false, not_false_eq_true, ite_true, ite_false, nI_rem3, nI_div2, nI_sub2, q_max_nI, q_min_nI, yh98, c, m_takes0, m_isWell0]
    exact Q1
/-- a letter that may stand here: what is behind it is read -/
theorem good_item (I : MAt h m) (hn : m.1.2.1 ≤ 120) (hT : ∀ i, m.2.2.1.1 i < 256) (hq : q ≤ m.1.2.1) (hs : sk m.2.2.1.1 m.1.2.1 120 q < m.1.2.1) (hl : isL (m.2.2.1.1 (sk m.2.2.1.1 m.1.2.1 120 q)) = true) {v : Int32} {a2 a3 : Value} (Q : Wp xs m_Model_readsItem 0 [.ref 98, .int (nI (m.2.2.1.1 (sk m.2.2.1.1 m.1.2.1 120 q))), .null, .null, .null, .null] [] (YQ h m mn st sd sp (sk m.2.2.1.1 m.1.2.1 120 q + 1) (nI (m.2.2.1.1 (sk m.2.2.1.1 m.1.2.1 120 q))) tl) 0 0 (fun r h' => Wp xs m_Model_path 124 [.ref 98, .int (nI items), .int (nI 1), .int (nI (m.2.2.1.1 (sk m.2.2.1.1 m.1.2.1 120 q)))] (psh r []) h' 0 0 K)) : Wp xs m_Model_path 89 [.ref 98, .int (nI items), a2, a3] [.int (nI 1)] (YQ h m mn st sd sp q v tl) 0 0 K := by
  obtain ⟨e1, e2, e3⟩ := l_tok hs hl
  unfold YQ at Q ⊢
  rw [e1, e2, e3]
  have c1 : ¬ ¬ (1 : Nat) = 1 := not_not_intro rfl
  have c7 : ¬ (1 : Nat) = 0 := by omega
  simp (disch := first | assumption | omega) only [w_Model_path_89, w_Model_path_90, w_Model_path_91, w_Model_path_92, w_Model_path_95, w_Model_path_96, w_Model_path_99, w_Model_path_100, w_Model_path_103, w_Model_path_104, w_Model_path_107, w_Model_path_108, w_Model_path_111, w_Model_path_112, w_Model_path_113, w_Model_path_116, w_Model_path_119, w_Model_path_120, w_Model_path_121, q_rd_eq, q_nt_0, q_nt_s, q_ld_tab, q_st_tab, q_aa13, q_aa14, q_is_eq, q_wr_eq, q_01_0, q_01_1, q_nz_nI, q_len_tab, psh_some, psh_none, sm_up_at, sm_up_ne, nI_add, nI_lt2, nI_le2, nI_eq2, ls_set0, ls_setS, Nat.reduceAdd, Nat.zero_add, Nat.add_zero, not_true_eq_false, not_false_eq_true, ite_true, ite_false, nI_rem3, nI_div2, nI_sub2, q_max_nI, q_min_nI, yh98, c1, c7, m_takes1 I hn hT, m_isWell1]
  exact Q
/-- one item -/
theorem M_item (I : MAt h m) (hn : m.1.2.1 ≤ 120) (hT : ∀ i, m.2.2.1.1 i < 256) (hq : q ≤ m.1.2.1) (hs : sk m.2.2.1.1 m.1.2.1 120 q < m.1.2.1) (hit : items ≤ 120) (tp : TP m mn st sd sp pa) (hl : pa.1.1 ≤ 60) (hfl : FlOk fl) {v : Int32} {a2 a3 : Value} (qe : ∀ e, itS m.2.2.1.1 m.1.2.1 (decide (items = 0)) fl pa (sk m.2.2.1.1 m.1.2.1 120 q) = .inl e → e ≤ 120 → ∀ mn st sd sp nx tk pl vl tl a2 a3, Low m mn st sd sp → Wp xs m_Model_path 25 [.ref 98, .int (nI (items + 1)), .int a2, .int a3] [] (YH h m mn st sd sp nx tk pl vl (nI e) tl) 0 0 K) (qk : ∀ q' fl' pa', itS m.2.2.1.1 m.1.2.1 (decide (items = 0)) fl pa (sk m.2.2.1.1 m.1.2.1 120 q) = .inr (q', fl', pa') → ∀ mn st sd sp v a2 a3, TP m mn st sd sp pa' → Wp xs m_Model_path 25 [.ref 98, .int (nI (items + 1)), .int a2, .int a3] [] (YQ h m mn st sd sp q' v (nI (tB fl'))) 0 0 K) : Wp xs m_Model_path 39 [.ref 98, .int (nI items), a2, a3] [] (YQ h m mn st sd sp q v (nI (tB fl))) 0 0 K := by
  have bs := sk_le (T := m.2.2.1.1) 120 q hq
  have h9 := hT (sk m.2.2.1.1 m.1.2.1 120 q)
  have b3 := rW_le (T := m.2.2.1.1) hq
  obtain ⟨g1, g2, g3⟩ := id hfl
  have htb : tB fl ≤ 7 := by unfold tB; omega
  obtain ⟨⟨t4, t5, t6, t7⟩, tw, tlow⟩ := id tp
  have hl4 : mn 4 ≤ 60 := by omega
  have bs1 := sk_le (T := m.2.2.1.1) 120 (sk m.2.2.1.1 m.1.2.1 120 q + 1) (show sk m.2.2.1.1 m.1.2.1 120 q + 1 ≤ m.1.2.1 by omega)
  have hq1 : sk m.2.2.1.1 m.1.2.1 120 q + 1 ≤ m.1.2.1 := by omega
  have hqE := (rE_le (T := m.2.2.1.1) hq1).2
  have bsE := sk_le (T := m.2.2.1.1) 120 (rE m.2.2.1.1 m.1.2.1 (sk m.2.2.1.1 m.1.2.1 120 q + 1)) hqE
  obtain ⟨k1, k2, k3, k4, k5, k6⟩ := tB_b fl.1 (by omega) fl.2.1 (by omega) fl.2.2 (by omega)
  cases hl0 : isL (m.2.2.1.1 (sk m.2.2.1.1 m.1.2.1 120 q)) with
  | false =>
    have ev : ∃ w, w ≤ 999 ∧ aV m.2.2.1.1 m.1.2.1 q v = nI w := by
      unfold aV
      rw [if_neg (by omega)]
      split
      · exact ⟨_, b3, rfl⟩
      · exact ⟨_, by omega, rfl⟩
    obtain ⟨w, hw, ew⟩ := ev
    have Q : ∀ x, x ≤ 1 → Wp xs m_Model_path 89 [.ref 98, .int (nI items), a2, a3] [.int (nI x)] (YQ h m mn st sd sp q v (nI (tB fl))) 0 0 K := fun x hx => bad_item hq hn hx (Or.inl (nl_tok hl0)) (fun a2 a3 => qe _ (isL_no hl0) (by omega) _ _ _ _ _ _ _ _ _ _ _ tlow)
    unfold YQ at Q ⊢
    rw [ew] at Q ⊢
    exact may_any hw htb (by omega) Q
  | true =>
    obtain ⟨e1, e2, e3⟩ := l_tok hs hl0
    have bad : itS m.2.2.1.1 m.1.2.1 (decide (items = 0)) fl pa (sk m.2.2.1.1 m.1.2.1 120 q) = .inl (sk m.2.2.1.1 m.1.2.1 120 q) → Wp xs m_Model_path 89 [.ref 98, .int (nI items), a2, a3] [.int (nI 0)] (YQ h m mn st sd sp q v (nI (tB fl))) 0 0 K := fun hz => bad_item hq hn (by omega) (Or.inr rfl) (fun a2 a3 => qe _ hz (by omega) _ _ _ _ _ _ _ _ _ _ _ tlow)
    have hc := of_decide_eq_true hl0
    by_cases c1 : m.2.2.1.1 (sk m.2.2.1.1 m.1.2.1 120 q) = 108
    · by_cases ci : items = 0
      · have good := good_item (xs := xs) (K := K) (items := items) (mn := mn) (st := st) (sd := sd) (sp := sp) (tl := nI (tB fl)) (v := v) (a2 := a2) (a3 := a3) I hn hT hq hs hl0
        have ei : itS m.2.2.1.1 m.1.2.1 (decide (items = 0)) fl pa (sk m.2.2.1.1 m.1.2.1 120 q) = num1 m.2.2.1.1 m.1.2.1 5 60 (sk m.2.2.1.1 m.1.2.1 120 q + 1) (fun v q => endS m.2.2.1.1 m.1.2.1 q fl ((v, pa.1.2), pa.2)) := by
          unfold itS
          rw [if_pos c1, if_pos (decide_eq_true ci)]
        rw [ei] at qe qk
        have Q : Wp xs m_Model_path 89 [.ref 98, .int (nI items), a2, a3] [.int (nI 1)] (YQ h m mn st sd sp q v (nI (tB fl))) 0 0 K := by
          refine good ?_
          rw [c1]
          cases ok : nOk m.2.2.1.1 m.1.2.1 5 60 (sk m.2.2.1.1 m.1.2.1 120 (sk m.2.2.1.1 m.1.2.1 120 q + 1)) with
          | false =>
            rw [ri_lx I hq1 ok]
            refine end_f (by omega) aK_le (qe _ ?_ (by omega) _ _ _ _ _ _ _ _ _ _ _ (tlow.up_mn (by omega)))
            unfold num1
            rw [if_neg (by rw [ok]; decide)]
          | true =>
            rw [ri_l I hn hT hq1 ok]
            have en : ∀ k : Nat → Nat → ItR, num1 m.2.2.1.1 m.1.2.1 5 60 (sk m.2.2.1.1 m.1.2.1 120 q + 1) k = k (rW m.2.2.1.1 m.1.2.1 (sk m.2.2.1.1 m.1.2.1 120 q + 1)) (rE m.2.2.1.1 m.1.2.1 (sk m.2.2.1.1 m.1.2.1 120 q + 1)) := fun k => if_pos ok
            rw [en] at qe qk
            refine end_q I hn hT hqE (fun hz => qe _ (if_neg hz) (by omega) _ _ _ _ _ _ _ _ _ _ _ (tlow.up_mn (by omega))) (fun hz => qk _ _ _ (if_pos hz) _ _ _ _ _ _ _ ⟨⟨fup_at, ?_, ?_, ?_⟩, tw, tlow.up_mn (by omega)⟩)
            · rw [fup_ne (by omega)]; exact t5
            · rw [fup_ne (by omega)]; exact t6
            · rw [fup_ne (by omega)]; exact t7
        have c1' : ¬ ¬ (108 : Nat) = 108 := not_not_intro rfl
        have c2' : ¬ ¬ items = 0 := not_not_intro ci
        unfold YQ at Q ⊢
        rw [e3, c1] at Q ⊢
        simp (disch := first | assumption | omega) only [w_Model_path_39, w_Model_path_40, w_Model_path_43, w_Model_path_45, w_Model_path_48, w_Model_path_49, w_Model_path_52, w_Model_path_53, w_Model_path_56, w_Model_path_57, w_Model_path_60, w_Model_path_61, w_Model_path_64, w_Model_path_66, w_Model_path_69, w_Model_path_70, w_Model_path_73, w_Model_path_74, w_Model_path_77, w_Model_path_80, w_Model_path_81, w_Model_path_84, w_Model_path_85, w_Model_path_88, q_rd_eq, q_nt_0, q_nt_s, q_ld_tab, q_st_tab, q_aa13, q_aa14, q_is_eq, q_wr_eq, q_01_0, q_01_1, q_nz_nI, q_len_tab, psh_some, psh_none, sm_up_at, sm_up_ne, nI_add, nI_lt2, nI_le2, nI_eq2, ls_set0, ls_setS, Nat.reduceAdd, Nat.zero_add, Nat.add_zero, not_true_eq_false, not_false_eq_true, ite_true, ite_false, nI_rem3, nI_div2, nI_sub2, q_max_nI, q_min_nI, yh98, c1', c2']
        exact Q
      · have Q := bad (by
          unfold itS
          rw [if_pos c1, if_neg (by rw [decide_eq_false ci]; decide)])
        have c1' : ¬ ¬ (108 : Nat) = 108 := not_not_intro rfl
        unfold YQ at Q ⊢
        rw [e3, c1] at Q ⊢
        simp (disch := first | assumption | omega) only [w_Model_path_39, w_Model_path_40, w_Model_path_43, w_Model_path_45, w_Model_path_48, w_Model_path_49, w_Model_path_52, w_Model_path_53, w_Model_path_56, w_Model_path_57, w_Model_path_60, w_Model_path_61, w_Model_path_64, w_Model_path_66, w_Model_path_69, w_Model_path_70, w_Model_path_73, w_Model_path_74, w_Model_path_77, w_Model_path_80, w_Model_path_81, w_Model_path_84, w_Model_path_85, w_Model_path_88, q_rd_eq, q_nt_0, q_nt_s, q_ld_tab, q_st_tab, q_aa13, q_aa14, q_is_eq, q_wr_eq, q_01_0, q_01_1, q_nz_nI, q_len_tab, psh_some, psh_none, sm_up_at, sm_up_ne, nI_add, nI_lt2, nI_le2, nI_eq2, ls_set0, ls_setS, Nat.reduceAdd, Nat.zero_add, Nat.add_zero, not_true_eq_false, not_false_eq_true, ite_true, ite_false, nI_rem3, nI_div2, nI_sub2, q_max_nI, q_min_nI, yh98, c1', ci]
        exact Q
    · by_cases c2 : m.2.2.1.1 (sk m.2.2.1.1 m.1.2.1 120 q) = 119
      · have good := good_item (xs := xs) (K := K) (items := items) (mn := mn) (st := st) (sd := sd) (sp := sp) (tl := nI (tB fl)) (v := v) (a2 := a2) (a3 := a3) I hn hT hq hs hl0
        have ei : itS m.2.2.1.1 m.1.2.1 (decide (items = 0)) fl pa (sk m.2.2.1.1 m.1.2.1 120 q) = num1 m.2.2.1.1 m.1.2.1 0 1 (sk m.2.2.1.1 m.1.2.1 120 q + 1) (fun k q1 => num1 m.2.2.1.1 m.1.2.1 0 9 q1 (fun st q2 => num1 m.2.2.1.1 m.1.2.1 2 9 q2 (fun sd q3 => num1 m.2.2.1.1 m.1.2.1 1 9 q3 (fun sp q4 => endS m.2.2.1.1 m.1.2.1 q4 fl (pa.1, fup pa.2.1 k st, fup pa.2.2.1 k sd, fup pa.2.2.2 k sp))))) := by
          unfold itS
          rw [if_neg c1, if_pos c2]
        rw [ei] at qe qk
        have nT : ∀ lo hi q (k : Nat → Nat → ItR), nOk m.2.2.1.1 m.1.2.1 lo hi (sk m.2.2.1.1 m.1.2.1 120 q) = true → num1 m.2.2.1.1 m.1.2.1 lo hi q k = k (rW m.2.2.1.1 m.1.2.1 q) (rE m.2.2.1.1 m.1.2.1 q) := fun lo hi q k ok => if_pos ok
        have nF : ∀ lo hi q (k : Nat → Nat → ItR), nOk m.2.2.1.1 m.1.2.1 lo hi (sk m.2.2.1.1 m.1.2.1 120 q) = false → num1 m.2.2.1.1 m.1.2.1 lo hi q k = .inl (sk m.2.2.1.1 m.1.2.1 120 q) := fun lo hi q k ok => if_neg (by rw [ok]; decide)
        have hq2 := (rE_le (T := m.2.2.1.1) hqE).2
        have hq3 := (rE_le (T := m.2.2.1.1) hq2).2
        have hq4 := (rE_le (T := m.2.2.1.1) hq3).2
        have s2 := sk_le (T := m.2.2.1.1) 120 _ hq2
        have s3 := sk_le (T := m.2.2.1.1) 120 _ hq3
        have s4 := sk_le (T := m.2.2.1.1) 120 _ hq4
        have Q : Wp xs m_Model_path 89 [.ref 98, .int (nI items), a2, a3] [.int (nI 1)] (YQ h m mn st sd sp q v (nI (tB fl))) 0 0 K := by
          refine good ?_
          rw [c2]
          cases o1 : nOk m.2.2.1.1 m.1.2.1 0 1 (sk m.2.2.1.1 m.1.2.1 120 (sk m.2.2.1.1 m.1.2.1 120 q + 1)) with
          | false =>
            rw [ri_w1 I hn hT hq1 (by omega) o1]
            exact end_f (by omega) aK_le (qe _ (nF _ _ _ _ o1) (by omega) _ _ _ _ _ _ _ _ _ _ _ tlow)
          | true =>
            rw [nT _ _ _ _ o1] at qe qk
            cases o2 : nOk m.2.2.1.1 m.1.2.1 0 9 (sk m.2.2.1.1 m.1.2.1 120 (rE m.2.2.1.1 m.1.2.1 (sk m.2.2.1.1 m.1.2.1 120 q + 1))) with
            | false =>
              rw [ri_w2 I hn hT hq1 rfl o1 o2]
              exact end_f (by omega) aK_le (qe _ (nF _ _ _ _ o2) (by omega) _ _ _ _ _ _ _ _ _ _ _ tlow)
            | true =>
              rw [nT _ _ _ _ o2] at qe qk
              cases o3 : nOk m.2.2.1.1 m.1.2.1 2 9 (sk m.2.2.1.1 m.1.2.1 120 (rE m.2.2.1.1 m.1.2.1 (rE m.2.2.1.1 m.1.2.1 (sk m.2.2.1.1 m.1.2.1 120 q + 1)))) with
              | false =>
                rw [ri_w3 I hn hT hq1 rfl rfl o1 o2 o3]
                exact end_f (by omega) aK_le (qe _ (nF _ _ _ _ o3) (by omega) _ _ _ _ _ _ _ _ _ _ _ tlow)
              | true =>
                rw [nT _ _ _ _ o3] at qe qk
                cases o4 : nOk m.2.2.1.1 m.1.2.1 1 9 (sk m.2.2.1.1 m.1.2.1 120 (rE m.2.2.1.1 m.1.2.1 (rE m.2.2.1.1 m.1.2.1 (rE m.2.2.1.1 m.1.2.1 (sk m.2.2.1.1 m.1.2.1 120 q + 1))))) with
                | false =>
                  rw [ri_w4 I hn hT hq1 rfl rfl rfl o1 o2 o3 o4]
                  exact end_f (by omega) aK_le (qe _ (nF _ _ _ _ o4) (by omega) _ _ _ _ _ _ _ _ _ _ _ tlow)
                | true =>
                  rw [nT _ _ _ _ o4] at qe qk
                  rw [ri_w I hn hT hq1 rfl rfl rfl rfl rfl rfl rfl rfl o1 o2 o3 o4]
                  have fu : ∀ (f g : Nat → Nat) (k a : Nat), (∀ i, i < 2 → f (2 + i) = g i) → ∀ i, i < 2 → fup f (2 + k) a (2 + i) = fup g k a i := by
                    intro f g k a hfg i hi
                    unfold fup
                    by_cases z : i = k
                    · rw [if_pos (by omega), if_pos z]
                    · rw [if_neg (by omega), if_neg z]; exact hfg i hi
                  refine end_q I hn hT hq4 (fun hz => qe _ (if_neg hz) (by omega) _ _ _ _ _ _ _ _ _ _ _ tlow.up_w) (fun hz => qk _ _ _ (if_pos hz) _ _ _ _ _ _ _ ⟨⟨t4, t5, t6, t7⟩, fun i hi => ⟨?_, ?_, ?_⟩, tlow.up_w⟩)
                  · exact fu st pa.2.1 _ _ (fun i hi => (tw i hi).1) i hi
                  · exact fu sd pa.2.2.1 _ _ (fun i hi => (tw i hi).2.1) i hi
                  · exact fu sp pa.2.2.2 _ _ (fun i hi => (tw i hi).2.2) i hi
        have d1 : ¬ (119 : Nat) = 108 := by omega
        have d2 : (119 : Nat) = 119 := rfl
        unfold YQ at Q ⊢
        rw [e3, c2] at Q ⊢
        simp (disch := first | assumption | omega) only [w_Model_path_39, w_Model_path_40, w_Model_path_43, w_Model_path_45, w_Model_path_48, w_Model_path_49, w_Model_path_52, w_Model_path_53, w_Model_path_56, w_Model_path_57, w_Model_path_60, w_Model_path_61, w_Model_path_64, w_Model_path_66, w_Model_path_69, w_Model_path_70, w_Model_path_73, w_Model_path_74, w_Model_path_77, w_Model_path_80, w_Model_path_81, w_Model_path_84, w_Model_path_85, w_Model_path_88, q_rd_eq, q_nt_0, q_nt_s, q_ld_tab, q_st_tab, q_aa13, q_aa14, q_is_eq, q_wr_eq, q_01_0, q_01_1, q_nz_nI, q_len_tab, psh_some, psh_none, sm_up_at, sm_up_ne, nI_add, nI_lt2, nI_le2, nI_eq2, ls_set0, ls_setS, Nat.reduceAdd, Nat.zero_add, Nat.add_zero, not_true_eq_false, not_false_eq_true, ite_true, ite_false, nI_rem3, nI_div2, nI_sub2, q_max_nI, q_min_nI, yh98, d1]
        exact Q
      · by_cases c3 : m.2.2.1.1 (sk m.2.2.1.1 m.1.2.1 120 q) = 98
        · by_cases ci : fl.1 = 0
          · have good := good_item (xs := xs) (K := K) (items := items) (mn := mn) (st := st) (sd := sd) (sp := sp) (tl := nI (tB fl)) (v := v) (a2 := a2) (a3 := a3) I hn hT hq hs hl0
            have ei : itS m.2.2.1.1 m.1.2.1 (decide (items = 0)) fl pa (sk m.2.2.1.1 m.1.2.1 120 q) = num1 m.2.2.1.1 m.1.2.1 0 (mn 4) (sk m.2.2.1.1 m.1.2.1 120 q + 1) (fun v q => endS m.2.2.1.1 m.1.2.1 q (1, fl.2) ((pa.1.1, v, pa.1.2.2), pa.2)) := by
              unfold itS
              rw [if_neg c1, if_neg c2, if_pos c3, if_pos ci, t4]
            rw [ei] at qe qk
            have et : tB fl ||| 1 = tB (1, fl.2) := k4
            have Q : Wp xs m_Model_path 89 [.ref 98, .int (nI items), a2, a3] [.int (nI 1)] (YQ h m mn st sd sp q v (nI (tB fl))) 0 0 K := by
              refine good ?_
              rw [c3]
              cases ok : nOk m.2.2.1.1 m.1.2.1 0 (mn 4) (sk m.2.2.1.1 m.1.2.1 120 (sk m.2.2.1.1 m.1.2.1 120 q + 1)) with
              | false =>
                rw [ri_bx I hq1 hl4 ok]
                refine end_f (by omega) aK_le (qe _ ?_ (by omega) _ _ _ _ _ _ _ _ _ _ _ (tlow.up_mn (by omega)))
                unfold num1
                rw [if_neg (by rw [ok]; decide)]
              | true =>
                rw [ri_b I hn hT hq1 hl4 ok, et]
                have en : ∀ k : Nat → Nat → ItR, num1 m.2.2.1.1 m.1.2.1 0 (mn 4) (sk m.2.2.1.1 m.1.2.1 120 q + 1) k = k (rW m.2.2.1.1 m.1.2.1 (sk m.2.2.1.1 m.1.2.1 120 q + 1)) (rE m.2.2.1.1 m.1.2.1 (sk m.2.2.1.1 m.1.2.1 120 q + 1)) := fun k => if_pos ok
                rw [en] at qe qk
                refine end_q I hn hT hqE (fun hz => qe _ (if_neg hz) (by omega) _ _ _ _ _ _ _ _ _ _ _ (tlow.up_mn (by omega))) (fun hz => qk _ _ _ (if_pos hz) _ _ _ _ _ _ _ ⟨⟨?_, fup_at, ?_, ?_⟩, tw, tlow.up_mn (by omega)⟩)
                · rw [fup_ne (by omega)]; exact t4
                · rw [fup_ne (by omega)]; exact t6
                · rw [fup_ne (by omega)]; exact t7
            have d1 : ¬ (98 : Nat) = 108 := by omega
            have d2 : ¬ (98 : Nat) = 119 := by omega
            have d3 : tB fl &&& 1 = 0 := by show (fl.1 + 2 * fl.2.1 + 4 * fl.2.2) &&& 1 = 0; omega
            have d3' : ¬ ¬ (0 : Nat) = 0 := not_not_intro rfl
            unfold YQ at Q ⊢
            rw [e3, c3] at Q ⊢
            simp (disch := first | assumption | omega) only [w_Model_path_39, w_Model_path_40, w_Model_path_43, w_Model_path_45, w_Model_path_48, w_Model_path_49, w_Model_path_52, w_Model_path_53, w_Model_path_56, w_Model_path_57, w_Model_path_60, w_Model_path_61, w_Model_path_64, w_Model_path_66, w_Model_path_69, w_Model_path_70, w_Model_path_73, w_Model_path_74, w_Model_path_77, w_Model_path_80, w_Model_path_81, w_Model_path_84, w_Model_path_85, w_Model_path_88, q_rd_eq, q_nt_0, q_nt_s, q_ld_tab, q_st_tab, q_aa13, q_aa14, q_is_eq, q_wr_eq, q_01_0, q_01_1, q_nz_nI, q_len_tab, psh_some, psh_none, sm_up_at, sm_up_ne, nI_add, nI_lt2, nI_le2, nI_eq2, ls_set0, ls_setS, Nat.reduceAdd, Nat.zero_add, Nat.add_zero, not_true_eq_false, not_false_eq_true, ite_true, ite_false, nI_rem3, nI_div2, nI_sub2, q_max_nI, q_min_nI, yh98, d1, d2, m_bitOf, bO98, nI_and, d3, d3']
            exact Q
          · have Q := bad (by
              unfold itS
              rw [if_neg c1, if_neg c2, if_pos c3, if_neg ci])
            have d1 : ¬ (98 : Nat) = 108 := by omega
            have d2 : ¬ (98 : Nat) = 119 := by omega
            have d3 : tB fl &&& 1 = 1 := by show (fl.1 + 2 * fl.2.1 + 4 * fl.2.2) &&& 1 = 1; omega
            have c7 : ¬ (1 : Nat) = 0 := by omega
            unfold YQ at Q ⊢
            rw [e3, c3] at Q ⊢
            simp (disch := first | assumption | omega) only [w_Model_path_39, w_Model_path_40, w_Model_path_43, w_Model_path_45, w_Model_path_48, w_Model_path_49, w_Model_path_52, w_Model_path_53, w_Model_path_56, w_Model_path_57, w_Model_path_60, w_Model_path_61, w_Model_path_64, w_Model_path_66, w_Model_path_69, w_Model_path_70, w_Model_path_73, w_Model_path_74, w_Model_path_77, w_Model_path_80, w_Model_path_81, w_Model_path_84, w_Model_path_85, w_Model_path_88, q_rd_eq, q_nt_0, q_nt_s, q_ld_tab, q_st_tab, q_aa13, q_aa14, q_is_eq, q_wr_eq, q_01_0, q_01_1, q_nz_nI, q_len_tab, psh_some, psh_none, sm_up_at, sm_up_ne, nI_add, nI_lt2, nI_le2, nI_eq2, ls_set0, ls_setS, Nat.reduceAdd, Nat.zero_add, Nat.add_zero, not_true_eq_false, not_false_eq_true, ite_true, ite_false, nI_rem3, nI_div2, nI_sub2, q_max_nI, q_min_nI, yh98, d1, d2, m_bitOf, bO98, nI_and, d3, c7]
            exact Q
        · by_cases c4 : m.2.2.1.1 (sk m.2.2.1.1 m.1.2.1 120 q) = 112
          · by_cases ci : fl.2.1 = 0
            · have good := good_item (xs := xs) (K := K) (items := items) (mn := mn) (st := st) (sd := sd) (sp := sp) (tl := nI (tB fl)) (v := v) (a2 := a2) (a3 := a3) I hn hT hq hs hl0
              have ei : itS m.2.2.1.1 m.1.2.1 (decide (items = 0)) fl pa (sk m.2.2.1.1 m.1.2.1 120 q) = num1 m.2.2.1.1 m.1.2.1 0 (mn 4) (sk m.2.2.1.1 m.1.2.1 120 q + 1) (fun v q => endS m.2.2.1.1 m.1.2.1 q (fl.1, 1, fl.2.2) ((pa.1.1, pa.1.2.1, v, pa.1.2.2.2), pa.2)) := by
                unfold itS
                rw [if_neg c1, if_neg c2, if_neg c3, if_pos c4, if_pos ci, t4]
              rw [ei] at qe qk
              have et : tB fl ||| 2 = tB (fl.1, 1, fl.2.2) := k5
              have Q : Wp xs m_Model_path 89 [.ref 98, .int (nI items), a2, a3] [.int (nI 1)] (YQ h m mn st sd sp q v (nI (tB fl))) 0 0 K := by
                refine good ?_
                rw [c4]
                cases ok : nOk m.2.2.1.1 m.1.2.1 0 (mn 4) (sk m.2.2.1.1 m.1.2.1 120 (sk m.2.2.1.1 m.1.2.1 120 q + 1)) with
                | false =>
                  rw [ri_px I hq1 hl4 ok]
                  refine end_f (by omega) aK_le (qe _ ?_ (by omega) _ _ _ _ _ _ _ _ _ _ _ (tlow.up_mn (by omega)))
                  unfold num1
                  rw [if_neg (by rw [ok]; decide)]
                | true =>
                  rw [ri_p I hn hT hq1 hl4 ok, et]
                  have en : ∀ k : Nat → Nat → ItR, num1 m.2.2.1.1 m.1.2.1 0 (mn 4) (sk m.2.2.1.1 m.1.2.1 120 q + 1) k = k (rW m.2.2.1.1 m.1.2.1 (sk m.2.2.1.1 m.1.2.1 120 q + 1)) (rE m.2.2.1.1 m.1.2.1 (sk m.2.2.1.1 m.1.2.1 120 q + 1)) := fun k => if_pos ok
                  rw [en] at qe qk
                  refine end_q I hn hT hqE (fun hz => qe _ (if_neg hz) (by omega) _ _ _ _ _ _ _ _ _ _ _ (tlow.up_mn (by omega))) (fun hz => qk _ _ _ (if_pos hz) _ _ _ _ _ _ _ ⟨⟨?_, ?_, fup_at, ?_⟩, tw, tlow.up_mn (by omega)⟩)
                  · rw [fup_ne (by omega)]; exact t4
                  · rw [fup_ne (by omega)]; exact t5
                  · rw [fup_ne (by omega)]; exact t7
              have d1 : ¬ (112 : Nat) = 108 := by omega
              have d2 : ¬ (112 : Nat) = 119 := by omega
              have d3 : tB fl &&& 2 = 0 := by show (fl.1 + 2 * fl.2.1 + 4 * fl.2.2) &&& 2 = 0; omega
              have d3' : ¬ ¬ (0 : Nat) = 0 := not_not_intro rfl
              unfold YQ at Q ⊢
              rw [e3, c4] at Q ⊢
              simp (disch := first | assumption | omega) only [w_Model_path_39, w_Model_path_40, w_Model_path_43, w_Model_path_45, w_Model_path_48, w_Model_path_49, w_Model_path_52, w_Model_path_53, w_Model_path_56, w_Model_path_57, w_Model_path_60, w_Model_path_61, w_Model_path_64, w_Model_path_66, w_Model_path_69, w_Model_path_70, w_Model_path_73, w_Model_path_74, w_Model_path_77, w_Model_path_80, w_Model_path_81, w_Model_path_84, w_Model_path_85, w_Model_path_88, q_rd_eq, q_nt_0, q_nt_s, q_ld_tab, q_st_tab, q_aa13, q_aa14, q_is_eq, q_wr_eq, q_01_0, q_01_1, q_nz_nI, q_len_tab, psh_some, psh_none, sm_up_at, sm_up_ne, nI_add, nI_lt2, nI_le2, nI_eq2, ls_set0, ls_setS, Nat.reduceAdd, Nat.zero_add, Nat.add_zero, not_true_eq_false, not_false_eq_true, ite_true, ite_false, nI_rem3, nI_div2, nI_sub2, q_max_nI, q_min_nI, yh98, d1, d2, m_bitOf, bO112, nI_and, d3, d3']
              exact Q
            · have Q := bad (by
                unfold itS
                rw [if_neg c1, if_neg c2, if_neg c3, if_pos c4, if_neg ci])
              have d1 : ¬ (112 : Nat) = 108 := by omega
              have d2 : ¬ (112 : Nat) = 119 := by omega
              have d3 : tB fl &&& 2 = 2 := by show (fl.1 + 2 * fl.2.1 + 4 * fl.2.2) &&& 2 = 2; omega
              have c7 : ¬ (2 : Nat) = 0 := by omega
              unfold YQ at Q ⊢
              rw [e3, c4] at Q ⊢
              simp (disch := first | assumption | omega) only [w_Model_path_39, w_Model_path_40, w_Model_path_43, w_Model_path_45, w_Model_path_48, w_Model_path_49, w_Model_path_52, w_Model_path_53, w_Model_path_56, w_Model_path_57, w_Model_path_60, w_Model_path_61, w_Model_path_64, w_Model_path_66, w_Model_path_69, w_Model_path_70, w_Model_path_73, w_Model_path_74, w_Model_path_77, w_Model_path_80, w_Model_path_81, w_Model_path_84, w_Model_path_85, w_Model_path_88, q_rd_eq, q_nt_0, q_nt_s, q_ld_tab, q_st_tab, q_aa13, q_aa14, q_is_eq, q_wr_eq, q_01_0, q_01_1, q_nz_nI, q_len_tab, psh_some, psh_none, sm_up_at, sm_up_ne, nI_add, nI_lt2, nI_le2, nI_eq2, ls_set0, ls_setS, Nat.reduceAdd, Nat.zero_add, Nat.add_zero, not_true_eq_false, not_false_eq_true, ite_true, ite_false, nI_rem3, nI_div2, nI_sub2, q_max_nI, q_min_nI, yh98, d1, d2, m_bitOf, bO112, nI_and, d3, c7]
              exact Q
          · have c5 : m.2.2.1.1 (sk m.2.2.1.1 m.1.2.1 120 q) = 116 := by omega
            by_cases ci : fl.2.2 = 0
            · have good := good_item (xs := xs) (K := K) (items := items) (mn := mn) (st := st) (sd := sd) (sp := sp) (tl := nI (tB fl)) (v := v) (a2 := a2) (a3 := a3) I hn hT hq hs hl0
              have ei : itS m.2.2.1.1 m.1.2.1 (decide (items = 0)) fl pa (sk m.2.2.1.1 m.1.2.1 120 q) = num1 m.2.2.1.1 m.1.2.1 1 9 (sk m.2.2.1.1 m.1.2.1 120 q + 1) (fun v q => endS m.2.2.1.1 m.1.2.1 q (fl.1, fl.2.1, 1) ((pa.1.1, pa.1.2.1, pa.1.2.2.1, v), pa.2)) := by
                unfold itS
                rw [if_neg c1, if_neg c2, if_neg c3, if_neg c4, if_pos c5, if_pos ci]
              rw [ei] at qe qk
              have et : tB fl ||| 4 = tB (fl.1, fl.2.1, 1) := k6
              have Q : Wp xs m_Model_path 89 [.ref 98, .int (nI items), a2, a3] [.int (nI 1)] (YQ h m mn st sd sp q v (nI (tB fl))) 0 0 K := by
                refine good ?_
                rw [c5]
                cases ok : nOk m.2.2.1.1 m.1.2.1 1 9 (sk m.2.2.1.1 m.1.2.1 120 (sk m.2.2.1.1 m.1.2.1 120 q + 1)) with
                | false =>
                  rw [ri_tx I hq1 ok]
                  refine end_f (by omega) aK_le (qe _ ?_ (by omega) _ _ _ _ _ _ _ _ _ _ _ (tlow.up_mn (by omega)))
                  unfold num1
                  rw [if_neg (by rw [ok]; decide)]
                | true =>
                  rw [ri_t I hn hT hq1 ok, et]
                  have en : ∀ k : Nat → Nat → ItR, num1 m.2.2.1.1 m.1.2.1 1 9 (sk m.2.2.1.1 m.1.2.1 120 q + 1) k = k (rW m.2.2.1.1 m.1.2.1 (sk m.2.2.1.1 m.1.2.1 120 q + 1)) (rE m.2.2.1.1 m.1.2.1 (sk m.2.2.1.1 m.1.2.1 120 q + 1)) := fun k => if_pos ok
                  rw [en] at qe qk
                  refine end_q I hn hT hqE (fun hz => qe _ (if_neg hz) (by omega) _ _ _ _ _ _ _ _ _ _ _ (tlow.up_mn (by omega))) (fun hz => qk _ _ _ (if_pos hz) _ _ _ _ _ _ _ ⟨⟨?_, ?_, ?_, fup_at⟩, tw, tlow.up_mn (by omega)⟩)
                  · rw [fup_ne (by omega)]; exact t4
                  · rw [fup_ne (by omega)]; exact t5
                  · rw [fup_ne (by omega)]; exact t6
              have d1 : ¬ (116 : Nat) = 108 := by omega
              have d2 : ¬ (116 : Nat) = 119 := by omega
              have d3 : tB fl &&& 4 = 0 := by show (fl.1 + 2 * fl.2.1 + 4 * fl.2.2) &&& 4 = 0; omega
              have d3' : ¬ ¬ (0 : Nat) = 0 := not_not_intro rfl
              unfold YQ at Q ⊢
              rw [e3, c5] at Q ⊢
              simp (disch := first | assumption | omega) only [w_Model_path_39, w_Model_path_40, w_Model_path_43, w_Model_path_45, w_Model_path_48, w_Model_path_49, w_Model_path_52, w_Model_path_53, w_Model_path_56, w_Model_path_57, w_Model_path_60, w_Model_path_61, w_Model_path_64, w_Model_path_66, w_Model_path_69, w_Model_path_70, w_Model_path_73, w_Model_path_74, w_Model_path_77, w_Model_path_80, w_Model_path_81, w_Model_path_84, w_Model_path_85, w_Model_path_88, q_rd_eq, q_nt_0, q_nt_s, q_ld_tab, q_st_tab, q_aa13, q_aa14, q_is_eq, q_wr_eq, q_01_0, q_01_1, q_nz_nI, q_len_tab, psh_some, psh_none, sm_up_at, sm_up_ne, nI_add, nI_lt2, nI_le2, nI_eq2, ls_set0, ls_setS, Nat.reduceAdd, Nat.zero_add, Nat.add_zero, not_true_eq_false, not_false_eq_true, ite_true, ite_false, nI_rem3, nI_div2, nI_sub2, q_max_nI, q_min_nI, yh98, d1, d2, m_bitOf, bO116, nI_and, d3, d3']
              exact Q
            · have Q := bad (by
                unfold itS
                rw [if_neg c1, if_neg c2, if_neg c3, if_neg c4, if_pos c5, if_neg ci])
              have d1 : ¬ (116 : Nat) = 108 := by omega
              have d2 : ¬ (116 : Nat) = 119 := by omega
              have d3 : tB fl &&& 4 = 4 := by show (fl.1 + 2 * fl.2.1 + 4 * fl.2.2) &&& 4 = 4; omega
              have c7 : ¬ (4 : Nat) = 0 := by omega
              unfold YQ at Q ⊢
              rw [e3, c5] at Q ⊢
              simp (disch := first | assumption | omega) only [w_Model_path_39, w_Model_path_40, w_Model_path_43, w_Model_path_45, w_Model_path_48, w_Model_path_49, w_Model_path_52, w_Model_path_53, w_Model_path_56, w_Model_path_57, w_Model_path_60, w_Model_path_61, w_Model_path_64, w_Model_path_66, w_Model_path_69, w_Model_path_70, w_Model_path_73, w_Model_path_74, w_Model_path_77, w_Model_path_80, w_Model_path_81, w_Model_path_84, w_Model_path_85, w_Model_path_88, q_rd_eq, q_nt_0, q_nt_s, q_ld_tab, q_st_tab, q_aa13, q_aa14, q_is_eq, q_wr_eq, q_01_0, q_01_1, q_nz_nI, q_len_tab, psh_some, psh_none, sm_up_at, sm_up_ne, nI_add, nI_lt2, nI_le2, nI_eq2, ls_set0, ls_setS, Nat.reduceAdd, Nat.zero_add, Nat.add_zero, not_true_eq_false, not_false_eq_true, ite_true, ite_false, nI_rem3, nI_div2, nI_sub2, q_max_nI, q_min_nI, yh98, d1, d2, m_bitOf, bO116, nI_and, d3, c7]
              exact Q
end MPT
