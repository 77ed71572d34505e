/-! path(), by the model: its beginning, its loop, what stands behind it -/
def bg3 (f : Nat → Nat) (v : Nat) : Nat → Nat := fup (fup f 2 v) 3 v
def bgM (f : Nat → Nat) : Nat → Nat := fup (fup (fup (fup f 4 30) 5 0) 6 0) 7 2
theorem cp0_s {f g : Nat → Nat} {b i v : Nat} (hv : v = g (b + i)) : fup (cpF f g 0 b i) i v = cpF f g 0 b (i + 1) := by
  have := cpF_s (f := f) (g := g) (a := 0) (b := b) (i := i) hv
  rw [Nat.zero_add] at this
  exact this
section MTL
variable {xs : List Int32} {h : sm_Hp} {K : Option Value → sm_Hp → Prop} {m : MC} {mn st sd sp : Nat → Nat} {nx tk pl vl fv tl : Int32} {q items : Nat} {fl : FlS} {pa : PathS}
theorem m_begins : Wp xs m_Model_begins 0 [.ref 98, .null] [] (YH h m mn st sd sp nx tk pl vl fv tl) 0 0 K = K none (YH h m (bgM mn) (bg3 st 0) (bg3 sd 3) (bg3 sp 3) nx tk pl vl fv (nI 0)) := by
  have h2 : ¬ 4 ≤ 2 := by omega
  have h3 : ¬ 4 ≤ 3 := by omega
  simp (disch := omega) only [w_Model_begins_0, w_Model_begins_1, w_Model_begins_2, w_Model_begins_5, w_Model_begins_6, w_Model_begins_9, w_Model_begins_10, w_Model_begins_12, w_Model_begins_13, w_Model_begins_14, w_Model_begins_17, w_Model_begins_18, w_Model_begins_19, w_Model_begins_20, w_Model_begins_21, w_Model_begins_24, w_Model_begins_26, w_Model_begins_27, w_Model_begins_28, w_Model_begins_29, w_Model_begins_32, w_Model_begins_34, w_Model_begins_35, w_Model_begins_36, w_Model_begins_37, q_rd_eq, q_nt_0, q_nt_s, q_ld_tab, q_st_tab, q_aa13, q_aa14, q_is_eq, q_wr_eq, q_01_0, q_01_1, q_nz_nI, q_len_tab, psh_some, psh_none, sm_up_at, sm_up_ne, nI_add, nI_lt2, nI_le2, nI_eq2, ls_set0, ls_setS, Nat.reduceAdd, Nat.zero_add, Nat.add_zero, not_true_eq_false, not_false_eq_true, ite_true, ite_false, nI_rem3, nI_div2, nI_sub2, q_max_nI, q_min_nI, yh98, yh100, tab_fup, yu98, yu100]
  rw [w_Model_begins_38]
  simp (disch := omega) only [w_Model_begins_39, w_Model_begins_40, w_Model_begins_43, w_Model_begins_44, w_Model_begins_47, w_Model_begins_48, w_Model_begins_49, w_Model_begins_50, w_Model_begins_51, w_Model_begins_54, w_Model_begins_55, w_Model_begins_56, w_Model_begins_57, w_Model_begins_58, w_Model_begins_61, w_Model_begins_62, w_Model_begins_63, w_Model_begins_64, w_Model_begins_67, w_Model_begins_70, q_rd_eq, q_nt_0, q_nt_s, q_ld_tab, q_st_tab, q_aa13, q_aa14, q_is_eq, q_wr_eq, q_01_0, q_01_1, q_nz_nI, q_len_tab, psh_some, psh_none, sm_up_at, sm_up_ne, nI_add, nI_lt2, nI_le2, nI_eq2, ls_set0, ls_setS, Nat.reduceAdd, Nat.zero_add, Nat.add_zero, not_true_eq_false, not_false_eq_true, ite_true, ite_false, nI_rem3, nI_div2, nI_sub2, q_max_nI, q_min_nI, h2, yh98, yh101, yh102, yh103, tab_fup, yu101, yu102, yu103]
  rw [w_Model_begins_38]
  simp (disch := omega) only [w_Model_begins_39, w_Model_begins_40, w_Model_begins_43, w_Model_begins_44, w_Model_begins_47, w_Model_begins_48, w_Model_begins_49, w_Model_begins_50, w_Model_begins_51, w_Model_begins_54, w_Model_begins_55, w_Model_begins_56, w_Model_begins_57, w_Model_begins_58, w_Model_begins_61, w_Model_begins_62, w_Model_begins_63, w_Model_begins_64, w_Model_begins_67, w_Model_begins_70, q_rd_eq, q_nt_0, q_nt_s, q_ld_tab, q_st_tab, q_aa13, q_aa14, q_is_eq, q_wr_eq, q_01_0, q_01_1, q_nz_nI, q_len_tab, psh_some, psh_none, sm_up_at, sm_up_ne, nI_add, nI_lt2, nI_le2, nI_eq2, ls_set0, ls_setS, Nat.reduceAdd, Nat.zero_add, Nat.add_zero, not_true_eq_false, not_false_eq_true, ite_true, ite_false, nI_rem3, nI_div2, nI_sub2, q_max_nI, q_min_nI, h3, yh98, yh101, yh102, yh103, tab_fup, yu101, yu102, yu103]
  rw [w_Model_begins_38]
  simp (disch := omega) only [w_Model_begins_39, w_Model_begins_40, w_Model_begins_43, w_Model_begins_44, w_Model_begins_47, w_Model_begins_48, w_Model_begins_49, w_Model_begins_50, w_Model_begins_51, w_Model_begins_54, w_Model_begins_55, w_Model_begins_56, w_Model_begins_57, w_Model_begins_58, w_Model_begins_61, w_Model_begins_62, w_Model_begins_63, w_Model_begins_64, w_Model_begins_67, w_Model_begins_70, q_rd_eq, q_nt_0, q_nt_s, q_ld_tab, q_st_tab, q_aa13, q_aa14, q_is_eq, q_wr_eq, q_01_0, q_01_1, q_nz_nI, q_len_tab, psh_some, psh_none, sm_up_at, sm_up_ne, nI_add, nI_lt2, nI_le2, nI_eq2, ls_set0, ls_setS, Nat.reduceAdd, Nat.zero_add, Nat.add_zero, not_true_eq_false, not_false_eq_true, ite_true, ite_false, nI_rem3, nI_div2, nI_sub2, q_max_nI, q_min_nI, Nat.le_refl]
  rfl
theorem set1 : ∀ r i, i + r = 4 → Wp xs m_Model_settles 2 [.ref 98, .int (nI i)] [] (YH h m (cpF mn mn 0 4 i) st sd sp nx tk pl vl fv tl) 0 0 K = Wp xs m_Model_settles 27 [.ref 98, .int (nI 4)] [] (YH h m (cpF mn mn 0 4 4) st sd sp nx tk pl vl fv tl) 0 0 K := by
  intro r
  induction r with
  | zero =>
    intro i hi
    have : i = 4 := by omega
    subst this
    rw [w_Model_settles_2]
    simp (disch := omega) only [w_Model_settles_3, w_Model_settles_4, w_Model_settles_7, w_Model_settles_8, w_Model_settles_11, w_Model_settles_12, w_Model_settles_13, w_Model_settles_16, w_Model_settles_17, w_Model_settles_18, w_Model_settles_19, w_Model_settles_20, w_Model_settles_21, w_Model_settles_24, q_rd_eq, q_nt_0, q_nt_s, q_ld_tab, q_st_tab, q_aa13, q_aa14, q_is_eq, q_wr_eq, q_01_0, q_01_1, q_nz_nI, q_len_tab, psh_some, psh_none, sm_up_at, sm_up_ne, nI_add, nI_lt2, nI_le2, nI_eq2, ls_set0, ls_setS, Nat.reduceAdd, Nat.zero_add, Nat.add_zero, not_true_eq_false, not_false_eq_true, ite_true, ite_false, nI_rem3, nI_div2, nI_sub2, q_max_nI, q_min_nI, Nat.le_refl]
  | succ r ih =>
    intro i hi
    have h1 : ¬ 4 ≤ i := by omega
    rw [w_Model_settles_2]
    simp (disch := omega) only [w_Model_settles_3, w_Model_settles_4, w_Model_settles_7, w_Model_settles_8, w_Model_settles_11, w_Model_settles_12, w_Model_settles_13, w_Model_settles_16, w_Model_settles_17, w_Model_settles_18, w_Model_settles_19, w_Model_settles_20, w_Model_settles_21, w_Model_settles_24, q_rd_eq, q_nt_0, q_nt_s, q_ld_tab, q_st_tab, q_aa13, q_aa14, q_is_eq, q_wr_eq, q_01_0, q_01_1, q_nz_nI, q_len_tab, psh_some, psh_none, sm_up_at, sm_up_ne, nI_add, nI_lt2, nI_le2, nI_eq2, ls_set0, ls_setS, Nat.reduceAdd, Nat.zero_add, Nat.add_zero, not_true_eq_false, not_false_eq_true, ite_true, ite_false, nI_rem3, nI_div2, nI_sub2, q_max_nI, q_min_nI, h1, yh98, yh100, tab_fup, yu100]
    rw [cp0_s (cpF_out (by omega))]
    exact ih (i + 1) (by omega)
theorem set2 : ∀ r i, i + r = 2 → Wp xs m_Model_settles 29 [.ref 98, .int (nI i)] [] (YH h m mn (cpF st st 0 2 i) (cpF sd sd 0 2 i) (cpF sp sp 0 2 i) nx tk pl vl fv tl) 0 0 K = Wp xs m_Model_settles 82 [.ref 98, .int (nI 2)] [] (YH h m mn (cpF st st 0 2 2) (cpF sd sd 0 2 2) (cpF sp sp 0 2 2) nx tk pl vl fv tl) 0 0 K := by
  intro r
  induction r with
  | zero =>
    intro i hi
    have : i = 2 := by omega
    subst this
    rw [w_Model_settles_29]
    simp (disch := omega) only [w_Model_settles_30, w_Model_settles_31, w_Model_settles_34, w_Model_settles_35, w_Model_settles_38, w_Model_settles_39, w_Model_settles_40, w_Model_settles_43, w_Model_settles_44, w_Model_settles_45, w_Model_settles_46, w_Model_settles_47, w_Model_settles_48, w_Model_settles_49, w_Model_settles_52, w_Model_settles_53, w_Model_settles_54, w_Model_settles_57, w_Model_settles_58, w_Model_settles_59, w_Model_settles_60, w_Model_settles_61, w_Model_settles_62, w_Model_settles_63, w_Model_settles_66, w_Model_settles_67, w_Model_settles_68, w_Model_settles_71, w_Model_settles_72, w_Model_settles_73, w_Model_settles_74, w_Model_settles_75, w_Model_settles_76, w_Model_settles_79, q_rd_eq, q_nt_0, q_nt_s, q_ld_tab, q_st_tab, q_aa13, q_aa14, q_is_eq, q_wr_eq, q_01_0, q_01_1, q_nz_nI, q_len_tab, psh_some, psh_none, sm_up_at, sm_up_ne, nI_add, nI_lt2, nI_le2, nI_eq2, ls_set0, ls_setS, Nat.reduceAdd, Nat.zero_add, Nat.add_zero, not_true_eq_false, not_false_eq_true, ite_true, ite_false, nI_rem3, nI_div2, nI_sub2, q_max_nI, q_min_nI, Nat.le_refl]
  | succ r ih =>
    intro i hi
    have h1 : ¬ 2 ≤ i := by omega
    rw [w_Model_settles_29]
    simp (disch := omega) only [w_Model_settles_30, w_Model_settles_31, w_Model_settles_34, w_Model_settles_35, w_Model_settles_38, w_Model_settles_39, w_Model_settles_40, w_Model_settles_43, w_Model_settles_44, w_Model_settles_45, w_Model_settles_46, w_Model_settles_47, w_Model_settles_48, w_Model_settles_49, w_Model_settles_52, w_Model_settles_53, w_Model_settles_54, w_Model_settles_57, w_Model_settles_58, w_Model_settles_59, w_Model_settles_60, w_Model_settles_61, w_Model_settles_62, w_Model_settles_63, w_Model_settles_66, w_Model_settles_67, w_Model_settles_68, w_Model_settles_71, w_Model_settles_72, w_Model_settles_73, w_Model_settles_74, w_Model_settles_75, w_Model_settles_76, w_Model_settles_79, q_rd_eq, q_nt_0, q_nt_s, q_ld_tab, q_st_tab, q_aa13, q_aa14, q_is_eq, q_wr_eq, q_01_0, q_01_1, q_nz_nI, q_len_tab, psh_some, psh_none, sm_up_at, sm_up_ne, nI_add, nI_lt2, nI_le2, nI_eq2, ls_set0, ls_setS, Nat.reduceAdd, Nat.zero_add, Nat.add_zero, not_true_eq_false, not_false_eq_true, ite_true, ite_false, nI_rem3, nI_div2, nI_sub2, q_max_nI, q_min_nI, h1, yh98, yh101, yh102, yh103, tab_fup, yu101, yu102, yu103]
    rw [cp0_s (f := st) (cpF_out (by omega)), cp0_s (f := sd) (cpF_out (by omega)), cp0_s (f := sp) (cpF_out (by omega))]
    exact ih (i + 1) (by omega)
theorem set3 (I : MAt h m) : ∀ r i, i + r = 248 → Wp xs m_Model_settles 84 [.ref 98, .int (nI i)] [] (sm_up h 104 (10, tab 248 (fun j => .int (nI (zF m.2.2.2.1.1 i j))))) 0 0 K = Wp xs m_Model_settles 104 [.ref 98, .int (nI 248)] [] (sm_up h 104 (10, tab 248 (fun j => .int (nI (zF m.2.2.2.1.1 248 j))))) 0 0 K := by
  intro r
  induction r with
  | zero =>
    intro i hi
    have : i = 248 := by omega
    subst this
    rw [w_Model_settles_84]
    simp (disch := omega) only [w_Model_settles_85, w_Model_settles_88, w_Model_settles_91, w_Model_settles_92, w_Model_settles_95, w_Model_settles_96, w_Model_settles_97, w_Model_settles_98, w_Model_settles_101, q_rd_eq, q_nt_0, q_nt_s, q_ld_tab, q_st_tab, q_aa13, q_aa14, q_is_eq, q_wr_eq, q_01_0, q_01_1, q_nz_nI, q_len_tab, psh_some, psh_none, sm_up_at, sm_up_ne, nI_add, nI_lt2, nI_le2, nI_eq2, ls_set0, ls_setS, Nat.reduceAdd, Nat.zero_add, Nat.add_zero, not_true_eq_false, not_false_eq_true, ite_true, ite_false, nI_rem3, nI_div2, nI_sub2, q_max_nI, q_min_nI, Nat.le_refl]
  | succ r ih =>
    intro i hi
    have h1 : ¬ 248 ≤ i := by omega
    have I2 := I.usf (zF m.2.2.2.1.1 i)
    have e0 := I2.o
    have e1 := I2.sf
    rw [w_Model_settles_84]
    simp (disch := omega) only [w_Model_settles_85, w_Model_settles_88, w_Model_settles_91, w_Model_settles_92, w_Model_settles_95, w_Model_settles_96, w_Model_settles_97, w_Model_settles_98, w_Model_settles_101, q_rd_eq, q_nt_0, q_nt_s, q_ld_tab, q_st_tab, q_aa13, q_aa14, q_is_eq, q_wr_eq, q_01_0, q_01_1, q_nz_nI, q_len_tab, psh_some, psh_none, sm_up_at, sm_up_ne, nI_add, nI_lt2, nI_le2, nI_eq2, ls_set0, ls_setS, Nat.reduceAdd, Nat.zero_add, Nat.add_zero, not_true_eq_false, not_false_eq_true, ite_true, ite_false, nI_rem3, nI_div2, nI_sub2, q_max_nI, q_min_nI, h1, I.o, tab_fup, up_up, zF_s]
    exact ih (i + 1) (by omega)
def mSet (m : MC) : MC := ((m.1.1, 0, 0, 0), (m.2.1.1, m.2.1.2.1, m.2.1.2.2.1, m.2.1.2.2.2.1, m.2.1.2.2.2.2.1, m.2.1.2.2.2.2.2), (m.2.2.1.1, cpF m.2.2.1.2.1 m.2.2.1.2.1 0 4 4, cpF m.2.2.1.2.2.1 m.2.2.1.2.2.1 0 2 2, cpF m.2.2.1.2.2.2.1 m.2.2.1.2.2.2.1 0 2 2, cpF m.2.2.1.2.2.2.2 m.2.2.1.2.2.2.2 0 2 2), (zF m.2.2.2.1.1 248, m.2.2.2.1.2.1, m.2.2.2.1.2.2.1, m.2.2.2.1.2.2.2), (fun _ => false, m.2.2.2.2.2.1, m.2.2.2.2.2.2))
theorem M_settles (I : MAt h m) (q : GoM h (mSet m) (K none)) : Wp xs m_Model_settles 0 [.ref 98, .null] [] h 0 0 K := by
  have e : Wp xs m_Model_settles 0 [.ref 98, .null] [] h 0 0 K = Wp xs m_Model_settles 0 [.ref 98, .null] [] (YH h m m.2.2.1.2.1 m.2.2.1.2.2.1 m.2.2.1.2.2.2.1 m.2.2.1.2.2.2.2 m.2.1.1 m.2.1.2.1 m.2.1.2.2.1 m.2.1.2.2.2.1 m.2.1.2.2.2.2.1 m.2.1.2.2.2.2.2) 0 0 K := by rw [yh_self I]
  rw [e]
  simp (disch := omega) only [w_Model_settles_0, w_Model_settles_1, q_rd_eq, q_nt_0, q_nt_s, q_ld_tab, q_st_tab, q_aa13, q_aa14, q_is_eq, q_wr_eq, q_01_0, q_01_1, q_nz_nI, q_len_tab, psh_some, psh_none, sm_up_at, sm_up_ne, nI_add, nI_lt2, nI_le2, nI_eq2, ls_set0, ls_setS, Nat.reduceAdd, Nat.zero_add, Nat.add_zero, not_true_eq_false, not_false_eq_true, ite_true, ite_false, nI_rem3, nI_div2, nI_sub2, q_max_nI, q_min_nI]
  have s1 := set1 (xs := xs) (h := h) (m := m) (K := K) (mn := m.2.2.1.2.1) (st := m.2.2.1.2.2.1) (sd := m.2.2.1.2.2.2.1) (sp := m.2.2.1.2.2.2.2) (nx := m.2.1.1) (tk := m.2.1.2.1) (pl := m.2.1.2.2.1) (vl := m.2.1.2.2.2.1) (fv := m.2.1.2.2.2.2.1) (tl := m.2.1.2.2.2.2.2) 4 0 (by omega)
  rw [cpF_0] at s1
  rw [s1]
  simp (disch := omega) only [w_Model_settles_27, w_Model_settles_28, q_rd_eq, q_nt_0, q_nt_s, q_ld_tab, q_st_tab, q_aa13, q_aa14, q_is_eq, q_wr_eq, q_01_0, q_01_1, q_nz_nI, q_len_tab, psh_some, psh_none, sm_up_at, sm_up_ne, nI_add, nI_lt2, nI_le2, nI_eq2, ls_set0, ls_setS, Nat.reduceAdd, Nat.zero_add, Nat.add_zero, not_true_eq_false, not_false_eq_true, ite_true, ite_false, nI_rem3, nI_div2, nI_sub2, q_max_nI, q_min_nI]
  have s2 := set2 (xs := xs) (h := h) (m := m) (K := K) (mn := cpF m.2.2.1.2.1 m.2.2.1.2.1 0 4 4) (st := m.2.2.1.2.2.1) (sd := m.2.2.1.2.2.2.1) (sp := m.2.2.1.2.2.2.2) (nx := m.2.1.1) (tk := m.2.1.2.1) (pl := m.2.1.2.2.1) (vl := m.2.1.2.2.2.1) (fv := m.2.1.2.2.2.2.1) (tl := m.2.1.2.2.2.2.2) 2 0 (by omega)
  rw [cpF_0, cpF_0, cpF_0] at s2
  rw [s2]
  simp (disch := omega) only [w_Model_settles_82, w_Model_settles_83, q_rd_eq, q_nt_0, q_nt_s, q_ld_tab, q_st_tab, q_aa13, q_aa14, q_is_eq, q_wr_eq, q_01_0, q_01_1, q_nz_nI, q_len_tab, psh_some, psh_none, sm_up_at, sm_up_ne, nI_add, nI_lt2, nI_le2, nI_eq2, ls_set0, ls_setS, Nat.reduceAdd, Nat.zero_add, Nat.add_zero, not_true_eq_false, not_false_eq_true, ite_true, ite_false, nI_rem3, nI_div2, nI_sub2, q_max_nI, q_min_nI]
  have I2 := yh_at (mn := cpF m.2.2.1.2.1 m.2.2.1.2.1 0 4 4) (st := cpF m.2.2.1.2.2.1 m.2.2.1.2.2.1 0 2 2) (sd := cpF m.2.2.1.2.2.2.1 m.2.2.1.2.2.2.1 0 2 2) (sp := cpF m.2.2.1.2.2.2.2 m.2.2.1.2.2.2.2 0 2 2) (nx := m.2.1.1) (tk := m.2.1.2.1) (pl := m.2.1.2.2.1) (vl := m.2.1.2.2.2.1) (fl := m.2.1.2.2.2.2.1) (tl := m.2.1.2.2.2.2.2) I
  have F2 := yh_fr (h := h) (m := m) (mn := cpF m.2.2.1.2.1 m.2.2.1.2.1 0 4 4) (st := cpF m.2.2.1.2.2.1 m.2.2.1.2.2.1 0 2 2) (sd := cpF m.2.2.1.2.2.2.1 m.2.2.1.2.2.2.1 0 2 2) (sp := cpF m.2.2.1.2.2.2.2 m.2.2.1.2.2.2.2 0 2 2) (nx := m.2.1.1) (tk := m.2.1.2.1) (pl := m.2.1.2.2.1) (vl := m.2.1.2.2.2.1) (fl := m.2.1.2.2.2.2.1) (tl := m.2.1.2.2.2.2.2)
  generalize YH h m (cpF m.2.2.1.2.1 m.2.2.1.2.1 0 4 4) (cpF m.2.2.1.2.2.1 m.2.2.1.2.2.1 0 2 2) (cpF m.2.2.1.2.2.2.1 m.2.2.1.2.2.2.1 0 2 2) (cpF m.2.2.1.2.2.2.2 m.2.2.1.2.2.2.2 0 2 2) m.2.1.1 m.2.1.2.1 m.2.1.2.2.1 m.2.1.2.2.2.1 m.2.1.2.2.2.2.1 m.2.1.2.2.2.2.2 = h2 at I2 F2 ⊢
  have s3 := set3 (xs := xs) (K := K) I2 248 0 (by omega)
  rw [zF_0, sm_up_self I2.sf] at s3
  rw [s3]
  have I3 := I2.usf (zF m.2.2.2.1.1 248)
  have F3 : FrM h (sm_up h2 104 (10, tab 248 (fun j => .int (nI (zF m.2.2.2.1.1 248 j))))) := F2.up (by omega)
  have e9 : sm_up h2 104 (10, tab 248 (fun j => .int (nI (zF (((m.1.1, m.1.2.1, m.1.2.2.1, m.1.2.2.2), (m.2.1.1, m.2.1.2.1, m.2.1.2.2.1, m.2.1.2.2.2.1, m.2.1.2.2.2.2.1, m.2.1.2.2.2.2.2), (m.2.2.1.1, cpF m.2.2.1.2.1 m.2.2.1.2.1 0 4 4, cpF m.2.2.1.2.2.1 m.2.2.1.2.2.1 0 2 2, cpF m.2.2.1.2.2.2.1 m.2.2.1.2.2.2.1 0 2 2, cpF m.2.2.1.2.2.2.2 m.2.2.1.2.2.2.2 0 2 2), (m.2.2.2.1.1, m.2.2.2.1.2.1, m.2.2.2.1.2.2.1, m.2.2.2.1.2.2.2), (m.2.2.2.2.1, m.2.2.2.2.2.1, m.2.2.2.2.2.2))).2.2.2.1.1 248 j)))) = sm_up h2 104 (10, tab 248 (fun j => .int (nI (zF m.2.2.2.1.1 248 j)))) := rfl
  rw [e9]
  generalize sm_up h2 104 (10, tab 248 (fun j => .int (nI (zF m.2.2.2.1.1 248 j)))) = h3 at I3 F3 ⊢
  have e0 := I3.o
  have e6 := I3.kb
  have I4 := I3.uo m.1.1 0 m.2.1.1 m.2.1.2.1 m.2.1.2.2.1 m.2.1.2.2.2.1 m.2.1.2.2.2.2.1 m.2.1.2.2.2.2.2 0 0
  have ne : ∀ x, (sm_up h3 98 x).1 106 = h3.1 106 := fun x => sm_up_ne (by omega)
  have ne2 : ∀ x y, (sm_up (sm_up h3 98 x) 106 y).1 98 = x := fun x y => (sm_up_ne (by omega)).trans sm_up_at
  simp (disch := omega) only [w_Model_settles_104, w_Model_settles_105, w_Model_settles_106, w_Model_settles_109, w_Model_settles_110, w_Model_settles_111, w_Model_settles_114, w_Model_settles_115, w_Model_settles_116, w_Model_settles_119, w_Model_settles_120, w_Model_settles_123, w_Model_settles_124, w_Model_settles_125, w_Model_settles_126, w_Model_settles_127, w_Model_settles_130, w_Model_settles_131, w_Model_settles_132, w_Model_settles_133, q_rd_eq, q_nt_0, q_nt_s, q_ld_tab, q_st_tab, q_aa13, q_aa14, q_is_eq, q_wr_eq, q_01_0, q_01_1, q_nz_nI, q_len_tab, psh_some, psh_none, sm_up_at, sm_up_ne, nI_add, nI_lt2, nI_le2, nI_eq2, ls_set0, ls_setS, Nat.reduceAdd, Nat.zero_add, Nat.add_zero, not_true_eq_false, not_false_eq_true, ite_true, ite_false, nI_rem3, nI_div2, nI_sub2, q_max_nI, q_min_nI, e0, e6, ne, ne2, up_up]
  have ek : (12, tab 2 (fun j => if j = 1 then Value.int (nI 0) else if j = 0 then Value.int (nI 0) else .int (nI (b2n (m.2.2.2.2.1 j))))) = ((12 : Nat), tab 2 (fun i => Value.int (nI (b2n ((fun _ => false : Nat → Bool) i))))) := rfl
  have I5 := I4.ukb (fun _ => false)
  refine q _ ?_ ((F3.up (a := 98) (by omega)).up (a := 106) (by omega))
  exact I5
theorem m_loop (I : MAt h m) (hn : m.1.2.1 ≤ 120) (hT : ∀ i, m.2.2.1.1 i < 256) : ∀ r items q fl pa mn st sd sp v a2 a3, m.1.2.1 < q + r → q ≤ m.1.2.1 → items ≤ q → FlOk fl → PathOk pa → (items = 0 → pa.1.2.1 = 0 ∧ pa.1.2.2.1 = 0) → TP m mn st sd sp pa → (∀ e, lpS m.2.2.1.1 m.1.2.1 r items q fl pa = .inl e → e ≤ 120 → ∀ mn st sd sp nx tk pl vl tl, Low m mn st sd sp → K (some (.int (-10 - nI e))) (YH h m mn st sd sp nx tk pl vl (nI e) tl)) → (∀ it pa', lpS m.2.2.1.1 m.1.2.1 r items q fl pa = .inr (it, pa') → ∀ mn st sd sp nx tk pl vl fv tl, TP m mn st sd sp pa' → ∀ h', MAt h' (mSet ((m.1.1, m.1.2.1, m.1.2.2.1, m.1.2.2.2), (nx, tk, pl, vl, fv, tl), (m.2.2.1.1, mn, st, sd, sp), (m.2.2.2.1.1, m.2.2.2.1.2.1, m.2.2.2.1.2.2.1, m.2.2.2.1.2.2.2), (m.2.2.2.2.1, m.2.2.2.2.2.1, m.2.2.2.2.2.2))) → FrM h h' → K (some (.int (nI it))) h') → Wp xs m_Model_path 25 [.ref 98, .int (nI items), a2, a3] [] (YQ h m mn st sd sp q v (nI (tB fl))) 0 0 K := by
  intro r
  induction r with
  | zero =>
    intro items q fl pa mn st sd sp v a2 a3 h1 h2
    omega
  | succ r ih =>
    intro items q fl pa mn st sd sp v a2 a3 h1 h2 h3 hfl ok h0 tp qe qk
    have bs := sk_le (T := m.2.2.1.1) 120 q h2
    have bk := aK_le (T := m.2.2.1.1) (n := m.1.2.1) (q := q)
    have c7 : ¬ (1 : Nat) = 0 := by omega
    unfold lpS at qe qk
    rw [w_Model_path_25]
    by_cases c : m.1.2.1 ≤ sk m.2.2.1.1 m.1.2.1 120 q
    · rw [if_pos c] at qk
      have ek : aK m.2.2.1.1 m.1.2.1 q = 0 := if_pos c
      have ek' : ¬ ¬ (0 : Nat) = 0 := not_not_intro rfl
      have Q := fun h' I' F' => qk items pa rfl mn st sd sp (nI (aX m.2.2.1.1 m.1.2.1 q)) (nI (aK m.2.2.1.1 m.1.2.1 q)) (nI (sk m.2.2.1.1 m.1.2.1 120 q)) (aV m.2.2.1.1 m.1.2.1 q v) (-1) (nI (tB fl)) tp h' I' F'
      unfold YQ
      have MS := M_settles (xs := xs) (K := fun r h' => Wp xs m_Model_path 167 [.ref 98, .int (nI items), a2, a3] (psh r []) h' 0 0 K) (yh_at (mn := mn) (st := st) (sd := sd) (sp := sp) (nx := nI (aX m.2.2.1.1 m.1.2.1 q)) (tk := nI (aK m.2.2.1.1 m.1.2.1 q)) (pl := nI (sk m.2.2.1.1 m.1.2.1 120 q)) (vl := aV m.2.2.1.1 m.1.2.1 q v) (fl := -1) (tl := nI (tB fl)) I) (fun h' I' F' => by
        simp (disch := omega) only [w_Model_path_167, w_Model_path_168, q_rd_eq, q_nt_0, q_nt_s, q_ld_tab, q_st_tab, q_aa13, q_aa14, q_is_eq, q_wr_eq, q_01_0, q_01_1, q_nz_nI, q_len_tab, psh_some, psh_none, sm_up_at, sm_up_ne, nI_add, nI_lt2, nI_le2, nI_eq2, ls_set0, ls_setS, Nat.reduceAdd, Nat.zero_add, Nat.add_zero, not_true_eq_false, not_false_eq_true, ite_true, ite_false, nI_rem3, nI_div2, nI_sub2, q_max_nI, q_min_nI]
        exact Q h' I' (yh_fr.trans F'))
      rw [ek] at MS ⊢
      simp (disch := first | assumption | omega) only [w_Model_path_26, w_Model_path_29, w_Model_path_32, w_Model_path_33, w_Model_path_36, w_Model_path_148, w_Model_path_149, w_Model_path_152, w_Model_path_155, w_Model_path_157, w_Model_path_158, w_Model_path_161, w_Model_path_162, w_Model_path_163, w_Model_path_164, q_rd_eq, q_nt_0, q_nt_s, q_ld_tab, q_st_tab, q_aa13, q_aa14, q_is_eq, q_wr_eq, q_01_0, q_01_1, q_nz_nI, q_len_tab, psh_some, psh_none, sm_up_at, sm_up_ne, nI_add, nI_lt2, nI_le2, nI_eq2, ls_set0, ls_setS, Nat.reduceAdd, Nat.zero_add, Nat.add_zero, not_true_eq_false, not_false_eq_true, ite_true, ite_false, nI_rem3, nI_div2, nI_sub2, q_max_nI, q_min_nI, yh98, m_isWell1, c7]
      exact MS
    · rw [if_neg c] at qe qk
      have ek : ¬ aK m.2.2.1.1 m.1.2.1 q = 0 := by
        intro z
        unfold aK at z
        rw [if_neg c] at z
        split at z
        · split at z <;> omega
        · split at z
          · omega
          · split at z <;> omega
      have MI := M_item (xs := xs) (K := K) (items := items) (v := v) (a2 := a2) (a3 := a3) I hn hT h2 (by omega) (by omega) tp ok.2.1 hfl (fun e he h120 mn st sd sp nx tk pl vl tl a2 a3 L => by
        rw [w_Model_path_25]
        have Q : K (some (.int (-10 - nI e))) (YH h m mn st sd sp nx tk pl vl (nI e) tl) := qe e (by rw [he]) h120 mn st sd sp nx tk pl vl tl L
        have z0 : ¬ ¬ (0 : Nat) = 0 := not_not_intro rfl
        simp (disch := first | assumption | omega) only [w_Model_path_26, w_Model_path_29, w_Model_path_32, w_Model_path_33, w_Model_path_36, w_Model_path_148, w_Model_path_149, w_Model_path_152, w_Model_path_155, w_Model_path_157, w_Model_path_158, w_Model_path_161, w_Model_path_162, q_rd_eq, q_nt_0, q_nt_s, q_ld_tab, q_st_tab, q_aa13, q_aa14, q_is_eq, q_wr_eq, q_01_0, q_01_1, q_nz_nI, q_len_tab, psh_some, psh_none, sm_up_at, sm_up_ne, nI_add, nI_lt2, nI_le2, nI_eq2, ls_set0, ls_setS, Nat.reduceAdd, Nat.zero_add, Nat.add_zero, not_true_eq_false, not_false_eq_true, ite_true, ite_false, nI_rem3, nI_div2, nI_sub2, q_max_nI, q_min_nI, yh98, m_isWell0, z0]
        exact Q) (fun q' fl' pa' hi mn st sd sp v a2 a3 tp' => by
        obtain ⟨g1, g2, g3, g4⟩ := itS_inv (by omega) ok hfl (fun z => h0 (of_decide_eq_true z)) hi
        rw [hi] at qe qk
        exact ih (items + 1) q' fl' pa' mn st sd sp v _ _ (by have : sk m.2.2.1.1 m.1.2.1 120 q < q' := g1; omega) g2 (by have : sk m.2.2.1.1 m.1.2.1 120 q < q' := g1; omega) g3 g4 (fun z => absurd z (by omega)) tp' qe qk)
      unfold YQ at MI ⊢
      simp (disch := first | assumption | omega) only [w_Model_path_26, w_Model_path_29, w_Model_path_32, w_Model_path_33, w_Model_path_36, q_rd_eq, q_nt_0, q_nt_s, q_ld_tab, q_st_tab, q_aa13, q_aa14, q_is_eq, q_wr_eq, q_01_0, q_01_1, q_nz_nI, q_len_tab, psh_some, psh_none, sm_up_at, sm_up_ne, nI_add, nI_lt2, nI_le2, nI_eq2, ls_set0, ls_setS, Nat.reduceAdd, Nat.zero_add, Nat.add_zero, not_true_eq_false, not_false_eq_true, ite_true, ite_false, nI_rem3, nI_div2, nI_sub2, q_max_nI, q_min_nI, yh98, m_isWell1, c7, ek]
      exact MI
theorem M_path (I : MAt h m) (hn : m.1.2.1 ≤ 120) (hT : ∀ i, m.2.2.1.1 i < 256) (qe : ∀ e, tellS m.2.2.1.1 m.1.2.1 = .inl e → e ≤ 120 → ∀ mn st sd sp nx tk pl vl tl, Low m mn st sd sp → K (some (.int (-10 - nI e))) (YH h m mn st sd sp nx tk pl vl (nI e) tl)) (qk : ∀ it pa', tellS m.2.2.1.1 m.1.2.1 = .inr (it, pa') → ∀ mn st sd sp nx tk pl vl fv tl, TP m mn st sd sp pa' → ∀ h', MAt h' (mSet ((m.1.1, m.1.2.1, m.1.2.2.1, m.1.2.2.2), (nx, tk, pl, vl, fv, tl), (m.2.2.1.1, mn, st, sd, sp), (m.2.2.2.1.1, m.2.2.2.1.2.1, m.2.2.2.1.2.2.1, m.2.2.2.1.2.2.2), (m.2.2.2.2.1, m.2.2.2.2.2.1, m.2.2.2.2.2.2))) → FrM h h' → K (some (.int (nI it))) h') : Wp xs m_Model_path 0 [.ref 98, .null, .null, .null] [] h 0 0 K := by
  have e : Wp xs m_Model_path 0 [.ref 98, .null, .null, .null] [] h 0 0 K = Wp xs m_Model_path 0 [.ref 98, .null, .null, .null] [] (YH h m m.2.2.1.2.1 m.2.2.1.2.2.1 m.2.2.1.2.2.2.1 m.2.2.1.2.2.2.2 m.2.1.1 m.2.1.2.1 m.2.1.2.2.1 m.2.1.2.2.2.1 m.2.1.2.2.2.2.1 m.2.1.2.2.2.2.2) 0 0 K := by rw [yh_self I]
  rw [e]
  simp (disch := first | assumption | omega) only [w_Model_path_0, w_Model_path_1, w_Model_path_2, w_Model_path_5, w_Model_path_6, w_Model_path_7, w_Model_path_10, w_Model_path_11, w_Model_path_12, w_Model_path_15, w_Model_path_16, w_Model_path_19, w_Model_path_20, w_Model_path_21, w_Model_path_22, q_rd_eq, q_nt_0, q_nt_s, q_ld_tab, q_st_tab, q_aa13, q_aa14, q_is_eq, q_wr_eq, q_01_0, q_01_1, q_nz_nI, q_len_tab, psh_some, psh_none, sm_up_at, sm_up_ne, nI_add, nI_lt2, nI_le2, nI_eq2, ls_set0, ls_setS, Nat.reduceAdd, Nat.zero_add, Nat.add_zero, not_true_eq_false, not_false_eq_true, ite_true, ite_false, nI_rem3, nI_div2, nI_sub2, q_max_nI, q_min_nI, yh98, yu98, m_begins, m_adv I hn hT]
  refine m_loop I hn hT 121 0 0 (0, 0, 0) path0 _ _ _ _ _ _ _ (by omega) (by omega) (by omega) ⟨by decide, by decide, by decide⟩ path0_ok (fun _ => ⟨rfl, rfl⟩) ⟨⟨rfl, rfl, rfl, rfl⟩, fun k hk => ?_, fun i hi => ?_, fun k hk => ?_⟩ qe qk
  · match k, hk with
    | 0, _ => exact ⟨rfl, rfl, rfl⟩
    | 1, _ => exact ⟨rfl, rfl, rfl⟩
  · unfold bgM
    rw [fup_ne (by omega), fup_ne (by omega), fup_ne (by omega), fup_ne (by omega)]
  · unfold bg3
    rw [fup_ne (by omega), fup_ne (by omega), fup_ne (by omega), fup_ne (by omega), fup_ne (by omega), fup_ne (by omega)]
    exact ⟨rfl, rfl, rfl⟩
end MTL
