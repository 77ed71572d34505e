/-! path(), by the class -/
theorem m10_neg : ∀ e, e < 121 → ¬ (nI 0 ≤ (-10 : Int32) - nI e) := by decide +kernel
theorem sk_zero {T : Nat → Nat} : sk T 0 120 0 = 0 := by
  have := sk_le (T := T) (n := 0) 120 0 (Nat.le_refl _)
  omega
theorem itS_e {T : Nat → Nat} {n a e : Nat} {first : Bool} {fl : FlS} {pa : PathS} {a' : Nat} {f' : Option Nat} {fl' : FlS} {pa' : PathS} (h : RdP n (itS T n first fl pa a) a' f' fl' pa') (hi : itS T n first fl pa a = .inl e) : f' = some e := by
  have h1 := h.1
  rw [hi] at h1
  cases f' with
  | none => cases h1
  | some y => cases h1; rfl
theorem itS_k {T : Nat → Nat} {n a : Nat} {z : Nat × FlS × PathS} {first : Bool} {fl : FlS} {pa : PathS} {a' : Nat} {f' : Option Nat} {fl' : FlS} {pa' : PathS} (h : RdP n (itS T n first fl pa a) a' f' fl' pa') (hi : itS T n first fl pa a = .inr z) : f' = none ∧ z = (a', fl', pa') := by
  have h1 := h.1
  rw [hi] at h1
  cases f' with
  | none => cases h1; exact ⟨rfl, rfl⟩
  | some y => cases h1
section CPT
variable {xs : List Int32} {h : sm_Hp} {K : Option Value → sm_Hp → Prop} {d n a : Nat} {av fv : Int32} {b p t : Nat} {pa : PathS} {tk : Nat → Nat} {T : Nat → Nat} {f : Option Nat} {fl : FlS}
theorem into_loop (hT : h.1 2 = (10, tab 120 (fun i => .int (nI (T i))))) (hT2 : ∀ i, T i < 256) (hd : 2 < d) (hn : n ≤ 120) : ∀ r items q fl pa, n < q + r → q ≤ n → items ≤ q → FlOk fl → PathOk pa → (items = 0 → pa.1.2.1 = 0 ∧ pa.1.2.2.1 = 0) → (∀ e, lpS T n r items q fl pa = .inl e → e ≤ 120 → ∀ av fl' pa', FlOk fl' → K (some (.int (-10 - nI e))) (RH h d n av (nI e) fl'.1 fl'.2.1 fl'.2.2 pa' tk)) → (∀ it pa', lpS T n r items q fl pa = .inr (it, pa') → ∀ av fl', FlOk fl' → K (some (.int (nI it))) (RH h d n av (-1) fl'.1 fl'.2.1 fl'.2.2 pa' (trk pa'))) → Wp xs m_Reader_readInto 37 [.ref 1, .ref d, .int (nI items), .int (nI items)] [] (RH h d n (nI (sk T n 120 q)) (fI none) fl.1 fl.2.1 fl.2.2 pa tk) 0 0 K := by
  intro r
  induction r with
  | zero =>
    intro items q fl pa h1 h2
    omega
  | succ r ih =>
    intro items q fl pa h1 h2 h3 hfl ok h0 qe qk
    have bs := sk_le (T := T) 120 q h2
    have hl := ok.2.1
    have hw := ok.2.2.2.2.2.2
    have e1 : ¬ ¬ (fI none = -1) := not_not_intro rfl
    unfold lpS at qe qk
    rw [w_Reader_readInto_37]
    by_cases c : n ≤ sk T n 120 q
    · rw [if_pos c] at qk
      have Q := qk items pa rfl (nI (sk T n 120 q)) fl hfl
      have e2 : fI none = -1 := rfl
      by_cases hi : 120 ≤ items
      · simp (disch := first | assumption | omega) only [w_Reader_readInto_38, w_Reader_readInto_40, w_Reader_readInto_43, w_Reader_readInto_44, w_Reader_readInto_47, w_Reader_readInto_48, w_Reader_readInto_51, w_Reader_readInto_54, w_Reader_readInto_55, w_Reader_readInto_58, w_Reader_readInto_59, w_Reader_readInto_62, w_Reader_readInto_63, w_Reader_readInto_64, w_Reader_readInto_65, w_Reader_readInto_68, w_Reader_readInto_69, w_Reader_readInto_72, w_Reader_readInto_73, w_Reader_readInto_76, w_Reader_readInto_79, w_Reader_readInto_80, w_Reader_readInto_83, w_Reader_readInto_86, w_Reader_readInto_89, w_Reader_readInto_90, w_Reader_readInto_93, w_Reader_readInto_94, w_Reader_readInto_97, w_Reader_readInto_99, w_Reader_readInto_100, w_Reader_readInto_103, w_Reader_readInto_104, w_Reader_readInto_105, w_Reader_readInto_106, w_Reader_readInto_109, w_Reader_readInto_110, q_rd_eq, q_nt_0, q_nt_s, q_ld_tab, q_st_tab, q_aa13, q_aa14, q_is_eq, q_wr_eq, q_01_0, q_01_1, q_nz_nI, q_len_tab, psh_some, psh_none, sm_up_at, sm_up_ne, nI_add, nI_lt2, nI_le2, nI_eq2, ls_set0, ls_setS, Nat.reduceAdd, Nat.zero_add, Nat.add_zero, not_true_eq_false, not_false_eq_true, ite_true, ite_false, nI_rem3, nI_div2, nI_sub2, q_max_nI, q_min_nI, rh1, rh_d, hi, eq_true e2, rh_lay]
        exact Q
      · simp (disch := first | assumption | omega) only [w_Reader_readInto_38, w_Reader_readInto_40, w_Reader_readInto_43, w_Reader_readInto_44, w_Reader_readInto_47, w_Reader_readInto_48, w_Reader_readInto_51, w_Reader_readInto_54, w_Reader_readInto_55, w_Reader_readInto_58, w_Reader_readInto_59, w_Reader_readInto_62, w_Reader_readInto_63, w_Reader_readInto_64, w_Reader_readInto_65, w_Reader_readInto_68, w_Reader_readInto_69, w_Reader_readInto_72, w_Reader_readInto_73, w_Reader_readInto_76, w_Reader_readInto_79, w_Reader_readInto_80, w_Reader_readInto_83, w_Reader_readInto_86, w_Reader_readInto_89, w_Reader_readInto_90, w_Reader_readInto_93, w_Reader_readInto_94, w_Reader_readInto_97, w_Reader_readInto_99, w_Reader_readInto_100, w_Reader_readInto_103, w_Reader_readInto_104, w_Reader_readInto_105, w_Reader_readInto_106, w_Reader_readInto_109, w_Reader_readInto_110, q_rd_eq, q_nt_0, q_nt_s, q_ld_tab, q_st_tab, q_aa13, q_aa14, q_is_eq, q_wr_eq, q_01_0, q_01_1, q_nz_nI, q_len_tab, psh_some, psh_none, sm_up_at, sm_up_ne, nI_add, nI_lt2, nI_le2, nI_eq2, ls_set0, ls_setS, Nat.reduceAdd, Nat.zero_add, Nat.add_zero, not_true_eq_false, not_false_eq_true, ite_true, ite_false, nI_rem3, nI_div2, nI_sub2, q_max_nI, q_min_nI, rh1, rh_d, hi, c, eq_true e2, rh_lay]
        exact Q
    · rw [if_neg c] at qe qk
      have hi : ¬ 120 ≤ items := by omega
      have key : ∀ a' f' fl' pa', RdP n (itS T n (decide (items = 0)) fl pa (sk T n 120 q)) a' f' fl' pa' → Wp xs m_Reader_readInto 76 [.ref 1, .ref d, .int (nI items), .int (nI items)] [] (RH h d n (nI a') (fI f') fl'.1 fl'.2.1 fl'.2.2 pa' tk) 0 0 K := by
        intro a' f' fl' pa' HR
        obtain ⟨hr, of, ha', hl', hfl'⟩ := id HR
        simp (disch := first | assumption | omega) only [w_Reader_readInto_76, w_Reader_readInto_79, w_Reader_readInto_80, w_Reader_readInto_83, w_Reader_readInto_86, q_rd_eq, q_nt_0, q_nt_s, q_ld_tab, q_st_tab, q_aa13, q_aa14, q_is_eq, q_wr_eq, q_01_0, q_01_1, q_nz_nI, q_len_tab, psh_some, psh_none, sm_up_at, sm_up_ne, nI_add, nI_lt2, nI_le2, nI_eq2, ls_set0, ls_setS, Nat.reduceAdd, Nat.zero_add, Nat.add_zero, not_true_eq_false, not_false_eq_true, ite_true, ite_false, nI_rem3, nI_div2, nI_sub2, q_max_nI, q_min_nI, rh1, e_skip hT hT2]
        cases hi : itS T n (decide (items = 0)) fl pa (sk T n 120 q) with
        | inl e =>
          have ef := itS_e HR hi
          rw [hi] at qe
          subst ef
          have he : e ≤ 120 := of e rfl
          have e3 : ¬ (nI e = -1) := by rw [nI_m1 (by omega)]; exact not_false
          have bs' := sk_le (T := T) 120 a' ha'
          have Q := qe e rfl he (nI (sk T n 120 a')) fl' pa' hfl'
          have efs : fI (some e) = nI e := rfl
          rw [w_Reader_readInto_37, efs]
          by_cases hi2 : 120 ≤ items + 1
          · simp (disch := first | assumption | omega) only [w_Reader_readInto_38, w_Reader_readInto_40, w_Reader_readInto_43, w_Reader_readInto_44, w_Reader_readInto_47, w_Reader_readInto_48, w_Reader_readInto_51, w_Reader_readInto_54, w_Reader_readInto_55, w_Reader_readInto_58, w_Reader_readInto_59, w_Reader_readInto_62, w_Reader_readInto_63, w_Reader_readInto_64, w_Reader_readInto_65, w_Reader_readInto_68, w_Reader_readInto_69, w_Reader_readInto_72, w_Reader_readInto_73, w_Reader_readInto_76, w_Reader_readInto_79, w_Reader_readInto_80, w_Reader_readInto_83, w_Reader_readInto_86, w_Reader_readInto_89, w_Reader_readInto_90, w_Reader_readInto_93, w_Reader_readInto_94, w_Reader_readInto_97, w_Reader_readInto_99, w_Reader_readInto_100, w_Reader_readInto_103, w_Reader_readInto_104, w_Reader_readInto_105, w_Reader_readInto_106, w_Reader_readInto_109, w_Reader_readInto_110, q_rd_eq, q_nt_0, q_nt_s, q_ld_tab, q_st_tab, q_aa13, q_aa14, q_is_eq, q_wr_eq, q_01_0, q_01_1, q_nz_nI, q_len_tab, psh_some, psh_none, sm_up_at, sm_up_ne, nI_add, nI_lt2, nI_le2, nI_eq2, ls_set0, ls_setS, Nat.reduceAdd, Nat.zero_add, Nat.add_zero, not_true_eq_false, not_false_eq_true, ite_true, ite_false, nI_rem3, nI_div2, nI_sub2, q_max_nI, q_min_nI, rh1, hi2, e3]
            exact Q
          · by_cases c2 : n ≤ sk T n 120 a'
            · simp (disch := first | assumption | omega) only [w_Reader_readInto_38, w_Reader_readInto_40, w_Reader_readInto_43, w_Reader_readInto_44, w_Reader_readInto_47, w_Reader_readInto_48, w_Reader_readInto_51, w_Reader_readInto_54, w_Reader_readInto_55, w_Reader_readInto_58, w_Reader_readInto_59, w_Reader_readInto_62, w_Reader_readInto_63, w_Reader_readInto_64, w_Reader_readInto_65, w_Reader_readInto_68, w_Reader_readInto_69, w_Reader_readInto_72, w_Reader_readInto_73, w_Reader_readInto_76, w_Reader_readInto_79, w_Reader_readInto_80, w_Reader_readInto_83, w_Reader_readInto_86, w_Reader_readInto_89, w_Reader_readInto_90, w_Reader_readInto_93, w_Reader_readInto_94, w_Reader_readInto_97, w_Reader_readInto_99, w_Reader_readInto_100, w_Reader_readInto_103, w_Reader_readInto_104, w_Reader_readInto_105, w_Reader_readInto_106, w_Reader_readInto_109, w_Reader_readInto_110, q_rd_eq, q_nt_0, q_nt_s, q_ld_tab, q_st_tab, q_aa13, q_aa14, q_is_eq, q_wr_eq, q_01_0, q_01_1, q_nz_nI, q_len_tab, psh_some, psh_none, sm_up_at, sm_up_ne, nI_add, nI_lt2, nI_le2, nI_eq2, ls_set0, ls_setS, Nat.reduceAdd, Nat.zero_add, Nat.add_zero, not_true_eq_false, not_false_eq_true, ite_true, ite_false, nI_rem3, nI_div2, nI_sub2, q_max_nI, q_min_nI, rh1, hi2, c2, e3]
              exact Q
            · simp (disch := first | assumption | omega) only [w_Reader_readInto_38, w_Reader_readInto_40, w_Reader_readInto_43, w_Reader_readInto_44, w_Reader_readInto_47, w_Reader_readInto_48, w_Reader_readInto_51, w_Reader_readInto_54, w_Reader_readInto_55, w_Reader_readInto_58, w_Reader_readInto_59, w_Reader_readInto_62, w_Reader_readInto_63, w_Reader_readInto_64, w_Reader_readInto_65, w_Reader_readInto_68, w_Reader_readInto_69, w_Reader_readInto_72, w_Reader_readInto_73, w_Reader_readInto_76, w_Reader_readInto_79, w_Reader_readInto_80, w_Reader_readInto_83, w_Reader_readInto_86, w_Reader_readInto_89, w_Reader_readInto_90, w_Reader_readInto_93, w_Reader_readInto_94, w_Reader_readInto_97, w_Reader_readInto_99, w_Reader_readInto_100, w_Reader_readInto_103, w_Reader_readInto_104, w_Reader_readInto_105, w_Reader_readInto_106, w_Reader_readInto_109, w_Reader_readInto_110, q_rd_eq, q_nt_0, q_nt_s, q_ld_tab, q_st_tab, q_aa13, q_aa14, q_is_eq, q_wr_eq, q_01_0, q_01_1, q_nz_nI, q_len_tab, psh_some, psh_none, sm_up_at, sm_up_ne, nI_add, nI_lt2, nI_le2, nI_eq2, ls_set0, ls_setS, Nat.reduceAdd, Nat.zero_add, Nat.add_zero, not_true_eq_false, not_false_eq_true, ite_true, ite_false, nI_rem3, nI_div2, nI_sub2, q_max_nI, q_min_nI, rh1, hi2, c2, e3]
              exact Q
        | inr z =>
          obtain ⟨ef, ez⟩ := itS_k HR hi
          rw [hi] at qe qk
          subst ef
          obtain ⟨g1, g2, g3, g4⟩ := itS_inv (by omega) ok hfl (fun z => h0 (of_decide_eq_true z)) hi
          subst ez
          exact ih (items + 1) a' fl' pa' (by have : sk T n 120 q < a' := g1; omega) ha' (by have : sk T n 120 q < a' := g1; omega) g3 g4 (fun z => absurd z (by omega)) qe qk
      have K1 := C_item (xs := xs) (d := d) (tk := tk) (K := fun r h' => Wp xs m_Reader_readInto 76 [.ref 1, .ref d, .int (nI items), .int (nI items)] (psh r []) h' 0 0 K) hT hT2 hd hn (show sk T n 120 q < n by omega) hl hfl (first := decide (items = 0)) key
      by_cases c0 : items = 0
      · rw [decide_eq_true c0] at K1
        have c0' : ¬ ¬ items = 0 := not_not_intro c0
        simp (disch := first | assumption | omega) only [w_Reader_readInto_38, w_Reader_readInto_40, w_Reader_readInto_43, w_Reader_readInto_44, w_Reader_readInto_47, w_Reader_readInto_48, w_Reader_readInto_51, w_Reader_readInto_54, w_Reader_readInto_55, w_Reader_readInto_58, w_Reader_readInto_59, w_Reader_readInto_62, w_Reader_readInto_63, w_Reader_readInto_64, w_Reader_readInto_65, w_Reader_readInto_68, w_Reader_readInto_69, w_Reader_readInto_72, w_Reader_readInto_73, q_rd_eq, q_nt_0, q_nt_s, q_ld_tab, q_st_tab, q_aa13, q_aa14, q_is_eq, q_wr_eq, q_01_0, q_01_1, q_nz_nI, q_len_tab, psh_some, psh_none, sm_up_at, sm_up_ne, nI_add, nI_lt2, nI_le2, nI_eq2, ls_set0, ls_setS, Nat.reduceAdd, Nat.zero_add, Nat.add_zero, not_true_eq_false, not_false_eq_true, ite_true, ite_false, nI_rem3, nI_div2, nI_sub2, q_max_nI, q_min_nI, rh1, hi, c, e1, c0']
        exact K1
      · rw [decide_eq_false c0] at K1
        simp (disch := first | assumption | omega) only [w_Reader_readInto_38, w_Reader_readInto_40, w_Reader_readInto_43, w_Reader_readInto_44, w_Reader_readInto_47, w_Reader_readInto_48, w_Reader_readInto_51, w_Reader_readInto_54, w_Reader_readInto_55, w_Reader_readInto_58, w_Reader_readInto_59, w_Reader_readInto_62, w_Reader_readInto_63, w_Reader_readInto_64, w_Reader_readInto_65, w_Reader_readInto_68, w_Reader_readInto_69, w_Reader_readInto_72, w_Reader_readInto_73, q_rd_eq, q_nt_0, q_nt_s, q_ld_tab, q_st_tab, q_aa13, q_aa14, q_is_eq, q_wr_eq, q_01_0, q_01_1, q_nz_nI, q_len_tab, psh_some, psh_none, sm_up_at, sm_up_ne, nI_add, nI_lt2, nI_le2, nI_eq2, ls_set0, ls_setS, Nat.reduceAdd, Nat.zero_add, Nat.add_zero, not_true_eq_false, not_false_eq_true, ite_true, ite_false, nI_rem3, nI_div2, nI_sub2, q_max_nI, q_min_nI, rh1, hi, c, e1, c0]
        exact K1
theorem C_into (hT : h.1 2 = (10, tab 120 (fun i => .int (nI (T i))))) (hT2 : ∀ i, T i < 256) (hd : 2 < d) (hn : n ≤ 120) (h1 : h.1 1 = (4, [.ref 2, .int (nI n), .int av, .int fv, .int (nI b), .int (nI p), .int (nI t)])) (H : PtAt h d pa tk) (qe : ∀ e, tellS T n = .inl e → e ≤ 120 → ∀ av fl' pa', FlOk fl' → K (some (.int (-10 - nI e))) (RH h d n av (nI e) fl'.1 fl'.2.1 fl'.2.2 pa' tk)) (qk : ∀ it pa', tellS T n = .inr (it, pa') → ∀ av fl', FlOk fl' → K (some (.int (nI it))) (RH h d n av (-1) fl'.1 fl'.2.1 fl'.2.2 pa' (trk pa'))) : Wp xs m_Reader_readInto 0 [.ref 1, .ref d, .null, .null] [] h 0 0 K := by
  have e : Wp xs m_Reader_readInto 0 [.ref 1, .ref d, .null, .null] [] h 0 0 K = Wp xs m_Reader_readInto 0 [.ref 1, .ref d, .null, .null] [] (RH h d n av fv b p t pa tk) 0 0 K := by rw [rh_self h1 H]
  rw [e]
  simp (disch := first | assumption | omega) only [w_Reader_readInto_0, w_Reader_readInto_1, w_Reader_readInto_4, w_Reader_readInto_5, w_Reader_readInto_6, w_Reader_readInto_9, w_Reader_readInto_10, w_Reader_readInto_11, w_Reader_readInto_14, w_Reader_readInto_15, w_Reader_readInto_16, w_Reader_readInto_19, w_Reader_readInto_20, w_Reader_readInto_21, w_Reader_readInto_24, w_Reader_readInto_25, w_Reader_readInto_26, w_Reader_readInto_29, w_Reader_readInto_30, w_Reader_readInto_31, w_Reader_readInto_32, w_Reader_readInto_35, w_Reader_readInto_36, q_rd_eq, q_nt_0, q_nt_s, q_ld_tab, q_st_tab, q_aa13, q_aa14, q_is_eq, q_wr_eq, q_01_0, q_01_1, q_nz_nI, q_len_tab, psh_some, psh_none, sm_up_at, sm_up_ne, nI_add, nI_lt2, nI_le2, nI_eq2, ls_set0, ls_setS, Nat.reduceAdd, Nat.zero_add, Nat.add_zero, not_true_eq_false, not_false_eq_true, ite_true, ite_false, nI_rem3, nI_div2, nI_sub2, q_max_nI, q_min_nI, rh1, rh_d, rh_first, rh_u1, e_skip hT hT2]
  exact into_loop hT hT2 hd hn 121 0 0 (0, 0, 0) path0 (by omega) (by omega) (by omega) ⟨by decide, by decide, by decide⟩ path0_ok (fun _ => ⟨rfl, rfl⟩) qe qk
/-! the class's state behind it -/
def sPath (s : CS) (pa : PathS) : CS := ((s.1.1, 0), pa, zeroP, (s.2.2.2.1.1, s.2.2.2.1.2.1, 0), (s.2.2.2.2.1.1, fun _ => false), (0, 0), s.2.2.2.2.2.2)
theorem b2n_dec {x : Nat} (h : x ≤ 1) : b2n (decide (x = 1)) = x := by
  by_cases c : x = 1
  · rw [decide_eq_true c, c]; rfl
  · rw [decide_eq_false c, show x = 0 by omega]; rfl
theorem InvC.rh {s : CS} {j : CJ} (I : InvC h s j) (hfl : FlOk fl) : InvC (RH h (cDp j) s.1.2 av fv fl.1 fl.2.1 fl.2.2 pa tk) s ((av, fv, decide (fl.1 = 1), decide (fl.2.1 = 1), decide (fl.2.2 = 1)), (pa, tk), j.2.2) := by
  obtain ⟨⟨a0, a1, a2⟩, a3, ⟨a4, a5⟩, a6, ⟨a7, a8⟩, a9, ⟨b0, b1, b2, b3⟩, b4, b5⟩ := I
  have hj := cLp_or j
  have ne : ∀ q, q ≠ 1 → (q < cDp j ∨ cDp j + 5 ≤ q) → (RH h (cDp j) s.1.2 av fv fl.1 fl.2.1 fl.2.2 pa tk).1 q = h.1 q := fun q h1 h2 => (setPt_ne h2).trans (sm_up_ne h1)
  refine ⟨⟨(ne _ (by omega) (by omega)).trans a0, ?_, (ne _ (by omega) (by omega)).trans a2⟩, fun q hq => (ne _ (by omega) (by omega)).trans (a3 q hq), ⟨(ne _ (by omega) (by omega)).trans a4, (ne _ (by omega) (by omega)).trans a5⟩, fun i hi q hq => (ne _ (by omega) (by omega)).trans (a6 i hi q hq), ⟨(ne _ (by omega) (by omega)).trans a7, (ne _ (by omega) (by omega)).trans a8⟩, fun i hi q hq => (ne _ (by omega) (by omega)).trans (a9 i hi q hq), ⟨(ne _ (by omega) (by omega)).trans b0, (ne _ (by omega) (by omega)).trans b1, (ne _ (by omega) (by omega)).trans b2, (ne _ (by omega) (by omega)).trans b3⟩, ?_, setPt_at _ _ _ _⟩
  · rw [rh1 (by omega)]
    show _ = ((4 : Nat), [Value.ref 2, .int (nI s.1.2), .int av, .int fv, .int (nI (b2n (decide (fl.1 = 1)))), .int (nI (b2n (decide (fl.2.1 = 1)))), .int (nI (b2n (decide (fl.2.2 = 1))))])
    rw [b2n_dec hfl.1, b2n_dec hfl.2.1, b2n_dec hfl.2.2]
  · intro q hq
    have e : cLp ((av, fv, decide (fl.1 = 1), decide (fl.2.1 = 1), decide (fl.2.2 = 1)), (pa, tk), j.2.2) = cLp j := rfl
    rw [e]
    exact (ne _ (by omega) (by omega)).trans (b4 q hq)
theorem FrC.rh {h1 : sm_Hp} (fr : FrC h h1) (hd : d + 5 ≤ 98) : FrC h (RH h1 d n av fv b p t pa tk) := fr.trans ⟨fun q hq => (setPt_ne (by omega)).trans (sm_up_ne (by omega)), Eq.refl _⟩
theorem InvC.swap {s : CS} {j : CJ} (I : InvC h s j) (e : j.2.1.2 = trk j.2.1.1) : InvC (sm_up h 0 (5, [.ref 1, .ref 3, .ref 10, .ref 68, .ref 69, .ref 70, .ref (cDp j), .ref (cLp j), .long (lN s.2.2.2.2.2.1.1), .int (nI s.2.2.2.2.2.1.2), .long s.2.2.2.2.2.2])) (s.1, j.2.1.1, s.2.2) (j.1, (s.2.1, trk s.2.1), j.2.2.1, !j.2.2.2) := by
  obtain ⟨⟨a0, a1, a2⟩, a3, ⟨a4, a5⟩, a6, ⟨a7, a8⟩, a9, ⟨b0, b1, b2, b3⟩, b4, b5⟩ := I
  have hj := cLp_or j
  have el : cLp (j.1, (s.2.1, trk s.2.1), j.2.2.1, !j.2.2.2) = cDp j := by unfold cLp cDp; cases j.2.2.2 <;> rfl
  have ed : cDp (j.1, (s.2.1, trk s.2.1), j.2.2.1, !j.2.2.2) = cLp j := by unfold cLp cDp; cases j.2.2.2 <;> rfl
  refine ⟨⟨?_, by rw [sm_up_ne (by omega)]; exact a1, by rw [sm_up_ne (by omega)]; exact a2⟩, a3.up (by omega), ⟨by rw [sm_up_ne (by omega)]; exact a4, by rw [sm_up_ne (by omega)]; exact a5⟩, fun i hi => (a6 i hi).up (by omega), ⟨by rw [sm_up_ne (by omega)]; exact a7, by rw [sm_up_ne (by omega)]; exact a8⟩, fun i hi => (a9 i hi).up (by omega), ⟨by rw [sm_up_ne (by omega)]; exact b0, by rw [sm_up_ne (by omega)]; exact b1, by rw [sm_up_ne (by omega)]; exact b2, by rw [sm_up_ne (by omega)]; exact b3⟩, ?_, ?_⟩
  · rw [sm_up_at]
    unfold c_obj
    rw [el, ed]
  · rw [el]
    have := b5.up (q := 0) (x := (5, [.ref 1, .ref 3, .ref 10, .ref 68, .ref 69, .ref 70, .ref (cDp j), .ref (cLp j), .long (lN s.2.2.2.2.2.1.1), .int (nI s.2.2.2.2.2.1.2), .long s.2.2.2.2.2.2])) (by omega)
    rw [e] at this
    exact this
  · rw [ed]
    exact b4.up (by omega)
theorem up_up {h : sm_Hp} {a : Nat} {x y : sm_Cell} : sm_up (sm_up h a x) a y = sm_up h a y := Prod.ext (funext fun q => by show (if q = a then _ else (if q = a then _ else _)) = (if q = a then _ else _); split <;> rfl) rfl
theorem c_drop {s : CS} {j : CJ} (I : InvC h s j) : Wp xs m_TwoPrints_dropImages 0 [.ref 0, .null] [] h 0 0 K = K none (sm_up h 69 (12, tab 2 (fun i => .int (nI (b2n ((fun _ => false : Nat → Bool) i)))))) := by
  have h20 : ¬ 2 ≤ 0 := by omega
  have h21 : ¬ 2 ≤ 1 := by omega
  have ne : ∀ x, (sm_up h 69 x).1 0 = h.1 0 := fun x => sm_up_ne (by omega)
  simp (disch := omega) only [w_TwoPrints_dropImages_0, w_TwoPrints_dropImages_1, q_rd_eq, q_nt_0, q_nt_s, q_ld_tab, q_st_tab, q_aa13, q_aa14, q_is_eq, q_wr_eq, q_01_0, q_01_1, q_nz_nI, q_len_tab, psh_some, psh_none, sm_up_at, sm_up_ne, nI_add, nI_lt2, nI_le2, nI_eq2, ls_set0, ls_setS, Nat.reduceAdd, Nat.zero_add, Nat.add_zero, not_true_eq_false, not_false_eq_true, ite_true, ite_false, nI_rem3, nI_div2, nI_sub2, q_max_nI, q_min_nI]
  rw [w_TwoPrints_dropImages_2]
  simp (disch := omega) only [w_TwoPrints_dropImages_0, w_TwoPrints_dropImages_1, w_TwoPrints_dropImages_3, w_TwoPrints_dropImages_4, w_TwoPrints_dropImages_7, w_TwoPrints_dropImages_8, w_TwoPrints_dropImages_11, w_TwoPrints_dropImages_12, w_TwoPrints_dropImages_13, w_TwoPrints_dropImages_14, w_TwoPrints_dropImages_17, w_TwoPrints_dropImages_20, q_rd_eq, q_nt_0, q_nt_s, q_ld_tab, q_st_tab, q_aa13, q_aa14, q_is_eq, q_wr_eq, q_01_0, q_01_1, q_nz_nI, q_len_tab, psh_some, psh_none, sm_up_at, sm_up_ne, nI_add, nI_lt2, nI_le2, nI_eq2, ls_set0, ls_setS, Nat.reduceAdd, Nat.zero_add, Nat.add_zero, not_true_eq_false, not_false_eq_true, ite_true, ite_false, nI_rem3, nI_div2, nI_sub2, q_max_nI, q_min_nI, I.o0, I.o69, h20]
  rw [w_TwoPrints_dropImages_2]
  simp (disch := omega) only [w_TwoPrints_dropImages_0, w_TwoPrints_dropImages_1, w_TwoPrints_dropImages_3, w_TwoPrints_dropImages_4, w_TwoPrints_dropImages_7, w_TwoPrints_dropImages_8, w_TwoPrints_dropImages_11, w_TwoPrints_dropImages_12, w_TwoPrints_dropImages_13, w_TwoPrints_dropImages_14, w_TwoPrints_dropImages_17, w_TwoPrints_dropImages_20, q_rd_eq, q_nt_0, q_nt_s, q_ld_tab, q_st_tab, q_aa13, q_aa14, q_is_eq, q_wr_eq, q_01_0, q_01_1, q_nz_nI, q_len_tab, psh_some, psh_none, sm_up_at, sm_up_ne, nI_add, nI_lt2, nI_le2, nI_eq2, ls_set0, ls_setS, Nat.reduceAdd, Nat.zero_add, Nat.add_zero, not_true_eq_false, not_false_eq_true, ite_true, ite_false, nI_rem3, nI_div2, nI_sub2, q_max_nI, q_min_nI, I.o0, h21, ne, up_up]
  rw [w_TwoPrints_dropImages_2]
  simp (disch := omega) only [w_TwoPrints_dropImages_0, w_TwoPrints_dropImages_1, w_TwoPrints_dropImages_3, w_TwoPrints_dropImages_4, w_TwoPrints_dropImages_7, w_TwoPrints_dropImages_8, w_TwoPrints_dropImages_11, w_TwoPrints_dropImages_12, w_TwoPrints_dropImages_13, w_TwoPrints_dropImages_14, w_TwoPrints_dropImages_17, w_TwoPrints_dropImages_20, q_rd_eq, q_nt_0, q_nt_s, q_ld_tab, q_st_tab, q_aa13, q_aa14, q_is_eq, q_wr_eq, q_01_0, q_01_1, q_nz_nI, q_len_tab, psh_some, psh_none, sm_up_at, sm_up_ne, nI_add, nI_lt2, nI_le2, nI_eq2, ls_set0, ls_setS, Nat.reduceAdd, Nat.zero_add, Nat.add_zero, not_true_eq_false, not_false_eq_true, ite_true, ite_false, nI_rem3, nI_div2, nI_sub2, q_max_nI, q_min_nI, Nat.le_refl]
  congr 2
theorem path_tail {s : CS} {j : CJ} (I : InvC h s j) (e : j.2.1.2 = trk j.2.1.1) {it : Nat} (hit : it ≤ 121) (q : GoC h (sPath s j.2.1.1) (K (some (.int (nI it))))) : Wp xs m_TwoPrints_path 11 [.ref 0, .null, .null] [.int (nI it)] h 0 0 K := by
  have h0 : 0 ≤ it := Nat.zero_le _
  simp (disch := omega) only [w_TwoPrints_path_11, w_TwoPrints_path_12, w_TwoPrints_path_13, w_TwoPrints_path_16, w_TwoPrints_path_17, w_TwoPrints_path_18, w_TwoPrints_path_19, w_TwoPrints_path_22, w_TwoPrints_path_23, w_TwoPrints_path_24, w_TwoPrints_path_25, w_TwoPrints_path_28, w_TwoPrints_path_31, w_TwoPrints_path_32, w_TwoPrints_path_33, q_rd_eq, q_nt_0, q_nt_s, q_ld_tab, q_st_tab, q_aa13, q_aa14, q_is_eq, q_wr_eq, q_01_0, q_01_1, q_nz_nI, q_len_tab, psh_some, psh_none, sm_up_at, sm_up_ne, nI_add, nI_lt2, nI_le2, nI_eq2, ls_set0, ls_setS, Nat.reduceAdd, Nat.zero_add, Nat.add_zero, not_true_eq_false, not_false_eq_true, ite_true, ite_false, nI_rem3, nI_div2, nI_sub2, q_max_nI, q_min_nI, I.o0, h0, up_up]
  have I3 := I.swap e
  generalize hh : sm_up h 0 _ = h3 at I3 ⊢
  have F3 : FrC h h3 := by rw [← hh]; exact FrC.rfl.up (by omega)
  have c0 := I3.o0
  have c1 := I3.o1
  simp (disch := omega) only [w_TwoPrints_path_36, w_TwoPrints_path_37, w_TwoPrints_path_40, w_TwoPrints_path_41, q_rd_eq, q_nt_0, q_nt_s, q_ld_tab, q_st_tab, q_aa13, q_aa14, q_is_eq, q_wr_eq, q_01_0, q_01_1, q_nz_nI, q_len_tab, psh_some, psh_none, sm_up_at, sm_up_ne, nI_add, nI_lt2, nI_le2, nI_eq2, ls_set0, ls_setS, Nat.reduceAdd, Nat.zero_add, Nat.add_zero, not_true_eq_false, not_false_eq_true, ite_true, ite_false, nI_rem3, nI_div2, nI_sub2, q_max_nI, q_min_nI, c0, c1]
  have I4 := I3.size 0
  generalize hh4 : sm_up h3 1 _ = h4 at I4 ⊢
  have F4 : FrC h h4 := by rw [← hh4]; exact F3.up (by omega)
  have c0 := I4.o0
  have c3 := I4.pr
  simp (disch := first | assumption | omega) only [w_TwoPrints_path_44, w_TwoPrints_path_45, w_TwoPrints_path_48, q_rd_eq, q_nt_0, q_nt_s, q_ld_tab, q_st_tab, q_aa13, q_aa14, q_is_eq, q_wr_eq, q_01_0, q_01_1, q_nz_nI, q_len_tab, psh_some, psh_none, sm_up_at, sm_up_ne, nI_add, nI_lt2, nI_le2, nI_eq2, ls_set0, ls_setS, Nat.reduceAdd, Nat.zero_add, Nat.add_zero, not_true_eq_false, not_false_eq_true, ite_true, ite_false, nI_rem3, nI_div2, nI_sub2, q_max_nI, q_min_nI, c0, c3.c0, p_wipe c3]
  have I5 := I4.setP zeroP
  generalize hh5 : setPr h4 3 zeroP = h5 at I5 ⊢
  have F5 : FrC h h5 := by rw [← hh5]; exact F4.pr (by omega)
  have c0 := I5.o0
  have c10 : h5.1 10 = (1, [.ref 11, .int (nI s.2.2.2.1.2.2), .int (nI s.2.2.2.1.2.1)]) := I5.o10
  simp (disch := first | assumption | omega) only [w_TwoPrints_path_51, w_TwoPrints_path_52, w_TwoPrints_path_55, w_Past_loseAll_0, w_Past_loseAll_1, w_Past_loseAll_2, w_Past_loseAll_5, q_rd_eq, q_nt_0, q_nt_s, q_ld_tab, q_st_tab, q_aa13, q_aa14, q_is_eq, q_wr_eq, q_01_0, q_01_1, q_nz_nI, q_len_tab, psh_some, psh_none, sm_up_at, sm_up_ne, nI_add, nI_lt2, nI_le2, nI_eq2, ls_set0, ls_setS, Nat.reduceAdd, Nat.zero_add, Nat.add_zero, not_true_eq_false, not_false_eq_true, ite_true, ite_false, nI_rem3, nI_div2, nI_sub2, q_max_nI, q_min_nI, c0, c10]
  have I6 := I5.known 0 s.2.2.2.1.2.1
  generalize hh6 : sm_up h5 10 _ = h6 at I6 ⊢
  have F6 : FrC h h6 := by rw [← hh6]; exact F5.up (by omega)
  have c0 := I6.o0
  simp (disch := first | assumption | omega) only [w_TwoPrints_path_58, w_TwoPrints_path_59, q_rd_eq, q_nt_0, q_nt_s, q_ld_tab, q_st_tab, q_aa13, q_aa14, q_is_eq, q_wr_eq, q_01_0, q_01_1, q_nz_nI, q_len_tab, psh_some, psh_none, sm_up_at, sm_up_ne, nI_add, nI_lt2, nI_le2, nI_eq2, ls_set0, ls_setS, Nat.reduceAdd, Nat.zero_add, Nat.add_zero, not_true_eq_false, not_false_eq_true, ite_true, ite_false, nI_rem3, nI_div2, nI_sub2, q_max_nI, q_min_nI, c0, c_drop I6]
  have I7 := I6.kepts (fun _ => false)
  generalize hh7 : sm_up h6 69 _ = h7 at I7 ⊢
  have F7 : FrC h h7 := by rw [← hh7]; exact F6.up (by omega)
  have c0 := I7.o0
  simp (disch := first | assumption | omega) only [w_TwoPrints_path_62, w_TwoPrints_path_63, w_TwoPrints_path_66, w_TwoPrints_path_67, w_TwoPrints_dropFound_0, w_TwoPrints_dropFound_1, w_TwoPrints_dropFound_2, w_TwoPrints_dropFound_5, w_TwoPrints_dropFound_6, w_TwoPrints_dropFound_7, w_TwoPrints_dropFound_10, q_rd_eq, q_nt_0, q_nt_s, q_ld_tab, q_st_tab, q_aa13, q_aa14, q_is_eq, q_wr_eq, q_01_0, q_01_1, q_nz_nI, q_len_tab, psh_some, psh_none, sm_up_at, sm_up_ne, nI_add, nI_lt2, nI_le2, nI_eq2, ls_set0, ls_setS, Nat.reduceAdd, Nat.zero_add, Nat.add_zero, not_true_eq_false, not_false_eq_true, ite_true, ite_false, nI_rem3, nI_div2, nI_sub2, q_max_nI, q_min_nI, c0, up_up]
  exact q _ _ (I7.obj 0 0 s.2.2.2.2.2.2) (F7.up (by omega))
theorem C_path {s : CS} {j : CJ} (I : InvC h s j) (ok : StOk s) (qe : ∀ e, tellS s.1.1 s.1.2 = .inl e → GoC h s (K (some (.int (-10 - nI e))))) (qk : ∀ it pa, tellS s.1.1 s.1.2 = .inr (it, pa) → GoC h (sPath s pa) (K (some (.int (nI it))))) : Wp xs m_TwoPrints_path 0 [.ref 0, .null, .null] [] h 0 0 K := by
  have hj := cLp_or j
  have K1 := C_into (xs := xs) (K := fun r h' => Wp xs m_TwoPrints_path 11 [.ref 0, .null, .null] (psh r []) h' 0 0 K) I.o2 ok.1.1 (show 2 < cDp j by omega) ok.1.2 I.o1 I.dt ?_ ?_
  · simp (disch := first | assumption | omega) only [w_TwoPrints_path_0, w_TwoPrints_path_1, w_TwoPrints_path_4, w_TwoPrints_path_5, w_TwoPrints_path_8, q_rd_eq, q_nt_0, q_nt_s, q_ld_tab, q_st_tab, q_aa13, q_aa14, q_is_eq, q_wr_eq, q_01_0, q_01_1, q_nz_nI, q_len_tab, psh_some, psh_none, sm_up_at, sm_up_ne, nI_add, nI_lt2, nI_le2, nI_eq2, ls_set0, ls_setS, Nat.reduceAdd, Nat.zero_add, Nat.add_zero, not_true_eq_false, not_false_eq_true, ite_true, ite_false, nI_rem3, nI_div2, nI_sub2, q_max_nI, q_min_nI, I.o0, I.o1]
    exact K1
  · intro e he h120 av fl pa hfl
    have I2 := I.rh (av := av) (fv := nI e) (pa := pa) (tk := j.2.1.2) hfl
    have hneg := m10_neg e (by omega)
    simp (disch := first | assumption | omega) only [w_TwoPrints_path_11, w_TwoPrints_path_12, w_TwoPrints_path_13, w_TwoPrints_path_16, w_TwoPrints_path_17, q_rd_eq, q_nt_0, q_nt_s, q_ld_tab, q_st_tab, q_aa13, q_aa14, q_is_eq, q_wr_eq, q_01_0, q_01_1, q_nz_nI, q_len_tab, psh_some, psh_none, sm_up_at, sm_up_ne, nI_add, nI_lt2, nI_le2, nI_eq2, ls_set0, ls_setS, Nat.reduceAdd, Nat.zero_add, Nat.add_zero, not_true_eq_false, not_false_eq_true, ite_true, ite_false, nI_rem3, nI_div2, nI_sub2, q_max_nI, q_min_nI, hneg]
    exact qe e he _ _ I2 (FrC.rfl.rh (by omega))
  · intro it pa ht av fl hfl
    have I2 := I.rh (av := av) (fv := -1) (pa := pa) (tk := trk pa) hfl
    obtain ⟨hit, okp⟩ := tellS_ok ht
    exact path_tail I2 rfl hit (fun h' j' I' F' => qk it pa ht h' j' I' ((FrC.rfl.rh (by omega)).trans F'))
end CPT
