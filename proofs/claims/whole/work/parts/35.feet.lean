/-! cows, both, tells, rate -/
theorem inr_x {x : Int32} {n : Nat} (hn : n + 1 < 2147483648) (h : ¬ inr x (n + 1)) : x < nI 0 ∨ (¬ x < nI 0 ∧ nI n < x ∧ ¬ x ≤ nI n) := by
  rcases inr_no hn h with q | ⟨q, q2⟩
  · exact Or.inl q
  · have e := nI_step hn q2
    exact Or.inr ⟨q, e.1, e.2.1⟩
theorem rem_le {P : PrS} {k x : Nat} (i y : Nat) : (remP P k x).1 i y ≤ P.1 i y := by
  show (if i = k ∧ y = x then 0 else P.1 i y) ≤ _
  split
  · exact Nat.zero_le _
  · exact Nat.le_refl _
theorem cow_le {P : PrS} {x : Nat} : ∀ n i y, (cowP P x n).1 i y ≤ P.1 i y
  | 0, _, _ => Nat.le_refl _
  | n + 1, i, y => Nat.le_trans (rem_le i y) (Nat.le_trans (rem_le i y) (cow_le n i y))
theorem cnt_le_of {B B' : Nat → Bool} (h : ∀ x, B x = true → B' x = true) : ∀ n, cnt B n ≤ cnt B' n
  | 0 => Nat.le_refl _
  | n + 1 => by
    have ih := cnt_le_of h n
    show cnt B n + (if B n = true then 1 else 0) ≤ cnt B' n + (if B' n = true then 1 else 0)
    by_cases hb : B n = true
    · rw [if_pos hb, if_pos (h n hb)]; omega
    · rw [if_neg hb]; omega
theorem nPr_le_of {P Q : PrS} {k n : Nat} (h : ∀ y, P.1 k y ≤ Q.1 k y) : nPr P k n ≤ nPr Q k n := cnt_le_of (fun x hx => by
  have := of_decide_eq_true hx
  have := h x
  exact decide_eq_true (by omega)) 61
section COW
variable {xs : List Int32} {h : sm_Hp} {K : Option Value → sm_Hp → Prop} {s : CS} {j : CJ} {k x n : Nat} {v u : Int32}
theorem cows_loop (I : InvC h s j) (hl : s.2.1.1.1 ≤ 60) (hx : x ≤ s.2.1.1.1) (hd : DepOk s.2.2.1) {had : Int32} (P0 : PrS) : ∀ m i a4, i + m = min 3 (s.2.1.1.1 + 1 - x) → Wp xs m_TwoPrints_cows 34 [.ref 0, .int (nI x), .int had, .int (nI (x + i)), a4] [] (setPr h 3 (cowP P0 x i)) 0 0 K = Wp xs m_TwoPrints_cows 83 [.ref 0, .int (nI x), .int had, .int (nI (x + (i + m))), if m = 0 then a4 else .int (nI 2)] [] (setPr h 3 (cowP P0 x (i + m))) 0 0 K := by
  intro m
  induction m with
  | zero =>
    intro i a4 hi
    have I2 := I.setP (cowP P0 x i)
    have H2 : PtAt (setPr h 3 (cowP P0 x i)) (cLp j) s.2.1 (trk s.2.1) := I2.pt
    rw [w_TwoPrints_cows_34]
    by_cases h3 : x + 3 ≤ x + i
    · simp (disch := first | assumption | omega) only [w_TwoPrints_cows_35, w_TwoPrints_cows_36, w_TwoPrints_cows_37, w_TwoPrints_cows_38, w_TwoPrints_cows_41, w_TwoPrints_cows_42, w_TwoPrints_cows_43, w_TwoPrints_cows_46, w_TwoPrints_cows_49, w_TwoPrints_cows_52, w_TwoPrints_cows_53, q_rd_eq, q_nt_0, q_nt_s, q_ld_tab, q_st_tab, q_aa13, q_aa14, q_is_eq, q_wr_eq, q_01_0, q_01_1, q_nz_nI, q_len_tab, psh_some, psh_none, sm_up_at, sm_up_ne, nI_add, nI_lt2, nI_le2, nI_eq2, ls_set0, ls_setS, Nat.reduceAdd, Nat.zero_add, Nat.add_zero, not_true_eq_false, not_false_eq_true, ite_true, ite_false, nI_rem3, nI_div2, nI_sub2, q_max_nI, q_min_nI, h3, if_true]
    · have h4 : s.2.1.1.1 < x + i := by omega
      simp (disch := first | assumption | omega) only [w_TwoPrints_cows_35, w_TwoPrints_cows_36, w_TwoPrints_cows_37, w_TwoPrints_cows_38, w_TwoPrints_cows_41, w_TwoPrints_cows_42, w_TwoPrints_cows_43, w_TwoPrints_cows_46, w_TwoPrints_cows_49, w_TwoPrints_cows_52, w_TwoPrints_cows_53, q_rd_eq, q_nt_0, q_nt_s, q_ld_tab, q_st_tab, q_aa13, q_aa14, q_is_eq, q_wr_eq, q_01_0, q_01_1, q_nz_nI, q_len_tab, psh_some, psh_none, sm_up_at, sm_up_ne, nI_add, nI_lt2, nI_le2, nI_eq2, ls_set0, ls_setS, Nat.reduceAdd, Nat.zero_add, Nat.add_zero, not_true_eq_false, not_false_eq_true, ite_true, ite_false, nI_rem3, nI_div2, nI_sub2, q_max_nI, q_min_nI, h3, h4, I2.o0, H2.c0, if_true]
  | succ m ih =>
    intro i a4 hi
    have I2 := I.setP (cowP P0 x i)
    have H2 : PtAt (setPr h 3 (cowP P0 x i)) (cLp j) s.2.1 (trk s.2.1) := I2.pt
    have HP2 : PrAt (setPr h 3 (cowP P0 x i)) 3 (cowP P0 x i) := I2.pr
    have I3 := I.setP (remP (cowP P0 x i) 0 (x + i))
    have HP3 : PrAt (setPr h 3 (remP (cowP P0 x i) 0 (x + i))) 3 (remP (cowP P0 x i) 0 (x + i)) := I3.pr
    have h3 : ¬ x + 3 ≤ x + i := by omega
    have h4 : ¬ s.2.1.1.1 < x + i := by omega
    have h20 : ¬ (2 : Nat) ≤ 0 := by omega
    have h21 : ¬ (2 : Nat) ≤ 1 := by omega
    have h22 : (2 : Nat) ≤ 2 := by omega
    rw [w_TwoPrints_cows_34]
    simp (disch := first | assumption | omega) only [w_TwoPrints_cows_35, w_TwoPrints_cows_36, w_TwoPrints_cows_37, w_TwoPrints_cows_38, w_TwoPrints_cows_41, w_TwoPrints_cows_42, w_TwoPrints_cows_43, w_TwoPrints_cows_46, w_TwoPrints_cows_49, w_TwoPrints_cows_52, w_TwoPrints_cows_53, w_TwoPrints_cows_55, w_TwoPrints_cows_57, w_TwoPrints_cows_58, w_TwoPrints_cows_61, w_TwoPrints_cows_62, w_TwoPrints_cows_65, w_TwoPrints_cows_67, w_TwoPrints_cows_68, w_TwoPrints_cows_71, w_TwoPrints_cows_74, w_TwoPrints_cows_77, w_TwoPrints_cows_80, q_rd_eq, q_nt_0, q_nt_s, q_ld_tab, q_st_tab, q_aa13, q_aa14, q_is_eq, q_wr_eq, q_01_0, q_01_1, q_nz_nI, q_len_tab, psh_some, psh_none, sm_up_at, sm_up_ne, nI_add, nI_lt2, nI_le2, nI_eq2, ls_set0, ls_setS, Nat.reduceAdd, Nat.zero_add, Nat.add_zero, not_true_eq_false, not_false_eq_true, ite_true, ite_false, nI_rem3, nI_div2, nI_sub2, q_max_nI, q_min_nI, h3, h4, h20, h21, h22, I2.o0, H2.c0, HP2.c0, p_remove HP2, setPr_twice, I3.o0, HP3.c0, p_remove HP3]
    have e := ih (i + 1) (.int (nI 2)) (by omega)
    rw [show i + 1 + m = i + (m + 1) by omega] at e
    rw [if_neg (by omega)]
    have e2 : (if m = 0 then Value.int (nI 2) else .int (nI 2)) = .int (nI 2) := by split <;> rfl
    rw [e2] at e
    exact e
theorem C_cows (I : InvC h s j) (ok : StOk s) (hx : x ≤ s.2.1.1.1) (q : GoC h (sCow s x) (K (some (.int (nI (nPr s.2.2.1 0 0 + nPr s.2.2.1 1 0 - (nPr (cowP s.2.2.1 x (nCow s x)) 0 0 + nPr (cowP s.2.2.1 x (nCow s x)) 1 0))))))) : Wp xs m_TwoPrints_cows 0 [.ref 0, .int (nI x), .null, .null, .null] [] h 0 0 K := by
  have h1 : ¬ (1 : Nat) = 0 := by omega
  have hl := ok.2.1.2.1
  have H := I.pt
  have hnx := ok.2.2.2.1.1
  have hkn := ok.2.2.2.1.2.1
  have I2 := I.rem hnx
  have HP2 : PrAt (remH h s.2.2.1 s.2.2.2.1.2.1 s.2.2.2.1.2.2) 3 s.2.2.1 := I2.pr
  have hd := ok.dep
  have hd2 : DepOk (cowP s.2.2.1 x (nCow s x)) := fun k y => Nat.le_trans (cow_le _ k y) (hd k y)
  have I3 := I2.setP (cowP s.2.2.1 x (nCow s x))
  have HP3 : PrAt (setPr (remH h s.2.2.1 s.2.2.2.1.2.1 s.2.2.2.1.2.2) 3 (cowP s.2.2.1 x (nCow s x))) 3 (cowP s.2.2.1 x (nCow s x)) := I3.pr
  have hle : nPr (cowP s.2.2.1 x (nCow s x)) 0 0 + nPr (cowP s.2.2.1 x (nCow s x)) 1 0 ≤ nPr s.2.2.1 0 0 + nPr s.2.2.1 1 0 := Nat.add_le_add (nPr_le_of (fun y => cow_le _ 0 y)) (nPr_le_of (fun y => cow_le _ 1 y))
  simp (disch := first | assumption | omega) only [w_TwoPrints_cows_0, w_TwoPrints_cows_1, w_TwoPrints_cows_4, w_TwoPrints_cows_5, w_TwoPrints_cows_8, w_TwoPrints_cows_11, w_TwoPrints_cows_12, w_TwoPrints_cows_13, w_TwoPrints_cows_14, w_TwoPrints_cows_17, w_TwoPrints_cows_18, w_TwoPrints_cows_21, w_TwoPrints_cows_24, w_TwoPrints_cows_25, w_TwoPrints_cows_28, w_TwoPrints_cows_31, w_TwoPrints_cows_32, w_TwoPrints_cows_33, q_rd_eq, q_nt_0, q_nt_s, q_ld_tab, q_st_tab, q_aa13, q_aa14, q_is_eq, q_wr_eq, q_01_0, q_01_1, q_nz_nI, q_len_tab, psh_some, psh_none, sm_up_at, sm_up_ne, nI_add, nI_lt2, nI_le2, nI_eq2, ls_set0, ls_setS, Nat.reduceAdd, Nat.zero_add, Nat.add_zero, not_true_eq_false, not_false_eq_true, ite_true, ite_false, nI_rem3, nI_div2, nI_sub2, q_max_nI, q_min_nI, I.o0, I.pt.c0, p_foot_in H, h1, I.pr.c0, I.o10, c_remember I hnx hkn, I2.o0, HP2.c0, p_ofBoth HP2]
  have e := cows_loop (xs := xs) (K := K) I2 (x := x) hl hx hd (had := nI (nPr s.2.2.1 0 0 + nPr s.2.2.1 1 0)) s.2.2.1 (nCow s x) 0 .null (by rw [Nat.zero_add]; rfl)
  rw [show cowP s.2.2.1 x 0 = s.2.2.1 from rfl, setPr_self HP2, Nat.zero_add, Nat.add_zero] at e
  rw [e]
  simp (disch := first | assumption | omega) only [w_TwoPrints_cows_83, w_TwoPrints_cows_84, w_TwoPrints_cows_85, w_TwoPrints_cows_88, w_TwoPrints_cows_91, w_TwoPrints_cows_92, q_rd_eq, q_nt_0, q_nt_s, q_ld_tab, q_st_tab, q_aa13, q_aa14, q_is_eq, q_wr_eq, q_01_0, q_01_1, q_nz_nI, q_len_tab, psh_some, psh_none, sm_up_at, sm_up_ne, nI_add, nI_lt2, nI_le2, nI_eq2, ls_set0, ls_setS, Nat.reduceAdd, Nat.zero_add, Nat.add_zero, not_true_eq_false, not_false_eq_true, ite_true, ite_false, nI_rem3, nI_div2, nI_sub2, q_max_nI, q_min_nI, I3.o0, HP3.c0, p_ofBoth HP3]
  exact q _ j I3 ((FrC.rfl.rem hnx).pr (by omega))
theorem c_cowsX (I : InvC h s j) (ok : StOk s) (hu : ¬ inr u (s.2.1.1.1 + 1)) : Wp xs m_TwoPrints_cows 0 [.ref 0, .int u, .null, .null, .null] [] h 0 0 K = K (some (.int (-1))) h := by
  simp (disch := first | assumption | omega) only [w_TwoPrints_cows_0, w_TwoPrints_cows_1, w_TwoPrints_cows_4, w_TwoPrints_cows_5, w_TwoPrints_cows_8, w_TwoPrints_cows_11, w_TwoPrints_cows_12, w_TwoPrints_cows_13, w_TwoPrints_cows_14, w_TwoPrints_cows_17, w_TwoPrints_cows_18, w_TwoPrints_cows_21, w_TwoPrints_cows_24, w_TwoPrints_cows_25, w_TwoPrints_cows_28, w_TwoPrints_cows_31, w_TwoPrints_cows_32, w_TwoPrints_cows_33, q_rd_eq, q_nt_0, q_nt_s, q_ld_tab, q_st_tab, q_aa13, q_aa14, q_is_eq, q_wr_eq, q_01_0, q_01_1, q_nz_nI, q_len_tab, psh_some, psh_none, sm_up_at, sm_up_ne, nI_add, nI_lt2, nI_le2, nI_eq2, ls_set0, ls_setS, Nat.reduceAdd, Nat.zero_add, Nat.add_zero, not_true_eq_false, not_false_eq_true, ite_true, ite_false, nI_rem3, nI_div2, nI_sub2, q_max_nI, q_min_nI, I.o0, I.pt.c0, hasFootX I ok hu]
/-! the n-th foot -/
def nthF (B : Nat → Bool) (k : Int32) : Nat → Nat → Nat → Int32
  | 0, _, _ => -9
  | m + 1, x, p => if B x = true then (if nI p = k then nI x else nthF B k m (x + 1) (p + 1)) else nthF B k m (x + 1) p
theorem nth_loop {F : Nat} (hF : F < 2 ^ 61) {w : Value} : ∀ m x p, x + m = 61 → Wp xs m_TwoPrints_nthFoot 5 [.long (lN F), w, .int u, .int (nI p), .int (nI x)] [] h 0 0 K = K (some (.int (nthF (fun i => F.testBit i) u m x p))) h := by
  have h61 : (2 : Nat) ^ 61 = 2305843009213693952 := by decide
  intro m
  induction m with
  | zero =>
    intro x p hx
    have e : x = 61 := by omega
    subst e
    rw [w_TwoPrints_nthFoot_5]
    simp (disch := omega) only [w_TwoPrints_nthFoot_0, w_TwoPrints_nthFoot_1, w_TwoPrints_nthFoot_2, w_TwoPrints_nthFoot_3, w_TwoPrints_nthFoot_7, w_TwoPrints_nthFoot_9, w_TwoPrints_nthFoot_12, w_TwoPrints_nthFoot_13, w_TwoPrints_nthFoot_15, w_TwoPrints_nthFoot_16, w_TwoPrints_nthFoot_17, w_TwoPrints_nthFoot_18, w_TwoPrints_nthFoot_19, w_TwoPrints_nthFoot_20, w_TwoPrints_nthFoot_23, w_TwoPrints_nthFoot_24, w_TwoPrints_nthFoot_25, w_TwoPrints_nthFoot_28, w_TwoPrints_nthFoot_30, w_TwoPrints_nthFoot_31, w_TwoPrints_nthFoot_34, w_TwoPrints_nthFoot_37, w_TwoPrints_nthFoot_40, w_TwoPrints_nthFoot_42, q_rd_eq, q_nt_0, q_nt_s, q_ld_tab, q_st_tab, q_aa13, q_aa14, q_is_eq, q_wr_eq, q_01_0, q_01_1, q_nz_nI, q_len_tab, psh_some, psh_none, sm_up_at, sm_up_ne, nI_add, nI_lt2, nI_le2, nI_eq2, ls_set0, ls_setS, Nat.reduceAdd, Nat.zero_add, Nat.add_zero, not_true_eq_false, not_false_eq_true, ite_true, ite_false, nI_rem3, nI_div2, nI_sub2, q_max_nI, q_min_nI, Nat.le_refl]
    rfl
  | succ m ih =>
    intro x p hx
    have h1 : ¬ (61 : Nat) ≤ x := by omega
    have hb := bitI_le F x
    rw [w_TwoPrints_nthFoot_5]
    simp (disch := omega) only [w_TwoPrints_nthFoot_0, w_TwoPrints_nthFoot_1, w_TwoPrints_nthFoot_2, w_TwoPrints_nthFoot_3, w_TwoPrints_nthFoot_7, w_TwoPrints_nthFoot_9, w_TwoPrints_nthFoot_12, w_TwoPrints_nthFoot_13, w_TwoPrints_nthFoot_15, w_TwoPrints_nthFoot_16, w_TwoPrints_nthFoot_17, w_TwoPrints_nthFoot_18, w_TwoPrints_nthFoot_19, w_TwoPrints_nthFoot_20, w_TwoPrints_nthFoot_23, w_TwoPrints_nthFoot_24, w_TwoPrints_nthFoot_25, w_TwoPrints_nthFoot_28, w_TwoPrints_nthFoot_30, w_TwoPrints_nthFoot_31, w_TwoPrints_nthFoot_34, w_TwoPrints_nthFoot_37, w_TwoPrints_nthFoot_40, w_TwoPrints_nthFoot_42, q_rd_eq, q_nt_0, q_nt_s, q_ld_tab, q_st_tab, q_aa13, q_aa14, q_is_eq, q_wr_eq, q_01_0, q_01_1, q_nz_nI, q_len_tab, psh_some, psh_none, sm_up_at, sm_up_ne, nI_add, nI_lt2, nI_le2, nI_eq2, ls_set0, ls_setS, Nat.reduceAdd, Nat.zero_add, Nat.add_zero, not_true_eq_false, not_false_eq_true, ite_true, ite_false, nI_rem3, nI_div2, nI_sub2, q_max_nI, q_min_nI, h1, bl_test]
    unfold nthF
    by_cases hc : F.testBit x = true
    · have e : bitI F x = 1 := by unfold bitI; rw [hc]; rfl
      rw [e, if_neg (by omega), if_pos hc]
      by_cases hu : nI p = u
      · rw [if_neg (not_not_intro hu), if_pos hu]
      · rw [if_pos hu, if_neg hu]
        exact ih _ _ (by omega)
    · have e : bitI F x = 0 := by unfold bitI; rw [if_neg hc]
      rw [e, if_pos rfl, if_neg hc]
      exact ih _ _ (by omega)
theorem e_nth {F : Nat} (hF : F < 2 ^ 61) {w : Value} : Wp xs m_TwoPrints_nthFoot 0 [.long (lN F), w, .int u, .null, .null] [] h 0 0 K = K (some (.int (nthF (fun i => F.testBit i) u 61 0 0))) h := by
  simp (disch := omega) only [w_TwoPrints_nthFoot_0, w_TwoPrints_nthFoot_1, w_TwoPrints_nthFoot_2, w_TwoPrints_nthFoot_3, w_TwoPrints_nthFoot_7, w_TwoPrints_nthFoot_9, w_TwoPrints_nthFoot_12, w_TwoPrints_nthFoot_13, w_TwoPrints_nthFoot_15, w_TwoPrints_nthFoot_16, w_TwoPrints_nthFoot_17, w_TwoPrints_nthFoot_18, w_TwoPrints_nthFoot_19, w_TwoPrints_nthFoot_20, w_TwoPrints_nthFoot_23, w_TwoPrints_nthFoot_24, w_TwoPrints_nthFoot_25, w_TwoPrints_nthFoot_28, w_TwoPrints_nthFoot_30, w_TwoPrints_nthFoot_31, w_TwoPrints_nthFoot_34, w_TwoPrints_nthFoot_37, w_TwoPrints_nthFoot_40, w_TwoPrints_nthFoot_42, q_rd_eq, q_nt_0, q_nt_s, q_ld_tab, q_st_tab, q_aa13, q_aa14, q_is_eq, q_wr_eq, q_01_0, q_01_1, q_nz_nI, q_len_tab, psh_some, psh_none, sm_up_at, sm_up_ne, nI_add, nI_lt2, nI_le2, nI_eq2, ls_set0, ls_setS, Nat.reduceAdd, Nat.zero_add, Nat.add_zero, not_true_eq_false, not_false_eq_true, ite_true, ite_false, nI_rem3, nI_div2, nI_sub2, q_max_nI, q_min_nI]
  exact nth_loop hF 61 0 0 (by omega)
def bothI (pa : PathS) (u : Int32) : Int32 := if u = -1 then nI (cnt (fun i => (trk pa 0 &&& trk pa 1).testBit i) 64) else nthF (fun i => (trk pa 0 &&& trk pa 1).testBit i) u 61 0 0
theorem c_both (I : InvC h s j) (ok : StOk s) (hu : (-1 : Int32) ≤ u) : Wp xs m_TwoPrints_both 0 [.ref 0, .int u, .null, .null] [] h 0 0 K = K (some (.int (bothI s.2.1 u))) h := by
  have hF : trk s.2.1 0 &&& trk s.2.1 1 < 2 ^ 61 := and_lt (pow61 ok.2.1.2.1 (trk_lt ok.2.1 (j := 0) (by omega)))
  simp (disch := first | assumption | omega) only [w_TwoPrints_both_0, w_TwoPrints_both_1, w_TwoPrints_both_2, w_TwoPrints_both_5, w_TwoPrints_both_6, w_TwoPrints_both_7, w_TwoPrints_both_8, w_TwoPrints_both_11, w_TwoPrints_both_14, w_TwoPrints_both_15, w_TwoPrints_both_16, w_TwoPrints_both_17, w_TwoPrints_both_20, w_TwoPrints_both_23, w_TwoPrints_both_24, w_TwoPrints_both_25, w_TwoPrints_both_26, w_TwoPrints_both_27, w_TwoPrints_both_28, w_TwoPrints_both_29, w_TwoPrints_both_32, w_TwoPrints_both_33, w_TwoPrints_both_36, w_TwoPrints_both_39, w_TwoPrints_both_40, w_TwoPrints_both_41, w_TwoPrints_both_44, q_rd_eq, q_nt_0, q_nt_s, q_ld_tab, q_st_tab, q_aa13, q_aa14, q_is_eq, q_wr_eq, q_01_0, q_01_1, q_nz_nI, q_len_tab, psh_some, psh_none, sm_up_at, sm_up_ne, nI_add, nI_lt2, nI_le2, nI_eq2, ls_set0, ls_setS, Nat.reduceAdd, Nat.zero_add, Nat.add_zero, not_true_eq_false, not_false_eq_true, ite_true, ite_false, nI_rem3, nI_div2, nI_sub2, q_max_nI, q_min_nI, hu, I.o0, I.pt.c0, I.pt.c4, bl_and, e_bitCount, e_nth]
  unfold bothI
  by_cases h1 : u = -1
  · rw [if_neg (not_not_intro h1), if_pos h1]
  · rw [if_pos h1, if_neg h1]
theorem c_bothX (hu : ¬ (-1 : Int32) ≤ u) : Wp xs m_TwoPrints_both 0 [.ref 0, .int u, .null, .null] [] h 0 0 K = K (some (.int (-1))) h := by
  simp (disch := first | assumption | omega) only [w_TwoPrints_both_0, w_TwoPrints_both_1, w_TwoPrints_both_2, w_TwoPrints_both_5, w_TwoPrints_both_6, w_TwoPrints_both_7, w_TwoPrints_both_8, w_TwoPrints_both_11, w_TwoPrints_both_14, w_TwoPrints_both_15, w_TwoPrints_both_16, w_TwoPrints_both_17, w_TwoPrints_both_20, w_TwoPrints_both_23, w_TwoPrints_both_24, w_TwoPrints_both_25, w_TwoPrints_both_26, w_TwoPrints_both_27, w_TwoPrints_both_28, w_TwoPrints_both_29, w_TwoPrints_both_32, w_TwoPrints_both_33, w_TwoPrints_both_36, w_TwoPrints_both_39, w_TwoPrints_both_40, w_TwoPrints_both_41, w_TwoPrints_both_44, q_rd_eq, q_nt_0, q_nt_s, q_ld_tab, q_st_tab, q_aa13, q_aa14, q_is_eq, q_wr_eq, q_01_0, q_01_1, q_nz_nI, q_len_tab, psh_some, psh_none, sm_up_at, sm_up_ne, nI_add, nI_lt2, nI_le2, nI_eq2, ls_set0, ls_setS, Nat.reduceAdd, Nat.zero_add, Nat.add_zero, not_true_eq_false, not_false_eq_true, ite_true, ite_false, nI_rem3, nI_div2, nI_sub2, q_max_nI, q_min_nI, hu]
theorem c_tells (I : InvC h s j) (ok : StOk s) (hk : k < 4) (hn : n < 4) : Wp xs m_TwoPrints_tells 0 [.ref 0, .int (nI k), .int (nI n)] [] h 0 0 K = K (some (.int (nthF (fun i => (trk s.2.1 k ^^^ trk s.2.1 n).testBit i) (nI 0) 61 0 0))) h := by
  have h1 : ¬ (1 : Nat) = 0 := by omega
  have hF : trk s.2.1 k ^^^ trk s.2.1 n < 2 ^ 61 := Nat.xor_lt_two_pow (pow61 ok.2.1.2.1 (trk_lt ok.2.1 hk)) (pow61 ok.2.1.2.1 (trk_lt ok.2.1 hn))
  simp (disch := first | assumption | omega) only [w_TwoPrints_tells_0, w_TwoPrints_tells_1, w_TwoPrints_tells_4, w_TwoPrints_tells_7, w_TwoPrints_tells_8, w_TwoPrints_tells_11, w_TwoPrints_tells_14, w_TwoPrints_tells_15, w_TwoPrints_tells_16, w_TwoPrints_tells_17, w_TwoPrints_tells_20, w_TwoPrints_tells_23, w_TwoPrints_tells_24, w_TwoPrints_tells_25, w_TwoPrints_tells_26, w_TwoPrints_tells_29, w_TwoPrints_tells_32, w_TwoPrints_tells_33, w_TwoPrints_tells_34, w_TwoPrints_tells_35, w_TwoPrints_tells_36, w_TwoPrints_tells_39, q_rd_eq, q_nt_0, q_nt_s, q_ld_tab, q_st_tab, q_aa13, q_aa14, q_is_eq, q_wr_eq, q_01_0, q_01_1, q_nz_nI, q_len_tab, psh_some, psh_none, sm_up_at, sm_up_ne, nI_add, nI_lt2, nI_le2, nI_eq2, ls_set0, ls_setS, Nat.reduceAdd, Nat.zero_add, Nat.add_zero, not_true_eq_false, not_false_eq_true, ite_true, ite_false, nI_rem3, nI_div2, nI_sub2, q_max_nI, q_min_nI, t_isTrack, h1, I.o0, I.pt.c0, I.pt.c4, bl_xor, e_nth]
theorem c_tellsX (hb : ¬ inr v 4 ∨ ¬ inr u 4) : Wp xs m_TwoPrints_tells 0 [.ref 0, .int v, .int u] [] h 0 0 K = K (some (.int (-1))) h := by
  have h1 : ¬ (1 : Nat) = 0 := by omega
  by_cases hv : inr v 4
  · obtain ⟨k, hk, rfl⟩ := hv
    have hu : ¬ inr u 4 := hb.elim (fun q => absurd ⟨k, hk, rfl⟩ q) id
    simp (disch := first | assumption | omega) only [w_TwoPrints_tells_0, w_TwoPrints_tells_1, w_TwoPrints_tells_4, w_TwoPrints_tells_7, w_TwoPrints_tells_8, w_TwoPrints_tells_11, w_TwoPrints_tells_14, w_TwoPrints_tells_15, w_TwoPrints_tells_16, w_TwoPrints_tells_17, w_TwoPrints_tells_20, w_TwoPrints_tells_23, w_TwoPrints_tells_24, w_TwoPrints_tells_25, w_TwoPrints_tells_26, w_TwoPrints_tells_29, w_TwoPrints_tells_32, w_TwoPrints_tells_33, w_TwoPrints_tells_34, w_TwoPrints_tells_35, w_TwoPrints_tells_36, w_TwoPrints_tells_39, q_rd_eq, q_nt_0, q_nt_s, q_ld_tab, q_st_tab, q_aa13, q_aa14, q_is_eq, q_wr_eq, q_01_0, q_01_1, q_nz_nI, q_len_tab, psh_some, psh_none, sm_up_at, sm_up_ne, nI_add, nI_lt2, nI_le2, nI_eq2, ls_set0, ls_setS, Nat.reduceAdd, Nat.zero_add, Nat.add_zero, not_true_eq_false, not_false_eq_true, ite_true, ite_false, nI_rem3, nI_div2, nI_sub2, q_max_nI, q_min_nI, t_isTrack, f_isTrack, h1]
  · simp (disch := first | assumption | omega) only [w_TwoPrints_tells_0, w_TwoPrints_tells_1, w_TwoPrints_tells_4, w_TwoPrints_tells_7, w_TwoPrints_tells_8, w_TwoPrints_tells_11, w_TwoPrints_tells_14, w_TwoPrints_tells_15, w_TwoPrints_tells_16, w_TwoPrints_tells_17, w_TwoPrints_tells_20, w_TwoPrints_tells_23, w_TwoPrints_tells_24, w_TwoPrints_tells_25, w_TwoPrints_tells_26, w_TwoPrints_tells_29, w_TwoPrints_tells_32, w_TwoPrints_tells_33, w_TwoPrints_tells_34, w_TwoPrints_tells_35, w_TwoPrints_tells_36, w_TwoPrints_tells_39, q_rd_eq, q_nt_0, q_nt_s, q_ld_tab, q_st_tab, q_aa13, q_aa14, q_is_eq, q_wr_eq, q_01_0, q_01_1, q_nz_nI, q_len_tab, psh_some, psh_none, sm_up_at, sm_up_ne, nI_add, nI_lt2, nI_le2, nI_eq2, ls_set0, ls_setS, Nat.reduceAdd, Nat.zero_add, Nat.add_zero, not_true_eq_false, not_false_eq_true, ite_true, ite_false, nI_rem3, nI_div2, nI_sub2, q_max_nI, q_min_nI, f_isTrack]
/-! prints by kinds -/
theorem e_ones16 (hn : n < 16) : Wp xs m_Integer_bitCount 0 [.int (nI n)] [] h 0 0 K = K (some (.int (nI (cnt (fun i => n.testBit i) 6)))) h := by
  simp only [w_Integer_bitCount_0, w_Integer_bitCount_1, w_Integer_bitCount_2, w_Integer_bitCount_3, w_Integer_bitCount_4, w_Integer_bitCount_7, w_Integer_bitCount_8, w_Integer_bitCount_9, w_Integer_bitCount_10, w_Integer_bitCount_11, w_Integer_bitCount_14, w_Integer_bitCount_15, w_Integer_bitCount_16, w_Integer_bitCount_17, w_Integer_bitCount_18, w_Integer_bitCount_21, w_Integer_bitCount_22, w_Integer_bitCount_23, w_Integer_bitCount_24, w_Integer_bitCount_25, w_Integer_bitCount_26, w_Integer_bitCount_27, w_Integer_bitCount_28, w_Integer_bitCount_29, w_Integer_bitCount_32, w_Integer_bitCount_33, w_Integer_bitCount_34, w_Integer_bitCount_35, w_Integer_bitCount_36, w_Integer_bitCount_38, w_Integer_bitCount_39, w_Integer_bitCount_40, w_Integer_bitCount_41, w_Integer_bitCount_42, w_Integer_bitCount_43, w_Integer_bitCount_45, w_Integer_bitCount_46, w_Integer_bitCount_47, w_Integer_bitCount_48, w_Integer_bitCount_49, w_Integer_bitCount_51, w_Integer_bitCount_52]
  refine congrArg (fun v => K (some (.int v)) h) ?_
  revert n
  decide +kernel
theorem twN_lt (f : Nat) (tk : Nat → Nat) : twN f tk 4 < 16 := by
  have h : ∀ n, twN f tk n < 2 ^ n := by
    intro n
    induction n with
    | zero => show twN f tk 0 < 1; exact Nat.zero_lt_one
    | succ n ih =>
      show (if andn f (tk n) = 0 then twN f tk n ||| 2 ^ n else twN f tk n) < _
      have h1 : 2 ^ n < 2 ^ (n + 1) := Nat.pow_lt_pow_right (by decide) (by omega)
      split
      · exact or_lt (by omega) h1
      · omega
  exact h 4
def rateI (s : CS) (x : Nat) : Nat → Int32
  | 0 => nI (s.2.2.1.1 0 x)
  | 1 => nI (s.2.2.1.1 0 x + s.2.2.1.1 1 x)
  | 2 => nI (s.2.2.1.1 0 x) - nI x
  | 3 => nI (2 * (s.2.2.1.1 0 x + s.2.2.1.1 1 x))
  | 4 => nI (s.2.2.1.1 0 x) - nI x + nI (cnt (fun i => (twN (2 ^ x) (trk s.2.1) 4).testBit i) 6)
  | _ => nI (s.2.2.1.1 0 x + s.2.2.1.2.2.1 0 + s.2.2.1.2.2.1 1)
def rateT : Nat → Int64
  | 0 => 1
  | 1 => 11
  | 2 => 101
  | 3 => 1011
  | 4 => 10101
  | _ => 100001
theorem C_rate (I : InvC h s j) (ok : StOk s) (hn : n < 6) (hx : x ≤ s.2.1.1.1) (q : GoC h (sTr s (s.2.2.2.2.2.2 + rateT n)) (K (some (.int (rateI s x n))))) : Wp xs m_TwoPrints_rate 0 [.ref 0, .int (nI n), .int (nI x)] [] h 0 0 K := by
  have h1 : ¬ (1 : Nat) = 0 := by omega
  have hl := ok.2.1.2.1
  have H := I.pt
  have q' : ∀ t, t = s.2.2.2.2.2.2 + rateT n → K (some (.int (rateI s x n))) (sm_up h 0 (5, [.ref 1, .ref 3, .ref 10, .ref 68, .ref 69, .ref 70, .ref (cLp j), .ref (cDp j), .long (lN s.2.2.2.2.2.1.1), .int (nI s.2.2.2.2.2.1.2), .long t])) := fun t et => q _ j (et ▸ I.obj _ _ t) (FrC.rfl.up (by omega))
  have HTu : ∀ y, PtAt (sm_up h 0 y) (cLp j) s.2.1 (trk s.2.1) := fun y => I.pt.up (by have := cLp_or j; omega)
  have hj := cLp_or j
  have d0 := I.pr.c0
  have d1 : h.1 4 = (13, tab 2 (fun k => .ref (3 + 2 + k))) := I.pr.c1
  have d2 : h.1 5 = (10, tab 61 (fun x => .int (nI (s.2.2.1.1 0 x)))) := I.pr.c2 (k := 0) (by omega)
  have d3 : h.1 6 = (10, tab 61 (fun x => .int (nI (s.2.2.1.1 1 x)))) := I.pr.c2 (k := 1) (by omega)
  have d5 : h.1 8 = (10, tab 2 (fun k => .int (nI (s.2.2.1.2.2.1 k)))) := I.pr.c5
  have t0 := I.pt.c0
  have w1 : s.2.2.2.2.2.2 + 10 + 1 = s.2.2.2.2.2.2 + rateT 1 := (Int64.add_assoc _ _ _).trans (congrArg (s.2.2.2.2.2.2 + ·) (by decide))
  have w2 : s.2.2.2.2.2.2 + 100 + 1 = s.2.2.2.2.2.2 + rateT 2 := (Int64.add_assoc _ _ _).trans (congrArg (s.2.2.2.2.2.2 + ·) (by decide))
  have w3 : s.2.2.2.2.2.2 + 1000 + 10 + 1 = s.2.2.2.2.2.2 + rateT 3 := by rw [Int64.add_assoc, Int64.add_assoc]; exact congrArg (s.2.2.2.2.2.2 + ·) (by decide)
  have w4 : s.2.2.2.2.2.2 + 10000 + 100 + 1 = s.2.2.2.2.2.2 + rateT 4 := by rw [Int64.add_assoc, Int64.add_assoc]; exact congrArg (s.2.2.2.2.2.2 + ·) (by decide)
  have w5 : s.2.2.2.2.2.2 + 100000 + 1 = s.2.2.2.2.2.2 + rateT 5 := (Int64.add_assoc _ _ _).trans (congrArg (s.2.2.2.2.2.2 + ·) (by decide))
  have hp : 2 ^ x < 2 ^ 61 := Nat.pow_lt_pow_right (by decide) (by omega)
  have ew : ∀ y K, Wp xs m_Path_tracksWith 0 [.ref (cLp j), .long (lN (2 ^ x)), .null, .null, .null] [] (sm_up h 0 y) 0 0 K = K (some (.int (nI (twN (2 ^ x) (trk s.2.1) 4)))) (sm_up h 0 y) := fun y K => p_with (HTu y) hp
  have h16 := twN_lt (2 ^ x) (trk s.2.1)
  have hc : n = 0 ∨ n = 1 ∨ n = 2 ∨ n = 3 ∨ n = 4 ∨ n = 5 := by omega
  rcases hc with rfl | rfl | rfl | rfl | rfl | rfl
  · simp (disch := first | assumption | omega) only [w_TwoPrints_rate_0, w_TwoPrints_rate_1, w_TwoPrints_rate_4, w_TwoPrints_rate_5, w_TwoPrints_rate_8, w_TwoPrints_rate_11, w_TwoPrints_rate_14, w_TwoPrints_rate_15, w_TwoPrints_rate_56, w_TwoPrints_rate_57, w_TwoPrints_rate_58, w_TwoPrints_rate_61, w_TwoPrints_rate_62, w_TwoPrints_rate_63, w_TwoPrints_rate_64, w_TwoPrints_rate_67, w_TwoPrints_rate_68, w_TwoPrints_rate_69, w_TwoPrints_rate_70, w_TwoPrints_rate_73, w_TwoPrints_rate_74, w_TwoPrints_rate_75, w_TwoPrints_rate_76, w_TwoPrints_rate_79, w_TwoPrints_rate_80, w_TwoPrints_rate_81, w_TwoPrints_rate_82, w_TwoPrints_rate_85, w_TwoPrints_rate_86, w_TwoPrints_rate_87, w_TwoPrints_rate_88, w_TwoPrints_rate_91, w_TwoPrints_rate_92, w_TwoPrints_rate_95, w_TwoPrints_asFoot_0, w_TwoPrints_asFoot_1, w_TwoPrints_asFoot_2, w_TwoPrints_asFoot_5, w_TwoPrints_asFoot_6, w_TwoPrints_asFoot_7, w_TwoPrints_asFoot_10, w_TwoPrints_asFoot_11, w_TwoPrints_asFoot_14, w_TwoPrints_asFoot_17, w_TwoPrints_asFoot_18, w_TwoPrints_asFoot_19, w_TwoPrints_asFoot_20, w_TwoPrints_asFoot_21, q_rd_eq, q_nt_0, q_nt_s, q_ld_tab, q_st_tab, q_aa13, q_aa14, q_is_eq, q_wr_eq, q_01_0, q_01_1, q_nz_nI, q_len_tab, psh_some, psh_none, sm_up_at, sm_up_ne, nI_add, nI_lt2, nI_le2, nI_eq2, ls_set0, ls_setS, Nat.reduceAdd, Nat.zero_add, Nat.add_zero, not_true_eq_false, not_false_eq_true, ite_true, ite_false, nI_rem3, nI_div2, nI_sub2, q_max_nI, q_min_nI, I.o0, I.pt.c0, p_foot_in H, h1, w_TwoPrints_rate_16_0, d0, d1, d2, sm_up_twice]
    exact q' _ rfl
  · simp (disch := first | assumption | omega) only [w_TwoPrints_rate_0, w_TwoPrints_rate_1, w_TwoPrints_rate_4, w_TwoPrints_rate_5, w_TwoPrints_rate_8, w_TwoPrints_rate_11, w_TwoPrints_rate_14, w_TwoPrints_rate_15, w_TwoPrints_rate_56, w_TwoPrints_rate_57, w_TwoPrints_rate_58, w_TwoPrints_rate_61, w_TwoPrints_rate_62, w_TwoPrints_rate_63, w_TwoPrints_rate_64, w_TwoPrints_rate_67, w_TwoPrints_rate_68, w_TwoPrints_rate_69, w_TwoPrints_rate_70, w_TwoPrints_rate_73, w_TwoPrints_rate_74, w_TwoPrints_rate_75, w_TwoPrints_rate_76, w_TwoPrints_rate_79, w_TwoPrints_rate_80, w_TwoPrints_rate_81, w_TwoPrints_rate_82, w_TwoPrints_rate_85, w_TwoPrints_rate_86, w_TwoPrints_rate_87, w_TwoPrints_rate_88, w_TwoPrints_rate_91, w_TwoPrints_rate_92, w_TwoPrints_rate_95, w_TwoPrints_asFoot_0, w_TwoPrints_asFoot_1, w_TwoPrints_asFoot_2, w_TwoPrints_asFoot_5, w_TwoPrints_asFoot_6, w_TwoPrints_asFoot_7, w_TwoPrints_asFoot_10, w_TwoPrints_asFoot_11, w_TwoPrints_asFoot_14, w_TwoPrints_asFoot_17, w_TwoPrints_asFoot_18, w_TwoPrints_asFoot_19, w_TwoPrints_asFoot_20, w_TwoPrints_asFoot_21, w_TwoPrints_asBoot_0, w_TwoPrints_asBoot_1, w_TwoPrints_asBoot_2, w_TwoPrints_asBoot_5, w_TwoPrints_asBoot_8, w_TwoPrints_asBoot_9, w_TwoPrints_asBoot_12, w_TwoPrints_asBoot_13, w_TwoPrints_asBoot_14, w_TwoPrints_asBoot_17, w_TwoPrints_asBoot_18, w_TwoPrints_asBoot_21, w_TwoPrints_asBoot_24, w_TwoPrints_asBoot_25, w_TwoPrints_asBoot_26, w_TwoPrints_asBoot_27, w_TwoPrints_asBoot_28, w_TwoPrints_asBoot_29, q_rd_eq, q_nt_0, q_nt_s, q_ld_tab, q_st_tab, q_aa13, q_aa14, q_is_eq, q_wr_eq, q_01_0, q_01_1, q_nz_nI, q_len_tab, psh_some, psh_none, sm_up_at, sm_up_ne, nI_add, nI_lt2, nI_le2, nI_eq2, ls_set0, ls_setS, Nat.reduceAdd, Nat.zero_add, Nat.add_zero, not_true_eq_false, not_false_eq_true, ite_true, ite_false, nI_rem3, nI_div2, nI_sub2, q_max_nI, q_min_nI, I.o0, I.pt.c0, p_foot_in H, h1, w_TwoPrints_rate_16_1, d0, d1, d2, d3, sm_up_twice]
    exact q' _ w1
  · simp (disch := first | assumption | omega) only [w_TwoPrints_rate_0, w_TwoPrints_rate_1, w_TwoPrints_rate_4, w_TwoPrints_rate_5, w_TwoPrints_rate_8, w_TwoPrints_rate_11, w_TwoPrints_rate_14, w_TwoPrints_rate_15, w_TwoPrints_rate_56, w_TwoPrints_rate_57, w_TwoPrints_rate_58, w_TwoPrints_rate_61, w_TwoPrints_rate_62, w_TwoPrints_rate_63, w_TwoPrints_rate_64, w_TwoPrints_rate_67, w_TwoPrints_rate_68, w_TwoPrints_rate_69, w_TwoPrints_rate_70, w_TwoPrints_rate_73, w_TwoPrints_rate_74, w_TwoPrints_rate_75, w_TwoPrints_rate_76, w_TwoPrints_rate_79, w_TwoPrints_rate_80, w_TwoPrints_rate_81, w_TwoPrints_rate_82, w_TwoPrints_rate_85, w_TwoPrints_rate_86, w_TwoPrints_rate_87, w_TwoPrints_rate_88, w_TwoPrints_rate_91, w_TwoPrints_rate_92, w_TwoPrints_rate_95, w_TwoPrints_asFoot_0, w_TwoPrints_asFoot_1, w_TwoPrints_asFoot_2, w_TwoPrints_asFoot_5, w_TwoPrints_asFoot_6, w_TwoPrints_asFoot_7, w_TwoPrints_asFoot_10, w_TwoPrints_asFoot_11, w_TwoPrints_asFoot_14, w_TwoPrints_asFoot_17, w_TwoPrints_asFoot_18, w_TwoPrints_asFoot_19, w_TwoPrints_asFoot_20, w_TwoPrints_asFoot_21, w_TwoPrints_asChild_0, w_TwoPrints_asChild_1, w_TwoPrints_asChild_2, w_TwoPrints_asChild_5, w_TwoPrints_asChild_8, w_TwoPrints_asChild_9, w_TwoPrints_asChild_12, w_TwoPrints_asChild_13, w_TwoPrints_asChild_14, w_TwoPrints_asChild_17, w_TwoPrints_asChild_18, w_TwoPrints_asChild_19, q_rd_eq, q_nt_0, q_nt_s, q_ld_tab, q_st_tab, q_aa13, q_aa14, q_is_eq, q_wr_eq, q_01_0, q_01_1, q_nz_nI, q_len_tab, psh_some, psh_none, sm_up_at, sm_up_ne, nI_add, nI_lt2, nI_le2, nI_eq2, ls_set0, ls_setS, Nat.reduceAdd, Nat.zero_add, Nat.add_zero, not_true_eq_false, not_false_eq_true, ite_true, ite_false, I.o0, I.pt.c0, p_foot_in H, h1, w_TwoPrints_rate_16_2, d0, d1, d2, d3, sm_up_twice]
    exact q' _ w2
  · simp (disch := first | assumption | omega) only [w_TwoPrints_rate_0, w_TwoPrints_rate_1, w_TwoPrints_rate_4, w_TwoPrints_rate_5, w_TwoPrints_rate_8, w_TwoPrints_rate_11, w_TwoPrints_rate_14, w_TwoPrints_rate_15, w_TwoPrints_rate_56, w_TwoPrints_rate_57, w_TwoPrints_rate_58, w_TwoPrints_rate_61, w_TwoPrints_rate_62, w_TwoPrints_rate_63, w_TwoPrints_rate_64, w_TwoPrints_rate_67, w_TwoPrints_rate_68, w_TwoPrints_rate_69, w_TwoPrints_rate_70, w_TwoPrints_rate_73, w_TwoPrints_rate_74, w_TwoPrints_rate_75, w_TwoPrints_rate_76, w_TwoPrints_rate_79, w_TwoPrints_rate_80, w_TwoPrints_rate_81, w_TwoPrints_rate_82, w_TwoPrints_rate_85, w_TwoPrints_rate_86, w_TwoPrints_rate_87, w_TwoPrints_rate_88, w_TwoPrints_rate_91, w_TwoPrints_rate_92, w_TwoPrints_rate_95, w_TwoPrints_asFoot_0, w_TwoPrints_asFoot_1, w_TwoPrints_asFoot_2, w_TwoPrints_asFoot_5, w_TwoPrints_asFoot_6, w_TwoPrints_asFoot_7, w_TwoPrints_asFoot_10, w_TwoPrints_asFoot_11, w_TwoPrints_asFoot_14, w_TwoPrints_asFoot_17, w_TwoPrints_asFoot_18, w_TwoPrints_asFoot_19, w_TwoPrints_asFoot_20, w_TwoPrints_asFoot_21, w_TwoPrints_asBoot_0, w_TwoPrints_asBoot_1, w_TwoPrints_asBoot_2, w_TwoPrints_asBoot_5, w_TwoPrints_asBoot_8, w_TwoPrints_asBoot_9, w_TwoPrints_asBoot_12, w_TwoPrints_asBoot_13, w_TwoPrints_asBoot_14, w_TwoPrints_asBoot_17, w_TwoPrints_asBoot_18, w_TwoPrints_asBoot_21, w_TwoPrints_asBoot_24, w_TwoPrints_asBoot_25, w_TwoPrints_asBoot_26, w_TwoPrints_asBoot_27, w_TwoPrints_asBoot_28, w_TwoPrints_asBoot_29, w_TwoPrints_asLimp_0, w_TwoPrints_asLimp_1, w_TwoPrints_asLimp_2, w_TwoPrints_asLimp_5, w_TwoPrints_asLimp_8, w_TwoPrints_asLimp_9, w_TwoPrints_asLimp_12, w_TwoPrints_asLimp_13, w_TwoPrints_asLimp_14, w_TwoPrints_asLimp_15, w_TwoPrints_asLimp_18, w_TwoPrints_asLimp_19, q_rd_eq, q_nt_0, q_nt_s, q_ld_tab, q_st_tab, q_aa13, q_aa14, q_is_eq, q_wr_eq, q_01_0, q_01_1, q_nz_nI, q_len_tab, psh_some, psh_none, sm_up_at, sm_up_ne, nI_add, nI_lt2, nI_le2, nI_eq2, ls_set0, ls_setS, Nat.reduceAdd, Nat.zero_add, Nat.add_zero, not_true_eq_false, not_false_eq_true, ite_true, ite_false, nI_rem3, nI_div2, nI_sub2, q_max_nI, q_min_nI, I.o0, I.pt.c0, p_foot_in H, h1, w_TwoPrints_rate_16_3, d0, d1, d2, d3, sm_up_twice, pk_mul]
    exact q' _ w3
  · simp (disch := first | assumption | omega) only [w_TwoPrints_rate_0, w_TwoPrints_rate_1, w_TwoPrints_rate_4, w_TwoPrints_rate_5, w_TwoPrints_rate_8, w_TwoPrints_rate_11, w_TwoPrints_rate_14, w_TwoPrints_rate_15, w_TwoPrints_rate_56, w_TwoPrints_rate_57, w_TwoPrints_rate_58, w_TwoPrints_rate_61, w_TwoPrints_rate_62, w_TwoPrints_rate_63, w_TwoPrints_rate_64, w_TwoPrints_rate_67, w_TwoPrints_rate_68, w_TwoPrints_rate_69, w_TwoPrints_rate_70, w_TwoPrints_rate_73, w_TwoPrints_rate_74, w_TwoPrints_rate_75, w_TwoPrints_rate_76, w_TwoPrints_rate_79, w_TwoPrints_rate_80, w_TwoPrints_rate_81, w_TwoPrints_rate_82, w_TwoPrints_rate_85, w_TwoPrints_rate_86, w_TwoPrints_rate_87, w_TwoPrints_rate_88, w_TwoPrints_rate_91, w_TwoPrints_rate_92, w_TwoPrints_rate_95, w_TwoPrints_asFoot_0, w_TwoPrints_asFoot_1, w_TwoPrints_asFoot_2, w_TwoPrints_asFoot_5, w_TwoPrints_asFoot_6, w_TwoPrints_asFoot_7, w_TwoPrints_asFoot_10, w_TwoPrints_asFoot_11, w_TwoPrints_asFoot_14, w_TwoPrints_asFoot_17, w_TwoPrints_asFoot_18, w_TwoPrints_asFoot_19, w_TwoPrints_asFoot_20, w_TwoPrints_asFoot_21, w_TwoPrints_asChild_0, w_TwoPrints_asChild_1, w_TwoPrints_asChild_2, w_TwoPrints_asChild_5, w_TwoPrints_asChild_8, w_TwoPrints_asChild_9, w_TwoPrints_asChild_12, w_TwoPrints_asChild_13, w_TwoPrints_asChild_14, w_TwoPrints_asChild_17, w_TwoPrints_asChild_18, w_TwoPrints_asChild_19, w_TwoPrints_asGift_0, w_TwoPrints_asGift_1, w_TwoPrints_asGift_2, w_TwoPrints_asGift_5, w_TwoPrints_asGift_8, w_TwoPrints_asGift_9, w_TwoPrints_asGift_12, w_TwoPrints_asGift_13, w_TwoPrints_asGift_14, w_TwoPrints_asGift_17, w_TwoPrints_asGift_18, w_TwoPrints_asGift_21, w_TwoPrints_asGift_22, w_TwoPrints_asGift_23, w_TwoPrints_asGift_24, w_TwoPrints_asGift_27, w_TwoPrints_asGift_30, w_TwoPrints_asGift_31, q_rd_eq, q_nt_0, q_nt_s, q_ld_tab, q_st_tab, q_aa13, q_aa14, q_is_eq, q_wr_eq, q_01_0, q_01_1, q_nz_nI, q_len_tab, psh_some, psh_none, sm_up_at, sm_up_ne, nI_add, nI_lt2, nI_le2, nI_eq2, ls_set0, ls_setS, Nat.reduceAdd, Nat.zero_add, Nat.add_zero, not_true_eq_false, not_false_eq_true, ite_true, ite_false, I.o0, I.pt.c0, p_foot_in H, h1, w_TwoPrints_rate_16_4, d0, d1, d2, d3, sm_up_twice, t0, bl_shl, ew, e_ones16]
    exact q' _ w4
  · simp (disch := first | assumption | omega) only [w_TwoPrints_rate_0, w_TwoPrints_rate_1, w_TwoPrints_rate_4, w_TwoPrints_rate_5, w_TwoPrints_rate_8, w_TwoPrints_rate_11, w_TwoPrints_rate_14, w_TwoPrints_rate_15, w_TwoPrints_rate_56, w_TwoPrints_rate_57, w_TwoPrints_rate_58, w_TwoPrints_rate_61, w_TwoPrints_rate_62, w_TwoPrints_rate_63, w_TwoPrints_rate_64, w_TwoPrints_rate_67, w_TwoPrints_rate_68, w_TwoPrints_rate_69, w_TwoPrints_rate_70, w_TwoPrints_rate_73, w_TwoPrints_rate_74, w_TwoPrints_rate_75, w_TwoPrints_rate_76, w_TwoPrints_rate_79, w_TwoPrints_rate_80, w_TwoPrints_rate_81, w_TwoPrints_rate_82, w_TwoPrints_rate_85, w_TwoPrints_rate_86, w_TwoPrints_rate_87, w_TwoPrints_rate_88, w_TwoPrints_rate_91, w_TwoPrints_rate_92, w_TwoPrints_rate_95, w_TwoPrints_asFoot_0, w_TwoPrints_asFoot_1, w_TwoPrints_asFoot_2, w_TwoPrints_asFoot_5, w_TwoPrints_asFoot_6, w_TwoPrints_asFoot_7, w_TwoPrints_asFoot_10, w_TwoPrints_asFoot_11, w_TwoPrints_asFoot_14, w_TwoPrints_asFoot_17, w_TwoPrints_asFoot_18, w_TwoPrints_asFoot_19, w_TwoPrints_asFoot_20, w_TwoPrints_asFoot_21, w_TwoPrints_asCow_0, w_TwoPrints_asCow_1, w_TwoPrints_asCow_2, w_TwoPrints_asCow_5, w_TwoPrints_asCow_8, w_TwoPrints_asCow_9, w_TwoPrints_asCow_12, w_TwoPrints_asCow_13, w_TwoPrints_asCow_14, w_TwoPrints_asCow_17, w_TwoPrints_asCow_18, w_TwoPrints_asCow_21, w_TwoPrints_asCow_24, w_TwoPrints_asCow_25, w_TwoPrints_asCow_26, w_TwoPrints_asCow_27, w_TwoPrints_asCow_28, w_TwoPrints_asCow_31, w_TwoPrints_asCow_34, w_TwoPrints_asCow_35, w_TwoPrints_asCow_36, w_TwoPrints_asCow_37, q_rd_eq, q_nt_0, q_nt_s, q_ld_tab, q_st_tab, q_aa13, q_aa14, q_is_eq, q_wr_eq, q_01_0, q_01_1, q_nz_nI, q_len_tab, psh_some, psh_none, sm_up_at, sm_up_ne, nI_add, nI_lt2, nI_le2, nI_eq2, ls_set0, ls_setS, Nat.reduceAdd, Nat.zero_add, Nat.add_zero, not_true_eq_false, not_false_eq_true, ite_true, ite_false, nI_rem3, nI_div2, nI_sub2, q_max_nI, q_min_nI, I.o0, I.pt.c0, p_foot_in H, h1, w_TwoPrints_rate_16_5, d0, d1, d2, d3, d5, sm_up_twice]
    exact q' _ w5
theorem c_rateX (I : InvC h s j) (ok : StOk s) (hb : ¬ inr v 6 ∨ ¬ inr u (s.2.1.1.1 + 1)) : Wp xs m_TwoPrints_rate 0 [.ref 0, .int v, .int u] [] h 0 0 K = K (some (.int (-1000000))) h := by
  have h1 : ¬ (1 : Nat) = 0 := by omega
  have hl := ok.2.1.2.1
  have H := I.pt
  by_cases hu : inr u (s.2.1.1.1 + 1)
  · obtain ⟨x, hx, rfl⟩ := hu
    have hv : ¬ inr v 6 := hb.resolve_right (not_not_intro ⟨x, hx, rfl⟩)
    have hs := inr_sw (n := 5) (by omega) hv
    simp (disch := first | assumption | omega) only [w_TwoPrints_rate_0, w_TwoPrints_rate_1, w_TwoPrints_rate_4, w_TwoPrints_rate_5, w_TwoPrints_rate_8, w_TwoPrints_rate_11, w_TwoPrints_rate_14, w_TwoPrints_rate_15, w_TwoPrints_rate_56, w_TwoPrints_rate_57, w_TwoPrints_rate_58, w_TwoPrints_rate_61, w_TwoPrints_rate_62, w_TwoPrints_rate_63, w_TwoPrints_rate_64, w_TwoPrints_rate_67, w_TwoPrints_rate_68, w_TwoPrints_rate_69, w_TwoPrints_rate_70, w_TwoPrints_rate_73, w_TwoPrints_rate_74, w_TwoPrints_rate_75, w_TwoPrints_rate_76, w_TwoPrints_rate_79, w_TwoPrints_rate_80, w_TwoPrints_rate_81, w_TwoPrints_rate_82, w_TwoPrints_rate_85, w_TwoPrints_rate_86, w_TwoPrints_rate_87, w_TwoPrints_rate_88, w_TwoPrints_rate_91, w_TwoPrints_rate_92, w_TwoPrints_rate_95, q_rd_eq, q_nt_0, q_nt_s, q_ld_tab, q_st_tab, q_aa13, q_aa14, q_is_eq, q_wr_eq, q_01_0, q_01_1, q_nz_nI, q_len_tab, psh_some, psh_none, sm_up_at, sm_up_ne, nI_add, nI_lt2, nI_le2, nI_eq2, ls_set0, ls_setS, Nat.reduceAdd, Nat.zero_add, Nat.add_zero, not_true_eq_false, not_false_eq_true, ite_true, ite_false, nI_rem3, nI_div2, nI_sub2, q_max_nI, q_min_nI, I.o0, I.pt.c0, p_foot_in H, h1, w_TwoPrints_rate_16_d hs]
  · simp (disch := first | assumption | omega) only [w_TwoPrints_rate_0, w_TwoPrints_rate_1, w_TwoPrints_rate_4, w_TwoPrints_rate_5, w_TwoPrints_rate_8, w_TwoPrints_rate_11, w_TwoPrints_rate_14, w_TwoPrints_rate_15, w_TwoPrints_rate_56, w_TwoPrints_rate_57, w_TwoPrints_rate_58, w_TwoPrints_rate_61, w_TwoPrints_rate_62, w_TwoPrints_rate_63, w_TwoPrints_rate_64, w_TwoPrints_rate_67, w_TwoPrints_rate_68, w_TwoPrints_rate_69, w_TwoPrints_rate_70, w_TwoPrints_rate_73, w_TwoPrints_rate_74, w_TwoPrints_rate_75, w_TwoPrints_rate_76, w_TwoPrints_rate_79, w_TwoPrints_rate_80, w_TwoPrints_rate_81, w_TwoPrints_rate_82, w_TwoPrints_rate_85, w_TwoPrints_rate_86, w_TwoPrints_rate_87, w_TwoPrints_rate_88, w_TwoPrints_rate_91, w_TwoPrints_rate_92, w_TwoPrints_rate_95, q_rd_eq, q_nt_0, q_nt_s, q_ld_tab, q_st_tab, q_aa13, q_aa14, q_is_eq, q_wr_eq, q_01_0, q_01_1, q_nz_nI, q_len_tab, psh_some, psh_none, sm_up_at, sm_up_ne, nI_add, nI_lt2, nI_le2, nI_eq2, ls_set0, ls_setS, Nat.reduceAdd, Nat.zero_add, Nat.add_zero, not_true_eq_false, not_false_eq_true, ite_true, ite_false, nI_rem3, nI_div2, nI_sub2, q_max_nI, q_min_nI, I.o0, I.pt.c0, hasFootX I ok hu]
end COW
