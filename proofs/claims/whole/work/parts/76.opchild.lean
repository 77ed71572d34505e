/-! the child's way: both sides -/
theorem lastF_no {B : Nat → Bool} : ∀ n, (∀ z, z < n → B z = false) → lastF B n = none
  | 0, _ => rfl
  | n + 1, h => by
    unfold lastF
    rw [h n (by omega), if_neg (by decide)]
    exact lastF_no n (fun z hz => h z (by omega))
theorem lastF_congr {B B' : Nat → Bool} : ∀ n, (∀ z, z < n → B z = B' z) → lastF B n = lastF B' n
  | 0, _ => rfl
  | n + 1, h => by
    unfold lastF
    rw [h n (by omega), lastF_congr n (fun z hz => h z (by omega))]
theorem lastF_cut {B : Nat → Bool} {k : Nat} (h : ∀ z, k ≤ z → B z = false) : ∀ n, lastF B (k + n) = lastF B k
  | 0 => rfl
  | n + 1 => by
    show (if B (k + n) = true then some (k + n) else lastF B (k + n)) = _
    rw [h _ (by omega), if_neg (by decide)]
    exact lastF_cut h n
theorem lastF_none {B : Nat → Bool} : ∀ n, lastF B n = none → ∀ z, z < n → B z = false
  | 0, _, z, hz => absurd hz (Nat.not_lt_zero _)
  | n + 1, h, z, hz => by
    unfold lastF at h
    by_cases c : B n = true
    · rw [if_pos c] at h; cases h
    · rw [if_neg c] at h
      by_cases e : z = n
      · rw [e]
        cases q : B n
        · rfl
        · exact absurd q c
      · exact lastF_none n h z (by omega)
section OCH
variable {xs : List Int32} {h : sm_Hp} {K : Option Value → sm_Hp → Prop} {s : CS} {j : CJ} {J R Q : Nat → Int32} {qn bg : Int32} {P : PrS} {d e lo : Nat} {f w : Nat → Nat} {B : Nat → Bool} {u v : Int32}
theorem InvC.vh (I : InvC h s j) : InvC (VH h J R Q qn bg) s (j.1, j.2.1, (J, R, Q, qn, bg), j.2.2.2) := by
  obtain ⟨⟨a0, a1, a2⟩, a3, ⟨a4, a5⟩, a6, ⟨a7, a8⟩, a9, ⟨b0, b1, b2, b3⟩, b4, b5⟩ := I
  have hj := cLp_or j
  have ne : ∀ q, q < 70 ∨ 73 < q → (VH h J R Q qn bg).1 q = h.1 q := fun q hq => vh_ne hq
  refine ⟨⟨(ne _ (by omega)).trans a0, (ne _ (by omega)).trans a1, (ne _ (by omega)).trans a2⟩, fun q hq => (ne _ (by omega)).trans (a3 q hq), ⟨(ne _ (by omega)).trans a4, (ne _ (by omega)).trans a5⟩, fun i hi q hq => (ne _ (by omega)).trans (a6 i hi q hq), ⟨(ne _ (by omega)).trans a7, (ne _ (by omega)).trans a8⟩, fun i hi q hq => (ne _ (by omega)).trans (a9 i hi q hq), ⟨vh70, vh71, vh72, vh73⟩, ?_, ?_⟩
  · intro q hq
    have e : cLp (j.1, j.2.1, (J, R, Q, qn, bg), j.2.2.2) = cLp j := rfl
    rw [e]
    exact (ne _ (by omega)).trans (b4 q hq)
  · intro q hq
    have e : cDp (j.1, j.2.1, (J, R, Q, qn, bg), j.2.2.2) = cDp j := rfl
    rw [e]
    exact (ne _ (by omega)).trans (b5 q hq)
theorem vh_self (I : InvC h s j) : VH h j.2.2.1.1 j.2.2.1.2.1 j.2.2.1.2.2.1 j.2.2.1.2.2.2.1 j.2.2.1.2.2.2.2 = h := by
  obtain ⟨⟨a0, a1, a2⟩, a3, ⟨a4, a5⟩, a6, ⟨a7, a8⟩, a9, ⟨b0, b1, b2, b3⟩, b4, b5⟩ := I
  unfold VH
  rw [sm_up_self b1, sm_up_self b2, sm_up_self b3]
  exact sm_up_self b0
theorem vh_fr : FrC h (VH h J R Q qn bg) := ⟨fun a ha => vh_ne (by omega), rfl⟩
theorem e_row (H : PrAt h 3 P) (hdp : DepOk P) (hB : ∀ p, p < 122 → B p = hasP P (p / 61) (p % 61)) (V : Lev B d e f w) (hdd : d ≤ 60) (hlo : lo ≤ 60) (hf : lfN f lo ≠ 1000000) (hu : ¬ u < nI 0) : Wp xs m_ChildsWay_printOfFirstRow 0 [.ref 70, .ref 3, .int (nI d), .int u, .null, .null] [] (VH h (fm f) R Q qn (nI lo)) 0 0 K = K (some (.int (if u ≤ nI (lfN f lo) then nI (100 * (atK f (a0N f lo) u.toNatClampNeg / 61) + atK f (a0N f lo) u.toNatClampNeg % 61) else -5))) (VH h (fm f) R Q qn (nI lo)) := by
  have hle := lf_le V hlo hf
  have hF : ∀ p, p < 122 → f p ≠ 1000000 → f p ≤ 122 := fun p hp z => (V.1 p hp z).2
  have hlt := a0_lt (f := f) hlo
  have ea : f (a0N f lo) = lfN f lo := a0_f
  have e1 : ∀ K, Wp xs m_ChildsWay_firstPrint 0 [.ref 70, .null, .null, .null, .null] [] (VH h (fm f) R Q qn (nI lo)) 0 0 K = K (some (.int (nI (a0N f lo)))) (VH h (fm f) R Q qn (nI lo)) := fun K => by rw [e_firstP hlo hF, if_neg hf]
  have e2 : fm f (a0N f lo) = nI (lfN f lo) := by rw [fm_n (by rw [ea]; exact hf), ea]
  by_cases cu : inr u (lfN f lo + 1)
  · obtain ⟨k, hk, rfl⟩ := cu
    have hkl : k ≤ lfN f lo := by omega
    have d3 : nI k ≤ nI (lfN f lo) := by rw [nI_le2 (by omega) (by omega)]; exact hkl
    rw [if_pos d3, nI_clamp (show k < 2 ^ 31 by omega)]
    simp (disch := first | assumption | omega) only [w_ChildsWay_printOfFirstRow_0, w_ChildsWay_printOfFirstRow_1, w_ChildsWay_printOfFirstRow_4, w_ChildsWay_printOfFirstRow_6, w_ChildsWay_printOfFirstRow_8, w_ChildsWay_printOfFirstRow_9, w_ChildsWay_printOfFirstRow_12, w_ChildsWay_printOfFirstRow_13, w_ChildsWay_printOfFirstRow_14, w_ChildsWay_printOfFirstRow_17, w_ChildsWay_printOfFirstRow_19, w_ChildsWay_printOfFirstRow_20, w_ChildsWay_printOfFirstRow_23, w_ChildsWay_printOfFirstRow_25, w_ChildsWay_printOfFirstRow_26, w_ChildsWay_printOfFirstRow_27, q_rd_eq, q_nt_0, q_nt_s, q_ld_tab, q_st_tab, q_aa13, q_aa14, q_is_eq, q_wr_eq, q_01_0, q_01_1, q_nz_nI, q_len_tab, psh_some, psh_none, sm_up_at, sm_up_ne, nI_add, nI_lt2, nI_le2, nI_eq2, ls_set0, ls_setS, Nat.reduceAdd, Nat.zero_add, Nat.add_zero, not_true_eq_false, not_false_eq_true, ite_true, ite_false, nI_rem3, nI_div2, nI_sub2, q_max_nI, q_min_nI, vh70, vh71, e1, e2, nI_m1, hkl]
    exact row_loop H hdp hB V hdd hlo hf hkl k 0 (by omega)
  · rcases inr_no (by omega) cu with z | ⟨-, z⟩
    · exact absurd z hu
    · have d3 : ¬ u ≤ nI (lfN f lo) := (nI_step (by omega) z).2.1
      rw [if_neg d3]
      simp (disch := first | assumption | omega) only [w_ChildsWay_printOfFirstRow_0, w_ChildsWay_printOfFirstRow_1, w_ChildsWay_printOfFirstRow_4, w_ChildsWay_printOfFirstRow_6, w_ChildsWay_printOfFirstRow_8, w_ChildsWay_printOfFirstRow_9, w_ChildsWay_printOfFirstRow_12, w_ChildsWay_printOfFirstRow_13, w_ChildsWay_printOfFirstRow_14, w_ChildsWay_printOfFirstRow_17, w_ChildsWay_printOfFirstRow_19, w_ChildsWay_printOfFirstRow_20, w_ChildsWay_printOfFirstRow_23, w_ChildsWay_printOfFirstRow_25, w_ChildsWay_printOfFirstRow_26, w_ChildsWay_printOfFirstRow_27, q_rd_eq, q_nt_0, q_nt_s, q_ld_tab, q_st_tab, q_aa13, q_aa14, q_is_eq, q_wr_eq, q_01_0, q_01_1, q_nz_nI, q_len_tab, psh_some, psh_none, sm_up_at, sm_up_ne, nI_add, nI_lt2, nI_le2, nI_eq2, ls_set0, ls_setS, Nat.reduceAdd, Nat.zero_add, Nat.add_zero, not_true_eq_false, not_false_eq_true, ite_true, ite_false, nI_rem3, nI_div2, nI_sub2, q_max_nI, q_min_nI, vh70, vh71, e1, e2, nI_m1, d3]
theorem C_child {L : Nat → (Nat → Nat) × (Nat → Nat)} (I : InvC h s j) (ok : StOk s) (hd : d ≤ 60) (hu : (-2 : Int32) ≤ u) (hB : ∀ p, p < 122 → B p = hasP s.2.2.1 (p / 61) (p % 61)) (V : ∀ e, Lev B d e (L e).1 (L e).2) (q0 : firstF (cBb s.2.2.1) 0 61 = none → GoC h s (K (some (.int (if u = -2 then nI 0 else -9))))) (q1 : ∀ lo e, firstF (cBb s.2.2.1) 0 61 = some lo → lastF (cBb s.2.2.1) 61 = some e → GoC h s (K (some (.int (chA (L e).1 (L e).2 lo u))))) : Wp xs m_TwoPrints_child 0 [.ref 0, .int (nI d), .int u] [] h 0 0 K := by
  have hu0 : (-2 : Int32) ≤ u := hu
  have c10 : ¬ (1 : Nat) = 0 := by omega
  have H := I.pr
  have hdp := ok.dep
  have o0 := I.o0
  have e0 : Wp xs m_TwoPrints_child 0 [.ref 0, .int (nI d), .int u] [] h 0 0 K = Wp xs m_TwoPrints_child 0 [.ref 0, .int (nI d), .int u] [] (VH h j.2.2.1.1 j.2.2.1.2.1 j.2.2.1.2.2.1 j.2.2.1.2.2.2.1 j.2.2.1.2.2.2.2) 0 0 K := by rw [vh_self I]
  rw [e0]
  cases qf : firstF (cBb s.2.2.1) 0 61 with
  | none =>
    have ql : lastF (cBb s.2.2.1) 61 = none := lastF_no 61 (fun z hz => firstF_none _ _ _ qf z (by omega) (by omega))
    have eb : oI none = -9 := rfl
    have q0' := q0 qf _ _ (I.vh (J := fun _ => -1) (R := fun _ => nI 0) (Q := j.2.2.1.2.2.1) (qn := nI 0) (bg := -9)) vh_fr
    have CB : ∀ K, Wp xs m_ChildsWay_countBack 0 [.ref 70, .ref 3, .int (nI d), .null, .null] [] (VH h j.2.2.1.1 j.2.2.1.2.1 j.2.2.1.2.2.1 j.2.2.1.2.2.2.1 j.2.2.1.2.2.2.2) 0 0 K = K none (VH h (fun _ => -1) (fun _ => nI 0) j.2.2.1.2.2.1 (nI 0) (-9)) := fun K => by rw [C_cback0 H hdp ql, qf]; rfl
    by_cases c : u = -2
    · have c' : ¬ ¬ u = -2 := not_not_intro c
      rw [if_pos c] at q0'
      simp (disch := first | assumption | omega) only [w_TwoPrints_child_0, w_TwoPrints_child_1, w_TwoPrints_child_4, w_TwoPrints_child_7, w_TwoPrints_child_8, w_TwoPrints_child_10, w_TwoPrints_child_13, w_TwoPrints_child_14, w_TwoPrints_child_15, w_TwoPrints_child_16, w_TwoPrints_child_19, w_TwoPrints_child_20, w_TwoPrints_child_23, w_TwoPrints_child_24, w_TwoPrints_child_27, w_TwoPrints_child_28, w_TwoPrints_child_30, w_TwoPrints_child_33, w_TwoPrints_child_34, w_TwoPrints_child_37, w_TwoPrints_child_40, q_rd_eq, q_nt_0, q_nt_s, q_ld_tab, q_st_tab, q_aa13, q_aa14, q_is_eq, q_wr_eq, q_01_0, q_01_1, q_nz_nI, q_len_tab, psh_some, psh_none, sm_up_at, sm_up_ne, nI_add, nI_lt2, nI_le2, nI_eq2, ls_set0, ls_setS, Nat.reduceAdd, Nat.zero_add, Nat.add_zero, not_true_eq_false, not_false_eq_true, ite_true, ite_false, nI_rem3, nI_div2, nI_sub2, q_max_nI, q_min_nI, t_isJump, c10, hu0, vh_ne, o0, vh70, CB, c', e_many0]
      exact q0'
    · have h1 : ¬ ¬ ((-1 : Int32) = -1) := not_not_intro rfl
      rw [if_neg c] at q0'
      simp (disch := first | assumption | omega) only [w_TwoPrints_child_0, w_TwoPrints_child_1, w_TwoPrints_child_4, w_TwoPrints_child_7, w_TwoPrints_child_8, w_TwoPrints_child_10, w_TwoPrints_child_13, w_TwoPrints_child_14, w_TwoPrints_child_15, w_TwoPrints_child_16, w_TwoPrints_child_19, w_TwoPrints_child_20, w_TwoPrints_child_23, w_TwoPrints_child_24, w_TwoPrints_child_27, w_TwoPrints_child_28, w_TwoPrints_child_30, w_TwoPrints_child_33, w_TwoPrints_child_34, w_TwoPrints_child_37, w_TwoPrints_child_40, w_TwoPrints_child_41, w_TwoPrints_child_42, w_TwoPrints_child_45, w_TwoPrints_child_48, w_TwoPrints_child_49, w_TwoPrints_child_52, w_TwoPrints_child_54, q_rd_eq, q_nt_0, q_nt_s, q_ld_tab, q_st_tab, q_aa13, q_aa14, q_is_eq, q_wr_eq, q_01_0, q_01_1, q_nz_nI, q_len_tab, psh_some, psh_none, sm_up_at, sm_up_ne, nI_add, nI_lt2, nI_le2, nI_eq2, ls_set0, ls_setS, Nat.reduceAdd, Nat.zero_add, Nat.add_zero, not_true_eq_false, not_false_eq_true, ite_true, ite_false, nI_rem3, nI_div2, nI_sub2, q_max_nI, q_min_nI, t_isJump, c10, hu0, vh_ne, o0, vh70, CB, c, e_few0, h1]
      exact q0'
  | some lo =>
    obtain ⟨l1, l2, l3, l4⟩ := firstF_lt _ _ _ _ qf
    have hlo : lo ≤ 60 := by omega
    cases ql : lastF (cBb s.2.2.1) 61 with
    | none =>
      rw [lastF_none _ ql lo (by omega)] at l3
      cases l3
    | some e =>
      have q1' := q1 lo e qf ql
      have W := V e
      generalize (L e).1 = f at W q1'
      generalize (L e).2 = w at W q1'
      have hF : ∀ p, p < 122 → f p ≠ 1000000 → f p ≤ 122 := fun p hp z => (W.1 p hp z).2
      have hW : ∀ p, p < 122 → w p < 1000003 := W.2.2.2.2.2.2
      have T := C_cback (xs := xs) (J := j.2.2.1.1) (R := j.2.2.1.2.1) (Q := j.2.2.1.2.2.1) (qn := j.2.2.1.2.2.2.1) (bg := j.2.2.1.2.2.2.2) (K := fun r h' => Wp xs m_TwoPrints_child 27 [.ref 0, .int (nI d), .int u] (psh r []) h' 0 0 K) H hdp hB W hd ql (fun R' Q' t hR => ?_)
      · simp (disch := first | assumption | omega) only [w_TwoPrints_child_0, w_TwoPrints_child_1, w_TwoPrints_child_4, w_TwoPrints_child_7, w_TwoPrints_child_8, w_TwoPrints_child_10, w_TwoPrints_child_13, w_TwoPrints_child_14, w_TwoPrints_child_15, w_TwoPrints_child_16, w_TwoPrints_child_19, w_TwoPrints_child_20, w_TwoPrints_child_23, w_TwoPrints_child_24, q_rd_eq, q_nt_0, q_nt_s, q_ld_tab, q_st_tab, q_aa13, q_aa14, q_is_eq, q_wr_eq, q_01_0, q_01_1, q_nz_nI, q_len_tab, psh_some, psh_none, sm_up_at, sm_up_ne, nI_add, nI_lt2, nI_le2, nI_eq2, ls_set0, ls_setS, Nat.reduceAdd, Nat.zero_add, Nat.add_zero, not_true_eq_false, not_false_eq_true, ite_true, ite_false, nI_rem3, nI_div2, nI_sub2, q_max_nI, q_min_nI, t_isJump, c10, hu0, vh_ne, o0, vh70]
        exact T
      · rw [qf]
        show Wp xs m_TwoPrints_child 27 [.ref 0, .int (nI d), .int u] [] (VH h (fm f) R' Q' (nI t) (nI lo)) 0 0 K
        have Q1 := q1' _ _ (I.vh (J := fm f) (R := R') (Q := Q') (qn := nI t) (bg := nI lo)) vh_fr
        unfold chA at Q1
        rcases m2_le hu with c | c | c
        · subst c
          have d0 : ¬ ¬ ((-2 : Int32) = -2) := not_not_intro rfl
          have d1 : ¬ ((-2 : Int32) = -1) := by decide
          have EM : ∀ K, Wp xs m_ChildsWay_howManyRows 0 [.ref 70, .null, .null, .null, .null] [] (VH h (fm f) R' Q' (nI t) (nI lo)) 0 0 K = _ := fun K => e_many (h := h) (Q := Q') (qn := nI t) (K := K) hlo hF hR hW
          simp (disch := first | assumption | omega) only [w_TwoPrints_child_27, w_TwoPrints_child_28, w_TwoPrints_child_30, w_TwoPrints_child_33, w_TwoPrints_child_34, w_TwoPrints_child_37, w_TwoPrints_child_40, q_rd_eq, q_nt_0, q_nt_s, q_ld_tab, q_st_tab, q_aa13, q_aa14, q_is_eq, q_wr_eq, q_01_0, q_01_1, q_nz_nI, q_len_tab, psh_some, psh_none, sm_up_at, sm_up_ne, nI_add, nI_lt2, nI_le2, nI_eq2, ls_set0, ls_setS, Nat.reduceAdd, Nat.zero_add, Nat.add_zero, not_true_eq_false, not_false_eq_true, ite_true, ite_false, nI_rem3, nI_div2, nI_sub2, q_max_nI, q_min_nI, d0, vh_ne, o0, vh70, EM]
          rw [if_neg d1, if_pos rfl, if_pos rfl] at Q1
          exact Q1
        · subst c
          have d0 : ¬ ((-1 : Int32) = -2) := by decide
          have d1 : ¬ ¬ ((-1 : Int32) = -1) := not_not_intro rfl
          by_cases cf : lfN f lo = 1000000
          · have e1 : ∀ K, Wp xs m_ChildsWay_fewest 0 [.ref 70, .null] [] (VH h (fm f) R' Q' (nI t) (nI lo)) 0 0 K = K (some (.int (-1))) (VH h (fm f) R' Q' (nI t) (nI lo)) := fun K => by rw [e_few hlo hF, if_pos cf]
            rw [if_pos cf, if_neg d0] at Q1
            simp (disch := first | assumption | omega) only [w_TwoPrints_child_27, w_TwoPrints_child_28, w_TwoPrints_child_30, w_TwoPrints_child_33, w_TwoPrints_child_34, w_TwoPrints_child_37, w_TwoPrints_child_40, w_TwoPrints_child_41, w_TwoPrints_child_42, w_TwoPrints_child_45, w_TwoPrints_child_48, w_TwoPrints_child_49, w_TwoPrints_child_52, w_TwoPrints_child_54, w_TwoPrints_child_55, w_TwoPrints_child_56, w_TwoPrints_child_57, w_TwoPrints_child_60, w_TwoPrints_child_61, w_TwoPrints_child_64, w_TwoPrints_child_67, w_TwoPrints_child_70, w_TwoPrints_child_71, w_TwoPrints_child_74, w_TwoPrints_child_75, w_TwoPrints_child_78, w_TwoPrints_child_79, w_TwoPrints_child_80, w_TwoPrints_child_83, q_rd_eq, q_nt_0, q_nt_s, q_ld_tab, q_st_tab, q_aa13, q_aa14, q_is_eq, q_wr_eq, q_01_0, q_01_1, q_nz_nI, q_len_tab, psh_some, psh_none, sm_up_at, sm_up_ne, nI_add, nI_lt2, nI_le2, nI_eq2, ls_set0, ls_setS, Nat.reduceAdd, Nat.zero_add, Nat.add_zero, not_true_eq_false, not_false_eq_true, ite_true, ite_false, nI_rem3, nI_div2, nI_sub2, q_max_nI, q_min_nI, d0, d1, vh_ne, o0, vh70, e1]
            exact Q1
          · have hle := lf_le W hlo cf
            have e1 : ∀ K, Wp xs m_ChildsWay_fewest 0 [.ref 70, .null] [] (VH h (fm f) R' Q' (nI t) (nI lo)) 0 0 K = K (some (.int (nI (lfN f lo)))) (VH h (fm f) R' Q' (nI t) (nI lo)) := fun K => by rw [e_few hlo hF, if_neg cf]
            rw [if_neg cf, if_pos rfl] at Q1
            simp (disch := first | assumption | omega) only [w_TwoPrints_child_27, w_TwoPrints_child_28, w_TwoPrints_child_30, w_TwoPrints_child_33, w_TwoPrints_child_34, w_TwoPrints_child_37, w_TwoPrints_child_40, w_TwoPrints_child_41, w_TwoPrints_child_42, w_TwoPrints_child_45, w_TwoPrints_child_48, w_TwoPrints_child_49, w_TwoPrints_child_52, w_TwoPrints_child_54, w_TwoPrints_child_55, w_TwoPrints_child_56, w_TwoPrints_child_57, w_TwoPrints_child_60, w_TwoPrints_child_61, w_TwoPrints_child_64, w_TwoPrints_child_67, w_TwoPrints_child_70, w_TwoPrints_child_71, w_TwoPrints_child_74, w_TwoPrints_child_75, w_TwoPrints_child_78, w_TwoPrints_child_79, w_TwoPrints_child_80, w_TwoPrints_child_83, q_rd_eq, q_nt_0, q_nt_s, q_ld_tab, q_st_tab, q_aa13, q_aa14, q_is_eq, q_wr_eq, q_01_0, q_01_1, q_nz_nI, q_len_tab, psh_some, psh_none, sm_up_at, sm_up_ne, nI_add, nI_lt2, nI_le2, nI_eq2, ls_set0, ls_setS, Nat.reduceAdd, Nat.zero_add, Nat.add_zero, not_true_eq_false, not_false_eq_true, ite_true, ite_false, nI_rem3, nI_div2, nI_sub2, q_max_nI, q_min_nI, d0, d1, vh_ne, o0, vh70, e1, nI_m1]
            exact Q1
        · have u1 : ¬ (u = -1) := fun z => by rw [z] at c; exact c (by decide)
          have u2 : ¬ (u = -2) := fun z => by rw [z] at c; exact c (by decide)
          by_cases cf : lfN f lo = 1000000
          · have d1 : ¬ ¬ ((-1 : Int32) = -1) := not_not_intro rfl
            have e1 : ∀ K, Wp xs m_ChildsWay_fewest 0 [.ref 70, .null] [] (VH h (fm f) R' Q' (nI t) (nI lo)) 0 0 K = K (some (.int (-1))) (VH h (fm f) R' Q' (nI t) (nI lo)) := fun K => by rw [e_few hlo hF, if_pos cf]
            rw [if_pos cf, if_neg u2] at Q1
            simp (disch := first | assumption | omega) only [w_TwoPrints_child_27, w_TwoPrints_child_28, w_TwoPrints_child_30, w_TwoPrints_child_33, w_TwoPrints_child_34, w_TwoPrints_child_37, w_TwoPrints_child_40, w_TwoPrints_child_41, w_TwoPrints_child_42, w_TwoPrints_child_45, w_TwoPrints_child_48, w_TwoPrints_child_49, w_TwoPrints_child_52, w_TwoPrints_child_54, w_TwoPrints_child_55, w_TwoPrints_child_56, w_TwoPrints_child_57, w_TwoPrints_child_60, w_TwoPrints_child_61, w_TwoPrints_child_64, w_TwoPrints_child_67, w_TwoPrints_child_70, w_TwoPrints_child_71, w_TwoPrints_child_74, w_TwoPrints_child_75, w_TwoPrints_child_78, w_TwoPrints_child_79, w_TwoPrints_child_80, w_TwoPrints_child_83, q_rd_eq, q_nt_0, q_nt_s, q_ld_tab, q_st_tab, q_aa13, q_aa14, q_is_eq, q_wr_eq, q_01_0, q_01_1, q_nz_nI, q_len_tab, psh_some, psh_none, sm_up_at, sm_up_ne, nI_add, nI_lt2, nI_le2, nI_eq2, ls_set0, ls_setS, Nat.reduceAdd, Nat.zero_add, Nat.add_zero, not_true_eq_false, not_false_eq_true, ite_true, ite_false, nI_rem3, nI_div2, nI_sub2, q_max_nI, q_min_nI, u2, d1, vh_ne, o0, vh70, e1]
            exact Q1
          · have hle := lf_le W hlo cf
            have e1 : ∀ K, Wp xs m_ChildsWay_fewest 0 [.ref 70, .null] [] (VH h (fm f) R' Q' (nI t) (nI lo)) 0 0 K = K (some (.int (nI (lfN f lo)))) (VH h (fm f) R' Q' (nI t) (nI lo)) := fun K => by rw [e_few hlo hF, if_neg cf]
            rw [if_neg cf, if_neg u1, if_neg u2] at Q1
            simp (disch := first | assumption | omega) only [w_TwoPrints_child_27, w_TwoPrints_child_28, w_TwoPrints_child_30, w_TwoPrints_child_33, w_TwoPrints_child_34, w_TwoPrints_child_37, w_TwoPrints_child_40, w_TwoPrints_child_41, w_TwoPrints_child_42, w_TwoPrints_child_45, w_TwoPrints_child_48, w_TwoPrints_child_49, w_TwoPrints_child_52, w_TwoPrints_child_54, w_TwoPrints_child_55, w_TwoPrints_child_56, w_TwoPrints_child_57, w_TwoPrints_child_60, w_TwoPrints_child_61, w_TwoPrints_child_64, w_TwoPrints_child_67, w_TwoPrints_child_70, w_TwoPrints_child_71, w_TwoPrints_child_74, w_TwoPrints_child_75, w_TwoPrints_child_78, w_TwoPrints_child_79, w_TwoPrints_child_80, w_TwoPrints_child_83, q_rd_eq, q_nt_0, q_nt_s, q_ld_tab, q_st_tab, q_aa13, q_aa14, q_is_eq, q_wr_eq, q_01_0, q_01_1, q_nz_nI, q_len_tab, psh_some, psh_none, sm_up_at, sm_up_ne, nI_add, nI_lt2, nI_le2, nI_eq2, ls_set0, ls_setS, Nat.reduceAdd, Nat.zero_add, Nat.add_zero, not_true_eq_false, not_false_eq_true, ite_true, ite_false, nI_rem3, nI_div2, nI_sub2, q_max_nI, q_min_nI, u1, u2, vh_ne, o0, vh70, e1, nI_m1, e_row H hdp hB W hd hlo cf c]
            exact Q1
theorem c_childX (hb : ¬ (inr v 61 ∧ (-2 : Int32) ≤ u)) : Wp xs m_TwoPrints_child 0 [.ref 0, .int v, .int u] [] h 0 0 K = K (some (.int (-1))) h := by
  have c10 : ¬ (1 : Nat) = 0 := by omega
  by_cases c : inr v 61
  · have hu : ¬ (-2 : Int32) ≤ u := fun z => hb ⟨c, z⟩
    obtain ⟨k, hk, rfl⟩ := c
    simp (disch := first | assumption | omega) only [w_TwoPrints_child_0, w_TwoPrints_child_1, w_TwoPrints_child_4, w_TwoPrints_child_7, w_TwoPrints_child_8, w_TwoPrints_child_10, w_TwoPrints_child_13, w_TwoPrints_child_14, q_rd_eq, q_nt_0, q_nt_s, q_ld_tab, q_st_tab, q_aa13, q_aa14, q_is_eq, q_wr_eq, q_01_0, q_01_1, q_nz_nI, q_len_tab, psh_some, psh_none, sm_up_at, sm_up_ne, nI_add, nI_lt2, nI_le2, nI_eq2, ls_set0, ls_setS, Nat.reduceAdd, Nat.zero_add, Nat.add_zero, not_true_eq_false, not_false_eq_true, ite_true, ite_false, nI_rem3, nI_div2, nI_sub2, q_max_nI, q_min_nI, t_isJump, c10, hu]
  · simp (disch := first | assumption | omega) only [w_TwoPrints_child_0, w_TwoPrints_child_1, w_TwoPrints_child_4, w_TwoPrints_child_7, w_TwoPrints_child_8, w_TwoPrints_child_10, w_TwoPrints_child_13, w_TwoPrints_child_14, q_rd_eq, q_nt_0, q_nt_s, q_ld_tab, q_st_tab, q_aa13, q_aa14, q_is_eq, q_wr_eq, q_01_0, q_01_1, q_nz_nI, q_len_tab, psh_some, psh_none, sm_up_at, sm_up_ne, nI_add, nI_lt2, nI_le2, nI_eq2, ls_set0, ls_setS, Nat.reduceAdd, Nat.zero_add, Nat.add_zero, not_true_eq_false, not_false_eq_true, ite_true, ite_false, nI_rem3, nI_div2, nI_sub2, q_max_nI, q_min_nI, f_isJump]
theorem o_child (B : Bt h s) : Opc m_TwoPrints_child m_Model_child [.ref 0, .int v, .int u] [.ref 98, .int v, .int u, .null, .null, .null, .null, .null] h := by
  intro xs K q
  have B' := B
  obtain ⟨j, m, I, J, R, ok, hh⟩ := B
  have hl : m.2.2.1.2.1 0 ≤ 60 := by rw [R.len]; exact ok.2.1.2.1
  have hz := ok.2.2.1.2.1
  by_cases c : inr v 61 ∧ (-2 : Int32) ≤ u
  · obtain ⟨⟨d, hd, rfl⟩, hu⟩ := c
    have hBm : ∀ p, p < 122 → mB m p = hasP s.2.2.1 (p / 61) (p % 61) := by
      intro p hp
      unfold mB hasP
      rw [R.2.2.1 p (by omega)]
      unfold sv
      rw [if_pos hp]
    have hBl : ∀ p, p < 122 → mB m p = true → p % 61 ≤ m.2.2.1.2.1 0 := by
      intro p hp hb
      rw [hBm p hp] at hb
      have hb2 := of_decide_eq_true hb
      rw [R.len]
      apply Classical.byContradiction
      intro z
      rw [hz (p / 61) (p % 61) (by omega)] at hb2
      omega
    have hBb : ∀ x, x < 61 → mBb m x = cBb s.2.2.1 x := by
      intro x hx
      unfold mBb cBb hasP
      rw [R.D (k := 0) (by omega) hx, R.D (k := 1) (by omega) hx]
    have hcz : ∀ x, m.2.2.1.2.1 0 + 1 ≤ x → cBb s.2.2.1 x = false := by
      intro x hx
      rw [R.len] at hx
      unfold cBb hasP
      rw [hz 0 x (by omega), hz 1 x (by omega)]
      rfl
    have eF : firstF (cBb s.2.2.1) 0 61 = firstF (mBb m) 0 (m.2.2.1.2.1 0 + 1) := by
      refine firstF_eq (fun y hy => ?_) (fun y h1 h2 h3 => ?_)
      · obtain ⟨c1, c2, c3, -⟩ := firstF_lt _ _ _ _ hy
        have : y < m.2.2.1.2.1 0 + 1 := by
          apply Classical.byContradiction
          intro z
          rw [hcz y (by omega)] at c3
          cases c3
        exact ⟨by omega, by omega, by rw [hBb y (by omega)]; exact c3⟩
      · exact ⟨by omega, by omega, by rw [← hBb y (by omega)]; exact h3⟩
    have eL : lastF (cBb s.2.2.1) 61 = lastF (mBb m) (m.2.2.1.2.1 0 + 1) := by
      have e1 := lastF_cut hcz (60 - m.2.2.1.2.1 0)
      rw [show m.2.2.1.2.1 0 + 1 + (60 - m.2.2.1.2.1 0) = 61 by omega] at e1
      rw [e1]
      exact lastF_congr _ (fun z hz => (hBb z (by omega)).symm)
    refine C_child (d := d) (L := fun e => lvM m d e) I ok (by omega) hu hBm (fun e => lvM_lev hl hBl) (fun qf h1 j1 I1 f1 => ?_) (fun lo e qf ql h1 j1 I1 f1 => ?_)
    · refine M_child (J.frC f1) (R.sok ok) hl (by omega) hu hBl (fun _ => ?_) (fun lo e qf2 => ?_)
      · exact q _ _ s ⟨j1, m, I1, J.frC f1, R, ok, by rw [f1.2, hh]⟩
      · rw [← eF, qf] at qf2; cases qf2
    · refine M_child (J.frC f1) (R.sok ok) hl (by omega) hu hBl (fun qf2 => ?_) (fun lo2 e2 qf2 ql2 => ?_)
      · rw [← eF, qf] at qf2; cases qf2
      · rw [← eF, qf] at qf2
        rw [← eL, ql] at ql2
        cases qf2
        cases ql2
        show K (some (.int (chA (lvM m d e).1 (lvM m d e).2 lo u))) (some (.int (chA (lvM m d e).1 (lvM m d e).2 lo u))) (ZH h1 (fun i => nI ((lvM m d e).1 i)) (fun i => nI ((lvM m d e).2 i)))
        generalize (lvM m d e).1 = F0
        generalize (lvM m d e).2 = G0
        have Z := zh_at (F := fun i => nI (F0 i)) (G := fun i => nI (G0 i)) (J.frC f1)
        have F2 := zh_fr (h := h1) (F := fun i => nI (F0 i)) (G := fun i => nI (G0 i))
        exact q _ _ s ⟨j1, _, I1.frM F2, Z, ⟨R.1, R.2.1, R.2.2.1, R.2.2.2.1, R.2.2.2.2.1, R.2.2.2.2.2.1, R.2.2.2.2.2.2⟩, ok, by rw [F2.2, f1.2, hh]⟩
  · rw [c_childX c, m_childX J c]
    exact q _ _ s B'
end OCH
