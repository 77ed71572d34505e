/-! the child's way, by the class: countBack() -/
def VH (h : sm_Hp) (J R Q : Nat → Int32) (qn bg : Int32) : sm_Hp := sm_up (sm_up (sm_up (sm_up h 71 (10, tab 122 (fun i => .int (J i)))) 72 (10, tab 122 (fun i => .int (R i)))) 73 (10, tab 122 (fun i => .int (Q i)))) 70 (0, [.ref 71, .ref 72, .ref 73, .int qn, .int bg])
theorem fupI_at {f : Nat → Int32} {i : Nat} {v : Int32} : fupI f i v i = v := if_pos rfl
theorem fupI_ne {f : Nat → Int32} {i j : Nat} {v : Int32} (h : j ≠ i) : fupI f i v j = f j := if_neg h
theorem fupI_nI {r : Nat → Nat} {p v : Nat} : fupI (fun i => nI (r i)) p (nI v) = fun i => nI (fup r p v i) := by
  funext z
  unfold fupI fup
  split <;> rfl
def jF (kn : Nat → Bool) (f : Nat → Nat) : Nat → Int32 := fun p => if kn p = true then nI (f p) else -1
def cBb (P : PrS) (x : Nat) : Bool := hasP P 0 x || hasP P 1 x
theorem jF_t {kn : Nat → Bool} {f : Nat → Nat} {p : Nat} (h : kn p = true) : jF kn f p = nI (f p) := if_pos h
theorem jF_f {kn : Nat → Bool} {f : Nat → Nat} {p : Nat} (h : kn p = false) : jF kn f p = -1 := if_neg (by rw [h]; decide)
theorem jF_new {kn : Nat → Bool} {f : Nat → Nat} {p v : Nat} (h : f p = v) : fupI (jF kn f) p (nI v) = jF (knU kn p) f := by
  funext z
  unfold fupI jF
  by_cases c : z = p
  · rw [if_pos c, c, knU_at, if_pos rfl, h]
  · rw [if_neg c, knU_ne c]
section CWY
variable {xs : List Int32} {h : sm_Hp} {K : Option Value → sm_Hp → Prop} {J R Q : Nat → Int32} {qn bg : Int32} {P : PrS} {d e p q n : Nat} {f w r : Nat → Nat} {B : Nat → Bool}
theorem vh70 : (VH h J R Q qn bg).1 70 = (0, [.ref 71, .ref 72, .ref 73, .int qn, .int bg]) := sm_up_at
theorem vh71 : (VH h J R Q qn bg).1 71 = (10, tab 122 (fun i => .int (J i))) := (sm_up_ne (by omega)).trans ((sm_up_ne (by omega)).trans ((sm_up_ne (by omega)).trans sm_up_at))
theorem vh72 : (VH h J R Q qn bg).1 72 = (10, tab 122 (fun i => .int (R i))) := (sm_up_ne (by omega)).trans ((sm_up_ne (by omega)).trans sm_up_at)
theorem vh73 : (VH h J R Q qn bg).1 73 = (10, tab 122 (fun i => .int (Q i))) := (sm_up_ne (by omega)).trans sm_up_at
theorem vh_ne {a : Nat} (ha : a < 70 ∨ 73 < a) : (VH h J R Q qn bg).1 a = h.1 a := (sm_up_ne (by omega)).trans ((sm_up_ne (by omega)).trans ((sm_up_ne (by omega)).trans (sm_up_ne (by omega))))
theorem vu70 {qn' bg' : Int32} : sm_up (VH h J R Q qn bg) 70 (0, [.ref 71, .ref 72, .ref 73, .int qn', .int bg']) = VH h J R Q qn' bg' := up_up
theorem vu73 {g : Nat → Int32} : sm_up (VH h J R Q qn bg) 73 (10, tab 122 (fun i => .int (g i))) = VH h J R g qn bg := by
  unfold VH
  rw [up_comm (a := 70) (b := 73) (by omega), up_up]
theorem vu72 {g : Nat → Int32} : sm_up (VH h J R Q qn bg) 72 (10, tab 122 (fun i => .int (g i))) = VH h J g Q qn bg := by
  unfold VH
  rw [up_comm (a := 70) (b := 72) (by omega), up_comm (a := 73) (b := 72) (by omega), up_up]
theorem vu71 {g : Nat → Int32} : sm_up (VH h J R Q qn bg) 71 (10, tab 122 (fun i => .int (g i))) = VH h g R Q qn bg := by
  unfold VH
  rw [up_comm (a := 70) (b := 71) (by omega), up_comm (a := 73) (b := 71) (by omega), up_comm (a := 72) (b := 71) (by omega), up_up]
theorem vh_congr {J' R' : Nat → Int32} (h1 : ∀ i, i < 122 → J i = J' i) (h2 : ∀ i, i < 122 → R i = R' i) : VH h J R Q qn bg = VH h J' R' Q qn bg := by
  unfold VH
  rw [tab_congr (F := fun i => Value.int (J i)) (G := fun i => .int (J' i)) (fun i hi => by rw [h1 i hi]), tab_congr (F := fun i => Value.int (R i)) (G := fun i => .int (R' i)) (fun i hi => by rw [h2 i hi])]
theorem vh_pr (H : PrAt h 3 P) : PrAt (VH h J R Q qn bg) 3 P := fun j hj => (vh_ne (by omega)).trans (H j hj)
theorem vh_has (H : PrAt h 3 P) (hd : DepOk P) {k x : Nat} (hk : k < 2) (hx : x < 61) : Wp xs m_Prints_hasPrint 0 [.ref 3, .int (nI k), .int (nI x)] [] (VH h J R Q qn bg) 0 0 K = K (some (.int (nI (b2n (hasP P k x))))) (VH h J R Q qn bg) := p_hasPrint (vh_pr H) hd hk hx
theorem vh_low (H : PrAt h 3 P) (hd : DepOk P) : Wp xs m_Prints_lowestFoot 0 [.ref 3, .null] [] (VH h J R Q qn bg) 0 0 K = K (some (.int (oI (firstF (cBb P) 0 61)))) (VH h J R Q qn bg) := p_low (vh_pr H) hd
theorem vh_high (H : PrAt h 3 P) (hd : DepOk P) : Wp xs m_Prints_highestFoot 0 [.ref 3, .null] [] (VH h J R Q qn bg) 0 0 K = K (some (.int (oI (lastF (cBb P) 61)))) (VH h J R Q qn bg) := p_high (vh_pr H) hd
theorem vf71 {v : Int32} : Wp xs m_Arrays_fill 0 [.ref 71, .int v, .null, .null] [] (VH h J R Q qn bg) 0 0 K = K none (VH h (fun _ => v) R Q qn bg) := by
  rw [e_fill (by omega) vh71, vu71 (g := fun _ => v)]
theorem vf72 {v : Int32} : Wp xs m_Arrays_fill 0 [.ref 72, .int v, .null, .null] [] (VH h J R Q qn bg) 0 0 K = K none (VH h J (fun _ => v) Q qn bg) := by
  rw [e_fill (by omega) vh72, vu72 (g := fun _ => v)]
/-! reach() -/
theorem e_reachN {v s t : Nat} (hp : p < 122) (hJ : J p = -1) (ht : t < 122) (hr : r p < 1000003) (hs : s < 1000003) : Wp xs m_ChildsWay_reach 0 [.ref 70, .int (nI p), .int (nI v), .int (nI s)] [] (VH h J (fun i => nI (r i)) Q (nI t) bg) 0 0 K = K none (VH h (fupI J p (nI v)) (fun i => nI (fup r p ((r p + s) % 1000003) i)) (fupI Q t (nI p)) (nI (t + 1)) bg) := by
  have h1 : ¬ ¬ ((-1 : Int32) = -1) := not_not_intro rfl
  have h2 : ¬ 122 ≤ t := by omega
  simp (disch := first | assumption | omega) only [w_ChildsWay_reach_0, w_ChildsWay_reach_1, w_ChildsWay_reach_4, w_ChildsWay_reach_5, w_ChildsWay_reach_6, w_ChildsWay_reach_7, w_ChildsWay_reach_10, w_ChildsWay_reach_11, w_ChildsWay_reach_14, w_ChildsWay_reach_15, w_ChildsWay_reach_18, w_ChildsWay_reach_19, w_ChildsWay_reach_22, w_ChildsWay_reach_23, w_ChildsWay_reach_26, w_ChildsWay_reach_27, w_ChildsWay_reach_28, w_ChildsWay_reach_29, w_ChildsWay_reach_30, w_ChildsWay_reach_33, w_ChildsWay_reach_34, w_ChildsWay_reach_37, w_ChildsWay_reach_38, w_ChildsWay_reach_39, w_ChildsWay_reach_40, w_ChildsWay_reach_41, w_ChildsWay_reach_44, w_ChildsWay_reach_45, w_ChildsWay_reach_46, w_ChildsWay_reach_49, w_ChildsWay_reach_50, w_ChildsWay_reach_53, w_ChildsWay_reach_54, w_ChildsWay_reach_55, w_ChildsWay_reach_56, w_ChildsWay_reach_59, w_ChildsWay_reach_60, w_ChildsWay_reach_63, w_ChildsWay_reach_64, w_ChildsWay_reach_65, w_ChildsWay_reach_68, w_ChildsWay_reach_69, w_ChildsWay_reach_70, w_ChildsWay_reach_71, w_ChildsWay_reach_72, w_ChildsWay_reach_74, w_ChildsWay_reach_75, w_ChildsWay_reach_76, q_rd_eq, q_nt_0, q_nt_s, q_ld_tab, q_st_tab, q_aa13, q_aa14, q_is_eq, q_wr_eq, q_01_0, q_01_1, q_nz_nI, q_len_tab, psh_some, psh_none, sm_up_at, sm_up_ne, nI_add, nI_lt2, nI_le2, nI_eq2, ls_set0, ls_setS, Nat.reduceAdd, Nat.zero_add, Nat.add_zero, not_true_eq_false, not_false_eq_true, ite_true, ite_false, nI_rem3, nI_div2, nI_sub2, q_max_nI, q_min_nI, vh70, vh71, vh72, vh73, hJ, h1, h2, tab_fupI, vu70, vu71, vu72, vu73, fupI_at]
  rw [fupI_nI]
theorem e_reachA {v s : Nat} (hp : p < 122) (hv : v < 2147483648) (hJ : J p = nI v) (hr : r p < 1000003) (hs : s < 1000003) : Wp xs m_ChildsWay_reach 0 [.ref 70, .int (nI p), .int (nI v), .int (nI s)] [] (VH h J (fun i => nI (r i)) Q qn bg) 0 0 K = K none (VH h J (fun i => nI (fup r p ((r p + s) % 1000003) i)) Q qn bg) := by
  simp (disch := first | assumption | omega) only [w_ChildsWay_reach_0, w_ChildsWay_reach_1, w_ChildsWay_reach_4, w_ChildsWay_reach_5, w_ChildsWay_reach_6, w_ChildsWay_reach_7, w_ChildsWay_reach_10, w_ChildsWay_reach_11, w_ChildsWay_reach_14, w_ChildsWay_reach_15, w_ChildsWay_reach_18, w_ChildsWay_reach_19, w_ChildsWay_reach_22, w_ChildsWay_reach_23, w_ChildsWay_reach_26, w_ChildsWay_reach_27, w_ChildsWay_reach_28, w_ChildsWay_reach_29, w_ChildsWay_reach_30, w_ChildsWay_reach_33, w_ChildsWay_reach_34, w_ChildsWay_reach_37, w_ChildsWay_reach_38, w_ChildsWay_reach_39, w_ChildsWay_reach_40, w_ChildsWay_reach_41, w_ChildsWay_reach_44, w_ChildsWay_reach_45, w_ChildsWay_reach_46, w_ChildsWay_reach_49, w_ChildsWay_reach_50, w_ChildsWay_reach_53, w_ChildsWay_reach_54, w_ChildsWay_reach_55, w_ChildsWay_reach_56, w_ChildsWay_reach_59, w_ChildsWay_reach_60, w_ChildsWay_reach_63, w_ChildsWay_reach_64, w_ChildsWay_reach_65, w_ChildsWay_reach_68, w_ChildsWay_reach_69, w_ChildsWay_reach_70, w_ChildsWay_reach_71, w_ChildsWay_reach_72, w_ChildsWay_reach_74, w_ChildsWay_reach_75, w_ChildsWay_reach_76, q_rd_eq, q_nt_0, q_nt_s, q_ld_tab, q_st_tab, q_aa13, q_aa14, q_is_eq, q_wr_eq, q_01_0, q_01_1, q_nz_nI, q_len_tab, psh_some, psh_none, sm_up_at, sm_up_ne, nI_add, nI_lt2, nI_le2, nI_eq2, ls_set0, ls_setS, Nat.reduceAdd, Nat.zero_add, Nat.add_zero, not_true_eq_false, not_false_eq_true, ite_true, ite_false, nI_rem3, nI_div2, nI_sub2, q_max_nI, q_min_nI, vh70, vh71, vh72, hJ, nI_m1, tab_fup, vu72]
theorem e_reachO {v u s : Nat} (hp : p < 122) (hv : v < 2147483648) (hu : u < 2147483648) (hJ : J p = nI u) (hn : u ≠ v) : Wp xs m_ChildsWay_reach 0 [.ref 70, .int (nI p), .int (nI v), .int (nI s)] [] (VH h J R Q qn bg) 0 0 K = K none (VH h J R Q qn bg) := by
  have h1 : ¬ u = v := hn
  simp (disch := first | assumption | omega) only [w_ChildsWay_reach_0, w_ChildsWay_reach_1, w_ChildsWay_reach_4, w_ChildsWay_reach_5, w_ChildsWay_reach_6, w_ChildsWay_reach_7, w_ChildsWay_reach_10, w_ChildsWay_reach_11, w_ChildsWay_reach_14, w_ChildsWay_reach_15, w_ChildsWay_reach_18, w_ChildsWay_reach_19, w_ChildsWay_reach_22, w_ChildsWay_reach_23, w_ChildsWay_reach_26, w_ChildsWay_reach_27, w_ChildsWay_reach_28, w_ChildsWay_reach_29, w_ChildsWay_reach_30, w_ChildsWay_reach_33, w_ChildsWay_reach_34, w_ChildsWay_reach_37, w_ChildsWay_reach_38, w_ChildsWay_reach_39, w_ChildsWay_reach_40, w_ChildsWay_reach_41, w_ChildsWay_reach_44, w_ChildsWay_reach_45, w_ChildsWay_reach_46, w_ChildsWay_reach_49, w_ChildsWay_reach_50, w_ChildsWay_reach_53, w_ChildsWay_reach_54, w_ChildsWay_reach_55, w_ChildsWay_reach_56, w_ChildsWay_reach_59, w_ChildsWay_reach_60, w_ChildsWay_reach_63, w_ChildsWay_reach_64, w_ChildsWay_reach_65, w_ChildsWay_reach_68, w_ChildsWay_reach_69, w_ChildsWay_reach_70, w_ChildsWay_reach_71, w_ChildsWay_reach_72, w_ChildsWay_reach_74, w_ChildsWay_reach_75, w_ChildsWay_reach_76, q_rd_eq, q_nt_0, q_nt_s, q_ld_tab, q_st_tab, q_aa13, q_aa14, q_is_eq, q_wr_eq, q_01_0, q_01_1, q_nz_nI, q_len_tab, psh_some, psh_none, sm_up_at, sm_up_ne, nI_add, nI_lt2, nI_le2, nI_eq2, ls_set0, ls_setS, Nat.reduceAdd, Nat.zero_add, Nat.add_zero, not_true_eq_false, not_false_eq_true, ite_true, ite_false, nI_rem3, nI_div2, nI_sub2, q_max_nI, q_min_nI, vh70, vh71, hJ, nI_m1, h1]
/-! reachThoseBefore() -/
def XvI (d : Nat) (f w : Nat → Nat) (pr : Nat → Bool) (q x qn0 : Nat) (qu0 : Nat → Nat) (kn : Nat → Bool) (r qu : Nat → Nat) (t : Nat) (Qa : Nat → Int32) : Prop :=
  QuI f kn qu t (f q + 1) ∧ KnI d f (phX pr q x) kn ∧ RwI d f w (phX pr q x) r ∧ (∀ p, p < 122 → r p < 1000003) ∧ (∀ p, p < 122 → f p ≤ f q → kn p = true) ∧ r q = w q ∧ qn0 ≤ t ∧ (∀ j, j < qn0 → qu j = qu0 j) ∧ (∀ j, j < t → Qa j = nI (qu j))
theorem rt_loop (H : PrAt h 3 P) (hdp : DepOk P) (hB : ∀ p, p < 122 → B p = hasP P (p / 61) (p % 61)) (V : Lev B d e f w) (hdd : d ≤ 60) (hq : q < 122) (hfq : f q ≤ 122) {pr : Nat → Bool} (hpq : pr q = false) {qn0 : Nat} {qu0 : Nat → Nat} (Qk : ∀ kn r qu t Qa, XvI d f w pr q (q % 61 + 1) qn0 qu0 kn r qu t Qa → K none (VH h (jF kn f) (fun i => nI (r i)) Qa (nI t) bg)) : ∀ c x kn r qu t Qa, x + c = q % 61 + 1 → q % 61 - d ≤ x → XvI d f w pr q x qn0 qu0 kn r qu t Qa → Wp xs m_ChildsWay_reachThoseBefore 24 [.ref 70, .ref 3, .int (nI q), .int (nI d), .int (nI (1 - q / 61)), .int (nI (q % 61)), .int (nI x)] [] (VH h (jF kn f) (fun i => nI (r i)) Qa (nI t) bg) 0 0 K := by
  intro c
  induction c with
  | zero =>
    intro x kn r qu t Qa hx hx2 X
    have e : x = q % 61 + 1 := by omega
    subst e
    have h1 : q % 61 < q % 61 + 1 := by omega
    rw [w_ChildsWay_reachThoseBefore_24]
    simp (disch := first | assumption | omega) only [w_ChildsWay_reachThoseBefore_26, w_ChildsWay_reachThoseBefore_28, w_ChildsWay_reachThoseBefore_31, w_ChildsWay_reachThoseBefore_32, w_ChildsWay_reachThoseBefore_34, w_ChildsWay_reachThoseBefore_36, w_ChildsWay_reachThoseBefore_39, w_ChildsWay_reachThoseBefore_42, w_ChildsWay_reachThoseBefore_43, w_ChildsWay_reachThoseBefore_45, w_ChildsWay_reachThoseBefore_47, w_ChildsWay_reachThoseBefore_48, w_ChildsWay_reachThoseBefore_50, w_ChildsWay_reachThoseBefore_51, w_ChildsWay_reachThoseBefore_52, w_ChildsWay_reachThoseBefore_55, w_ChildsWay_reachThoseBefore_56, w_ChildsWay_reachThoseBefore_57, w_ChildsWay_reachThoseBefore_58, w_ChildsWay_reachThoseBefore_59, w_ChildsWay_reachThoseBefore_60, w_ChildsWay_reachThoseBefore_63, w_ChildsWay_reachThoseBefore_64, w_ChildsWay_reachThoseBefore_65, w_ChildsWay_reachThoseBefore_68, w_ChildsWay_reachThoseBefore_71, w_ChildsWay_reachThoseBefore_74, q_rd_eq, q_nt_0, q_nt_s, q_ld_tab, q_st_tab, q_aa13, q_aa14, q_is_eq, q_wr_eq, q_01_0, q_01_1, q_nz_nI, q_len_tab, psh_some, psh_none, sm_up_at, sm_up_ne, nI_add, nI_lt2, nI_le2, nI_eq2, ls_set0, ls_setS, Nat.reduceAdd, Nat.zero_add, Nat.add_zero, not_true_eq_false, not_false_eq_true, ite_true, ite_false, nI_rem3, nI_div2, nI_sub2, q_max_nI, q_min_nI, h1]
    exact Qk _ _ _ _ _ X
  | succ c ih =>
    intro x kn r qu t Qa hx hx2 X
    have hx61 : x < 61 := by omega
    have h1 : ¬ q % 61 < x := by omega
    have ht : b2n true = 1 := rfl
    have hf0 : b2n false = 0 := rfl
    have c10 : ¬ (1 : Nat) = 0 := by omega
    have hp0 : oth q + x < 122 := oth_lt hx61
    have eo : (1 - q / 61) * 61 + x = oth q + x := by unfold oth; omega
    have hBp : B (oth q + x) = hasP P (1 - q / 61) x := by rw [hB _ hp0, oth_div hx61, oth_mod hx61]
    have ne : q ≠ oth q + x := by unfold oth; omega
    obtain ⟨x1, x2, x3, x4, x5, x6, x7, x8, x9⟩ := X
    have hkq : kn q = true := x5 q hq (Nat.le_refl _)
    have ejq : jF kn f q = nI (f q) := jF_t hkq
    have hwq : w q < 1000003 := V.2.2.2.2.2.2 q hq
    rw [w_ChildsWay_reachThoseBefore_24]
    cases hb : hasP P (1 - q / 61) x with
    | false =>
      have hfar : f (oth q + x) = 1000000 := by
        apply Classical.byContradiction
        intro z
        have := (V.1 _ hp0 z).1
        rw [hBp, hb] at this
        cases this
      simp (disch := first | assumption | omega) only [w_ChildsWay_reachThoseBefore_26, w_ChildsWay_reachThoseBefore_28, w_ChildsWay_reachThoseBefore_31, w_ChildsWay_reachThoseBefore_32, w_ChildsWay_reachThoseBefore_34, w_ChildsWay_reachThoseBefore_36, w_ChildsWay_reachThoseBefore_39, w_ChildsWay_reachThoseBefore_42, w_ChildsWay_reachThoseBefore_43, w_ChildsWay_reachThoseBefore_45, w_ChildsWay_reachThoseBefore_47, w_ChildsWay_reachThoseBefore_48, w_ChildsWay_reachThoseBefore_50, w_ChildsWay_reachThoseBefore_51, w_ChildsWay_reachThoseBefore_52, w_ChildsWay_reachThoseBefore_55, w_ChildsWay_reachThoseBefore_56, w_ChildsWay_reachThoseBefore_57, w_ChildsWay_reachThoseBefore_58, w_ChildsWay_reachThoseBefore_59, w_ChildsWay_reachThoseBefore_60, w_ChildsWay_reachThoseBefore_63, w_ChildsWay_reachThoseBefore_64, w_ChildsWay_reachThoseBefore_65, w_ChildsWay_reachThoseBefore_68, w_ChildsWay_reachThoseBefore_71, q_rd_eq, q_nt_0, q_nt_s, q_ld_tab, q_st_tab, q_aa13, q_aa14, q_is_eq, q_wr_eq, q_01_0, q_01_1, q_nz_nI, q_len_tab, psh_some, psh_none, sm_up_at, sm_up_ne, nI_add, nI_lt2, nI_le2, nI_eq2, ls_set0, ls_setS, Nat.reduceAdd, Nat.zero_add, Nat.add_zero, not_true_eq_false, not_false_eq_true, ite_true, ite_false, nI_rem3, nI_div2, nI_sub2, q_max_nI, q_min_nI, h1, vh_ne, H.c0, vh_has H hdp, hb, hf0]
      refine ih (x + 1) _ _ _ _ _ (by omega) (by omega) ⟨x1, kn_step hq (by omega) (by omega) (fun _ _ => rfl) ?_ x2, rw_step hq (by omega) (by omega) hpq (fun _ _ => rfl) (fun z => absurd z (by omega)) (fun _ => rfl) x3, x4, x5, x6, x7, x8, x9⟩
      exact ⟨Or.inl, fun z => z.elim id (fun z2 => absurd z2 (by omega))⟩
    | true =>
      have hbt : B (oth q + x) = true := by rw [hBp, hb]
      have hle : f (oth q + x) ≤ f q + 1 := by
        have := V.2.2.2.2.1 (oth q + x) hp0 hbt (q % 61) (by omega) (by rw [oth_mod hx61]; omega) (by rw [oth_mod hx61]; omega)
        rw [oth_oth hq hx61] at this
        exact this (by omega)
      have hrp := x4 _ hp0
      cases hk : kn (oth q + x) with
      | false =>
        have hfp : f (oth q + x) = f q + 1 := by
          rcases Nat.lt_or_ge (f q) (f (oth q + x)) with z | z
          · omega
          · rw [x5 _ hp0 z] at hk; cases hk
        have hlt := x1.lt hp0 hk
        have ER : ∀ K, Wp xs m_ChildsWay_reach 0 [.ref 70, .int (nI (oth q + x)), .int (nI (f q + 1)), .int (nI (w q))] [] (VH h (jF kn f) (fun i => nI (r i)) Qa (nI t) bg) 0 0 K = K none (VH h (jF (knU kn (oth q + x)) f) (fun i => nI (fup r (oth q + x) ((r (oth q + x) + w q) % 1000003) i)) (fupI Qa t (nI (oth q + x))) (nI (t + 1)) bg) := fun K => by
          rw [e_reachN hp0 (jF_f hk) hlt hrp hwq, jF_new hfp]
        simp (disch := first | assumption | omega) only [w_ChildsWay_reachThoseBefore_26, w_ChildsWay_reachThoseBefore_28, w_ChildsWay_reachThoseBefore_31, w_ChildsWay_reachThoseBefore_32, w_ChildsWay_reachThoseBefore_34, w_ChildsWay_reachThoseBefore_36, w_ChildsWay_reachThoseBefore_39, w_ChildsWay_reachThoseBefore_42, w_ChildsWay_reachThoseBefore_43, w_ChildsWay_reachThoseBefore_45, w_ChildsWay_reachThoseBefore_47, w_ChildsWay_reachThoseBefore_48, w_ChildsWay_reachThoseBefore_50, w_ChildsWay_reachThoseBefore_51, w_ChildsWay_reachThoseBefore_52, w_ChildsWay_reachThoseBefore_55, w_ChildsWay_reachThoseBefore_56, w_ChildsWay_reachThoseBefore_57, w_ChildsWay_reachThoseBefore_58, w_ChildsWay_reachThoseBefore_59, w_ChildsWay_reachThoseBefore_60, w_ChildsWay_reachThoseBefore_63, w_ChildsWay_reachThoseBefore_64, w_ChildsWay_reachThoseBefore_65, w_ChildsWay_reachThoseBefore_68, w_ChildsWay_reachThoseBefore_71, q_rd_eq, q_nt_0, q_nt_s, q_ld_tab, q_st_tab, q_aa13, q_aa14, q_is_eq, q_wr_eq, q_01_0, q_01_1, q_nz_nI, q_len_tab, psh_some, psh_none, sm_up_at, sm_up_ne, nI_add, nI_lt2, nI_le2, nI_eq2, ls_set0, ls_setS, Nat.reduceAdd, Nat.zero_add, Nat.add_zero, not_true_eq_false, not_false_eq_true, ite_true, ite_false, nI_rem3, nI_div2, nI_sub2, q_max_nI, q_min_nI, h1, vh_ne, H.c0, vh_has H hdp, hb, ht, c10, pk_mul, eo, vh70, vh71, vh72, ejq, x6, ER]
        refine ih (x + 1) _ _ _ _ _ (by omega) (by omega) ⟨x1.add hp0 hk hfp, kn_step hq (by omega) (by omega) (fun z hz => knU_ne hz) ?_ x2, rw_step hq (by omega) (by omega) hpq (fun z hz => fup_ne hz) (fun _ _ => fup_at) (fun z => absurd hfp z) x3, fun z hz => ?_, fun z hz hle2 => ?_, ?_, by omega, fun j hj => ?_, fun j hj => ?_⟩
        · rw [knU_at]
          exact ⟨fun _ => Or.inr hfp.symm, fun _ => rfl⟩
        · by_cases cz : z = oth q + x
          · rw [cz, fup_at]; exact Nat.mod_lt _ (by decide)
          · rw [fup_ne cz]; exact x4 z hz
        · by_cases cz : z = oth q + x
          · rw [cz]; exact knU_at
          · rw [knU_ne cz]; exact x5 z hz hle2
        · rw [fup_ne ne]; exact x6
        · rw [fup_ne (by omega)]; exact x8 j hj
        · by_cases cj : j = t
          · rw [cj, fupI_at, fup_at]
          · rw [fupI_ne cj, fup_ne cj]; exact x9 j (by omega)
      | true =>
        by_cases hfp : f (oth q + x) = f q + 1
        · have ER : ∀ K, Wp xs m_ChildsWay_reach 0 [.ref 70, .int (nI (oth q + x)), .int (nI (f q + 1)), .int (nI (w q))] [] (VH h (jF kn f) (fun i => nI (r i)) Qa (nI t) bg) 0 0 K = K none (VH h (jF kn f) (fun i => nI (fup r (oth q + x) ((r (oth q + x) + w q) % 1000003) i)) Qa (nI t) bg) := fun K => e_reachA hp0 (by omega) (by rw [jF_t hk, hfp]) hrp hwq
          simp (disch := first | assumption | omega) only [w_ChildsWay_reachThoseBefore_26, w_ChildsWay_reachThoseBefore_28, w_ChildsWay_reachThoseBefore_31, w_ChildsWay_reachThoseBefore_32, w_ChildsWay_reachThoseBefore_34, w_ChildsWay_reachThoseBefore_36, w_ChildsWay_reachThoseBefore_39, w_ChildsWay_reachThoseBefore_42, w_ChildsWay_reachThoseBefore_43, w_ChildsWay_reachThoseBefore_45, w_ChildsWay_reachThoseBefore_47, w_ChildsWay_reachThoseBefore_48, w_ChildsWay_reachThoseBefore_50, w_ChildsWay_reachThoseBefore_51, w_ChildsWay_reachThoseBefore_52, w_ChildsWay_reachThoseBefore_55, w_ChildsWay_reachThoseBefore_56, w_ChildsWay_reachThoseBefore_57, w_ChildsWay_reachThoseBefore_58, w_ChildsWay_reachThoseBefore_59, w_ChildsWay_reachThoseBefore_60, w_ChildsWay_reachThoseBefore_63, w_ChildsWay_reachThoseBefore_64, w_ChildsWay_reachThoseBefore_65, w_ChildsWay_reachThoseBefore_68, w_ChildsWay_reachThoseBefore_71, q_rd_eq, q_nt_0, q_nt_s, q_ld_tab, q_st_tab, q_aa13, q_aa14, q_is_eq, q_wr_eq, q_01_0, q_01_1, q_nz_nI, q_len_tab, psh_some, psh_none, sm_up_at, sm_up_ne, nI_add, nI_lt2, nI_le2, nI_eq2, ls_set0, ls_setS, Nat.reduceAdd, Nat.zero_add, Nat.add_zero, not_true_eq_false, not_false_eq_true, ite_true, ite_false, nI_rem3, nI_div2, nI_sub2, q_max_nI, q_min_nI, h1, vh_ne, H.c0, vh_has H hdp, hb, ht, c10, pk_mul, eo, vh70, vh71, vh72, ejq, x6, ER]
          refine ih (x + 1) _ _ _ _ _ (by omega) (by omega) ⟨x1, kn_step hq (by omega) (by omega) (fun _ _ => rfl) ?_ x2, rw_step hq (by omega) (by omega) hpq (fun z hz => fup_ne hz) (fun _ _ => fup_at) (fun z => absurd hfp z) x3, fun z hz => ?_, x5, ?_, x7, x8, x9⟩
          · rw [hk]
            exact ⟨fun _ => Or.inl rfl, fun _ => rfl⟩
          · by_cases cz : z = oth q + x
            · rw [cz, fup_at]; exact Nat.mod_lt _ (by decide)
            · rw [fup_ne cz]; exact x4 z hz
          · rw [fup_ne ne]; exact x6
        · have ER : ∀ K, Wp xs m_ChildsWay_reach 0 [.ref 70, .int (nI (oth q + x)), .int (nI (f q + 1)), .int (nI (w q))] [] (VH h (jF kn f) (fun i => nI (r i)) Qa (nI t) bg) 0 0 K = K none (VH h (jF kn f) (fun i => nI (r i)) Qa (nI t) bg) := fun K => e_reachO (u := f (oth q + x)) hp0 (by omega) (by omega) (jF_t hk) hfp
          simp (disch := first | assumption | omega) only [w_ChildsWay_reachThoseBefore_26, w_ChildsWay_reachThoseBefore_28, w_ChildsWay_reachThoseBefore_31, w_ChildsWay_reachThoseBefore_32, w_ChildsWay_reachThoseBefore_34, w_ChildsWay_reachThoseBefore_36, w_ChildsWay_reachThoseBefore_39, w_ChildsWay_reachThoseBefore_42, w_ChildsWay_reachThoseBefore_43, w_ChildsWay_reachThoseBefore_45, w_ChildsWay_reachThoseBefore_47, w_ChildsWay_reachThoseBefore_48, w_ChildsWay_reachThoseBefore_50, w_ChildsWay_reachThoseBefore_51, w_ChildsWay_reachThoseBefore_52, w_ChildsWay_reachThoseBefore_55, w_ChildsWay_reachThoseBefore_56, w_ChildsWay_reachThoseBefore_57, w_ChildsWay_reachThoseBefore_58, w_ChildsWay_reachThoseBefore_59, w_ChildsWay_reachThoseBefore_60, w_ChildsWay_reachThoseBefore_63, w_ChildsWay_reachThoseBefore_64, w_ChildsWay_reachThoseBefore_65, w_ChildsWay_reachThoseBefore_68, w_ChildsWay_reachThoseBefore_71, q_rd_eq, q_nt_0, q_nt_s, q_ld_tab, q_st_tab, q_aa13, q_aa14, q_is_eq, q_wr_eq, q_01_0, q_01_1, q_nz_nI, q_len_tab, psh_some, psh_none, sm_up_at, sm_up_ne, nI_add, nI_lt2, nI_le2, nI_eq2, ls_set0, ls_setS, Nat.reduceAdd, Nat.zero_add, Nat.add_zero, not_true_eq_false, not_false_eq_true, ite_true, ite_false, nI_rem3, nI_div2, nI_sub2, q_max_nI, q_min_nI, h1, vh_ne, H.c0, vh_has H hdp, hb, ht, c10, pk_mul, eo, vh70, vh71, vh72, ejq, x6, ER]
          refine ih (x + 1) _ _ _ _ _ (by omega) (by omega) ⟨x1, kn_step hq (by omega) (by omega) (fun _ _ => rfl) ?_ x2, rw_step hq (by omega) (by omega) hpq (fun _ _ => rfl) (fun z => absurd z hfp) (fun _ => rfl) x3, x4, x5, x6, x7, x8, x9⟩
          rw [hk]
          exact ⟨fun _ => Or.inl rfl, fun _ => rfl⟩
theorem cb_loop (H : PrAt h 3 P) (hdp : DepOk P) (hB : ∀ p, p < 122 → B p = hasP P (p / 61) (p % 61)) (V : Lev B d e f w) (hdd : d ≤ 60) {a3 : Int32} (Qk : ∀ (kn : Nat → Bool) (r : Nat → Nat) (Qa : Nat → Int32) (t : Nat), (∀ p, p < 122 → (kn p = true ↔ f p ≠ 1000000)) → (∀ p, p < 122 → f p ≠ 1000000 → r p = w p) → K none (VH h (jF kn f) (fun i => nI (r i)) Qa (nI t) bg)) : ∀ c i t qu kn pr r Qa, i + c = 122 → BfI d f w i t qu kn pr r → (∀ j, j < t → Qa j = nI (qu j)) → Wp xs m_ChildsWay_countBack 81 [.ref 70, .ref 3, .int (nI d), .int a3, .int (nI i)] [] (VH h (jF kn f) (fun i => nI (r i)) Qa (nI t) bg) 0 0 K := by
  intro c
  induction c with
  | zero =>
    intro i t qu kn pr r Qa hi I hQ
    have ht := I.2.1
    obtain ⟨b, Q1, -⟩ := ht
    have hle := Q1.le
    have h1 : 122 ≤ i := by omega
    rw [w_ChildsWay_countBack_81]
    simp (disch := first | assumption | omega) only [w_ChildsWay_countBack_83, w_ChildsWay_countBack_84, w_ChildsWay_countBack_87, w_ChildsWay_countBack_88, w_ChildsWay_countBack_91, w_ChildsWay_countBack_93, w_ChildsWay_countBack_94, w_ChildsWay_countBack_97, w_ChildsWay_countBack_100, w_ChildsWay_countBack_101, w_ChildsWay_countBack_102, w_ChildsWay_countBack_103, w_ChildsWay_countBack_106, w_ChildsWay_countBack_108, w_ChildsWay_countBack_109, w_ChildsWay_countBack_110, w_ChildsWay_countBack_113, w_ChildsWay_countBack_116, w_ChildsWay_countBack_119, q_rd_eq, q_nt_0, q_nt_s, q_ld_tab, q_st_tab, q_aa13, q_aa14, q_is_eq, q_wr_eq, q_01_0, q_01_1, q_nz_nI, q_len_tab, psh_some, psh_none, sm_up_at, sm_up_ne, nI_add, nI_lt2, nI_le2, nI_eq2, ls_set0, ls_setS, Nat.reduceAdd, Nat.zero_add, Nat.add_zero, not_true_eq_false, not_false_eq_true, ite_true, ite_false, nI_rem3, nI_div2, nI_sub2, q_max_nI, q_min_nI, vh70, vh73, h1]
    exact Qk _ _ _ _ (done_kn V I (by omega)) (done_r V I (by omega))
  | succ c ih =>
    intro i t qu kn pr r Qa hi I hQ
    have h1 : ¬ 122 ≤ i := by omega
    obtain ⟨b, Q1, hb⟩ := I.2.1
    have hle := Q1.le
    rw [w_ChildsWay_countBack_81]
    by_cases h2 : t ≤ i
    · simp (disch := first | assumption | omega) only [w_ChildsWay_countBack_83, w_ChildsWay_countBack_84, w_ChildsWay_countBack_87, w_ChildsWay_countBack_88, w_ChildsWay_countBack_91, w_ChildsWay_countBack_93, w_ChildsWay_countBack_94, w_ChildsWay_countBack_97, w_ChildsWay_countBack_100, w_ChildsWay_countBack_101, w_ChildsWay_countBack_102, w_ChildsWay_countBack_103, w_ChildsWay_countBack_106, w_ChildsWay_countBack_108, w_ChildsWay_countBack_109, w_ChildsWay_countBack_110, w_ChildsWay_countBack_113, w_ChildsWay_countBack_116, w_ChildsWay_countBack_119, q_rd_eq, q_nt_0, q_nt_s, q_ld_tab, q_st_tab, q_aa13, q_aa14, q_is_eq, q_wr_eq, q_01_0, q_01_1, q_nz_nI, q_len_tab, psh_some, psh_none, sm_up_at, sm_up_ne, nI_add, nI_lt2, nI_le2, nI_eq2, ls_set0, ls_setS, Nat.reduceAdd, Nat.zero_add, Nat.add_zero, not_true_eq_false, not_false_eq_true, ite_true, ite_false, nI_rem3, nI_div2, nI_sub2, q_max_nI, q_min_nI, vh70, vh73, h1, h2]
      exact Qk _ _ _ _ (done_kn V I h2) (done_r V I h2)
    · have hit : i < t := by omega
      have hq := Q1.1 i hit
      have hkq : kn (qu i) = true := (Q1.2.1 _ hq).mpr ⟨i, hit, rfl⟩
      have hfq := kn_fin V I.2.2.2.1 hq hkq
      have eQ := hQ i hit
      have kl := known_le V I hit
      have T := rt_loop (xs := xs) (bg := bg) (K := fun r h' => Wp xs m_ChildsWay_countBack 113 [.ref 70, .ref 3, .int (nI d), .int a3, .int (nI i)] (psh r []) h' 0 0 K) H hdp hB V hdd hq hfq (turn_new I hit) (qn0 := t) (qu0 := qu) (fun kn' r' qu' t' Qa' X => ?_) (qu i % 61 + 1 - (qu i % 61 - d)) (qu i % 61 - d) kn r qu t Qa (by omega) (Nat.le_refl _) ⟨Q1.up (hb hit), I.2.2.2.1.congr (ph_first hq), I.2.2.2.2.1.congr (ph_first hq), I.2.2.2.2.2, fun p hp hf => kl _ p hp rfl hf, turn_w V I hit, Nat.le_refl _, fun _ _ => rfl, hQ⟩
      · generalize hqe : qu i = q at hq T eQ
        simp (disch := first | assumption | omega) only [w_ChildsWay_countBack_83, w_ChildsWay_countBack_84, w_ChildsWay_countBack_87, w_ChildsWay_countBack_88, w_ChildsWay_countBack_91, w_ChildsWay_countBack_93, w_ChildsWay_countBack_94, w_ChildsWay_countBack_97, w_ChildsWay_countBack_100, w_ChildsWay_countBack_101, w_ChildsWay_countBack_102, w_ChildsWay_countBack_103, w_ChildsWay_countBack_106, w_ChildsWay_countBack_108, w_ChildsWay_countBack_109, w_ChildsWay_countBack_110, w_ChildsWay_reachThoseBefore_0, w_ChildsWay_reachThoseBefore_1, w_ChildsWay_reachThoseBefore_2, w_ChildsWay_reachThoseBefore_4, w_ChildsWay_reachThoseBefore_5, w_ChildsWay_reachThoseBefore_6, w_ChildsWay_reachThoseBefore_8, w_ChildsWay_reachThoseBefore_9, w_ChildsWay_reachThoseBefore_11, w_ChildsWay_reachThoseBefore_12, w_ChildsWay_reachThoseBefore_14, w_ChildsWay_reachThoseBefore_15, w_ChildsWay_reachThoseBefore_17, w_ChildsWay_reachThoseBefore_18, w_ChildsWay_reachThoseBefore_19, w_ChildsWay_reachThoseBefore_22, q_rd_eq, q_nt_0, q_nt_s, q_ld_tab, q_st_tab, q_aa13, q_aa14, q_is_eq, q_wr_eq, q_01_0, q_01_1, q_nz_nI, q_len_tab, psh_some, psh_none, sm_up_at, sm_up_ne, nI_add, nI_lt2, nI_le2, nI_eq2, ls_set0, ls_setS, Nat.reduceAdd, Nat.zero_add, Nat.add_zero, not_true_eq_false, not_false_eq_true, ite_true, ite_false, nI_rem3, nI_div2, nI_sub2, q_max_nI, q_min_nI, vh70, vh73, h1, h2, eQ, q_max0]
        exact T
      · obtain ⟨x1, x2, x3, x4, x5, x6, x7, x8, x9⟩ := X
        simp (disch := first | assumption | omega) only [w_ChildsWay_countBack_113, w_ChildsWay_countBack_116, q_rd_eq, q_nt_0, q_nt_s, q_ld_tab, q_st_tab, q_aa13, q_aa14, q_is_eq, q_wr_eq, q_01_0, q_01_1, q_nz_nI, q_len_tab, psh_some, psh_none, sm_up_at, sm_up_ne, nI_add, nI_lt2, nI_le2, nI_eq2, ls_set0, ls_setS, Nat.reduceAdd, Nat.zero_add, Nat.add_zero, not_true_eq_false, not_false_eq_true, ite_true, ite_false, nI_rem3, nI_div2, nI_sub2, q_max_nI, q_min_nI]
        exact ih (i + 1) t' qu' kn' (knU pr (qu i)) r' Qa' (by omega) (I.next hit rfl x7 x8 x1 x2 x3 x4) x9
end CWY
