/-! the text read, by the model: its tokens -/
def isL (c : Nat) : Bool := decide (c = 108 ∨ c = 119 ∨ c = 98 ∨ c = 112 ∨ c = 116)
/-- the token from q on; where it ends; its value -/
def aK (T : Nat → Nat) (n q : Nat) : Nat := if n ≤ sk T n 120 q then 0 else if 48 ≤ T (sk T n 120 q) ∧ T (sk T n 120 q) ≤ 57 then (if 99 < rW T n q ∨ (T (sk T n 120 q) = 48 ∧ 1 < rE T n q - sk T n 120 q) then 4 else 2) else if T (sk T n 120 q) = 59 then 3 else if isL (T (sk T n 120 q)) = true then 1 else 4
def aX (T : Nat → Nat) (n q : Nat) : Nat := if n ≤ sk T n 120 q then sk T n 120 q else if 48 ≤ T (sk T n 120 q) ∧ T (sk T n 120 q) ≤ 57 then rE T n q else sk T n 120 q + 1
def aV (T : Nat → Nat) (n q : Nat) (v : Int32) : Int32 := if n ≤ sk T n 120 q then v else if 48 ≤ T (sk T n 120 q) ∧ T (sk T n 120 q) ≤ 57 then nI (rW T n q) else nI (T (sk T n 120 q))
theorem aK_le {T : Nat → Nat} {n q : Nat} : aK T n q ≤ 4 := by
  unfold aK
  repeat' split
  all_goals omega
theorem aX_le {T : Nat → Nat} {n q : Nat} (h : q ≤ n) : q ≤ aX T n q ∧ aX T n q ≤ n := by
  have h1 := sk_le (T := T) 120 q h
  have h2 := rE_le (T := T) h
  unfold aX
  repeat' split
  all_goals omega
theorem rW_le {T : Nat → Nat} {n q : Nat} (h : q ≤ n) : rW T n q ≤ 999 := by
  have h1 := sk_le (T := T) 120 q h
  exact (dg_le (T := T) (n := n) 120 (sk T n 120 q) 0 (by omega) (by omega)).2.2
theorem rE_ne {T : Nat → Nat} {n q : Nat} (h : q ≤ n) : rE T n q ≠ sk T n 120 q ↔ sk T n 120 q < n ∧ 48 ≤ T (sk T n 120 q) ∧ T (sk T n 120 q) ≤ 57 := by
  have h1 := sk_le (T := T) 120 q h
  unfold rE
  have e : dg T n 120 (sk T n 120 q) 0 = if sk T n 120 q < n ∧ 48 ≤ T (sk T n 120 q) ∧ T (sk T n 120 q) ≤ 57 then dg T n 119 (sk T n 120 q + 1) (if 99 < 0 then 0 else 10 * 0 + T (sk T n 120 q) - 48) else (sk T n 120 q, 0) := rfl
  by_cases c : sk T n 120 q < n ∧ 48 ≤ T (sk T n 120 q) ∧ T (sk T n 120 q) ≤ 57
  · rw [if_pos c] at e
    rw [e]
    have := dg_le (T := T) (n := n) 119 (sk T n 120 q + 1) (if 99 < 0 then 0 else 10 * 0 + T (sk T n 120 q) - 48) (by omega) (by split <;> omega)
    exact ⟨fun _ => c, fun _ => by omega⟩
  · rw [if_neg c] at e
    rw [e]
    exact ⟨fun z => absurd rfl z, fun z => absurd z c⟩
/-- a number that may stand, and one that may not, by the token -/
theorem ok_tok {T : Nat → Nat} {n lo hi q : Nat} (h : q ≤ n) (hhi : hi ≤ 60) (ok : nOk T n lo hi (sk T n 120 q) = true) : aK T n q = 2 ∧ aX T n q = rE T n q ∧ (∀ v, aV T n q v = nI (rW T n q)) ∧ lo ≤ rW T n q ∧ rW T n q ≤ hi := by
  obtain ⟨h1, h2, h3, h4⟩ := of_decide_eq_true ok
  have c := (rE_ne h).mp h1
  have h3' : lo ≤ rW T n q := h3
  have h4' : rW T n q ≤ hi := h4
  have h2' : ¬ (1 < rE T n q - sk T n 120 q ∧ T (sk T n 120 q) = 48) := h2
  refine ⟨?_, ?_, fun v => ?_, h3', h4'⟩
  · unfold aK
    rw [if_neg (by omega), if_pos c.2, if_neg (by omega)]
  · unfold aX
    rw [if_neg (by omega), if_pos c.2]
  · unfold aV
    rw [if_neg (by omega), if_pos c.2]
theorem bad_tok {T : Nat → Nat} {n lo hi q : Nat} (h : q ≤ n) (ok : nOk T n lo hi (sk T n 120 q) = false) : aK T n q ≠ 2 ∨ (aK T n q = 2 ∧ (∀ v, aV T n q v = nI (rW T n q)) ∧ ¬ (lo ≤ rW T n q ∧ rW T n q ≤ hi)) := by
  have nk := of_decide_eq_false ok
  by_cases c : sk T n 120 q < n ∧ 48 ≤ T (sk T n 120 q) ∧ T (sk T n 120 q) ≤ 57
  · by_cases c2 : 99 < rW T n q ∨ (T (sk T n 120 q) = 48 ∧ 1 < rE T n q - sk T n 120 q)
    · left
      unfold aK
      rw [if_neg (by omega), if_pos c.2, if_pos c2]
      decide
    · right
      refine ⟨?_, fun v => ?_, fun z => nk ⟨(rE_ne h).mpr c, ?_, z.1, z.2⟩⟩
      · unfold aK
        rw [if_neg (by omega), if_pos c.2, if_neg c2]
      · unfold aV
        rw [if_neg (by omega), if_pos c.2]
      · intro z2
        exact c2 (Or.inr ⟨z2.2, z2.1⟩)
  · left
    unfold aK
    by_cases c3 : n ≤ sk T n 120 q
    · rw [if_pos c3]; decide
    · rw [if_neg c3, if_neg (by omega)]
      repeat' split
      all_goals decide
theorem stop_tok {T : Nat → Nat} {n q : Nat} (h : q ≤ n) : (sk T n 120 q < n ∧ T (sk T n 120 q) = 59 → aK T n q = 3 ∧ aX T n q = sk T n 120 q + 1) ∧ (¬ (sk T n 120 q < n ∧ T (sk T n 120 q) = 59) → aK T n q ≠ 3) := by
  constructor
  · intro c
    unfold aK aX
    rw [if_neg (by omega), if_neg (by omega), if_pos c.2, if_neg (by omega), if_neg (by omega)]
    exact ⟨rfl, rfl⟩
  · intro c
    unfold aK
    by_cases c3 : n ≤ sk T n 120 q
    · rw [if_pos c3]; decide
    · rw [if_neg c3]
      by_cases c4 : 48 ≤ T (sk T n 120 q) ∧ T (sk T n 120 q) ≤ 57
      · rw [if_pos c4]
        split <;> decide
      · rw [if_neg c4, if_neg (by omega)]
        split <;> decide
def mcO (m : MC) (nx tk pl vl fl tl : Int32) : sm_Cell := (6, [.int (nI 0), .long m.1.1, .ref 99, .int (nI m.1.2.1), .int nx, .int tk, .int pl, .int vl, .int fl, .ref 100, .int tl, .ref 101, .ref 102, .ref 103, .ref 104, .ref 105, .ref 106, .ref 107, .int (nI m.1.2.2.1), .ref 108, .int (nI m.1.2.2.2), .ref 109, .ref 110])
/-- the model's cells while it reads -/
def YH (h : sm_Hp) (m : MC) (mn st sd sp : Nat → Nat) (nx tk pl vl fl tl : Int32) : sm_Hp := sm_up (sm_up (sm_up (sm_up (sm_up h 100 (10, tab 8 (fun i => .int (nI (mn i))))) 101 (10, tab 4 (fun i => .int (nI (st i))))) 102 (10, tab 4 (fun i => .int (nI (sd i))))) 103 (10, tab 4 (fun i => .int (nI (sp i))))) 98 (mcO m nx tk pl vl fl tl)
section MAD
variable {xs : List Int32} {h : sm_Hp} {K : Option Value → sm_Hp → Prop} {m : MC} {mn st sd sp : Nat → Nat} {nx tk pl vl fl tl : Int32} {q : Nat}
theorem yh98 : (YH h m mn st sd sp nx tk pl vl fl tl).1 98 = (6, [.int (nI 0), .long m.1.1, .ref 99, .int (nI m.1.2.1), .int nx, .int tk, .int pl, .int vl, .int fl, .ref 100, .int tl, .ref 101, .ref 102, .ref 103, .ref 104, .ref 105, .ref 106, .ref 107, .int (nI m.1.2.2.1), .ref 108, .int (nI m.1.2.2.2), .ref 109, .ref 110]) := sm_up_at
theorem yh_ne {a : Nat} (ha : a < 98 ∨ a = 99 ∨ 103 < a) : (YH h m mn st sd sp nx tk pl vl fl tl).1 a = h.1 a := (sm_up_ne (by omega)).trans ((sm_up_ne (by omega)).trans ((sm_up_ne (by omega)).trans ((sm_up_ne (by omega)).trans (sm_up_ne (by omega)))))
theorem yh99 (I : MAt h m) : (YH h m mn st sd sp nx tk pl vl fl tl).1 99 = (10, tab 120 (fun i => .int (nI (m.2.2.1.1 i)))) := (yh_ne (by omega)).trans I.tx
theorem yh100 : (YH h m mn st sd sp nx tk pl vl fl tl).1 100 = (10, tab 8 (fun i => .int (nI (mn i)))) := (sm_up_ne (by omega)).trans ((sm_up_ne (by omega)).trans ((sm_up_ne (by omega)).trans ((sm_up_ne (by omega)).trans sm_up_at)))
theorem yh101 : (YH h m mn st sd sp nx tk pl vl fl tl).1 101 = (10, tab 4 (fun i => .int (nI (st i)))) := (sm_up_ne (by omega)).trans ((sm_up_ne (by omega)).trans ((sm_up_ne (by omega)).trans sm_up_at))
theorem yh102 : (YH h m mn st sd sp nx tk pl vl fl tl).1 102 = (10, tab 4 (fun i => .int (nI (sd i)))) := (sm_up_ne (by omega)).trans ((sm_up_ne (by omega)).trans sm_up_at)
theorem yh103 : (YH h m mn st sd sp nx tk pl vl fl tl).1 103 = (10, tab 4 (fun i => .int (nI (sp i)))) := (sm_up_ne (by omega)).trans sm_up_at
theorem yu98 {nx' tk' pl' vl' fl' tl' : Int32} : sm_up (YH h m mn st sd sp nx tk pl vl fl tl) 98 (6, [.int (nI 0), .long m.1.1, .ref 99, .int (nI m.1.2.1), .int nx', .int tk', .int pl', .int vl', .int fl', .ref 100, .int tl', .ref 101, .ref 102, .ref 103, .ref 104, .ref 105, .ref 106, .ref 107, .int (nI m.1.2.2.1), .ref 108, .int (nI m.1.2.2.2), .ref 109, .ref 110]) = YH h m mn st sd sp nx' tk' pl' vl' fl' tl' := up_up
theorem up_comm {h : sm_Hp} {a b : Nat} {x y : sm_Cell} (hab : a ≠ b) : sm_up (sm_up h a x) b y = sm_up (sm_up h b y) a x := Prod.ext (funext fun q => by
  show (if q = b then y else (if q = a then x else h.1 q)) = (if q = a then x else (if q = b then y else h.1 q))
  by_cases e : q = b
  · rw [if_pos e, if_neg (by omega), if_pos e]
  · rw [if_neg e, if_neg e]) rfl
theorem yu100 {g : Nat → Nat} : sm_up (YH h m mn st sd sp nx tk pl vl fl tl) 100 (10, tab 8 (fun i => .int (nI (g i)))) = YH h m g st sd sp nx tk pl vl fl tl := by
  unfold YH
  rw [up_comm (a := 98) (b := 100) (by omega), up_comm (a := 103) (b := 100) (by omega), up_comm (a := 102) (b := 100) (by omega), up_comm (a := 101) (b := 100) (by omega), up_up]
theorem yu101 {g : Nat → Nat} : sm_up (YH h m mn st sd sp nx tk pl vl fl tl) 101 (10, tab 4 (fun i => .int (nI (g i)))) = YH h m mn g sd sp nx tk pl vl fl tl := by
  unfold YH
  rw [up_comm (a := 98) (b := 101) (by omega), up_comm (a := 103) (b := 101) (by omega), up_comm (a := 102) (b := 101) (by omega), up_up]
theorem yu102 {g : Nat → Nat} : sm_up (YH h m mn st sd sp nx tk pl vl fl tl) 102 (10, tab 4 (fun i => .int (nI (g i)))) = YH h m mn st g sp nx tk pl vl fl tl := by
  unfold YH
  rw [up_comm (a := 98) (b := 102) (by omega), up_comm (a := 103) (b := 102) (by omega), up_up]
theorem yu103 {g : Nat → Nat} : sm_up (YH h m mn st sd sp nx tk pl vl fl tl) 103 (10, tab 4 (fun i => .int (nI (g i)))) = YH h m mn st sd g nx tk pl vl fl tl := by
  unfold YH
  rw [up_comm (a := 98) (b := 103) (by omega), up_up]
theorem yh_self (I : MAt h m) : YH h m m.2.2.1.2.1 m.2.2.1.2.2.1 m.2.2.1.2.2.2.1 m.2.2.1.2.2.2.2 m.2.1.1 m.2.1.2.1 m.2.1.2.2.1 m.2.1.2.2.2.1 m.2.1.2.2.2.2.1 m.2.1.2.2.2.2.2 = h := by
  unfold YH
  rw [sm_up_self I.mn, sm_up_self I.st, sm_up_self I.sd, sm_up_self I.sp]
  exact sm_up_self I.o
theorem yh_at (I : MAt h m) : MAt (YH h m mn st sd sp nx tk pl vl fl tl) ((m.1.1, m.1.2.1, m.1.2.2.1, m.1.2.2.2), (nx, tk, pl, vl, fl, tl), (m.2.2.1.1, mn, st, sd, sp), (m.2.2.2.1.1, m.2.2.2.1.2.1, m.2.2.2.1.2.2.1, m.2.2.2.1.2.2.2), (m.2.2.2.2.1, m.2.2.2.2.2.1, m.2.2.2.2.2.2)) := ((((I.umn mn).ust st).usd sd).usp sp).uo m.1.1 m.1.2.1 nx tk pl vl fl tl m.1.2.2.1 m.1.2.2.2
theorem yh_fr : FrM h (YH h m mn st sd sp nx tk pl vl fl tl) := ⟨fun a ha => yh_ne (by omega), rfl⟩
def lA (T : Nat → Nat) (n k : Nat) : Int32 := if k < n then nI (T k) else -1
theorem lA_in {T : Nat → Nat} {n k : Nat} (h : k < n) : lA T n k = nI (T k) := if_pos h
theorem lA_out {T : Nat → Nat} {n k : Nat} (h : n ≤ k) : lA T n k = -1 := if_neg (by omega)
theorem m_letter (I : MAt h m) (hn : m.1.2.1 ≤ 120) {k : Nat} (hk : k ≤ 120) : Wp xs m_Model_letterAt 0 [.ref 98, .int (nI k)] [] (YH h m mn st sd sp nx tk pl vl fl tl) 0 0 K = K (some (.int (lA m.2.2.1.1 m.1.2.1 k))) (YH h m mn st sd sp nx tk pl vl fl tl) := by
  by_cases c : k < m.1.2.1
  · have c2 : ¬ m.1.2.1 ≤ k := by omega
    rw [lA_in c]
    simp (disch := omega) only [w_Model_letterAt_0, w_Model_letterAt_1, w_Model_letterAt_2, w_Model_letterAt_5, w_Model_letterAt_8, w_Model_letterAt_9, w_Model_letterAt_12, w_Model_letterAt_13, w_Model_letterAt_14, w_Model_letterAt_17, w_Model_letterAt_18, q_rd_eq, q_nt_0, q_nt_s, q_ld_tab, q_st_tab, q_aa13, q_aa14, q_is_eq, q_wr_eq, q_01_0, q_01_1, q_nz_nI, q_len_tab, psh_some, psh_none, sm_up_at, sm_up_ne, nI_add, nI_lt2, nI_le2, nI_eq2, ls_set0, ls_setS, Nat.reduceAdd, Nat.zero_add, Nat.add_zero, not_true_eq_false, not_false_eq_true, ite_true, ite_false, nI_rem3, nI_div2, nI_sub2, q_max_nI, q_min_nI, yh98, yh99 I, c2]
  · have c2 : m.1.2.1 ≤ k := by omega
    rw [lA_out c2]
    simp (disch := omega) only [w_Model_letterAt_0, w_Model_letterAt_1, w_Model_letterAt_2, w_Model_letterAt_5, w_Model_letterAt_8, w_Model_letterAt_9, w_Model_letterAt_12, w_Model_letterAt_13, w_Model_letterAt_14, w_Model_letterAt_17, w_Model_letterAt_18, q_rd_eq, q_nt_0, q_nt_s, q_ld_tab, q_st_tab, q_aa13, q_aa14, q_is_eq, q_wr_eq, q_01_0, q_01_1, q_nz_nI, q_len_tab, psh_some, psh_none, sm_up_at, sm_up_ne, nI_add, nI_lt2, nI_le2, nI_eq2, ls_set0, ls_setS, Nat.reduceAdd, Nat.zero_add, Nat.add_zero, not_true_eq_false, not_false_eq_true, ite_true, ite_false, nI_rem3, nI_div2, nI_sub2, q_max_nI, q_min_nI, yh98, c2]
theorem m_in {x a b : Nat} (hx : x < 2147483648) (ha : a < 2147483648) (hb : b < 2147483648) : Wp xs m_Model_in 0 [.int (nI x), .int (nI a), .int (nI b)] [] h 0 0 K = K (some (.int (nI (b2n (decide (a ≤ x ∧ x ≤ b)))))) h := by
  by_cases h3 : x < a
  · simp (disch := omega) only [w_Model_in_0, w_Model_in_1, w_Model_in_2, w_Model_in_5, w_Model_in_6, w_Model_in_7, w_Model_in_10, w_Model_in_11, w_Model_in_14, w_Model_in_15, q_rd_eq, q_nt_0, q_nt_s, q_ld_tab, q_st_tab, q_aa13, q_aa14, q_is_eq, q_wr_eq, q_01_0, q_01_1, q_nz_nI, q_len_tab, psh_some, psh_none, sm_up_at, sm_up_ne, nI_add, nI_lt2, nI_le2, nI_eq2, ls_set0, ls_setS, Nat.reduceAdd, Nat.zero_add, Nat.add_zero, not_true_eq_false, not_false_eq_true, ite_true, ite_false, nI_rem3, nI_div2, nI_sub2, q_max_nI, q_min_nI, h3]
    rw [decide_eq_false (by omega)]; rfl
  · by_cases h4 : b < x
    · simp (disch := omega) only [w_Model_in_0, w_Model_in_1, w_Model_in_2, w_Model_in_5, w_Model_in_6, w_Model_in_7, w_Model_in_10, w_Model_in_11, w_Model_in_14, w_Model_in_15, q_rd_eq, q_nt_0, q_nt_s, q_ld_tab, q_st_tab, q_aa13, q_aa14, q_is_eq, q_wr_eq, q_01_0, q_01_1, q_nz_nI, q_len_tab, psh_some, psh_none, sm_up_at, sm_up_ne, nI_add, nI_lt2, nI_le2, nI_eq2, ls_set0, ls_setS, Nat.reduceAdd, Nat.zero_add, Nat.add_zero, not_true_eq_false, not_false_eq_true, ite_true, ite_false, nI_rem3, nI_div2, nI_sub2, q_max_nI, q_min_nI, h3, h4]
      rw [decide_eq_false (by omega)]; rfl
    · simp (disch := omega) only [w_Model_in_0, w_Model_in_1, w_Model_in_2, w_Model_in_5, w_Model_in_6, w_Model_in_7, w_Model_in_10, w_Model_in_11, w_Model_in_14, w_Model_in_15, q_rd_eq, q_nt_0, q_nt_s, q_ld_tab, q_st_tab, q_aa13, q_aa14, q_is_eq, q_wr_eq, q_01_0, q_01_1, q_nz_nI, q_len_tab, psh_some, psh_none, sm_up_at, sm_up_ne, nI_add, nI_lt2, nI_le2, nI_eq2, ls_set0, ls_setS, Nat.reduceAdd, Nat.zero_add, Nat.add_zero, not_true_eq_false, not_false_eq_true, ite_true, ite_false, nI_rem3, nI_div2, nI_sub2, q_max_nI, q_min_nI, h3, h4]
      rw [decide_eq_true (by omega)]; rfl
theorem m_in_m1 : Wp xs m_Model_in 0 [.int (-1), .int (nI 48), .int (nI 57)] [] h 0 0 K = K (some (.int (nI 0))) h := by
  have h1 : (-1 : Int32) < nI 48 := by decide
  simp (disch := omega) only [w_Model_in_0, w_Model_in_1, w_Model_in_2, w_Model_in_5, w_Model_in_6, w_Model_in_7, w_Model_in_10, w_Model_in_11, w_Model_in_14, w_Model_in_15, q_rd_eq, q_nt_0, q_nt_s, q_ld_tab, q_st_tab, q_aa13, q_aa14, q_is_eq, q_wr_eq, q_01_0, q_01_1, q_nz_nI, q_len_tab, psh_some, psh_none, sm_up_at, sm_up_ne, nI_add, nI_lt2, nI_le2, nI_eq2, ls_set0, ls_setS, Nat.reduceAdd, Nat.zero_add, Nat.add_zero, not_true_eq_false, not_false_eq_true, ite_true, ite_false, nI_rem3, nI_div2, nI_sub2, q_max_nI, q_min_nI, h1]
theorem lA_32 {T : Nat → Nat} {n k : Nat} (hT : ∀ i, T i < 256) : (lA T n k = nI 32) = (k < n ∧ T k = 32) := by
  have := hT k
  by_cases c : k < n
  · rw [lA_in c, nI_eq2 (by omega) (by omega)]
    exact propext ⟨fun z => ⟨c, z⟩, fun z => z.2⟩
  · rw [lA_out (by omega)]
    exact propext ⟨fun z => absurd z (by decide), fun z => absurd z.1 c⟩
theorem m_in_l {T : Nat → Nat} {n k : Nat} (hT : ∀ i, T i < 256) : Wp xs m_Model_in 0 [.int (lA T n k), .int (nI 48), .int (nI 57)] [] h 0 0 K = K (some (.int (nI (b2n (decide (k < n ∧ 48 ≤ T k ∧ T k ≤ 57)))))) h := by
  have := hT k
  by_cases c : k < n
  · rw [lA_in c, m_in (by omega) (by omega) (by omega)]
    have e : decide (48 ≤ T k ∧ T k ≤ 57) = decide (k < n ∧ 48 ≤ T k ∧ T k ≤ 57) := by
      by_cases d : 48 ≤ T k ∧ T k ≤ 57
      · rw [decide_eq_true d, decide_eq_true ⟨c, d⟩]
      · rw [decide_eq_false d, decide_eq_false (fun z => d z.2)]
    rw [e]
  · rw [lA_out (by omega), m_in_m1, decide_eq_false (fun z => c z.1)]
    rfl
theorem adv_skip (I : MAt h m) (hn : m.1.2.1 ≤ 120) (hT : ∀ i, m.2.2.1.1 i < 256) : ∀ r a, m.1.2.1 ≤ a + r → a ≤ m.1.2.1 → Wp xs m_Model_advances 0 [.ref 98, .null] [] (YH h m mn st sd sp (nI a) tk pl vl fl tl) 0 0 K = Wp xs m_Model_advances 26 [.ref 98, .null] [] (YH h m mn st sd sp (nI (sk m.2.2.1.1 m.1.2.1 r a)) tk pl vl fl tl) 0 0 K := by
  intro r
  induction r with
  | zero =>
    intro a h1 h2
    rw [w_Model_advances_0]
    have e := lA_32 (n := m.1.2.1) (k := a) hT
    have c : ¬ (a < m.1.2.1 ∧ m.2.2.1.1 a = 32) := by omega
    rw [eq_false c] at e
    simp (disch := first | assumption | omega) only [w_Model_advances_1, w_Model_advances_2, w_Model_advances_5, w_Model_advances_8, w_Model_advances_10, w_Model_advances_13, w_Model_advances_14, w_Model_advances_15, w_Model_advances_18, w_Model_advances_19, w_Model_advances_20, w_Model_advances_23, q_rd_eq, q_nt_0, q_nt_s, q_ld_tab, q_st_tab, q_aa13, q_aa14, q_is_eq, q_wr_eq, q_01_0, q_01_1, q_nz_nI, q_len_tab, psh_some, psh_none, sm_up_at, sm_up_ne, nI_add, nI_lt2, nI_le2, nI_eq2, ls_set0, ls_setS, Nat.reduceAdd, Nat.zero_add, Nat.add_zero, not_true_eq_false, not_false_eq_true, ite_true, ite_false, nI_rem3, nI_div2, nI_sub2, q_max_nI, q_min_nI, yh98, m_letter I hn, e]
    rfl
  | succ r ih =>
    intro a h1 h2
    rw [w_Model_advances_0]
    unfold sk
    have e := lA_32 (n := m.1.2.1) (k := a) hT
    by_cases c : a < m.1.2.1 ∧ m.2.2.1.1 a = 32
    · rw [if_pos c]
      rw [eq_true c] at e
      simp (disch := first | assumption | omega) only [w_Model_advances_1, w_Model_advances_2, w_Model_advances_5, w_Model_advances_8, w_Model_advances_10, w_Model_advances_13, w_Model_advances_14, w_Model_advances_15, w_Model_advances_18, w_Model_advances_19, w_Model_advances_20, w_Model_advances_23, q_rd_eq, q_nt_0, q_nt_s, q_ld_tab, q_st_tab, q_aa13, q_aa14, q_is_eq, q_wr_eq, q_01_0, q_01_1, q_nz_nI, q_len_tab, psh_some, psh_none, sm_up_at, sm_up_ne, nI_add, nI_lt2, nI_le2, nI_eq2, ls_set0, ls_setS, Nat.reduceAdd, Nat.zero_add, Nat.add_zero, not_true_eq_false, not_false_eq_true, ite_true, ite_false, nI_rem3, nI_div2, nI_sub2, q_max_nI, q_min_nI, yh98, m_letter I hn, e, yu98]
      exact ih (a + 1) (by omega) (by omega)
    · rw [if_neg c]
      rw [eq_false c] at e
      simp (disch := first | assumption | omega) only [w_Model_advances_1, w_Model_advances_2, w_Model_advances_5, w_Model_advances_8, w_Model_advances_10, w_Model_advances_13, w_Model_advances_14, w_Model_advances_15, w_Model_advances_18, w_Model_advances_19, w_Model_advances_20, w_Model_advances_23, q_rd_eq, q_nt_0, q_nt_s, q_ld_tab, q_st_tab, q_aa13, q_aa14, q_is_eq, q_wr_eq, q_01_0, q_01_1, q_nz_nI, q_len_tab, psh_some, psh_none, sm_up_at, sm_up_ne, nI_add, nI_lt2, nI_le2, nI_eq2, ls_set0, ls_setS, Nat.reduceAdd, Nat.zero_add, Nat.add_zero, not_true_eq_false, not_false_eq_true, ite_true, ite_false, nI_rem3, nI_div2, nI_sub2, q_max_nI, q_min_nI, yh98, m_letter I hn, e]
theorem adv_dig (I : MAt h m) (hn : m.1.2.1 ≤ 120) (hT : ∀ i, m.2.2.1.1 i < 256) {cc : Int32} : ∀ r a w, m.1.2.1 ≤ a + r → a ≤ m.1.2.1 → w ≤ 999 → Wp xs m_Model_advances 71 [.ref 98, .int cc] [] (YH h m mn st sd sp (nI a) tk pl (nI w) fl tl) 0 0 K = Wp xs m_Model_advances 141 [.ref 98, .int cc] [] (YH h m mn st sd sp (nI (dg m.2.2.1.1 m.1.2.1 r a w).1) tk pl (nI (dg m.2.2.1.1 m.1.2.1 r a w).2) fl tl) 0 0 K := by
  intro r
  induction r with
  | zero =>
    intro a w h1 h2 h3
    rw [w_Model_advances_71]
    have e : decide (a < m.1.2.1 ∧ 48 ≤ m.2.2.1.1 a ∧ m.2.2.1.1 a ≤ 57) = false := decide_eq_false (by omega)
    simp (disch := first | assumption | omega) only [w_Model_advances_72, w_Model_advances_73, w_Model_advances_76, w_Model_advances_79, w_Model_advances_81, w_Model_advances_83, w_Model_advances_86, w_Model_advances_89, w_Model_advances_90, w_Model_advances_91, w_Model_advances_94, w_Model_advances_96, w_Model_advances_99, w_Model_advances_100, w_Model_advances_103, w_Model_advances_106, w_Model_advances_108, w_Model_advances_109, w_Model_advances_112, w_Model_advances_113, w_Model_advances_114, w_Model_advances_115, w_Model_advances_118, w_Model_advances_121, w_Model_advances_122, w_Model_advances_124, w_Model_advances_125, w_Model_advances_128, w_Model_advances_129, w_Model_advances_130, w_Model_advances_133, w_Model_advances_134, w_Model_advances_135, w_Model_advances_138, q_rd_eq, q_nt_0, q_nt_s, q_ld_tab, q_st_tab, q_aa13, q_aa14, q_is_eq, q_wr_eq, q_01_0, q_01_1, q_nz_nI, q_len_tab, psh_some, psh_none, sm_up_at, sm_up_ne, nI_add, nI_lt2, nI_le2, nI_eq2, ls_set0, ls_setS, Nat.reduceAdd, Nat.zero_add, Nat.add_zero, not_true_eq_false, not_false_eq_true, ite_true, ite_false, nI_rem3, nI_div2, nI_sub2, q_max_nI, q_min_nI, yh98, m_letter I hn, m_in_l hT, e, nI_b2n0]
    rfl
  | succ r ih =>
    intro a w h1 h2 h3
    rw [w_Model_advances_71]
    unfold dg
    by_cases c : a < m.1.2.1 ∧ 48 ≤ m.2.2.1.1 a ∧ m.2.2.1.1 a ≤ 57
    · rw [if_pos c]
      have e : decide (a < m.1.2.1 ∧ 48 ≤ m.2.2.1.1 a ∧ m.2.2.1.1 a ≤ 57) = true := decide_eq_true c
      have h9 : ¬ (true = false) := by decide
      have eA := lA_in (T := m.2.2.1.1) c.1
      by_cases cw : 99 < w
      · rw [if_pos cw]
        have cw2 : ¬ w ≤ 99 := by omega
        simp (disch := first | assumption | omega) only [w_Model_advances_72, w_Model_advances_73, w_Model_advances_76, w_Model_advances_79, w_Model_advances_81, w_Model_advances_83, w_Model_advances_86, w_Model_advances_89, w_Model_advances_90, w_Model_advances_91, w_Model_advances_94, w_Model_advances_96, w_Model_advances_99, w_Model_advances_100, w_Model_advances_103, w_Model_advances_106, w_Model_advances_108, w_Model_advances_109, w_Model_advances_112, w_Model_advances_113, w_Model_advances_114, w_Model_advances_115, w_Model_advances_118, w_Model_advances_121, w_Model_advances_122, w_Model_advances_124, w_Model_advances_125, w_Model_advances_128, w_Model_advances_129, w_Model_advances_130, w_Model_advances_133, w_Model_advances_134, w_Model_advances_135, w_Model_advances_138, q_rd_eq, q_nt_0, q_nt_s, q_ld_tab, q_st_tab, q_aa13, q_aa14, q_is_eq, q_wr_eq, q_01_0, q_01_1, q_nz_nI, q_len_tab, psh_some, psh_none, sm_up_at, sm_up_ne, nI_add, nI_lt2, nI_le2, nI_eq2, ls_set0, ls_setS, Nat.reduceAdd, Nat.zero_add, Nat.add_zero, not_true_eq_false, not_false_eq_true, ite_true, ite_false, nI_rem3, nI_div2, nI_sub2, q_max_nI, q_min_nI, yh98, m_letter I hn, m_in_l hT, e, nI_b2n0, h9, cw2, yu98]
        exact ih (a + 1) _ (by omega) (by omega) (by omega)
      · rw [if_neg cw]
        have cw2 : w ≤ 99 := by omega
        have e2 : decide (48 ≤ m.2.2.1.1 a ∧ m.2.2.1.1 a ≤ 57) = true := decide_eq_true c.2
        simp (disch := first | assumption | omega) only [w_Model_advances_72, w_Model_advances_73, w_Model_advances_76, w_Model_advances_79, w_Model_advances_81, w_Model_advances_83, w_Model_advances_86, w_Model_advances_89, w_Model_advances_90, w_Model_advances_91, w_Model_advances_94, w_Model_advances_96, w_Model_advances_99, w_Model_advances_100, w_Model_advances_103, w_Model_advances_106, w_Model_advances_108, w_Model_advances_109, w_Model_advances_112, w_Model_advances_113, w_Model_advances_114, w_Model_advances_115, w_Model_advances_118, w_Model_advances_121, w_Model_advances_122, w_Model_advances_124, w_Model_advances_125, w_Model_advances_128, w_Model_advances_129, w_Model_advances_130, w_Model_advances_133, w_Model_advances_134, w_Model_advances_135, w_Model_advances_138, q_rd_eq, q_nt_0, q_nt_s, q_ld_tab, q_st_tab, q_aa13, q_aa14, q_is_eq, q_wr_eq, q_01_0, q_01_1, q_nz_nI, q_len_tab, psh_some, psh_none, sm_up_at, sm_up_ne, nI_add, nI_lt2, nI_le2, nI_eq2, ls_set0, ls_setS, Nat.reduceAdd, Nat.zero_add, Nat.add_zero, not_true_eq_false, not_false_eq_true, ite_true, ite_false, nI_rem3, nI_div2, nI_sub2, q_max_nI, q_min_nI, yh98, m_letter I hn, m_in, e2, nI_b2n0, h9, cw2, eA, pk_mul, yu98]
        exact ih (a + 1) _ (by omega) (by omega) (by omega)
    · rw [if_neg c]
      have e : decide (a < m.1.2.1 ∧ 48 ≤ m.2.2.1.1 a ∧ m.2.2.1.1 a ≤ 57) = false := decide_eq_false c
      simp (disch := first | assumption | omega) only [w_Model_advances_72, w_Model_advances_73, w_Model_advances_76, w_Model_advances_79, w_Model_advances_81, w_Model_advances_83, w_Model_advances_86, w_Model_advances_89, w_Model_advances_90, w_Model_advances_91, w_Model_advances_94, w_Model_advances_96, w_Model_advances_99, w_Model_advances_100, w_Model_advances_103, w_Model_advances_106, w_Model_advances_108, w_Model_advances_109, w_Model_advances_112, w_Model_advances_113, w_Model_advances_114, w_Model_advances_115, w_Model_advances_118, w_Model_advances_121, w_Model_advances_122, w_Model_advances_124, w_Model_advances_125, w_Model_advances_128, w_Model_advances_129, w_Model_advances_130, w_Model_advances_133, w_Model_advances_134, w_Model_advances_135, w_Model_advances_138, q_rd_eq, q_nt_0, q_nt_s, q_ld_tab, q_st_tab, q_aa13, q_aa14, q_is_eq, q_wr_eq, q_01_0, q_01_1, q_nz_nI, q_len_tab, psh_some, psh_none, sm_up_at, sm_up_ne, nI_add, nI_lt2, nI_le2, nI_eq2, ls_set0, ls_setS, Nat.reduceAdd, Nat.zero_add, Nat.add_zero, not_true_eq_false, not_false_eq_true, ite_true, ite_false, nI_rem3, nI_div2, nI_sub2, q_max_nI, q_min_nI, yh98, m_letter I hn, m_in_l hT, e, nI_b2n0]
theorem m_isLetter {c : Nat} (hc : c < 256) : Wp xs m_Model_isLetter 0 [.int (nI c)] [] h 0 0 K = K (some (.int (nI (b2n (isL c))))) h := by
  by_cases c1 : c = 108
  · have e : isL c = true := decide_eq_true (by omega)
    rw [e]
    simp (disch := omega) only [w_Model_isLetter_0, w_Model_isLetter_1, w_Model_isLetter_3, w_Model_isLetter_6, w_Model_isLetter_7, w_Model_isLetter_9, w_Model_isLetter_12, w_Model_isLetter_13, w_Model_isLetter_15, w_Model_isLetter_18, w_Model_isLetter_19, w_Model_isLetter_21, w_Model_isLetter_24, w_Model_isLetter_25, w_Model_isLetter_27, w_Model_isLetter_30, w_Model_isLetter_31, w_Model_isLetter_34, w_Model_isLetter_35, q_rd_eq, q_nt_0, q_nt_s, q_ld_tab, q_st_tab, q_aa13, q_aa14, q_is_eq, q_wr_eq, q_01_0, q_01_1, q_nz_nI, q_len_tab, psh_some, psh_none, sm_up_at, sm_up_ne, nI_add, nI_lt2, nI_le2, nI_eq2, ls_set0, ls_setS, Nat.reduceAdd, Nat.zero_add, Nat.add_zero, not_true_eq_false, not_false_eq_true, ite_true, ite_false, nI_rem3, nI_div2, nI_sub2, q_max_nI, q_min_nI, eq_true c1]
    rfl
  · by_cases c2 : c = 119
    · have e : isL c = true := decide_eq_true (by omega)
      rw [e]
      simp (disch := omega) only [w_Model_isLetter_0, w_Model_isLetter_1, w_Model_isLetter_3, w_Model_isLetter_6, w_Model_isLetter_7, w_Model_isLetter_9, w_Model_isLetter_12, w_Model_isLetter_13, w_Model_isLetter_15, w_Model_isLetter_18, w_Model_isLetter_19, w_Model_isLetter_21, w_Model_isLetter_24, w_Model_isLetter_25, w_Model_isLetter_27, w_Model_isLetter_30, w_Model_isLetter_31, w_Model_isLetter_34, w_Model_isLetter_35, q_rd_eq, q_nt_0, q_nt_s, q_ld_tab, q_st_tab, q_aa13, q_aa14, q_is_eq, q_wr_eq, q_01_0, q_01_1, q_nz_nI, q_len_tab, psh_some, psh_none, sm_up_at, sm_up_ne, nI_add, nI_lt2, nI_le2, nI_eq2, ls_set0, ls_setS, Nat.reduceAdd, Nat.zero_add, Nat.add_zero, not_true_eq_false, not_false_eq_true, ite_true, ite_false, nI_rem3, nI_div2, nI_sub2, q_max_nI, q_min_nI, c1, eq_true c2]
      rfl
    · by_cases c3 : c = 98
      · have e : isL c = true := decide_eq_true (by omega)
        rw [e]
        simp (disch := omega) only [w_Model_isLetter_0, w_Model_isLetter_1, w_Model_isLetter_3, w_Model_isLetter_6, w_Model_isLetter_7, w_Model_isLetter_9, w_Model_isLetter_12, w_Model_isLetter_13, w_Model_isLetter_15, w_Model_isLetter_18, w_Model_isLetter_19, w_Model_isLetter_21, w_Model_isLetter_24, w_Model_isLetter_25, w_Model_isLetter_27, w_Model_isLetter_30, w_Model_isLetter_31, w_Model_isLetter_34, w_Model_isLetter_35, q_rd_eq, q_nt_0, q_nt_s, q_ld_tab, q_st_tab, q_aa13, q_aa14, q_is_eq, q_wr_eq, q_01_0, q_01_1, q_nz_nI, q_len_tab, psh_some, psh_none, sm_up_at, sm_up_ne, nI_add, nI_lt2, nI_le2, nI_eq2, ls_set0, ls_setS, Nat.reduceAdd, Nat.zero_add, Nat.add_zero, not_true_eq_false, not_false_eq_true, ite_true, ite_false, nI_rem3, nI_div2, nI_sub2, q_max_nI, q_min_nI, c1, c2, eq_true c3]
        rfl
      · by_cases c4 : c = 112
        · have e : isL c = true := decide_eq_true (by omega)
          rw [e]
          simp (disch := omega) only [w_Model_isLetter_0, w_Model_isLetter_1, w_Model_isLetter_3, w_Model_isLetter_6, w_Model_isLetter_7, w_Model_isLetter_9, w_Model_isLetter_12, w_Model_isLetter_13, w_Model_isLetter_15, w_Model_isLetter_18, w_Model_isLetter_19, w_Model_isLetter_21, w_Model_isLetter_24, w_Model_isLetter_25, w_Model_isLetter_27, w_Model_isLetter_30, w_Model_isLetter_31, w_Model_isLetter_34, w_Model_isLetter_35, q_rd_eq, q_nt_0, q_nt_s, q_ld_tab, q_st_tab, q_aa13, q_aa14, q_is_eq, q_wr_eq, q_01_0, q_01_1, q_nz_nI, q_len_tab, psh_some, psh_none, sm_up_at, sm_up_ne, nI_add, nI_lt2, nI_le2, nI_eq2, ls_set0, ls_setS, Nat.reduceAdd, Nat.zero_add, Nat.add_zero, not_true_eq_false, not_false_eq_true, ite_true, ite_false, nI_rem3, nI_div2, nI_sub2, q_max_nI, q_min_nI, c1, c2, c3, eq_true c4]
          rfl
        · by_cases c5 : c = 116
          · have c6 : ¬ ¬ c = 116 := not_not_intro c5
            have e : isL c = true := decide_eq_true (by omega)
            rw [e]
            simp (disch := omega) only [w_Model_isLetter_0, w_Model_isLetter_1, w_Model_isLetter_3, w_Model_isLetter_6, w_Model_isLetter_7, w_Model_isLetter_9, w_Model_isLetter_12, w_Model_isLetter_13, w_Model_isLetter_15, w_Model_isLetter_18, w_Model_isLetter_19, w_Model_isLetter_21, w_Model_isLetter_24, w_Model_isLetter_25, w_Model_isLetter_27, w_Model_isLetter_30, w_Model_isLetter_31, w_Model_isLetter_34, w_Model_isLetter_35, q_rd_eq, q_nt_0, q_nt_s, q_ld_tab, q_st_tab, q_aa13, q_aa14, q_is_eq, q_wr_eq, q_01_0, q_01_1, q_nz_nI, q_len_tab, psh_some, psh_none, sm_up_at, sm_up_ne, nI_add, nI_lt2, nI_le2, nI_eq2, ls_set0, ls_setS, Nat.reduceAdd, Nat.zero_add, Nat.add_zero, not_true_eq_false, not_false_eq_true, ite_true, ite_false, nI_rem3, nI_div2, nI_sub2, q_max_nI, q_min_nI, c1, c2, c3, c4, c6]
            rfl
          · have e : isL c = false := decide_eq_false (by omega)
            rw [e]
            simp (disch := omega) only [w_Model_isLetter_0, w_Model_isLetter_1, w_Model_isLetter_3, w_Model_isLetter_6, w_Model_isLetter_7, w_Model_isLetter_9, w_Model_isLetter_12, w_Model_isLetter_13, w_Model_isLetter_15, w_Model_isLetter_18, w_Model_isLetter_19, w_Model_isLetter_21, w_Model_isLetter_24, w_Model_isLetter_25, w_Model_isLetter_27, w_Model_isLetter_30, w_Model_isLetter_31, w_Model_isLetter_34, w_Model_isLetter_35, q_rd_eq, q_nt_0, q_nt_s, q_ld_tab, q_st_tab, q_aa13, q_aa14, q_is_eq, q_wr_eq, q_01_0, q_01_1, q_nz_nI, q_len_tab, psh_some, psh_none, sm_up_at, sm_up_ne, nI_add, nI_lt2, nI_le2, nI_eq2, ls_set0, ls_setS, Nat.reduceAdd, Nat.zero_add, Nat.add_zero, not_true_eq_false, not_false_eq_true, ite_true, ite_false, nI_rem3, nI_div2, nI_sub2, q_max_nI, q_min_nI, c1, c2, c3, c4, c5]
            rfl
theorem m_adv (I : MAt h m) (hn : m.1.2.1 ≤ 120) (hT : ∀ i, m.2.2.1.1 i < 256) (hq : q ≤ m.1.2.1) : Wp xs m_Model_advances 0 [.ref 98, .null] [] (YH h m mn st sd sp (nI q) tk pl vl fl tl) 0 0 K = K none (YH h m mn st sd sp (nI (aX m.2.2.1.1 m.1.2.1 q)) (nI (aK m.2.2.1.1 m.1.2.1 q)) (nI (sk m.2.2.1.1 m.1.2.1 120 q)) (aV m.2.2.1.1 m.1.2.1 q vl) fl tl) := by
  have h1 := sk_le (T := m.2.2.1.1) 120 q hq
  rw [adv_skip I hn hT 120 q (by omega) hq]
  by_cases c : m.1.2.1 ≤ sk m.2.2.1.1 m.1.2.1 120 q
  · have e := lA_out (T := m.2.2.1.1) c
    have eneg : ¬ (nI 0 ≤ (-1 : Int32)) := by decide
    unfold aX aK aV
    rw [if_pos c, if_pos c, if_pos c]
    simp (disch := first | assumption | omega) only [w_Model_advances_26, w_Model_advances_27, w_Model_advances_28, w_Model_advances_31, w_Model_advances_34, w_Model_advances_35, w_Model_advances_36, w_Model_advances_39, w_Model_advances_42, w_Model_advances_43, w_Model_advances_44, w_Model_advances_47, w_Model_advances_48, w_Model_advances_49, w_Model_advances_52, w_Model_advances_222, q_rd_eq, q_nt_0, q_nt_s, q_ld_tab, q_st_tab, q_aa13, q_aa14, q_is_eq, q_wr_eq, q_01_0, q_01_1, q_nz_nI, q_len_tab, psh_some, psh_none, sm_up_at, sm_up_ne, nI_add, nI_lt2, nI_le2, nI_eq2, ls_set0, ls_setS, Nat.reduceAdd, Nat.zero_add, Nat.add_zero, not_true_eq_false, not_false_eq_true, ite_true, ite_false, nI_rem3, nI_div2, nI_sub2, q_max_nI, q_min_nI, yh98, m_letter I hn, e, eneg, yu98]
  · have e := lA_in (T := m.2.2.1.1) (show sk m.2.2.1.1 m.1.2.1 120 q < m.1.2.1 by omega)
    have h9 := hT (sk m.2.2.1.1 m.1.2.1 120 q)
    have h0 : 0 ≤ m.2.2.1.1 (sk m.2.2.1.1 m.1.2.1 120 q) := Nat.zero_le _
    unfold aX aK aV
    rw [if_neg c, if_neg c, if_neg c]
    by_cases d : 48 ≤ m.2.2.1.1 (sk m.2.2.1.1 m.1.2.1 120 q) ∧ m.2.2.1.1 (sk m.2.2.1.1 m.1.2.1 120 q) ≤ 57
    · rw [if_pos d, if_pos d, if_pos d]
      have ed : decide (48 ≤ m.2.2.1.1 (sk m.2.2.1.1 m.1.2.1 120 q) ∧ m.2.2.1.1 (sk m.2.2.1.1 m.1.2.1 120 q) ≤ 57) = true := decide_eq_true d
      have h9 : ¬ (true = false) := by decide
      simp (disch := first | assumption | omega) only [w_Model_advances_26, w_Model_advances_27, w_Model_advances_28, w_Model_advances_31, w_Model_advances_34, w_Model_advances_35, w_Model_advances_36, w_Model_advances_39, w_Model_advances_42, w_Model_advances_43, w_Model_advances_44, w_Model_advances_47, w_Model_advances_48, w_Model_advances_49, w_Model_advances_52, w_Model_advances_55, w_Model_advances_56, w_Model_advances_58, w_Model_advances_60, w_Model_advances_63, w_Model_advances_66, w_Model_advances_67, w_Model_advances_68, q_rd_eq, q_nt_0, q_nt_s, q_ld_tab, q_st_tab, q_aa13, q_aa14, q_is_eq, q_wr_eq, q_01_0, q_01_1, q_nz_nI, q_len_tab, psh_some, psh_none, sm_up_at, sm_up_ne, nI_add, nI_lt2, nI_le2, nI_eq2, ls_set0, ls_setS, Nat.reduceAdd, Nat.zero_add, Nat.add_zero, not_true_eq_false, not_false_eq_true, ite_true, ite_false, nI_rem3, nI_div2, nI_sub2, q_max_nI, q_min_nI, yh98, m_letter I hn, e, h0, m_in, ed, nI_b2n0, h9, yu98]
      rw [adv_dig I hn hT 120 (sk m.2.2.1.1 m.1.2.1 120 q) 0 (by omega) (by omega) (by omega)]
      have b1 := rE_le (T := m.2.2.1.1) hq
      have b2 := rW_le (T := m.2.2.1.1) hq
      have b3 := dg_le (T := m.2.2.1.1) (n := m.1.2.1) 120 (sk m.2.2.1.1 m.1.2.1 120 q) 0 (by omega) (by omega)
      show Wp xs m_Model_advances 141 _ _ (YH h m mn st sd sp (nI (rE m.2.2.1.1 m.1.2.1 q)) tk (nI (sk m.2.2.1.1 m.1.2.1 120 q)) (nI (rW m.2.2.1.1 m.1.2.1 q)) fl tl) 0 0 K = _
      have b4 : sk m.2.2.1.1 m.1.2.1 120 q ≤ rE m.2.2.1.1 m.1.2.1 q := b3.1
      by_cases c1 : 99 < rW m.2.2.1.1 m.1.2.1 q
      · rw [if_pos (Or.inl c1)]
        simp (disch := first | assumption | omega) only [w_Model_advances_141, w_Model_advances_142, w_Model_advances_143, w_Model_advances_146, w_Model_advances_148, w_Model_advances_151, w_Model_advances_152, w_Model_advances_154, w_Model_advances_157, w_Model_advances_158, w_Model_advances_161, w_Model_advances_162, w_Model_advances_165, w_Model_advances_166, w_Model_advances_167, w_Model_advances_170, w_Model_advances_171, w_Model_advances_174, w_Model_advances_175, w_Model_advances_178, w_Model_advances_222, q_rd_eq, q_nt_0, q_nt_s, q_ld_tab, q_st_tab, q_aa13, q_aa14, q_is_eq, q_wr_eq, q_01_0, q_01_1, q_nz_nI, q_len_tab, psh_some, psh_none, sm_up_at, sm_up_ne, nI_add, nI_lt2, nI_le2, nI_eq2, ls_set0, ls_setS, Nat.reduceAdd, Nat.zero_add, Nat.add_zero, not_true_eq_false, not_false_eq_true, ite_true, ite_false, nI_rem3, nI_div2, nI_sub2, q_max_nI, q_min_nI, yh98, c1, yu98]
      · by_cases c2 : m.2.2.1.1 (sk m.2.2.1.1 m.1.2.1 120 q) = 48
        · have c2' : ¬ ¬ m.2.2.1.1 (sk m.2.2.1.1 m.1.2.1 120 q) = 48 := not_not_intro c2
          by_cases c3 : rE m.2.2.1.1 m.1.2.1 q - sk m.2.2.1.1 m.1.2.1 120 q ≤ 1
          · rw [if_neg (by omega)]
            simp (disch := first | assumption | omega) only [w_Model_advances_141, w_Model_advances_142, w_Model_advances_143, w_Model_advances_146, w_Model_advances_148, w_Model_advances_151, w_Model_advances_152, w_Model_advances_154, w_Model_advances_157, w_Model_advances_158, w_Model_advances_161, w_Model_advances_162, w_Model_advances_165, w_Model_advances_166, w_Model_advances_167, w_Model_advances_170, w_Model_advances_171, w_Model_advances_174, w_Model_advances_175, w_Model_advances_178, w_Model_advances_222, q_rd_eq, q_nt_0, q_nt_s, q_ld_tab, q_st_tab, q_aa13, q_aa14, q_is_eq, q_wr_eq, q_01_0, q_01_1, q_nz_nI, q_len_tab, psh_some, psh_none, sm_up_at, sm_up_ne, nI_add, nI_lt2, nI_le2, nI_eq2, ls_set0, ls_setS, Nat.reduceAdd, Nat.zero_add, Nat.add_zero, not_true_eq_false, not_false_eq_true, ite_true, ite_false, nI_rem3, nI_div2, nI_sub2, q_max_nI, q_min_nI, yh98, c1, c2', c3, yu98]
          · rw [if_pos (Or.inr ⟨c2, by omega⟩)]
            simp (disch := first | assumption | omega) only [w_Model_advances_141, w_Model_advances_142, w_Model_advances_143, w_Model_advances_146, w_Model_advances_148, w_Model_advances_151, w_Model_advances_152, w_Model_advances_154, w_Model_advances_157, w_Model_advances_158, w_Model_advances_161, w_Model_advances_162, w_Model_advances_165, w_Model_advances_166, w_Model_advances_167, w_Model_advances_170, w_Model_advances_171, w_Model_advances_174, w_Model_advances_175, w_Model_advances_178, w_Model_advances_222, q_rd_eq, q_nt_0, q_nt_s, q_ld_tab, q_st_tab, q_aa13, q_aa14, q_is_eq, q_wr_eq, q_01_0, q_01_1, q_nz_nI, q_len_tab, psh_some, psh_none, sm_up_at, sm_up_ne, nI_add, nI_lt2, nI_le2, nI_eq2, ls_set0, ls_setS, Nat.reduceAdd, Nat.zero_add, Nat.add_zero, not_true_eq_false, not_false_eq_true, ite_true, ite_false, nI_rem3, nI_div2, nI_sub2, q_max_nI, q_min_nI, yh98, c1, c2', c3, yu98]
        · rw [if_neg (by omega)]
          simp (disch := first | assumption | omega) only [w_Model_advances_141, w_Model_advances_142, w_Model_advances_143, w_Model_advances_146, w_Model_advances_148, w_Model_advances_151, w_Model_advances_152, w_Model_advances_154, w_Model_advances_157, w_Model_advances_158, w_Model_advances_161, w_Model_advances_162, w_Model_advances_165, w_Model_advances_166, w_Model_advances_167, w_Model_advances_170, w_Model_advances_171, w_Model_advances_174, w_Model_advances_175, w_Model_advances_178, w_Model_advances_222, q_rd_eq, q_nt_0, q_nt_s, q_ld_tab, q_st_tab, q_aa13, q_aa14, q_is_eq, q_wr_eq, q_01_0, q_01_1, q_nz_nI, q_len_tab, psh_some, psh_none, sm_up_at, sm_up_ne, nI_add, nI_lt2, nI_le2, nI_eq2, ls_set0, ls_setS, Nat.reduceAdd, Nat.zero_add, Nat.add_zero, not_true_eq_false, not_false_eq_true, ite_true, ite_false, nI_rem3, nI_div2, nI_sub2, q_max_nI, q_min_nI, yh98, c1, c2, yu98]
    · rw [if_neg d, if_neg d, if_neg d]
      have ed : decide (48 ≤ m.2.2.1.1 (sk m.2.2.1.1 m.1.2.1 120 q) ∧ m.2.2.1.1 (sk m.2.2.1.1 m.1.2.1 120 q) ≤ 57) = false := decide_eq_false d
      by_cases c5 : m.2.2.1.1 (sk m.2.2.1.1 m.1.2.1 120 q) = 59
      · rw [if_pos c5]
        have c5' : ¬ ¬ m.2.2.1.1 (sk m.2.2.1.1 m.1.2.1 120 q) = 59 := not_not_intro c5
        simp (disch := first | assumption | omega) only [w_Model_advances_26, w_Model_advances_27, w_Model_advances_28, w_Model_advances_31, w_Model_advances_34, w_Model_advances_35, w_Model_advances_36, w_Model_advances_39, w_Model_advances_42, w_Model_advances_43, w_Model_advances_44, w_Model_advances_47, w_Model_advances_48, w_Model_advances_49, w_Model_advances_52, w_Model_advances_55, w_Model_advances_56, w_Model_advances_58, w_Model_advances_60, w_Model_advances_63, w_Model_advances_181, w_Model_advances_182, w_Model_advances_183, w_Model_advances_186, w_Model_advances_187, w_Model_advances_188, w_Model_advances_191, w_Model_advances_192, w_Model_advances_193, w_Model_advances_196, w_Model_advances_197, w_Model_advances_198, w_Model_advances_200, w_Model_advances_203, w_Model_advances_204, w_Model_advances_207, w_Model_advances_208, w_Model_advances_211, w_Model_advances_214, w_Model_advances_215, w_Model_advances_218, w_Model_advances_219, w_Model_advances_222, q_rd_eq, q_nt_0, q_nt_s, q_ld_tab, q_st_tab, q_aa13, q_aa14, q_is_eq, q_wr_eq, q_01_0, q_01_1, q_nz_nI, q_len_tab, psh_some, psh_none, sm_up_at, sm_up_ne, nI_add, nI_lt2, nI_le2, nI_eq2, ls_set0, ls_setS, Nat.reduceAdd, Nat.zero_add, Nat.add_zero, not_true_eq_false, not_false_eq_true, ite_true, ite_false, nI_rem3, nI_div2, nI_sub2, q_max_nI, q_min_nI, yh98, m_letter I hn, e, h0, m_in, ed, nI_b2n0, c5', yu98]
      · rw [if_neg c5]
        cases ei : isL (m.2.2.1.1 (sk m.2.2.1.1 m.1.2.1 120 q)) with
        | true =>
          rw [if_pos rfl]
          simp (disch := first | assumption | omega) only [w_Model_advances_26, w_Model_advances_27, w_Model_advances_28, w_Model_advances_31, w_Model_advances_34, w_Model_advances_35, w_Model_advances_36, w_Model_advances_39, w_Model_advances_42, w_Model_advances_43, w_Model_advances_44, w_Model_advances_47, w_Model_advances_48, w_Model_advances_49, w_Model_advances_52, w_Model_advances_55, w_Model_advances_56, w_Model_advances_58, w_Model_advances_60, w_Model_advances_63, w_Model_advances_181, w_Model_advances_182, w_Model_advances_183, w_Model_advances_186, w_Model_advances_187, w_Model_advances_188, w_Model_advances_191, w_Model_advances_192, w_Model_advances_193, w_Model_advances_196, w_Model_advances_197, w_Model_advances_198, w_Model_advances_200, w_Model_advances_203, w_Model_advances_204, w_Model_advances_207, w_Model_advances_208, w_Model_advances_211, w_Model_advances_214, w_Model_advances_215, w_Model_advances_218, w_Model_advances_219, w_Model_advances_222, q_rd_eq, q_nt_0, q_nt_s, q_ld_tab, q_st_tab, q_aa13, q_aa14, q_is_eq, q_wr_eq, q_01_0, q_01_1, q_nz_nI, q_len_tab, psh_some, psh_none, sm_up_at, sm_up_ne, nI_add, nI_lt2, nI_le2, nI_eq2, ls_set0, ls_setS, Nat.reduceAdd, Nat.zero_add, Nat.add_zero, not_true_eq_false, not_false_eq_true, ite_true, ite_false, nI_rem3, nI_div2, nI_sub2, q_max_nI, q_min_nI, yh98, m_letter I hn, e, h0, m_in, ed, nI_b2n0, c5, m_isLetter, ei, yu98]
          rfl
        | false =>
          rw [if_neg (by decide)]
          simp (disch := first | assumption | omega) only [w_Model_advances_26, w_Model_advances_27, w_Model_advances_28, w_Model_advances_31, w_Model_advances_34, w_Model_advances_35, w_Model_advances_36, w_Model_advances_39, w_Model_advances_42, w_Model_advances_43, w_Model_advances_44, w_Model_advances_47, w_Model_advances_48, w_Model_advances_49, w_Model_advances_52, w_Model_advances_55, w_Model_advances_56, w_Model_advances_58, w_Model_advances_60, w_Model_advances_63, w_Model_advances_181, w_Model_advances_182, w_Model_advances_183, w_Model_advances_186, w_Model_advances_187, w_Model_advances_188, w_Model_advances_191, w_Model_advances_192, w_Model_advances_193, w_Model_advances_196, w_Model_advances_197, w_Model_advances_198, w_Model_advances_200, w_Model_advances_203, w_Model_advances_204, w_Model_advances_207, w_Model_advances_208, w_Model_advances_211, w_Model_advances_214, w_Model_advances_215, w_Model_advances_218, w_Model_advances_219, w_Model_advances_222, q_rd_eq, q_nt_0, q_nt_s, q_ld_tab, q_st_tab, q_aa13, q_aa14, q_is_eq, q_wr_eq, q_01_0, q_01_1, q_nz_nI, q_len_tab, psh_some, psh_none, sm_up_at, sm_up_ne, nI_add, nI_lt2, nI_le2, nI_eq2, ls_set0, ls_setS, Nat.reduceAdd, Nat.zero_add, Nat.add_zero, not_true_eq_false, not_false_eq_true, ite_true, ite_false, nI_rem3, nI_div2, nI_sub2, q_max_nI, q_min_nI, yh98, m_letter I hn, e, h0, m_in, ed, nI_b2n0, c5, m_isLetter, ei, yu98]
end MAD
