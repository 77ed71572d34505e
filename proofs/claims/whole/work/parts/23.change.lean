/-! Prints: what changes them -/
theorem sm_up_twice {h : sm_Hp} {a : Nat} {x x2 : sm_Cell} : sm_up (sm_up h a x) a x2 = sm_up h a x2 := by
  refine Prod.ext (funext fun q => ?_) rfl
  show (if q = a then x2 else (if q = a then x else h.1 q)) = (if q = a then x2 else h.1 q)
  split <;> rfl
theorem sm_up_self {h : sm_Hp} {a : Nat} {x : sm_Cell} (e : h.1 a = x) : sm_up h a x = h := by
  refine Prod.ext (funext fun q => ?_) rfl
  show (if q = a then x else h.1 q) = h.1 q
  split
  next hq => rw [hq, e]
  · rfl
section FIL
variable {xs : List Int32} {h : sm_Hp} {K : Option Value → sm_Hp → Prop} {a n : Nat} {F : Nat → Value} {v : Int32}
theorem fill_loop (hn : n < 2147483648) : ∀ m i F, i + m = n → h.1 a = (10, tab n F) → Wp xs m_Arrays_fill 5 [.ref a, .int v, .int (nI i), .int (nI n)] [] h 0 0 K = K none (sm_up h a (10, tab n (fun j => if j < i then F j else .int v))) := by
  intro m
  induction m generalizing h with
  | zero =>
    intro i F hi hF
    have : i = n := by omega
    subst this
    rw [w_Arrays_fill_5]
    simp (disch := omega) only [w_Arrays_fill_0, w_Arrays_fill_1, w_Arrays_fill_2, w_Arrays_fill_3, w_Arrays_fill_4, w_Arrays_fill_6, w_Arrays_fill_7, w_Arrays_fill_10, w_Arrays_fill_11, w_Arrays_fill_12, w_Arrays_fill_13, w_Arrays_fill_14, w_Arrays_fill_17, w_Arrays_fill_20, q_rd_eq, q_nt_0, q_nt_s, q_ld_tab, q_st_tab, q_aa13, q_aa14, q_is_eq, q_wr_eq, q_01_0, q_01_1, q_nz_nI, q_len_tab, psh_some, psh_none, sm_up_at, sm_up_ne, nI_add, nI_lt2, nI_le2, nI_eq2, ls_set0, ls_setS, Nat.reduceAdd, Nat.zero_add, Nat.add_zero, not_true_eq_false, not_false_eq_true, ite_true, ite_false, Nat.le_refl]
    rw [sm_up_self]
    rw [hF]
    exact congrArg (fun l => ((10 : Nat), l)) (tab_congr (fun j hj => by rw [if_pos hj]))
  | succ m ih =>
    intro i F hi hF
    rw [w_Arrays_fill_5]
    have h1 : ¬ n ≤ i := by omega
    simp (disch := omega) only [w_Arrays_fill_0, w_Arrays_fill_1, w_Arrays_fill_2, w_Arrays_fill_3, w_Arrays_fill_4, w_Arrays_fill_6, w_Arrays_fill_7, w_Arrays_fill_10, w_Arrays_fill_11, w_Arrays_fill_12, w_Arrays_fill_13, w_Arrays_fill_14, w_Arrays_fill_17, w_Arrays_fill_20, q_rd_eq, q_nt_0, q_nt_s, q_ld_tab, q_st_tab, q_aa13, q_aa14, q_is_eq, q_wr_eq, q_01_0, q_01_1, q_nz_nI, q_len_tab, psh_some, psh_none, sm_up_at, sm_up_ne, nI_add, nI_lt2, nI_le2, nI_eq2, ls_set0, ls_setS, Nat.reduceAdd, Nat.zero_add, Nat.add_zero, not_true_eq_false, not_false_eq_true, ite_true, ite_false, hF, h1]
    rw [ih (i + 1) (fun j => if j = i then .int v else F j) (by omega) sm_up_at, sm_up_twice]
    congr 3
    refine tab_congr (fun j hj => ?_)
    by_cases c1 : j < i
    · rw [if_pos c1, if_pos (by omega), if_neg (by omega)]
    · rw [if_neg c1]
      by_cases c2 : j = i
      · rw [if_pos (by omega), if_pos c2]
      · rw [if_neg (by omega)]
theorem e_fill (hn : n < 2147483648) (hF : h.1 a = (10, tab n F)) : Wp xs m_Arrays_fill 0 [.ref a, .int v, .null, .null] [] h 0 0 K = K none (sm_up h a (10, tab n (fun _ => .int v))) := by
  simp (disch := omega) only [w_Arrays_fill_0, w_Arrays_fill_1, w_Arrays_fill_2, w_Arrays_fill_3, w_Arrays_fill_4, w_Arrays_fill_6, w_Arrays_fill_7, w_Arrays_fill_10, w_Arrays_fill_11, w_Arrays_fill_12, w_Arrays_fill_13, w_Arrays_fill_14, w_Arrays_fill_17, w_Arrays_fill_20, q_rd_eq, q_nt_0, q_nt_s, q_ld_tab, q_st_tab, q_aa13, q_aa14, q_is_eq, q_wr_eq, q_01_0, q_01_1, q_nz_nI, q_len_tab, psh_some, psh_none, sm_up_at, sm_up_ne, nI_add, nI_lt2, nI_le2, nI_eq2, ls_set0, ls_setS, Nat.reduceAdd, Nat.zero_add, Nat.add_zero, not_true_eq_false, not_false_eq_true, ite_true, ite_false, hF]
  rw [fill_loop hn n 0 F (by omega) hF]
  rfl
end FIL
section PRC
variable {xs : List Int32} {h : sm_Hp} {K : Option Value → sm_Hp → Prop} {p q k n : Nat} {P Q : PrS}
/-- what is copied of Q into P, for those below k -/
def mixP (P Q : PrS) (k : Nat) : PrS := (fun j x => if j < k then Q.1 j x else P.1 j x, fun j => if j < k then Q.2.1 j else P.2.1 j, fun j => if j < k then Q.2.2.1 j else P.2.2.1 j, fun j => if j < k then Q.2.2.2 j else P.2.2.2 j)
theorem mix_0 (P Q : PrS) : mixP P Q 0 = P := rfl
theorem mix_2 (P Q : PrS) : PrEq (mixP P Q 2) Q := by
  refine ⟨fun k hk x _ => ?_, fun k hk => ⟨?_, ?_, ?_⟩⟩ <;> (show (if k < 2 then _ else _) = _) <;> rw [if_pos hk]
theorem mix_s (P Q : PrS) (k : Nat) : ((fun k' x' => if k' = k then Q.1 k x' else (mixP P Q k).1 k' x', fun k' => if k' = k then Q.2.1 k else (mixP P Q k).2.1 k', fun k' => if k' = k then Q.2.2.1 k else (mixP P Q k).2.2.1 k', fun k' => if k' = k then Q.2.2.2 k else (mixP P Q k).2.2.2 k') : PrS) = mixP P Q (k + 1) := by
  have key : ∀ (α : Type) (f g : Nat → α) (j : Nat), (if j = k then f k else (if j < k then f j else g j)) = (if j < k + 1 then f j else g j) := by
    intro α f g j
    by_cases c1 : j = k
    · subst c1
      rw [if_pos rfl, if_pos (by omega)]
    · rw [if_neg c1]
      by_cases c2 : j < k
      · rw [if_pos c2, if_pos (by omega)]
      · rw [if_neg c2, if_neg (by omega)]
  unfold mixP
  refine Prod.ext (funext fun j => funext fun x => ?_) (Prod.ext (funext fun j => ?_) (Prod.ext (funext fun j => ?_) (funext fun j => ?_)))
  · exact key Nat (fun j => Q.1 j x) (fun j => P.1 j x) j
  · exact key Nat Q.2.1 P.2.1 j
  · exact key Nat Q.2.2.1 P.2.2.1 j
  · exact key Nat Q.2.2.2 P.2.2.2 j
theorem q_cp_tab {n : Nat} {F G : Nat → Value} {f : sm_Cell → Prop} (hn : n < 2147483648) : q_cp (10, tab n F) (10, tab n G) (nI n) f = f (10, tab n G) := by
  unfold q_cp
  rw [if_pos]
  rw [nI_clamp (show n < 2 ^ 31 by omega), tab_len, tab_len]
  exact ⟨nI_pos (by omega), rfl, rfl, rfl, rfl⟩
theorem becomes_loop (HQ : PrAt h q Q) (hd : p + 7 ≤ q ∨ q + 7 ≤ p) : ∀ m k, k + m = 2 → Wp xs m_Prints_becomes 2 [.ref p, .ref q, .int (nI k)] [] (setPr h p (mixP P Q k)) 0 0 K = K none (setPr h p (mixP P Q 2)) := by
  intro m
  induction m with
  | zero =>
    intro k hk
    have : k = 2 := by omega
    subst this
    simp (disch := omega) only [w_Prints_becomes_0, w_Prints_becomes_1, w_Prints_becomes_2, w_Prints_becomes_3, w_Prints_becomes_4, w_Prints_becomes_7, w_Prints_becomes_8, w_Prints_becomes_11, w_Prints_becomes_12, w_Prints_becomes_13, w_Prints_becomes_14, w_Prints_becomes_15, w_Prints_becomes_18, w_Prints_becomes_19, w_Prints_becomes_20, w_Prints_becomes_21, w_Prints_becomes_23, w_Prints_becomes_26, w_Prints_becomes_27, w_Prints_becomes_30, w_Prints_becomes_31, w_Prints_becomes_32, w_Prints_becomes_35, w_Prints_becomes_36, w_Prints_becomes_37, w_Prints_becomes_38, w_Prints_becomes_39, w_Prints_becomes_42, w_Prints_becomes_43, w_Prints_becomes_44, w_Prints_becomes_47, w_Prints_becomes_48, w_Prints_becomes_49, w_Prints_becomes_50, w_Prints_becomes_51, w_Prints_becomes_54, w_Prints_becomes_55, w_Prints_becomes_56, w_Prints_becomes_59, w_Prints_becomes_60, w_Prints_becomes_61, w_Prints_becomes_62, w_Prints_becomes_65, w_Prints_becomes_68, q_rd_eq, q_nt_0, q_nt_s, q_ld_tab, q_st_tab, q_aa13, q_aa14, q_is_eq, q_wr_eq, q_01_0, q_01_1, q_nz_nI, q_len_tab, psh_some, psh_none, sm_up_at, sm_up_ne, nI_add, nI_lt2, nI_le2, nI_eq2, ls_set0, ls_setS, Nat.reduceAdd, Nat.zero_add, Nat.add_zero, not_true_eq_false, not_false_eq_true, ite_true, ite_false, Nat.le_refl]
  | succ m ih =>
    intro k hk
    rw [w_Prints_becomes_2]
    have h1 : ¬ 2 ≤ k := by omega
    have o1 : ∀ (h' : sm_Hp) (R : PrS) (a : Nat), q ≤ a → a < q + 7 → (setPr h' p R).1 a = h'.1 a := fun h' R a g1 g2 => setPr_ne (by omega)
    have q0 := HQ.c0
    have q1 := HQ.c1
    have q2 := HQ.c2 (k := k) (by omega)
    have q4 := HQ.c4
    have q5 := HQ.c5
    have q6 := HQ.c6
    simp (disch := omega) only [w_Prints_becomes_0, w_Prints_becomes_1, w_Prints_becomes_3, w_Prints_becomes_4, w_Prints_becomes_7, w_Prints_becomes_8, w_Prints_becomes_11, w_Prints_becomes_12, w_Prints_becomes_13, w_Prints_becomes_14, w_Prints_becomes_15, w_Prints_becomes_18, w_Prints_becomes_19, w_Prints_becomes_20, w_Prints_becomes_21, w_Prints_becomes_23, w_Prints_becomes_26, w_Prints_becomes_27, w_Prints_becomes_30, w_Prints_becomes_31, w_Prints_becomes_32, w_Prints_becomes_35, w_Prints_becomes_36, w_Prints_becomes_37, w_Prints_becomes_38, w_Prints_becomes_39, w_Prints_becomes_42, w_Prints_becomes_43, w_Prints_becomes_44, w_Prints_becomes_47, w_Prints_becomes_48, w_Prints_becomes_49, w_Prints_becomes_50, w_Prints_becomes_51, w_Prints_becomes_54, w_Prints_becomes_55, w_Prints_becomes_56, w_Prints_becomes_59, w_Prints_becomes_60, w_Prints_becomes_61, w_Prints_becomes_62, w_Prints_becomes_65, w_Prints_becomes_68, q_rd_eq, q_nt_0, q_nt_s, q_ld_tab, q_st_tab, q_aa13, q_aa14, q_is_eq, q_wr_eq, q_01_0, q_01_1, q_nz_nI, q_len_tab, psh_some, psh_none, sm_up_at, sm_up_ne, nI_add, nI_lt2, nI_le2, nI_eq2, ls_set0, ls_setS, Nat.reduceAdd, Nat.zero_add, Nat.add_zero, not_true_eq_false, not_false_eq_true, ite_true, ite_false, pr0, pr1, pr2, pr4, pr5, pr6, o1, q0, q1, q2, q4, q5, q6, q_cp_tab, up_Drow, up_G, up_W, up_T, h1]
    rw [mix_s]
    exact ih (k + 1) (by omega)
theorem e_becomes (HQ : PrAt h q Q) (hd : p + 7 ≤ q ∨ q + 7 ≤ p) : Wp xs m_Prints_becomes 0 [.ref p, .ref q, .null] [] (setPr h p P) 0 0 K = K none (setPr h p Q) := by
  simp (disch := omega) only [w_Prints_becomes_0, w_Prints_becomes_1, w_Prints_becomes_3, w_Prints_becomes_4, w_Prints_becomes_7, w_Prints_becomes_8, w_Prints_becomes_11, w_Prints_becomes_12, w_Prints_becomes_13, w_Prints_becomes_14, w_Prints_becomes_15, w_Prints_becomes_18, w_Prints_becomes_19, w_Prints_becomes_20, w_Prints_becomes_21, w_Prints_becomes_23, w_Prints_becomes_26, w_Prints_becomes_27, w_Prints_becomes_30, w_Prints_becomes_31, w_Prints_becomes_32, w_Prints_becomes_35, w_Prints_becomes_36, w_Prints_becomes_37, w_Prints_becomes_38, w_Prints_becomes_39, w_Prints_becomes_42, w_Prints_becomes_43, w_Prints_becomes_44, w_Prints_becomes_47, w_Prints_becomes_48, w_Prints_becomes_49, w_Prints_becomes_50, w_Prints_becomes_51, w_Prints_becomes_54, w_Prints_becomes_55, w_Prints_becomes_56, w_Prints_becomes_59, w_Prints_becomes_60, w_Prints_becomes_61, w_Prints_becomes_62, w_Prints_becomes_65, w_Prints_becomes_68, q_rd_eq, q_nt_0, q_nt_s, q_ld_tab, q_st_tab, q_aa13, q_aa14, q_is_eq, q_wr_eq, q_01_0, q_01_1, q_nz_nI, q_len_tab, psh_some, psh_none, sm_up_at, sm_up_ne, nI_add, nI_lt2, nI_le2, nI_eq2, ls_set0, ls_setS, Nat.reduceAdd, Nat.zero_add, Nat.add_zero, not_true_eq_false, not_false_eq_true, ite_true, ite_false]
  rw [← (mix_2 P Q).setPr]
  exact becomes_loop HQ hd 2 0 (by omega)
end PRC
