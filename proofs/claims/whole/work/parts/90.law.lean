/-! the law: what its cases have in common -/
theorem q_xs_eq {xs : List Int32} {i : Nat} {f : Int32 → Prop} (hi : i < xs.length) (hx : xs.length < 2147483648) : q_xs xs (nI i) f = f (xs.getD i 0) := by
  unfold q_xs
  rw [if_pos (nI_pos (show i < 2 ^ 31 by omega)), nI_clamp (show i < 2 ^ 31 by omega)]
  have e : xs[i]? = some (xs.getD i 0) := by
    rw [List.getD_eq_getElem?_getD, List.getElem?_eq_getElem hi]
    rfl
  rw [e]
theorem nI_surj (v : Int32) : ∃ n, v = nI n := ⟨v.toBitVec.toNat, by
  apply Int32.toBitVec_inj.mp
  apply BitVec.eq_of_toNat_eq
  show v.toBitVec.toNat = v.toBitVec.toNat % 2 ^ 32
  rw [Nat.mod_eq_of_lt v.toBitVec.isLt]⟩
theorem and31 (v : Int32) : ∃ j, j < 32 ∧ v &&& nI 31 = nI j := by
  obtain ⟨n, rfl⟩ := nI_surj v
  exact ⟨n % 32, by omega, pk_andW (n := n) (k := 5)⟩
theorem q_wr_t {x : sm_Cell} {ci : Nat} {f : List Value → Prop} (w : q_wr x ci f) : x.1 = ci := by
  unfold q_wr at w
  split at w
  next h => exact h
  · cases w
theorem lg_self (r : Int64) : lg_cmp r r = nI 0 := by
  unfold lg_cmp
  simp
  rfl
theorem Bt.tag {h : sm_Hp} {s : CS} (B : Bt h s) : (h.1 0).1 = 5 := by
  obtain ⟨j, m, I, -⟩ := B
  rw [I.o0]
theorem law_len : ∀ l, l < 5 → ∀ i, i < 5 → nI l - nI 5 < nI i := by decide
section LWC
variable {xs : List Int32} {h : sm_Hp} {K : Option Value → sm_Hp → Prop} {i : Nat}
theorem law_case {y1 y2 pc pc2 pc3 pc4 c z : Nat} {L L1 L2 : List Value} (O : Opc y1 y2 L1 L2 h) (g : ∀ (h1 : sm_Hp) (K' : Option Value → sm_Hp → Prop), Wp xs y2 0 L2 [] h1 0 0 K' → (h1.1 98).1 = 6) (a1 : Wp xs m_Law_law pc L [] h c z K = Wp xs y1 0 L1 [] h 0 0 (fun r h' => Wp xs m_Law_law pc2 L (psh r []) h' c z K)) (a2 : ∀ (r : Int32) (h1 : sm_Hp), (h1.1 98).1 = 6 → Wp xs m_Law_law pc2 L [.int r] h1 c z K = Wp xs y2 0 L2 [] h1 0 0 (fun r' h' => Wp xs m_Law_law pc3 L (psh r' [.int r]) h' c z K)) (a3 : ∀ (r : Int32) (h2 : sm_Hp), Wp xs m_Law_law pc3 L [.int r, .int r] h2 c z K = Wp xs m_Law_law pc4 L [] h2 c z K) (Q : ∀ h' s', Bt h' s' → Wp xs m_Law_law pc4 L [] h' c z K) : Wp xs m_Law_law pc L [] h c z K := by
  rw [a1]
  have key := O xs (fun r1 r2 h2 => (∃ r, r1 = some (.int r) ∧ r2 = some (.int r)) ∧ ∃ s', Bt h2 s') (fun r h' s' hb => ⟨⟨r, rfl, rfl⟩, s', hb⟩)
  refine Wp.mono (fun r1 h1 w => ?_) key
  have t := g h1 _ w
  obtain ⟨n, r2, h2, hr, ⟨r, e1, e2⟩, s', hb⟩ := id w
  subst e1
  show Wp xs m_Law_law pc2 L [.int r] h1 c z K
  rw [a2 r h1 t]
  refine Wp.mono (fun r2' h2' q => ?_) w
  obtain ⟨⟨r', e1, e2⟩, s'', hb'⟩ := q
  cases e1
  subst e2
  show Wp xs m_Law_law pc3 L [.int r, .int r] h2' c z K
  rw [a3]
  exact Q _ _ hb'
theorem law_exit (hx : xs.length ≤ 320) (hK : ∀ h', K (some (.int 1)) h') (hc : xs.length < i + 5) (h2 : i ≤ xs.length) : Wp xs m_Law_law 18 [.retAddr 0, .ref 0, .ref 98, .int (nI i)] [] h 111 5177 K := by
  have e1 : nI 1 = 1 := rfl
  rw [w_Law_law_18]
  by_cases c : 5 ≤ xs.length
  · have c1 : xs.length - 5 < i := by omega
    simp (disch := omega) only [w_Law_law_19, w_Law_law_20, w_Law_law_21, w_Law_law_22, w_Law_law_23, w_Law_law_1039, w_Law_law_1040, q_rd_eq, q_nt_0, q_nt_s, q_ld_tab, q_st_tab, q_aa13, q_aa14, q_is_eq, q_wr_eq, q_01_0, q_01_1, q_nz_nI, q_len_tab, psh_some, psh_none, sm_up_at, sm_up_ne, nI_add, nI_lt2, nI_le2, nI_eq2, ls_set0, ls_setS, Nat.reduceAdd, Nat.zero_add, Nat.add_zero, not_true_eq_false, not_false_eq_true, ite_true, ite_false, nI_sub2, c1]
    exact hK h
  · have c1 := law_len xs.length (by omega) i (by omega)
    simp (disch := omega) only [w_Law_law_19, w_Law_law_20, w_Law_law_21, w_Law_law_22, w_Law_law_23, w_Law_law_1039, w_Law_law_1040, q_rd_eq, q_nt_0, q_nt_s, q_ld_tab, q_st_tab, q_aa13, q_aa14, q_is_eq, q_wr_eq, q_01_0, q_01_1, q_nz_nI, q_len_tab, psh_some, psh_none, sm_up_at, sm_up_ne, nI_add, nI_lt2, nI_le2, nI_eq2, ls_set0, ls_setS, Nat.reduceAdd, Nat.zero_add, Nat.add_zero, not_true_eq_false, not_false_eq_true, ite_true, ite_false, eq_true c1]
    exact hK h
end LWC
/-! the law, case by case -/
section LAW
variable {xs : List Int32} {h : sm_Hp} {K : Option Value → sm_Hp → Prop} {s : CS} {i : Nat}
theorem g_type {x0 : Int32} (w : Wp xs m_Model_type 0 [.ref 98, .int x0] [] h 0 0 K) : (h.1 98).1 = 6 := by
  rw [w_Model_type_0, w_Model_type_1, w_Model_type_2] at w
  exact q_wr_t w
theorem lc_type (B : Bt h s) (hi : i + 5 ≤ xs.length) (hx : xs.length ≤ 320) (Q : ∀ h' s', Bt h' s' → Wp xs m_Law_law 1033 [.retAddr 0, .ref 0, .ref 98, .int (nI i)] [] h' 111 5177 K) : Wp xs m_Law_law 176 [.retAddr 0, .ref 0, .ref 98, .int (nI i)] [] h 111 5177 K := by
  have T0 : ∀ P, q_is (h.1 0) 5 P = P := fun P => q_is_t B.tag
  refine law_case (pc2 := 185) (pc3 := 194) (o_type (u := xs.getD (i + 1) 0) B) (fun h1 K' w => g_type w) ?_ (fun r h1 t => ?_) (fun r h2 => ?_) Q
  · simp (disch := omega) only [w_Law_law_176, w_Law_law_177, w_Law_law_178, w_Law_law_179, w_Law_law_180, w_Law_law_181, w_Law_law_182, q_rd_eq, q_nt_0, q_nt_s, q_ld_tab, q_st_tab, q_aa13, q_aa14, q_is_eq, q_wr_eq, q_01_0, q_01_1, q_nz_nI, q_len_tab, psh_some, psh_none, sm_up_at, sm_up_ne, nI_add, nI_lt2, nI_le2, nI_eq2, ls_set0, ls_setS, Nat.reduceAdd, Nat.zero_add, Nat.add_zero, not_true_eq_false, not_false_eq_true, ite_true, ite_false, q_xs_eq, T0]
  · have T1 : ∀ P, q_is (h1.1 98) 6 P = P := fun P => q_is_t t
    simp (disch := omega) only [w_Law_law_185, w_Law_law_186, w_Law_law_187, w_Law_law_188, w_Law_law_189, w_Law_law_190, w_Law_law_191, q_rd_eq, q_nt_0, q_nt_s, q_ld_tab, q_st_tab, q_aa13, q_aa14, q_is_eq, q_wr_eq, q_01_0, q_01_1, q_nz_nI, q_len_tab, psh_some, psh_none, sm_up_at, sm_up_ne, nI_add, nI_lt2, nI_le2, nI_eq2, ls_set0, ls_setS, Nat.reduceAdd, Nat.zero_add, Nat.add_zero, not_true_eq_false, not_false_eq_true, ite_true, ite_false, q_xs_eq, T1]
  · simp (disch := omega) only [w_Law_law_194, q_rd_eq, q_nt_0, q_nt_s, q_ld_tab, q_st_tab, q_aa13, q_aa14, q_is_eq, q_wr_eq, q_01_0, q_01_1, q_nz_nI, q_len_tab, psh_some, psh_none, sm_up_at, sm_up_ne, nI_add, nI_lt2, nI_le2, nI_eq2, ls_set0, ls_setS, Nat.reduceAdd, Nat.zero_add, Nat.add_zero, not_true_eq_false, not_false_eq_true, ite_true, ite_false]
theorem g_clear (w : Wp xs m_Model_clear 0 [.ref 98, .null] [] h 0 0 K) : (h.1 98).1 = 6 := by
  rw [w_Model_clear_0, w_Model_clear_1, w_Model_clear_2] at w
  exact q_wr_t w
theorem lc_clear (B : Bt h s) (hi : i + 5 ≤ xs.length) (hx : xs.length ≤ 320) (Q : ∀ h' s', Bt h' s' → Wp xs m_Law_law 1033 [.retAddr 0, .ref 0, .ref 98, .int (nI i)] [] h' 111 5177 K) : Wp xs m_Law_law 199 [.retAddr 0, .ref 0, .ref 98, .int (nI i)] [] h 111 5177 K := by
  have T0 : ∀ P, q_is (h.1 0) 5 P = P := fun P => q_is_t B.tag
  refine law_case (pc2 := 203) (pc3 := 207) (o_clear  B) (fun h1 K' w => g_clear w) ?_ (fun r h1 t => ?_) (fun r h2 => ?_) Q
  · simp (disch := omega) only [w_Law_law_199, w_Law_law_200, q_rd_eq, q_nt_0, q_nt_s, q_ld_tab, q_st_tab, q_aa13, q_aa14, q_is_eq, q_wr_eq, q_01_0, q_01_1, q_nz_nI, q_len_tab, psh_some, psh_none, sm_up_at, sm_up_ne, nI_add, nI_lt2, nI_le2, nI_eq2, ls_set0, ls_setS, Nat.reduceAdd, Nat.zero_add, Nat.add_zero, not_true_eq_false, not_false_eq_true, ite_true, ite_false, q_xs_eq, T0]
  · have T1 : ∀ P, q_is (h1.1 98) 6 P = P := fun P => q_is_t t
    simp (disch := omega) only [w_Law_law_203, w_Law_law_204, q_rd_eq, q_nt_0, q_nt_s, q_ld_tab, q_st_tab, q_aa13, q_aa14, q_is_eq, q_wr_eq, q_01_0, q_01_1, q_nz_nI, q_len_tab, psh_some, psh_none, sm_up_at, sm_up_ne, nI_add, nI_lt2, nI_le2, nI_eq2, ls_set0, ls_setS, Nat.reduceAdd, Nat.zero_add, Nat.add_zero, not_true_eq_false, not_false_eq_true, ite_true, ite_false, q_xs_eq, T1]
  · simp (disch := omega) only [w_Law_law_207, q_rd_eq, q_nt_0, q_nt_s, q_ld_tab, q_st_tab, q_aa13, q_aa14, q_is_eq, q_wr_eq, q_01_0, q_01_1, q_nz_nI, q_len_tab, psh_some, psh_none, sm_up_at, sm_up_ne, nI_add, nI_lt2, nI_le2, nI_eq2, ls_set0, ls_setS, Nat.reduceAdd, Nat.zero_add, Nat.add_zero, not_true_eq_false, not_false_eq_true, ite_true, ite_false]
theorem g_path (w : Wp xs m_Model_path 0 [.ref 98, .null, .null, .null] [] h 0 0 K) : (h.1 98).1 = 6 := by
  rw [w_Model_path_0, w_Model_path_1, w_Model_path_2] at w
  exact q_wr_t w
theorem lc_path (B : Bt h s) (hi : i + 5 ≤ xs.length) (hx : xs.length ≤ 320) (Q : ∀ h' s', Bt h' s' → Wp xs m_Law_law 1033 [.retAddr 0, .ref 0, .ref 98, .int (nI i)] [] h' 111 5177 K) : Wp xs m_Law_law 212 [.retAddr 0, .ref 0, .ref 98, .int (nI i)] [] h 111 5177 K := by
  have T0 : ∀ P, q_is (h.1 0) 5 P = P := fun P => q_is_t B.tag
  refine law_case (pc2 := 216) (pc3 := 220) (o_path  B) (fun h1 K' w => g_path w) ?_ (fun r h1 t => ?_) (fun r h2 => ?_) Q
  · simp (disch := omega) only [w_Law_law_212, w_Law_law_213, q_rd_eq, q_nt_0, q_nt_s, q_ld_tab, q_st_tab, q_aa13, q_aa14, q_is_eq, q_wr_eq, q_01_0, q_01_1, q_nz_nI, q_len_tab, psh_some, psh_none, sm_up_at, sm_up_ne, nI_add, nI_lt2, nI_le2, nI_eq2, ls_set0, ls_setS, Nat.reduceAdd, Nat.zero_add, Nat.add_zero, not_true_eq_false, not_false_eq_true, ite_true, ite_false, q_xs_eq, T0]
  · have T1 : ∀ P, q_is (h1.1 98) 6 P = P := fun P => q_is_t t
    simp (disch := omega) only [w_Law_law_216, w_Law_law_217, q_rd_eq, q_nt_0, q_nt_s, q_ld_tab, q_st_tab, q_aa13, q_aa14, q_is_eq, q_wr_eq, q_01_0, q_01_1, q_nz_nI, q_len_tab, psh_some, psh_none, sm_up_at, sm_up_ne, nI_add, nI_lt2, nI_le2, nI_eq2, ls_set0, ls_setS, Nat.reduceAdd, Nat.zero_add, Nat.add_zero, not_true_eq_false, not_false_eq_true, ite_true, ite_false, q_xs_eq, T1]
  · simp (disch := omega) only [w_Law_law_220, q_rd_eq, q_nt_0, q_nt_s, q_ld_tab, q_st_tab, q_aa13, q_aa14, q_is_eq, q_wr_eq, q_01_0, q_01_1, q_nz_nI, q_len_tab, psh_some, psh_none, sm_up_at, sm_up_ne, nI_add, nI_lt2, nI_le2, nI_eq2, ls_set0, ls_setS, Nat.reduceAdd, Nat.zero_add, Nat.add_zero, not_true_eq_false, not_false_eq_true, ite_true, ite_false]
theorem g_walker {x0 : Int32} {x1 : Int32} (w : Wp xs m_Model_walker 0 [.ref 98, .int x0, .int x1] [] h 0 0 K) : (h.1 98).1 = 6 := by
  rw [w_Model_walker_0, w_Model_walker_1, w_Model_walker_2] at w
  exact q_wr_t w
theorem lc_walker (B : Bt h s) (hi : i + 5 ≤ xs.length) (hx : xs.length ≤ 320) (Q : ∀ h' s', Bt h' s' → Wp xs m_Law_law 1033 [.retAddr 0, .ref 0, .ref 98, .int (nI i)] [] h' 111 5177 K) : Wp xs m_Law_law 225 [.retAddr 0, .ref 0, .ref 98, .int (nI i)] [] h 111 5177 K := by
  have T0 : ∀ P, q_is (h.1 0) 5 P = P := fun P => q_is_t B.tag
  refine law_case (pc2 := 239) (pc3 := 253) (o_walker (v := xs.getD (i + 1) 0) (u := xs.getD (i + 2) 0) B) (fun h1 K' w => g_walker w) ?_ (fun r h1 t => ?_) (fun r h2 => ?_) Q
  · simp (disch := omega) only [w_Law_law_225, w_Law_law_226, w_Law_law_227, w_Law_law_228, w_Law_law_229, w_Law_law_230, w_Law_law_231, w_Law_law_232, w_Law_law_233, w_Law_law_234, w_Law_law_235, w_Law_law_236, q_rd_eq, q_nt_0, q_nt_s, q_ld_tab, q_st_tab, q_aa13, q_aa14, q_is_eq, q_wr_eq, q_01_0, q_01_1, q_nz_nI, q_len_tab, psh_some, psh_none, sm_up_at, sm_up_ne, nI_add, nI_lt2, nI_le2, nI_eq2, ls_set0, ls_setS, Nat.reduceAdd, Nat.zero_add, Nat.add_zero, not_true_eq_false, not_false_eq_true, ite_true, ite_false, q_xs_eq, T0]
  · have T1 : ∀ P, q_is (h1.1 98) 6 P = P := fun P => q_is_t t
    simp (disch := omega) only [w_Law_law_239, w_Law_law_240, w_Law_law_241, w_Law_law_242, w_Law_law_243, w_Law_law_244, w_Law_law_245, w_Law_law_246, w_Law_law_247, w_Law_law_248, w_Law_law_249, w_Law_law_250, q_rd_eq, q_nt_0, q_nt_s, q_ld_tab, q_st_tab, q_aa13, q_aa14, q_is_eq, q_wr_eq, q_01_0, q_01_1, q_nz_nI, q_len_tab, psh_some, psh_none, sm_up_at, sm_up_ne, nI_add, nI_lt2, nI_le2, nI_eq2, ls_set0, ls_setS, Nat.reduceAdd, Nat.zero_add, Nat.add_zero, not_true_eq_false, not_false_eq_true, ite_true, ite_false, q_xs_eq, T1]
  · simp (disch := omega) only [w_Law_law_253, q_rd_eq, q_nt_0, q_nt_s, q_ld_tab, q_st_tab, q_aa13, q_aa14, q_is_eq, q_wr_eq, q_01_0, q_01_1, q_nz_nI, q_len_tab, psh_some, psh_none, sm_up_at, sm_up_ne, nI_add, nI_lt2, nI_le2, nI_eq2, ls_set0, ls_setS, Nat.reduceAdd, Nat.zero_add, Nat.add_zero, not_true_eq_false, not_false_eq_true, ite_true, ite_false]
theorem g_depth {x0 : Int32} {x1 : Int32} (w : Wp xs m_Model_depth 0 [.ref 98, .int x0, .int x1] [] h 0 0 K) : (h.1 98).1 = 6 := by
  rw [w_Model_depth_0, w_Model_depth_1, w_Model_depth_2] at w
  exact q_wr_t w
theorem lc_depth (B : Bt h s) (hi : i + 5 ≤ xs.length) (hx : xs.length ≤ 320) (Q : ∀ h' s', Bt h' s' → Wp xs m_Law_law 1033 [.retAddr 0, .ref 0, .ref 98, .int (nI i)] [] h' 111 5177 K) : Wp xs m_Law_law 258 [.retAddr 0, .ref 0, .ref 98, .int (nI i)] [] h 111 5177 K := by
  have T0 : ∀ P, q_is (h.1 0) 5 P = P := fun P => q_is_t B.tag
  refine law_case (pc2 := 272) (pc3 := 286) (o_depth (v := xs.getD (i + 1) 0) (u := xs.getD (i + 2) 0) B) (fun h1 K' w => g_depth w) ?_ (fun r h1 t => ?_) (fun r h2 => ?_) Q
  · simp (disch := omega) only [w_Law_law_258, w_Law_law_259, w_Law_law_260, w_Law_law_261, w_Law_law_262, w_Law_law_263, w_Law_law_264, w_Law_law_265, w_Law_law_266, w_Law_law_267, w_Law_law_268, w_Law_law_269, q_rd_eq, q_nt_0, q_nt_s, q_ld_tab, q_st_tab, q_aa13, q_aa14, q_is_eq, q_wr_eq, q_01_0, q_01_1, q_nz_nI, q_len_tab, psh_some, psh_none, sm_up_at, sm_up_ne, nI_add, nI_lt2, nI_le2, nI_eq2, ls_set0, ls_setS, Nat.reduceAdd, Nat.zero_add, Nat.add_zero, not_true_eq_false, not_false_eq_true, ite_true, ite_false, q_xs_eq, T0]
  · have T1 : ∀ P, q_is (h1.1 98) 6 P = P := fun P => q_is_t t
    simp (disch := omega) only [w_Law_law_272, w_Law_law_273, w_Law_law_274, w_Law_law_275, w_Law_law_276, w_Law_law_277, w_Law_law_278, w_Law_law_279, w_Law_law_280, w_Law_law_281, w_Law_law_282, w_Law_law_283, q_rd_eq, q_nt_0, q_nt_s, q_ld_tab, q_st_tab, q_aa13, q_aa14, q_is_eq, q_wr_eq, q_01_0, q_01_1, q_nz_nI, q_len_tab, psh_some, psh_none, sm_up_at, sm_up_ne, nI_add, nI_lt2, nI_le2, nI_eq2, ls_set0, ls_setS, Nat.reduceAdd, Nat.zero_add, Nat.add_zero, not_true_eq_false, not_false_eq_true, ite_true, ite_false, q_xs_eq, T1]
  · simp (disch := omega) only [w_Law_law_286, q_rd_eq, q_nt_0, q_nt_s, q_ld_tab, q_st_tab, q_aa13, q_aa14, q_is_eq, q_wr_eq, q_01_0, q_01_1, q_nz_nI, q_len_tab, psh_some, psh_none, sm_up_at, sm_up_ne, nI_add, nI_lt2, nI_le2, nI_eq2, ls_set0, ls_setS, Nat.reduceAdd, Nat.zero_add, Nat.add_zero, not_true_eq_false, not_false_eq_true, ite_true, ite_false]
theorem g_gift {x0 : Int32} {x1 : Int32} (w : Wp xs m_Model_gift 0 [.ref 98, .int x0, .int x1] [] h 0 0 K) : (h.1 98).1 = 6 := by
  rw [w_Model_gift_0, w_Model_gift_1, w_Model_gift_2] at w
  exact q_wr_t w
theorem lc_gift (B : Bt h s) (hi : i + 5 ≤ xs.length) (hx : xs.length ≤ 320) (Q : ∀ h' s', Bt h' s' → Wp xs m_Law_law 1033 [.retAddr 0, .ref 0, .ref 98, .int (nI i)] [] h' 111 5177 K) : Wp xs m_Law_law 291 [.retAddr 0, .ref 0, .ref 98, .int (nI i)] [] h 111 5177 K := by
  have T0 : ∀ P, q_is (h.1 0) 5 P = P := fun P => q_is_t B.tag
  refine law_case (pc2 := 305) (pc3 := 319) (o_gift (v := xs.getD (i + 1) 0) (u := xs.getD (i + 2) 0) B) (fun h1 K' w => g_gift w) ?_ (fun r h1 t => ?_) (fun r h2 => ?_) Q
  · simp (disch := omega) only [w_Law_law_291, w_Law_law_292, w_Law_law_293, w_Law_law_294, w_Law_law_295, w_Law_law_296, w_Law_law_297, w_Law_law_298, w_Law_law_299, w_Law_law_300, w_Law_law_301, w_Law_law_302, q_rd_eq, q_nt_0, q_nt_s, q_ld_tab, q_st_tab, q_aa13, q_aa14, q_is_eq, q_wr_eq, q_01_0, q_01_1, q_nz_nI, q_len_tab, psh_some, psh_none, sm_up_at, sm_up_ne, nI_add, nI_lt2, nI_le2, nI_eq2, ls_set0, ls_setS, Nat.reduceAdd, Nat.zero_add, Nat.add_zero, not_true_eq_false, not_false_eq_true, ite_true, ite_false, q_xs_eq, T0]
  · have T1 : ∀ P, q_is (h1.1 98) 6 P = P := fun P => q_is_t t
    simp (disch := omega) only [w_Law_law_305, w_Law_law_306, w_Law_law_307, w_Law_law_308, w_Law_law_309, w_Law_law_310, w_Law_law_311, w_Law_law_312, w_Law_law_313, w_Law_law_314, w_Law_law_315, w_Law_law_316, q_rd_eq, q_nt_0, q_nt_s, q_ld_tab, q_st_tab, q_aa13, q_aa14, q_is_eq, q_wr_eq, q_01_0, q_01_1, q_nz_nI, q_len_tab, psh_some, psh_none, sm_up_at, sm_up_ne, nI_add, nI_lt2, nI_le2, nI_eq2, ls_set0, ls_setS, Nat.reduceAdd, Nat.zero_add, Nat.add_zero, not_true_eq_false, not_false_eq_true, ite_true, ite_false, q_xs_eq, T1]
  · simp (disch := omega) only [w_Law_law_319, q_rd_eq, q_nt_0, q_nt_s, q_ld_tab, q_st_tab, q_aa13, q_aa14, q_is_eq, q_wr_eq, q_01_0, q_01_1, q_nz_nI, q_len_tab, psh_some, psh_none, sm_up_at, sm_up_ne, nI_add, nI_lt2, nI_le2, nI_eq2, ls_set0, ls_setS, Nat.reduceAdd, Nat.zero_add, Nat.add_zero, not_true_eq_false, not_false_eq_true, ite_true, ite_false]
theorem g_now {x0 : Int32} (w : Wp xs m_Model_now 0 [.ref 98, .int x0, .null, .null] [] h 0 0 K) : (h.1 98).1 = 6 := by
  rw [w_Model_now_0, w_Model_now_1, w_Model_now_2] at w
  exact q_wr_t w
theorem lc_now (B : Bt h s) (hi : i + 5 ≤ xs.length) (hx : xs.length ≤ 320) (Q : ∀ h' s', Bt h' s' → Wp xs m_Law_law 1033 [.retAddr 0, .ref 0, .ref 98, .int (nI i)] [] h' 111 5177 K) : Wp xs m_Law_law 324 [.retAddr 0, .ref 0, .ref 98, .int (nI i)] [] h 111 5177 K := by
  have T0 : ∀ P, q_is (h.1 0) 5 P = P := fun P => q_is_t B.tag
  refine law_case (pc2 := 333) (pc3 := 342) (o_now (u := xs.getD (i + 1) 0) B) (fun h1 K' w => g_now w) ?_ (fun r h1 t => ?_) (fun r h2 => ?_) Q
  · simp (disch := omega) only [w_Law_law_324, w_Law_law_325, w_Law_law_326, w_Law_law_327, w_Law_law_328, w_Law_law_329, w_Law_law_330, q_rd_eq, q_nt_0, q_nt_s, q_ld_tab, q_st_tab, q_aa13, q_aa14, q_is_eq, q_wr_eq, q_01_0, q_01_1, q_nz_nI, q_len_tab, psh_some, psh_none, sm_up_at, sm_up_ne, nI_add, nI_lt2, nI_le2, nI_eq2, ls_set0, ls_setS, Nat.reduceAdd, Nat.zero_add, Nat.add_zero, not_true_eq_false, not_false_eq_true, ite_true, ite_false, q_xs_eq, T0]
  · have T1 : ∀ P, q_is (h1.1 98) 6 P = P := fun P => q_is_t t
    simp (disch := omega) only [w_Law_law_333, w_Law_law_334, w_Law_law_335, w_Law_law_336, w_Law_law_337, w_Law_law_338, w_Law_law_339, q_rd_eq, q_nt_0, q_nt_s, q_ld_tab, q_st_tab, q_aa13, q_aa14, q_is_eq, q_wr_eq, q_01_0, q_01_1, q_nz_nI, q_len_tab, psh_some, psh_none, sm_up_at, sm_up_ne, nI_add, nI_lt2, nI_le2, nI_eq2, ls_set0, ls_setS, Nat.reduceAdd, Nat.zero_add, Nat.add_zero, not_true_eq_false, not_false_eq_true, ite_true, ite_false, q_xs_eq, T1]
  · simp (disch := omega) only [w_Law_law_342, q_rd_eq, q_nt_0, q_nt_s, q_ld_tab, q_st_tab, q_aa13, q_aa14, q_is_eq, q_wr_eq, q_01_0, q_01_1, q_nz_nI, q_len_tab, psh_some, psh_none, sm_up_at, sm_up_ne, nI_add, nI_lt2, nI_le2, nI_eq2, ls_set0, ls_setS, Nat.reduceAdd, Nat.zero_add, Nat.add_zero, not_true_eq_false, not_false_eq_true, ite_true, ite_false]
theorem g_walks {x0 : Int32} {x1 : Int32} (w : Wp xs m_Model_walks 0 [.ref 98, .int x0, .int x1, .null, .null] [] h 0 0 K) : (h.1 98).1 = 6 := by
  rw [w_Model_walks_0, w_Model_walks_1, w_Model_walks_2] at w
  exact q_wr_t w
theorem lc_walks (B : Bt h s) (hi : i + 5 ≤ xs.length) (hx : xs.length ≤ 320) (Q : ∀ h' s', Bt h' s' → Wp xs m_Law_law 1033 [.retAddr 0, .ref 0, .ref 98, .int (nI i)] [] h' 111 5177 K) : Wp xs m_Law_law 347 [.retAddr 0, .ref 0, .ref 98, .int (nI i)] [] h 111 5177 K := by
  have T0 : ∀ P, q_is (h.1 0) 5 P = P := fun P => q_is_t B.tag
  refine law_case (pc2 := 361) (pc3 := 375) (o_walks (v := xs.getD (i + 1) 0) (u := xs.getD (i + 2) 0) B) (fun h1 K' w => g_walks w) ?_ (fun r h1 t => ?_) (fun r h2 => ?_) Q
  · simp (disch := omega) only [w_Law_law_347, w_Law_law_348, w_Law_law_349, w_Law_law_350, w_Law_law_351, w_Law_law_352, w_Law_law_353, w_Law_law_354, w_Law_law_355, w_Law_law_356, w_Law_law_357, w_Law_law_358, q_rd_eq, q_nt_0, q_nt_s, q_ld_tab, q_st_tab, q_aa13, q_aa14, q_is_eq, q_wr_eq, q_01_0, q_01_1, q_nz_nI, q_len_tab, psh_some, psh_none, sm_up_at, sm_up_ne, nI_add, nI_lt2, nI_le2, nI_eq2, ls_set0, ls_setS, Nat.reduceAdd, Nat.zero_add, Nat.add_zero, not_true_eq_false, not_false_eq_true, ite_true, ite_false, q_xs_eq, T0]
  · have T1 : ∀ P, q_is (h1.1 98) 6 P = P := fun P => q_is_t t
    simp (disch := omega) only [w_Law_law_361, w_Law_law_362, w_Law_law_363, w_Law_law_364, w_Law_law_365, w_Law_law_366, w_Law_law_367, w_Law_law_368, w_Law_law_369, w_Law_law_370, w_Law_law_371, w_Law_law_372, q_rd_eq, q_nt_0, q_nt_s, q_ld_tab, q_st_tab, q_aa13, q_aa14, q_is_eq, q_wr_eq, q_01_0, q_01_1, q_nz_nI, q_len_tab, psh_some, psh_none, sm_up_at, sm_up_ne, nI_add, nI_lt2, nI_le2, nI_eq2, ls_set0, ls_setS, Nat.reduceAdd, Nat.zero_add, Nat.add_zero, not_true_eq_false, not_false_eq_true, ite_true, ite_false, q_xs_eq, T1]
  · simp (disch := omega) only [w_Law_law_375, q_rd_eq, q_nt_0, q_nt_s, q_ld_tab, q_st_tab, q_aa13, q_aa14, q_is_eq, q_wr_eq, q_01_0, q_01_1, q_nz_nI, q_len_tab, psh_some, psh_none, sm_up_at, sm_up_ne, nI_add, nI_lt2, nI_le2, nI_eq2, ls_set0, ls_setS, Nat.reduceAdd, Nat.zero_add, Nat.add_zero, not_true_eq_false, not_false_eq_true, ite_true, ite_false]
theorem g_gives {x0 : Int32} {x1 : Int32} (w : Wp xs m_Model_gives 0 [.ref 98, .int x0, .int x1] [] h 0 0 K) : (h.1 98).1 = 6 := by
  rw [w_Model_gives_0, w_Model_gives_1, w_Model_gives_2] at w
  exact q_wr_t w
theorem lc_gives (B : Bt h s) (hi : i + 5 ≤ xs.length) (hx : xs.length ≤ 320) (Q : ∀ h' s', Bt h' s' → Wp xs m_Law_law 1033 [.retAddr 0, .ref 0, .ref 98, .int (nI i)] [] h' 111 5177 K) : Wp xs m_Law_law 380 [.retAddr 0, .ref 0, .ref 98, .int (nI i)] [] h 111 5177 K := by
  have T0 : ∀ P, q_is (h.1 0) 5 P = P := fun P => q_is_t B.tag
  refine law_case (pc2 := 394) (pc3 := 408) (o_gives (v := xs.getD (i + 1) 0) (u := xs.getD (i + 2) 0) B) (fun h1 K' w => g_gives w) ?_ (fun r h1 t => ?_) (fun r h2 => ?_) Q
  · simp (disch := omega) only [w_Law_law_380, w_Law_law_381, w_Law_law_382, w_Law_law_383, w_Law_law_384, w_Law_law_385, w_Law_law_386, w_Law_law_387, w_Law_law_388, w_Law_law_389, w_Law_law_390, w_Law_law_391, q_rd_eq, q_nt_0, q_nt_s, q_ld_tab, q_st_tab, q_aa13, q_aa14, q_is_eq, q_wr_eq, q_01_0, q_01_1, q_nz_nI, q_len_tab, psh_some, psh_none, sm_up_at, sm_up_ne, nI_add, nI_lt2, nI_le2, nI_eq2, ls_set0, ls_setS, Nat.reduceAdd, Nat.zero_add, Nat.add_zero, not_true_eq_false, not_false_eq_true, ite_true, ite_false, q_xs_eq, T0]
  · have T1 : ∀ P, q_is (h1.1 98) 6 P = P := fun P => q_is_t t
    simp (disch := omega) only [w_Law_law_394, w_Law_law_395, w_Law_law_396, w_Law_law_397, w_Law_law_398, w_Law_law_399, w_Law_law_400, w_Law_law_401, w_Law_law_402, w_Law_law_403, w_Law_law_404, w_Law_law_405, q_rd_eq, q_nt_0, q_nt_s, q_ld_tab, q_st_tab, q_aa13, q_aa14, q_is_eq, q_wr_eq, q_01_0, q_01_1, q_nz_nI, q_len_tab, psh_some, psh_none, sm_up_at, sm_up_ne, nI_add, nI_lt2, nI_le2, nI_eq2, ls_set0, ls_setS, Nat.reduceAdd, Nat.zero_add, Nat.add_zero, not_true_eq_false, not_false_eq_true, ite_true, ite_false, q_xs_eq, T1]
  · simp (disch := omega) only [w_Law_law_408, q_rd_eq, q_nt_0, q_nt_s, q_ld_tab, q_st_tab, q_aa13, q_aa14, q_is_eq, q_wr_eq, q_01_0, q_01_1, q_nz_nI, q_len_tab, psh_some, psh_none, sm_up_at, sm_up_ne, nI_add, nI_lt2, nI_le2, nI_eq2, ls_set0, ls_setS, Nat.reduceAdd, Nat.zero_add, Nat.add_zero, not_true_eq_false, not_false_eq_true, ite_true, ite_false]
theorem g_rains {x0 : Int32} (w : Wp xs m_Model_rains 0 [.ref 98, .int x0, .null] [] h 0 0 K) : (h.1 98).1 = 6 := by
  rw [w_Model_rains_0, w_Model_rains_1, w_Model_rains_2] at w
  exact q_wr_t w
theorem lc_rains (B : Bt h s) (hi : i + 5 ≤ xs.length) (hx : xs.length ≤ 320) (Q : ∀ h' s', Bt h' s' → Wp xs m_Law_law 1033 [.retAddr 0, .ref 0, .ref 98, .int (nI i)] [] h' 111 5177 K) : Wp xs m_Law_law 413 [.retAddr 0, .ref 0, .ref 98, .int (nI i)] [] h 111 5177 K := by
  have T0 : ∀ P, q_is (h.1 0) 5 P = P := fun P => q_is_t B.tag
  refine law_case (pc2 := 422) (pc3 := 431) (o_rains (u := xs.getD (i + 1) 0) B) (fun h1 K' w => g_rains w) ?_ (fun r h1 t => ?_) (fun r h2 => ?_) Q
  · simp (disch := omega) only [w_Law_law_413, w_Law_law_414, w_Law_law_415, w_Law_law_416, w_Law_law_417, w_Law_law_418, w_Law_law_419, q_rd_eq, q_nt_0, q_nt_s, q_ld_tab, q_st_tab, q_aa13, q_aa14, q_is_eq, q_wr_eq, q_01_0, q_01_1, q_nz_nI, q_len_tab, psh_some, psh_none, sm_up_at, sm_up_ne, nI_add, nI_lt2, nI_le2, nI_eq2, ls_set0, ls_setS, Nat.reduceAdd, Nat.zero_add, Nat.add_zero, not_true_eq_false, not_false_eq_true, ite_true, ite_false, q_xs_eq, T0]
  · have T1 : ∀ P, q_is (h1.1 98) 6 P = P := fun P => q_is_t t
    simp (disch := omega) only [w_Law_law_422, w_Law_law_423, w_Law_law_424, w_Law_law_425, w_Law_law_426, w_Law_law_427, w_Law_law_428, q_rd_eq, q_nt_0, q_nt_s, q_ld_tab, q_st_tab, q_aa13, q_aa14, q_is_eq, q_wr_eq, q_01_0, q_01_1, q_nz_nI, q_len_tab, psh_some, psh_none, sm_up_at, sm_up_ne, nI_add, nI_lt2, nI_le2, nI_eq2, ls_set0, ls_setS, Nat.reduceAdd, Nat.zero_add, Nat.add_zero, not_true_eq_false, not_false_eq_true, ite_true, ite_false, q_xs_eq, T1]
  · simp (disch := omega) only [w_Law_law_431, q_rd_eq, q_nt_0, q_nt_s, q_ld_tab, q_st_tab, q_aa13, q_aa14, q_is_eq, q_wr_eq, q_01_0, q_01_1, q_nz_nI, q_len_tab, psh_some, psh_none, sm_up_at, sm_up_ne, nI_add, nI_lt2, nI_le2, nI_eq2, ls_set0, ls_setS, Nat.reduceAdd, Nat.zero_add, Nat.add_zero, not_true_eq_false, not_false_eq_true, ite_true, ite_false]
theorem g_snows (w : Wp xs m_Model_snows 0 [.ref 98, .null, .null] [] h 0 0 K) : (h.1 98).1 = 6 := by
  rw [w_Model_snows_0, w_Model_snows_1, w_Model_snows_2] at w
  exact q_wr_t w
theorem lc_snows (B : Bt h s) (hi : i + 5 ≤ xs.length) (hx : xs.length ≤ 320) (Q : ∀ h' s', Bt h' s' → Wp xs m_Law_law 1033 [.retAddr 0, .ref 0, .ref 98, .int (nI i)] [] h' 111 5177 K) : Wp xs m_Law_law 436 [.retAddr 0, .ref 0, .ref 98, .int (nI i)] [] h 111 5177 K := by
  have T0 : ∀ P, q_is (h.1 0) 5 P = P := fun P => q_is_t B.tag
  refine law_case (pc2 := 440) (pc3 := 444) (o_snows  B) (fun h1 K' w => g_snows w) ?_ (fun r h1 t => ?_) (fun r h2 => ?_) Q
  · simp (disch := omega) only [w_Law_law_436, w_Law_law_437, q_rd_eq, q_nt_0, q_nt_s, q_ld_tab, q_st_tab, q_aa13, q_aa14, q_is_eq, q_wr_eq, q_01_0, q_01_1, q_nz_nI, q_len_tab, psh_some, psh_none, sm_up_at, sm_up_ne, nI_add, nI_lt2, nI_le2, nI_eq2, ls_set0, ls_setS, Nat.reduceAdd, Nat.zero_add, Nat.add_zero, not_true_eq_false, not_false_eq_true, ite_true, ite_false, q_xs_eq, T0]
  · have T1 : ∀ P, q_is (h1.1 98) 6 P = P := fun P => q_is_t t
    simp (disch := omega) only [w_Law_law_440, w_Law_law_441, q_rd_eq, q_nt_0, q_nt_s, q_ld_tab, q_st_tab, q_aa13, q_aa14, q_is_eq, q_wr_eq, q_01_0, q_01_1, q_nz_nI, q_len_tab, psh_some, psh_none, sm_up_at, sm_up_ne, nI_add, nI_lt2, nI_le2, nI_eq2, ls_set0, ls_setS, Nat.reduceAdd, Nat.zero_add, Nat.add_zero, not_true_eq_false, not_false_eq_true, ite_true, ite_false, q_xs_eq, T1]
  · simp (disch := omega) only [w_Law_law_444, q_rd_eq, q_nt_0, q_nt_s, q_ld_tab, q_st_tab, q_aa13, q_aa14, q_is_eq, q_wr_eq, q_01_0, q_01_1, q_nz_nI, q_len_tab, psh_some, psh_none, sm_up_at, sm_up_ne, nI_add, nI_lt2, nI_le2, nI_eq2, ls_set0, ls_setS, Nat.reduceAdd, Nat.zero_add, Nat.add_zero, not_true_eq_false, not_false_eq_true, ite_true, ite_false]
theorem g_cows {x0 : Int32} (w : Wp xs m_Model_cows 0 [.ref 98, .int x0, .null, .null, .null] [] h 0 0 K) : (h.1 98).1 = 6 := by
  rw [w_Model_cows_0, w_Model_cows_1, w_Model_cows_2] at w
  exact q_wr_t w
theorem lc_cows (B : Bt h s) (hi : i + 5 ≤ xs.length) (hx : xs.length ≤ 320) (Q : ∀ h' s', Bt h' s' → Wp xs m_Law_law 1033 [.retAddr 0, .ref 0, .ref 98, .int (nI i)] [] h' 111 5177 K) : Wp xs m_Law_law 449 [.retAddr 0, .ref 0, .ref 98, .int (nI i)] [] h 111 5177 K := by
  have T0 : ∀ P, q_is (h.1 0) 5 P = P := fun P => q_is_t B.tag
  refine law_case (pc2 := 458) (pc3 := 467) (o_cows (u := xs.getD (i + 1) 0) B) (fun h1 K' w => g_cows w) ?_ (fun r h1 t => ?_) (fun r h2 => ?_) Q
  · simp (disch := omega) only [w_Law_law_449, w_Law_law_450, w_Law_law_451, w_Law_law_452, w_Law_law_453, w_Law_law_454, w_Law_law_455, q_rd_eq, q_nt_0, q_nt_s, q_ld_tab, q_st_tab, q_aa13, q_aa14, q_is_eq, q_wr_eq, q_01_0, q_01_1, q_nz_nI, q_len_tab, psh_some, psh_none, sm_up_at, sm_up_ne, nI_add, nI_lt2, nI_le2, nI_eq2, ls_set0, ls_setS, Nat.reduceAdd, Nat.zero_add, Nat.add_zero, not_true_eq_false, not_false_eq_true, ite_true, ite_false, q_xs_eq, T0]
  · have T1 : ∀ P, q_is (h1.1 98) 6 P = P := fun P => q_is_t t
    simp (disch := omega) only [w_Law_law_458, w_Law_law_459, w_Law_law_460, w_Law_law_461, w_Law_law_462, w_Law_law_463, w_Law_law_464, q_rd_eq, q_nt_0, q_nt_s, q_ld_tab, q_st_tab, q_aa13, q_aa14, q_is_eq, q_wr_eq, q_01_0, q_01_1, q_nz_nI, q_len_tab, psh_some, psh_none, sm_up_at, sm_up_ne, nI_add, nI_lt2, nI_le2, nI_eq2, ls_set0, ls_setS, Nat.reduceAdd, Nat.zero_add, Nat.add_zero, not_true_eq_false, not_false_eq_true, ite_true, ite_false, q_xs_eq, T1]
  · simp (disch := omega) only [w_Law_law_467, q_rd_eq, q_nt_0, q_nt_s, q_ld_tab, q_st_tab, q_aa13, q_aa14, q_is_eq, q_wr_eq, q_01_0, q_01_1, q_nz_nI, q_len_tab, psh_some, psh_none, sm_up_at, sm_up_ne, nI_add, nI_lt2, nI_le2, nI_eq2, ls_set0, ls_setS, Nat.reduceAdd, Nat.zero_add, Nat.add_zero, not_true_eq_false, not_false_eq_true, ite_true, ite_false]
theorem g_fills {x0 : Int32} {x1 : Int32} (w : Wp xs m_Model_fills 0 [.ref 98, .int x0, .int x1, .null] [] h 0 0 K) : (h.1 98).1 = 6 := by
  rw [w_Model_fills_0, w_Model_fills_1, w_Model_fills_2] at w
  exact q_wr_t w
theorem lc_fills (B : Bt h s) (hi : i + 5 ≤ xs.length) (hx : xs.length ≤ 320) (Q : ∀ h' s', Bt h' s' → Wp xs m_Law_law 1033 [.retAddr 0, .ref 0, .ref 98, .int (nI i)] [] h' 111 5177 K) : Wp xs m_Law_law 472 [.retAddr 0, .ref 0, .ref 98, .int (nI i)] [] h 111 5177 K := by
  have T0 : ∀ P, q_is (h.1 0) 5 P = P := fun P => q_is_t B.tag
  refine law_case (pc2 := 486) (pc3 := 500) (o_fills (v := xs.getD (i + 1) 0) (u := xs.getD (i + 2) 0) B) (fun h1 K' w => g_fills w) ?_ (fun r h1 t => ?_) (fun r h2 => ?_) Q
  · simp (disch := omega) only [w_Law_law_472, w_Law_law_473, w_Law_law_474, w_Law_law_475, w_Law_law_476, w_Law_law_477, w_Law_law_478, w_Law_law_479, w_Law_law_480, w_Law_law_481, w_Law_law_482, w_Law_law_483, q_rd_eq, q_nt_0, q_nt_s, q_ld_tab, q_st_tab, q_aa13, q_aa14, q_is_eq, q_wr_eq, q_01_0, q_01_1, q_nz_nI, q_len_tab, psh_some, psh_none, sm_up_at, sm_up_ne, nI_add, nI_lt2, nI_le2, nI_eq2, ls_set0, ls_setS, Nat.reduceAdd, Nat.zero_add, Nat.add_zero, not_true_eq_false, not_false_eq_true, ite_true, ite_false, q_xs_eq, T0]
  · have T1 : ∀ P, q_is (h1.1 98) 6 P = P := fun P => q_is_t t
    simp (disch := omega) only [w_Law_law_486, w_Law_law_487, w_Law_law_488, w_Law_law_489, w_Law_law_490, w_Law_law_491, w_Law_law_492, w_Law_law_493, w_Law_law_494, w_Law_law_495, w_Law_law_496, w_Law_law_497, q_rd_eq, q_nt_0, q_nt_s, q_ld_tab, q_st_tab, q_aa13, q_aa14, q_is_eq, q_wr_eq, q_01_0, q_01_1, q_nz_nI, q_len_tab, psh_some, psh_none, sm_up_at, sm_up_ne, nI_add, nI_lt2, nI_le2, nI_eq2, ls_set0, ls_setS, Nat.reduceAdd, Nat.zero_add, Nat.add_zero, not_true_eq_false, not_false_eq_true, ite_true, ite_false, q_xs_eq, T1]
  · simp (disch := omega) only [w_Law_law_500, q_rd_eq, q_nt_0, q_nt_s, q_ld_tab, q_st_tab, q_aa13, q_aa14, q_is_eq, q_wr_eq, q_01_0, q_01_1, q_nz_nI, q_len_tab, psh_some, psh_none, sm_up_at, sm_up_ne, nI_add, nI_lt2, nI_le2, nI_eq2, ls_set0, ls_setS, Nat.reduceAdd, Nat.zero_add, Nat.add_zero, not_true_eq_false, not_false_eq_true, ite_true, ite_false]
theorem g_undo (w : Wp xs m_Model_undo 0 [.ref 98, .null] [] h 0 0 K) : (h.1 98).1 = 6 := by
  rw [w_Model_undo_0, w_Model_undo_1, w_Model_undo_2] at w
  exact q_wr_t w
theorem lc_undo (B : Bt h s) (hi : i + 5 ≤ xs.length) (hx : xs.length ≤ 320) (Q : ∀ h' s', Bt h' s' → Wp xs m_Law_law 1033 [.retAddr 0, .ref 0, .ref 98, .int (nI i)] [] h' 111 5177 K) : Wp xs m_Law_law 505 [.retAddr 0, .ref 0, .ref 98, .int (nI i)] [] h 111 5177 K := by
  have T0 : ∀ P, q_is (h.1 0) 5 P = P := fun P => q_is_t B.tag
  refine law_case (pc2 := 509) (pc3 := 513) (o_undo  B) (fun h1 K' w => g_undo w) ?_ (fun r h1 t => ?_) (fun r h2 => ?_) Q
  · simp (disch := omega) only [w_Law_law_505, w_Law_law_506, q_rd_eq, q_nt_0, q_nt_s, q_ld_tab, q_st_tab, q_aa13, q_aa14, q_is_eq, q_wr_eq, q_01_0, q_01_1, q_nz_nI, q_len_tab, psh_some, psh_none, sm_up_at, sm_up_ne, nI_add, nI_lt2, nI_le2, nI_eq2, ls_set0, ls_setS, Nat.reduceAdd, Nat.zero_add, Nat.add_zero, not_true_eq_false, not_false_eq_true, ite_true, ite_false, q_xs_eq, T0]
  · have T1 : ∀ P, q_is (h1.1 98) 6 P = P := fun P => q_is_t t
    simp (disch := omega) only [w_Law_law_509, w_Law_law_510, q_rd_eq, q_nt_0, q_nt_s, q_ld_tab, q_st_tab, q_aa13, q_aa14, q_is_eq, q_wr_eq, q_01_0, q_01_1, q_nz_nI, q_len_tab, psh_some, psh_none, sm_up_at, sm_up_ne, nI_add, nI_lt2, nI_le2, nI_eq2, ls_set0, ls_setS, Nat.reduceAdd, Nat.zero_add, Nat.add_zero, not_true_eq_false, not_false_eq_true, ite_true, ite_false, q_xs_eq, T1]
  · simp (disch := omega) only [w_Law_law_513, q_rd_eq, q_nt_0, q_nt_s, q_ld_tab, q_st_tab, q_aa13, q_aa14, q_is_eq, q_wr_eq, q_01_0, q_01_1, q_nz_nI, q_len_tab, psh_some, psh_none, sm_up_at, sm_up_ne, nI_add, nI_lt2, nI_le2, nI_eq2, ls_set0, ls_setS, Nat.reduceAdd, Nat.zero_add, Nat.add_zero, not_true_eq_false, not_false_eq_true, ite_true, ite_false]
theorem g_whose {x0 : Int32} (w : Wp xs m_Model_whose 0 [.ref 98, .int x0] [] h 0 0 K) : (h.1 98).1 = 6 := by
  rw [w_Model_whose_0, w_Model_whose_1, w_Model_whose_2] at w
  exact q_wr_t w
theorem lc_whose (B : Bt h s) (hi : i + 5 ≤ xs.length) (hx : xs.length ≤ 320) (Q : ∀ h' s', Bt h' s' → Wp xs m_Law_law 1033 [.retAddr 0, .ref 0, .ref 98, .int (nI i)] [] h' 111 5177 K) : Wp xs m_Law_law 518 [.retAddr 0, .ref 0, .ref 98, .int (nI i)] [] h 111 5177 K := by
  have T0 : ∀ P, q_is (h.1 0) 5 P = P := fun P => q_is_t B.tag
  refine law_case (pc2 := 527) (pc3 := 536) (o_whose (u := xs.getD (i + 1) 0) B) (fun h1 K' w => g_whose w) ?_ (fun r h1 t => ?_) (fun r h2 => ?_) Q
  · simp (disch := omega) only [w_Law_law_518, w_Law_law_519, w_Law_law_520, w_Law_law_521, w_Law_law_522, w_Law_law_523, w_Law_law_524, q_rd_eq, q_nt_0, q_nt_s, q_ld_tab, q_st_tab, q_aa13, q_aa14, q_is_eq, q_wr_eq, q_01_0, q_01_1, q_nz_nI, q_len_tab, psh_some, psh_none, sm_up_at, sm_up_ne, nI_add, nI_lt2, nI_le2, nI_eq2, ls_set0, ls_setS, Nat.reduceAdd, Nat.zero_add, Nat.add_zero, not_true_eq_false, not_false_eq_true, ite_true, ite_false, q_xs_eq, T0]
  · have T1 : ∀ P, q_is (h1.1 98) 6 P = P := fun P => q_is_t t
    simp (disch := omega) only [w_Law_law_527, w_Law_law_528, w_Law_law_529, w_Law_law_530, w_Law_law_531, w_Law_law_532, w_Law_law_533, q_rd_eq, q_nt_0, q_nt_s, q_ld_tab, q_st_tab, q_aa13, q_aa14, q_is_eq, q_wr_eq, q_01_0, q_01_1, q_nz_nI, q_len_tab, psh_some, psh_none, sm_up_at, sm_up_ne, nI_add, nI_lt2, nI_le2, nI_eq2, ls_set0, ls_setS, Nat.reduceAdd, Nat.zero_add, Nat.add_zero, not_true_eq_false, not_false_eq_true, ite_true, ite_false, q_xs_eq, T1]
  · simp (disch := omega) only [w_Law_law_536, q_rd_eq, q_nt_0, q_nt_s, q_ld_tab, q_st_tab, q_aa13, q_aa14, q_is_eq, q_wr_eq, q_01_0, q_01_1, q_nz_nI, q_len_tab, psh_some, psh_none, sm_up_at, sm_up_ne, nI_add, nI_lt2, nI_le2, nI_eq2, ls_set0, ls_setS, Nat.reduceAdd, Nat.zero_add, Nat.add_zero, not_true_eq_false, not_false_eq_true, ite_true, ite_false]
theorem g_both {x0 : Int32} (w : Wp xs m_Model_both 0 [.ref 98, .int x0, .null, .null] [] h 0 0 K) : (h.1 98).1 = 6 := by
  rw [w_Model_both_0, w_Model_both_1, w_Model_both_2] at w
  exact q_wr_t w
theorem lc_both (B : Bt h s) (hi : i + 5 ≤ xs.length) (hx : xs.length ≤ 320) (Q : ∀ h' s', Bt h' s' → Wp xs m_Law_law 1033 [.retAddr 0, .ref 0, .ref 98, .int (nI i)] [] h' 111 5177 K) : Wp xs m_Law_law 541 [.retAddr 0, .ref 0, .ref 98, .int (nI i)] [] h 111 5177 K := by
  have T0 : ∀ P, q_is (h.1 0) 5 P = P := fun P => q_is_t B.tag
  refine law_case (pc2 := 550) (pc3 := 559) (o_both (u := xs.getD (i + 1) 0) B) (fun h1 K' w => g_both w) ?_ (fun r h1 t => ?_) (fun r h2 => ?_) Q
  · simp (disch := omega) only [w_Law_law_541, w_Law_law_542, w_Law_law_543, w_Law_law_544, w_Law_law_545, w_Law_law_546, w_Law_law_547, q_rd_eq, q_nt_0, q_nt_s, q_ld_tab, q_st_tab, q_aa13, q_aa14, q_is_eq, q_wr_eq, q_01_0, q_01_1, q_nz_nI, q_len_tab, psh_some, psh_none, sm_up_at, sm_up_ne, nI_add, nI_lt2, nI_le2, nI_eq2, ls_set0, ls_setS, Nat.reduceAdd, Nat.zero_add, Nat.add_zero, not_true_eq_false, not_false_eq_true, ite_true, ite_false, q_xs_eq, T0]
  · have T1 : ∀ P, q_is (h1.1 98) 6 P = P := fun P => q_is_t t
    simp (disch := omega) only [w_Law_law_550, w_Law_law_551, w_Law_law_552, w_Law_law_553, w_Law_law_554, w_Law_law_555, w_Law_law_556, q_rd_eq, q_nt_0, q_nt_s, q_ld_tab, q_st_tab, q_aa13, q_aa14, q_is_eq, q_wr_eq, q_01_0, q_01_1, q_nz_nI, q_len_tab, psh_some, psh_none, sm_up_at, sm_up_ne, nI_add, nI_lt2, nI_le2, nI_eq2, ls_set0, ls_setS, Nat.reduceAdd, Nat.zero_add, Nat.add_zero, not_true_eq_false, not_false_eq_true, ite_true, ite_false, q_xs_eq, T1]
  · simp (disch := omega) only [w_Law_law_559, q_rd_eq, q_nt_0, q_nt_s, q_ld_tab, q_st_tab, q_aa13, q_aa14, q_is_eq, q_wr_eq, q_01_0, q_01_1, q_nz_nI, q_len_tab, psh_some, psh_none, sm_up_at, sm_up_ne, nI_add, nI_lt2, nI_le2, nI_eq2, ls_set0, ls_setS, Nat.reduceAdd, Nat.zero_add, Nat.add_zero, not_true_eq_false, not_false_eq_true, ite_true, ite_false]
theorem g_tells {x0 : Int32} {x1 : Int32} (w : Wp xs m_Model_tells 0 [.ref 98, .int x0, .int x1, .null] [] h 0 0 K) : (h.1 98).1 = 6 := by
  rw [w_Model_tells_0, w_Model_tells_1, w_Model_tells_2] at w
  exact q_wr_t w
theorem lc_tells (B : Bt h s) (hi : i + 5 ≤ xs.length) (hx : xs.length ≤ 320) (Q : ∀ h' s', Bt h' s' → Wp xs m_Law_law 1033 [.retAddr 0, .ref 0, .ref 98, .int (nI i)] [] h' 111 5177 K) : Wp xs m_Law_law 564 [.retAddr 0, .ref 0, .ref 98, .int (nI i)] [] h 111 5177 K := by
  have T0 : ∀ P, q_is (h.1 0) 5 P = P := fun P => q_is_t B.tag
  refine law_case (pc2 := 578) (pc3 := 592) (o_tells (v := xs.getD (i + 1) 0) (u := xs.getD (i + 2) 0) B) (fun h1 K' w => g_tells w) ?_ (fun r h1 t => ?_) (fun r h2 => ?_) Q
  · simp (disch := omega) only [w_Law_law_564, w_Law_law_565, w_Law_law_566, w_Law_law_567, w_Law_law_568, w_Law_law_569, w_Law_law_570, w_Law_law_571, w_Law_law_572, w_Law_law_573, w_Law_law_574, w_Law_law_575, q_rd_eq, q_nt_0, q_nt_s, q_ld_tab, q_st_tab, q_aa13, q_aa14, q_is_eq, q_wr_eq, q_01_0, q_01_1, q_nz_nI, q_len_tab, psh_some, psh_none, sm_up_at, sm_up_ne, nI_add, nI_lt2, nI_le2, nI_eq2, ls_set0, ls_setS, Nat.reduceAdd, Nat.zero_add, Nat.add_zero, not_true_eq_false, not_false_eq_true, ite_true, ite_false, q_xs_eq, T0]
  · have T1 : ∀ P, q_is (h1.1 98) 6 P = P := fun P => q_is_t t
    simp (disch := omega) only [w_Law_law_578, w_Law_law_579, w_Law_law_580, w_Law_law_581, w_Law_law_582, w_Law_law_583, w_Law_law_584, w_Law_law_585, w_Law_law_586, w_Law_law_587, w_Law_law_588, w_Law_law_589, q_rd_eq, q_nt_0, q_nt_s, q_ld_tab, q_st_tab, q_aa13, q_aa14, q_is_eq, q_wr_eq, q_01_0, q_01_1, q_nz_nI, q_len_tab, psh_some, psh_none, sm_up_at, sm_up_ne, nI_add, nI_lt2, nI_le2, nI_eq2, ls_set0, ls_setS, Nat.reduceAdd, Nat.zero_add, Nat.add_zero, not_true_eq_false, not_false_eq_true, ite_true, ite_false, q_xs_eq, T1]
  · simp (disch := omega) only [w_Law_law_592, q_rd_eq, q_nt_0, q_nt_s, q_ld_tab, q_st_tab, q_aa13, q_aa14, q_is_eq, q_wr_eq, q_01_0, q_01_1, q_nz_nI, q_len_tab, psh_some, psh_none, sm_up_at, sm_up_ne, nI_add, nI_lt2, nI_le2, nI_eq2, ls_set0, ls_setS, Nat.reduceAdd, Nat.zero_add, Nat.add_zero, not_true_eq_false, not_false_eq_true, ite_true, ite_false]
theorem g_left {x0 : Int32} {x1 : Int32} (w : Wp xs m_Model_left 0 [.ref 98, .int x0, .int x1] [] h 0 0 K) : (h.1 98).1 = 6 := by
  rw [w_Model_left_0, w_Model_left_1, w_Model_left_2] at w
  exact q_wr_t w
theorem lc_left (B : Bt h s) (hi : i + 5 ≤ xs.length) (hx : xs.length ≤ 320) (Q : ∀ h' s', Bt h' s' → Wp xs m_Law_law 1033 [.retAddr 0, .ref 0, .ref 98, .int (nI i)] [] h' 111 5177 K) : Wp xs m_Law_law 597 [.retAddr 0, .ref 0, .ref 98, .int (nI i)] [] h 111 5177 K := by
  have T0 : ∀ P, q_is (h.1 0) 5 P = P := fun P => q_is_t B.tag
  refine law_case (pc2 := 611) (pc3 := 625) (o_left (v := xs.getD (i + 1) 0) (u := xs.getD (i + 2) 0) B) (fun h1 K' w => g_left w) ?_ (fun r h1 t => ?_) (fun r h2 => ?_) Q
  · simp (disch := omega) only [w_Law_law_597, w_Law_law_598, w_Law_law_599, w_Law_law_600, w_Law_law_601, w_Law_law_602, w_Law_law_603, w_Law_law_604, w_Law_law_605, w_Law_law_606, w_Law_law_607, w_Law_law_608, q_rd_eq, q_nt_0, q_nt_s, q_ld_tab, q_st_tab, q_aa13, q_aa14, q_is_eq, q_wr_eq, q_01_0, q_01_1, q_nz_nI, q_len_tab, psh_some, psh_none, sm_up_at, sm_up_ne, nI_add, nI_lt2, nI_le2, nI_eq2, ls_set0, ls_setS, Nat.reduceAdd, Nat.zero_add, Nat.add_zero, not_true_eq_false, not_false_eq_true, ite_true, ite_false, q_xs_eq, T0]
  · have T1 : ∀ P, q_is (h1.1 98) 6 P = P := fun P => q_is_t t
    simp (disch := omega) only [w_Law_law_611, w_Law_law_612, w_Law_law_613, w_Law_law_614, w_Law_law_615, w_Law_law_616, w_Law_law_617, w_Law_law_618, w_Law_law_619, w_Law_law_620, w_Law_law_621, w_Law_law_622, q_rd_eq, q_nt_0, q_nt_s, q_ld_tab, q_st_tab, q_aa13, q_aa14, q_is_eq, q_wr_eq, q_01_0, q_01_1, q_nz_nI, q_len_tab, psh_some, psh_none, sm_up_at, sm_up_ne, nI_add, nI_lt2, nI_le2, nI_eq2, ls_set0, ls_setS, Nat.reduceAdd, Nat.zero_add, Nat.add_zero, not_true_eq_false, not_false_eq_true, ite_true, ite_false, q_xs_eq, T1]
  · simp (disch := omega) only [w_Law_law_625, q_rd_eq, q_nt_0, q_nt_s, q_ld_tab, q_st_tab, q_aa13, q_aa14, q_is_eq, q_wr_eq, q_01_0, q_01_1, q_nz_nI, q_len_tab, psh_some, psh_none, sm_up_at, sm_up_ne, nI_add, nI_lt2, nI_le2, nI_eq2, ls_set0, ls_setS, Nat.reduceAdd, Nat.zero_add, Nat.add_zero, not_true_eq_false, not_false_eq_true, ite_true, ite_false]
theorem g_jumps {x0 : Int32} {x1 : Int32} (w : Wp xs m_Model_jumps 0 [.ref 98, .int x0, .int x1, .null, .null, .null, .null] [] h 0 0 K) : (h.1 98).1 = 6 := by
  rw [w_Model_jumps_0, w_Model_jumps_1, w_Model_jumps_2] at w
  exact q_wr_t w
theorem lc_jumps (B : Bt h s) (hi : i + 5 ≤ xs.length) (hx : xs.length ≤ 320) (Q : ∀ h' s', Bt h' s' → Wp xs m_Law_law 1033 [.retAddr 0, .ref 0, .ref 98, .int (nI i)] [] h' 111 5177 K) : Wp xs m_Law_law 630 [.retAddr 0, .ref 0, .ref 98, .int (nI i)] [] h 111 5177 K := by
  have T0 : ∀ P, q_is (h.1 0) 5 P = P := fun P => q_is_t B.tag
  refine law_case (pc2 := 644) (pc3 := 658) (o_jumps (v := xs.getD (i + 1) 0) (u := xs.getD (i + 2) 0) B) (fun h1 K' w => g_jumps w) ?_ (fun r h1 t => ?_) (fun r h2 => ?_) Q
  · simp (disch := omega) only [w_Law_law_630, w_Law_law_631, w_Law_law_632, w_Law_law_633, w_Law_law_634, w_Law_law_635, w_Law_law_636, w_Law_law_637, w_Law_law_638, w_Law_law_639, w_Law_law_640, w_Law_law_641, q_rd_eq, q_nt_0, q_nt_s, q_ld_tab, q_st_tab, q_aa13, q_aa14, q_is_eq, q_wr_eq, q_01_0, q_01_1, q_nz_nI, q_len_tab, psh_some, psh_none, sm_up_at, sm_up_ne, nI_add, nI_lt2, nI_le2, nI_eq2, ls_set0, ls_setS, Nat.reduceAdd, Nat.zero_add, Nat.add_zero, not_true_eq_false, not_false_eq_true, ite_true, ite_false, q_xs_eq, T0]
  · have T1 : ∀ P, q_is (h1.1 98) 6 P = P := fun P => q_is_t t
    simp (disch := omega) only [w_Law_law_644, w_Law_law_645, w_Law_law_646, w_Law_law_647, w_Law_law_648, w_Law_law_649, w_Law_law_650, w_Law_law_651, w_Law_law_652, w_Law_law_653, w_Law_law_654, w_Law_law_655, q_rd_eq, q_nt_0, q_nt_s, q_ld_tab, q_st_tab, q_aa13, q_aa14, q_is_eq, q_wr_eq, q_01_0, q_01_1, q_nz_nI, q_len_tab, psh_some, psh_none, sm_up_at, sm_up_ne, nI_add, nI_lt2, nI_le2, nI_eq2, ls_set0, ls_setS, Nat.reduceAdd, Nat.zero_add, Nat.add_zero, not_true_eq_false, not_false_eq_true, ite_true, ite_false, q_xs_eq, T1]
  · simp (disch := omega) only [w_Law_law_658, q_rd_eq, q_nt_0, q_nt_s, q_ld_tab, q_st_tab, q_aa13, q_aa14, q_is_eq, q_wr_eq, q_01_0, q_01_1, q_nz_nI, q_len_tab, psh_some, psh_none, sm_up_at, sm_up_ne, nI_add, nI_lt2, nI_le2, nI_eq2, ls_set0, ls_setS, Nat.reduceAdd, Nat.zero_add, Nat.add_zero, not_true_eq_false, not_false_eq_true, ite_true, ite_false]
theorem g_child {x0 : Int32} {x1 : Int32} (w : Wp xs m_Model_child 0 [.ref 98, .int x0, .int x1, .null, .null, .null, .null, .null] [] h 0 0 K) : (h.1 98).1 = 6 := by
  rw [w_Model_child_0, w_Model_child_1, w_Model_child_2] at w
  exact q_wr_t w
theorem lc_child (B : Bt h s) (hi : i + 5 ≤ xs.length) (hx : xs.length ≤ 320) (Q : ∀ h' s', Bt h' s' → Wp xs m_Law_law 1033 [.retAddr 0, .ref 0, .ref 98, .int (nI i)] [] h' 111 5177 K) : Wp xs m_Law_law 663 [.retAddr 0, .ref 0, .ref 98, .int (nI i)] [] h 111 5177 K := by
  have T0 : ∀ P, q_is (h.1 0) 5 P = P := fun P => q_is_t B.tag
  refine law_case (pc2 := 677) (pc3 := 691) (o_child (v := xs.getD (i + 1) 0) (u := xs.getD (i + 2) 0) B) (fun h1 K' w => g_child w) ?_ (fun r h1 t => ?_) (fun r h2 => ?_) Q
  · simp (disch := omega) only [w_Law_law_663, w_Law_law_664, w_Law_law_665, w_Law_law_666, w_Law_law_667, w_Law_law_668, w_Law_law_669, w_Law_law_670, w_Law_law_671, w_Law_law_672, w_Law_law_673, w_Law_law_674, q_rd_eq, q_nt_0, q_nt_s, q_ld_tab, q_st_tab, q_aa13, q_aa14, q_is_eq, q_wr_eq, q_01_0, q_01_1, q_nz_nI, q_len_tab, psh_some, psh_none, sm_up_at, sm_up_ne, nI_add, nI_lt2, nI_le2, nI_eq2, ls_set0, ls_setS, Nat.reduceAdd, Nat.zero_add, Nat.add_zero, not_true_eq_false, not_false_eq_true, ite_true, ite_false, q_xs_eq, T0]
  · have T1 : ∀ P, q_is (h1.1 98) 6 P = P := fun P => q_is_t t
    simp (disch := omega) only [w_Law_law_677, w_Law_law_678, w_Law_law_679, w_Law_law_680, w_Law_law_681, w_Law_law_682, w_Law_law_683, w_Law_law_684, w_Law_law_685, w_Law_law_686, w_Law_law_687, w_Law_law_688, q_rd_eq, q_nt_0, q_nt_s, q_ld_tab, q_st_tab, q_aa13, q_aa14, q_is_eq, q_wr_eq, q_01_0, q_01_1, q_nz_nI, q_len_tab, psh_some, psh_none, sm_up_at, sm_up_ne, nI_add, nI_lt2, nI_le2, nI_eq2, ls_set0, ls_setS, Nat.reduceAdd, Nat.zero_add, Nat.add_zero, not_true_eq_false, not_false_eq_true, ite_true, ite_false, q_xs_eq, T1]
  · simp (disch := omega) only [w_Law_law_691, q_rd_eq, q_nt_0, q_nt_s, q_ld_tab, q_st_tab, q_aa13, q_aa14, q_is_eq, q_wr_eq, q_01_0, q_01_1, q_nz_nI, q_len_tab, psh_some, psh_none, sm_up_at, sm_up_ne, nI_add, nI_lt2, nI_le2, nI_eq2, ls_set0, ls_setS, Nat.reduceAdd, Nat.zero_add, Nat.add_zero, not_true_eq_false, not_false_eq_true, ite_true, ite_false]
theorem g_go {x0 : Int32} {x1 : Int32} {x2 : Int32} {x3 : Int32} (w : Wp xs m_Model_go 0 [.ref 98, .int x0, .int x1, .int x2, .int x3, .null, .null, .null, .null, .null] [] h 0 0 K) : (h.1 98).1 = 6 := by
  rw [w_Model_go_0, w_Model_go_1, w_Model_go_2] at w
  exact q_wr_t w
theorem lc_go (B : Bt h s) (hi : i + 5 ≤ xs.length) (hx : xs.length ≤ 320) (Q : ∀ h' s', Bt h' s' → Wp xs m_Law_law 1033 [.retAddr 0, .ref 0, .ref 98, .int (nI i)] [] h' 111 5177 K) : Wp xs m_Law_law 696 [.retAddr 0, .ref 0, .ref 98, .int (nI i)] [] h 111 5177 K := by
  have T0 : ∀ P, q_is (h.1 0) 5 P = P := fun P => q_is_t B.tag
  refine law_case (pc2 := 720) (pc3 := 744) (o_go (v := xs.getD (i + 1) 0) (u := xs.getD (i + 2) 0) (w := xs.getD (i + 3) 0) (t := xs.getD (i + 4) 0) B) (fun h1 K' w => g_go w) ?_ (fun r h1 t => ?_) (fun r h2 => ?_) Q
  · simp (disch := omega) only [w_Law_law_696, w_Law_law_697, w_Law_law_698, w_Law_law_699, w_Law_law_700, w_Law_law_701, w_Law_law_702, w_Law_law_703, w_Law_law_704, w_Law_law_705, w_Law_law_706, w_Law_law_707, w_Law_law_708, w_Law_law_709, w_Law_law_710, w_Law_law_711, w_Law_law_712, w_Law_law_713, w_Law_law_714, w_Law_law_715, w_Law_law_716, w_Law_law_717, q_rd_eq, q_nt_0, q_nt_s, q_ld_tab, q_st_tab, q_aa13, q_aa14, q_is_eq, q_wr_eq, q_01_0, q_01_1, q_nz_nI, q_len_tab, psh_some, psh_none, sm_up_at, sm_up_ne, nI_add, nI_lt2, nI_le2, nI_eq2, ls_set0, ls_setS, Nat.reduceAdd, Nat.zero_add, Nat.add_zero, not_true_eq_false, not_false_eq_true, ite_true, ite_false, q_xs_eq, T0]
  · have T1 : ∀ P, q_is (h1.1 98) 6 P = P := fun P => q_is_t t
    simp (disch := omega) only [w_Law_law_720, w_Law_law_721, w_Law_law_722, w_Law_law_723, w_Law_law_724, w_Law_law_725, w_Law_law_726, w_Law_law_727, w_Law_law_728, w_Law_law_729, w_Law_law_730, w_Law_law_731, w_Law_law_732, w_Law_law_733, w_Law_law_734, w_Law_law_735, w_Law_law_736, w_Law_law_737, w_Law_law_738, w_Law_law_739, w_Law_law_740, w_Law_law_741, q_rd_eq, q_nt_0, q_nt_s, q_ld_tab, q_st_tab, q_aa13, q_aa14, q_is_eq, q_wr_eq, q_01_0, q_01_1, q_nz_nI, q_len_tab, psh_some, psh_none, sm_up_at, sm_up_ne, nI_add, nI_lt2, nI_le2, nI_eq2, ls_set0, ls_setS, Nat.reduceAdd, Nat.zero_add, Nat.add_zero, not_true_eq_false, not_false_eq_true, ite_true, ite_false, q_xs_eq, T1]
  · simp (disch := omega) only [w_Law_law_744, q_rd_eq, q_nt_0, q_nt_s, q_ld_tab, q_st_tab, q_aa13, q_aa14, q_is_eq, q_wr_eq, q_01_0, q_01_1, q_nz_nI, q_len_tab, psh_some, psh_none, sm_up_at, sm_up_ne, nI_add, nI_lt2, nI_le2, nI_eq2, ls_set0, ls_setS, Nat.reduceAdd, Nat.zero_add, Nat.add_zero, not_true_eq_false, not_false_eq_true, ite_true, ite_false]
theorem g_odds {x0 : Int32} {x1 : Int32} {x2 : Int32} {x3 : Int32} (w : Wp xs m_Model_odds 0 [.ref 98, .int x0, .int x1, .int x2, .int x3, .null, .null, .null] [] h 0 0 K) : (h.1 98).1 = 6 := by
  rw [w_Model_odds_0, w_Model_odds_1, w_Model_odds_2] at w
  exact q_wr_t w
theorem lc_odds (B : Bt h s) (hi : i + 5 ≤ xs.length) (hx : xs.length ≤ 320) (Q : ∀ h' s', Bt h' s' → Wp xs m_Law_law 1033 [.retAddr 0, .ref 0, .ref 98, .int (nI i)] [] h' 111 5177 K) : Wp xs m_Law_law 749 [.retAddr 0, .ref 0, .ref 98, .int (nI i)] [] h 111 5177 K := by
  have T0 : ∀ P, q_is (h.1 0) 5 P = P := fun P => q_is_t B.tag
  refine law_case (pc2 := 773) (pc3 := 797) (o_odds (v := xs.getD (i + 1) 0) (u := xs.getD (i + 2) 0) (w := xs.getD (i + 3) 0) (t := xs.getD (i + 4) 0) B) (fun h1 K' w => g_odds w) ?_ (fun r h1 t => ?_) (fun r h2 => ?_) Q
  · simp (disch := omega) only [w_Law_law_749, w_Law_law_750, w_Law_law_751, w_Law_law_752, w_Law_law_753, w_Law_law_754, w_Law_law_755, w_Law_law_756, w_Law_law_757, w_Law_law_758, w_Law_law_759, w_Law_law_760, w_Law_law_761, w_Law_law_762, w_Law_law_763, w_Law_law_764, w_Law_law_765, w_Law_law_766, w_Law_law_767, w_Law_law_768, w_Law_law_769, w_Law_law_770, q_rd_eq, q_nt_0, q_nt_s, q_ld_tab, q_st_tab, q_aa13, q_aa14, q_is_eq, q_wr_eq, q_01_0, q_01_1, q_nz_nI, q_len_tab, psh_some, psh_none, sm_up_at, sm_up_ne, nI_add, nI_lt2, nI_le2, nI_eq2, ls_set0, ls_setS, Nat.reduceAdd, Nat.zero_add, Nat.add_zero, not_true_eq_false, not_false_eq_true, ite_true, ite_false, q_xs_eq, T0]
  · have T1 : ∀ P, q_is (h1.1 98) 6 P = P := fun P => q_is_t t
    simp (disch := omega) only [w_Law_law_773, w_Law_law_774, w_Law_law_775, w_Law_law_776, w_Law_law_777, w_Law_law_778, w_Law_law_779, w_Law_law_780, w_Law_law_781, w_Law_law_782, w_Law_law_783, w_Law_law_784, w_Law_law_785, w_Law_law_786, w_Law_law_787, w_Law_law_788, w_Law_law_789, w_Law_law_790, w_Law_law_791, w_Law_law_792, w_Law_law_793, w_Law_law_794, q_rd_eq, q_nt_0, q_nt_s, q_ld_tab, q_st_tab, q_aa13, q_aa14, q_is_eq, q_wr_eq, q_01_0, q_01_1, q_nz_nI, q_len_tab, psh_some, psh_none, sm_up_at, sm_up_ne, nI_add, nI_lt2, nI_le2, nI_eq2, ls_set0, ls_setS, Nat.reduceAdd, Nat.zero_add, Nat.add_zero, not_true_eq_false, not_false_eq_true, ite_true, ite_false, q_xs_eq, T1]
  · simp (disch := omega) only [w_Law_law_797, q_rd_eq, q_nt_0, q_nt_s, q_ld_tab, q_st_tab, q_aa13, q_aa14, q_is_eq, q_wr_eq, q_01_0, q_01_1, q_nz_nI, q_len_tab, psh_some, psh_none, sm_up_at, sm_up_ne, nI_add, nI_lt2, nI_le2, nI_eq2, ls_set0, ls_setS, Nat.reduceAdd, Nat.zero_add, Nat.add_zero, not_true_eq_false, not_false_eq_true, ite_true, ite_false]
theorem g_onePath {x0 : Int32} {x1 : Int32} {x2 : Int32} (w : Wp xs m_Model_onePath 0 [.ref 98, .int x0, .int x1, .int x2, .null, .null] [] h 0 0 K) : (h.1 98).1 = 6 := by
  rw [w_Model_onePath_0, w_Model_onePath_1, w_Model_onePath_2] at w
  exact q_wr_t w
theorem lc_onePath (B : Bt h s) (hi : i + 5 ≤ xs.length) (hx : xs.length ≤ 320) (Q : ∀ h' s', Bt h' s' → Wp xs m_Law_law 1033 [.retAddr 0, .ref 0, .ref 98, .int (nI i)] [] h' 111 5177 K) : Wp xs m_Law_law 802 [.retAddr 0, .ref 0, .ref 98, .int (nI i)] [] h 111 5177 K := by
  have T0 : ∀ P, q_is (h.1 0) 5 P = P := fun P => q_is_t B.tag
  refine law_case (pc2 := 821) (pc3 := 840) (o_onePath (u := xs.getD (i + 1) 0) (w := xs.getD (i + 2) 0) (t := xs.getD (i + 3) 0) B) (fun h1 K' w => g_onePath w) ?_ (fun r h1 t => ?_) (fun r h2 => ?_) Q
  · simp (disch := omega) only [w_Law_law_802, w_Law_law_803, w_Law_law_804, w_Law_law_805, w_Law_law_806, w_Law_law_807, w_Law_law_808, w_Law_law_809, w_Law_law_810, w_Law_law_811, w_Law_law_812, w_Law_law_813, w_Law_law_814, w_Law_law_815, w_Law_law_816, w_Law_law_817, w_Law_law_818, q_rd_eq, q_nt_0, q_nt_s, q_ld_tab, q_st_tab, q_aa13, q_aa14, q_is_eq, q_wr_eq, q_01_0, q_01_1, q_nz_nI, q_len_tab, psh_some, psh_none, sm_up_at, sm_up_ne, nI_add, nI_lt2, nI_le2, nI_eq2, ls_set0, ls_setS, Nat.reduceAdd, Nat.zero_add, Nat.add_zero, not_true_eq_false, not_false_eq_true, ite_true, ite_false, q_xs_eq, T0]
  · have T1 : ∀ P, q_is (h1.1 98) 6 P = P := fun P => q_is_t t
    simp (disch := omega) only [w_Law_law_821, w_Law_law_822, w_Law_law_823, w_Law_law_824, w_Law_law_825, w_Law_law_826, w_Law_law_827, w_Law_law_828, w_Law_law_829, w_Law_law_830, w_Law_law_831, w_Law_law_832, w_Law_law_833, w_Law_law_834, w_Law_law_835, w_Law_law_836, w_Law_law_837, q_rd_eq, q_nt_0, q_nt_s, q_ld_tab, q_st_tab, q_aa13, q_aa14, q_is_eq, q_wr_eq, q_01_0, q_01_1, q_nz_nI, q_len_tab, psh_some, psh_none, sm_up_at, sm_up_ne, nI_add, nI_lt2, nI_le2, nI_eq2, ls_set0, ls_setS, Nat.reduceAdd, Nat.zero_add, Nat.add_zero, not_true_eq_false, not_false_eq_true, ite_true, ite_false, q_xs_eq, T1]
  · simp (disch := omega) only [w_Law_law_840, q_rd_eq, q_nt_0, q_nt_s, q_ld_tab, q_st_tab, q_aa13, q_aa14, q_is_eq, q_wr_eq, q_01_0, q_01_1, q_nz_nI, q_len_tab, psh_some, psh_none, sm_up_at, sm_up_ne, nI_add, nI_lt2, nI_le2, nI_eq2, ls_set0, ls_setS, Nat.reduceAdd, Nat.zero_add, Nat.add_zero, not_true_eq_false, not_false_eq_true, ite_true, ite_false]
theorem g_finds {x0 : Int32} (w : Wp xs m_Model_finds 0 [.ref 98, .int x0] [] h 0 0 K) : (h.1 98).1 = 6 := by
  rw [w_Model_finds_0, w_Model_finds_1, w_Model_finds_2] at w
  exact q_wr_t w
theorem lc_finds (B : Bt h s) (hi : i + 5 ≤ xs.length) (hx : xs.length ≤ 320) (Q : ∀ h' s', Bt h' s' → Wp xs m_Law_law 1033 [.retAddr 0, .ref 0, .ref 98, .int (nI i)] [] h' 111 5177 K) : Wp xs m_Law_law 845 [.retAddr 0, .ref 0, .ref 98, .int (nI i)] [] h 111 5177 K := by
  have T0 : ∀ P, q_is (h.1 0) 5 P = P := fun P => q_is_t B.tag
  refine law_case (pc2 := 854) (pc3 := 863) (o_finds (u := xs.getD (i + 1) 0) B) (fun h1 K' w => g_finds w) ?_ (fun r h1 t => ?_) (fun r h2 => ?_) Q
  · simp (disch := omega) only [w_Law_law_845, w_Law_law_846, w_Law_law_847, w_Law_law_848, w_Law_law_849, w_Law_law_850, w_Law_law_851, q_rd_eq, q_nt_0, q_nt_s, q_ld_tab, q_st_tab, q_aa13, q_aa14, q_is_eq, q_wr_eq, q_01_0, q_01_1, q_nz_nI, q_len_tab, psh_some, psh_none, sm_up_at, sm_up_ne, nI_add, nI_lt2, nI_le2, nI_eq2, ls_set0, ls_setS, Nat.reduceAdd, Nat.zero_add, Nat.add_zero, not_true_eq_false, not_false_eq_true, ite_true, ite_false, q_xs_eq, T0]
  · have T1 : ∀ P, q_is (h1.1 98) 6 P = P := fun P => q_is_t t
    simp (disch := omega) only [w_Law_law_854, w_Law_law_855, w_Law_law_856, w_Law_law_857, w_Law_law_858, w_Law_law_859, w_Law_law_860, q_rd_eq, q_nt_0, q_nt_s, q_ld_tab, q_st_tab, q_aa13, q_aa14, q_is_eq, q_wr_eq, q_01_0, q_01_1, q_nz_nI, q_len_tab, psh_some, psh_none, sm_up_at, sm_up_ne, nI_add, nI_lt2, nI_le2, nI_eq2, ls_set0, ls_setS, Nat.reduceAdd, Nat.zero_add, Nat.add_zero, not_true_eq_false, not_false_eq_true, ite_true, ite_false, q_xs_eq, T1]
  · simp (disch := omega) only [w_Law_law_863, q_rd_eq, q_nt_0, q_nt_s, q_ld_tab, q_st_tab, q_aa13, q_aa14, q_is_eq, q_wr_eq, q_01_0, q_01_1, q_nz_nI, q_len_tab, psh_some, psh_none, sm_up_at, sm_up_ne, nI_add, nI_lt2, nI_le2, nI_eq2, ls_set0, ls_setS, Nat.reduceAdd, Nat.zero_add, Nat.add_zero, not_true_eq_false, not_false_eq_true, ite_true, ite_false]
theorem g_forget (w : Wp xs m_Model_forget 0 [.ref 98, .null] [] h 0 0 K) : (h.1 98).1 = 6 := by
  rw [w_Model_forget_0, w_Model_forget_1, w_Model_forget_2] at w
  exact q_wr_t w
theorem lc_forget (B : Bt h s) (hi : i + 5 ≤ xs.length) (hx : xs.length ≤ 320) (Q : ∀ h' s', Bt h' s' → Wp xs m_Law_law 1033 [.retAddr 0, .ref 0, .ref 98, .int (nI i)] [] h' 111 5177 K) : Wp xs m_Law_law 868 [.retAddr 0, .ref 0, .ref 98, .int (nI i)] [] h 111 5177 K := by
  have T0 : ∀ P, q_is (h.1 0) 5 P = P := fun P => q_is_t B.tag
  refine law_case (pc2 := 872) (pc3 := 876) (o_forget  B) (fun h1 K' w => g_forget w) ?_ (fun r h1 t => ?_) (fun r h2 => ?_) Q
  · simp (disch := omega) only [w_Law_law_868, w_Law_law_869, q_rd_eq, q_nt_0, q_nt_s, q_ld_tab, q_st_tab, q_aa13, q_aa14, q_is_eq, q_wr_eq, q_01_0, q_01_1, q_nz_nI, q_len_tab, psh_some, psh_none, sm_up_at, sm_up_ne, nI_add, nI_lt2, nI_le2, nI_eq2, ls_set0, ls_setS, Nat.reduceAdd, Nat.zero_add, Nat.add_zero, not_true_eq_false, not_false_eq_true, ite_true, ite_false, q_xs_eq, T0]
  · have T1 : ∀ P, q_is (h1.1 98) 6 P = P := fun P => q_is_t t
    simp (disch := omega) only [w_Law_law_872, w_Law_law_873, q_rd_eq, q_nt_0, q_nt_s, q_ld_tab, q_st_tab, q_aa13, q_aa14, q_is_eq, q_wr_eq, q_01_0, q_01_1, q_nz_nI, q_len_tab, psh_some, psh_none, sm_up_at, sm_up_ne, nI_add, nI_lt2, nI_le2, nI_eq2, ls_set0, ls_setS, Nat.reduceAdd, Nat.zero_add, Nat.add_zero, not_true_eq_false, not_false_eq_true, ite_true, ite_false, q_xs_eq, T1]
  · simp (disch := omega) only [w_Law_law_876, q_rd_eq, q_nt_0, q_nt_s, q_ld_tab, q_st_tab, q_aa13, q_aa14, q_is_eq, q_wr_eq, q_01_0, q_01_1, q_nz_nI, q_len_tab, psh_some, psh_none, sm_up_at, sm_up_ne, nI_add, nI_lt2, nI_le2, nI_eq2, ls_set0, ls_setS, Nat.reduceAdd, Nat.zero_add, Nat.add_zero, not_true_eq_false, not_false_eq_true, ite_true, ite_false]
theorem g_who (w : Wp xs m_Model_who 0 [.ref 98, .null, .null] [] h 0 0 K) : (h.1 98).1 = 6 := by
  rw [w_Model_who_0, w_Model_who_1, w_Model_who_2] at w
  exact q_wr_t w
theorem lc_who (B : Bt h s) (hi : i + 5 ≤ xs.length) (hx : xs.length ≤ 320) (Q : ∀ h' s', Bt h' s' → Wp xs m_Law_law 1033 [.retAddr 0, .ref 0, .ref 98, .int (nI i)] [] h' 111 5177 K) : Wp xs m_Law_law 881 [.retAddr 0, .ref 0, .ref 98, .int (nI i)] [] h 111 5177 K := by
  have T0 : ∀ P, q_is (h.1 0) 5 P = P := fun P => q_is_t B.tag
  refine law_case (pc2 := 885) (pc3 := 889) (o_who  B) (fun h1 K' w => g_who w) ?_ (fun r h1 t => ?_) (fun r h2 => ?_) Q
  · simp (disch := omega) only [w_Law_law_881, w_Law_law_882, q_rd_eq, q_nt_0, q_nt_s, q_ld_tab, q_st_tab, q_aa13, q_aa14, q_is_eq, q_wr_eq, q_01_0, q_01_1, q_nz_nI, q_len_tab, psh_some, psh_none, sm_up_at, sm_up_ne, nI_add, nI_lt2, nI_le2, nI_eq2, ls_set0, ls_setS, Nat.reduceAdd, Nat.zero_add, Nat.add_zero, not_true_eq_false, not_false_eq_true, ite_true, ite_false, q_xs_eq, T0]
  · have T1 : ∀ P, q_is (h1.1 98) 6 P = P := fun P => q_is_t t
    simp (disch := omega) only [w_Law_law_885, w_Law_law_886, q_rd_eq, q_nt_0, q_nt_s, q_ld_tab, q_st_tab, q_aa13, q_aa14, q_is_eq, q_wr_eq, q_01_0, q_01_1, q_nz_nI, q_len_tab, psh_some, psh_none, sm_up_at, sm_up_ne, nI_add, nI_lt2, nI_le2, nI_eq2, ls_set0, ls_setS, Nat.reduceAdd, Nat.zero_add, Nat.add_zero, not_true_eq_false, not_false_eq_true, ite_true, ite_false, q_xs_eq, T1]
  · simp (disch := omega) only [w_Law_law_889, q_rd_eq, q_nt_0, q_nt_s, q_ld_tab, q_st_tab, q_aa13, q_aa14, q_is_eq, q_wr_eq, q_01_0, q_01_1, q_nz_nI, q_len_tab, psh_some, psh_none, sm_up_at, sm_up_ne, nI_add, nI_lt2, nI_le2, nI_eq2, ls_set0, ls_setS, Nat.reduceAdd, Nat.zero_add, Nat.add_zero, not_true_eq_false, not_false_eq_true, ite_true, ite_false]
theorem g_strangers {x0 : Int32} (w : Wp xs m_Model_strangers 0 [.ref 98, .int x0, .null, .null, .null, .null, .null, .null] [] h 0 0 K) : (h.1 98).1 = 6 := by
  rw [w_Model_strangers_0, w_Model_strangers_1, w_Model_strangers_2] at w
  exact q_wr_t w
theorem lc_strangers (B : Bt h s) (hi : i + 5 ≤ xs.length) (hx : xs.length ≤ 320) (Q : ∀ h' s', Bt h' s' → Wp xs m_Law_law 1033 [.retAddr 0, .ref 0, .ref 98, .int (nI i)] [] h' 111 5177 K) : Wp xs m_Law_law 894 [.retAddr 0, .ref 0, .ref 98, .int (nI i)] [] h 111 5177 K := by
  have T0 : ∀ P, q_is (h.1 0) 5 P = P := fun P => q_is_t B.tag
  refine law_case (pc2 := 903) (pc3 := 912) (o_strangers (u := xs.getD (i + 1) 0) B) (fun h1 K' w => g_strangers w) ?_ (fun r h1 t => ?_) (fun r h2 => ?_) Q
  · simp (disch := omega) only [w_Law_law_894, w_Law_law_895, w_Law_law_896, w_Law_law_897, w_Law_law_898, w_Law_law_899, w_Law_law_900, q_rd_eq, q_nt_0, q_nt_s, q_ld_tab, q_st_tab, q_aa13, q_aa14, q_is_eq, q_wr_eq, q_01_0, q_01_1, q_nz_nI, q_len_tab, psh_some, psh_none, sm_up_at, sm_up_ne, nI_add, nI_lt2, nI_le2, nI_eq2, ls_set0, ls_setS, Nat.reduceAdd, Nat.zero_add, Nat.add_zero, not_true_eq_false, not_false_eq_true, ite_true, ite_false, q_xs_eq, T0]
  · have T1 : ∀ P, q_is (h1.1 98) 6 P = P := fun P => q_is_t t
    simp (disch := omega) only [w_Law_law_903, w_Law_law_904, w_Law_law_905, w_Law_law_906, w_Law_law_907, w_Law_law_908, w_Law_law_909, q_rd_eq, q_nt_0, q_nt_s, q_ld_tab, q_st_tab, q_aa13, q_aa14, q_is_eq, q_wr_eq, q_01_0, q_01_1, q_nz_nI, q_len_tab, psh_some, psh_none, sm_up_at, sm_up_ne, nI_add, nI_lt2, nI_le2, nI_eq2, ls_set0, ls_setS, Nat.reduceAdd, Nat.zero_add, Nat.add_zero, not_true_eq_false, not_false_eq_true, ite_true, ite_false, q_xs_eq, T1]
  · simp (disch := omega) only [w_Law_law_912, q_rd_eq, q_nt_0, q_nt_s, q_ld_tab, q_st_tab, q_aa13, q_aa14, q_is_eq, q_wr_eq, q_01_0, q_01_1, q_nz_nI, q_len_tab, psh_some, psh_none, sm_up_at, sm_up_ne, nI_add, nI_lt2, nI_le2, nI_eq2, ls_set0, ls_setS, Nat.reduceAdd, Nat.zero_add, Nat.add_zero, not_true_eq_false, not_false_eq_true, ite_true, ite_false]
theorem g_rate {x0 : Int32} {x1 : Int32} (w : Wp xs m_Model_rate 0 [.ref 98, .int x0, .int x1, .null, .null, .null] [] h 0 0 K) : (h.1 98).1 = 6 := by
  rw [w_Model_rate_0, w_Model_rate_1, w_Model_rate_2] at w
  exact q_wr_t w
theorem lc_rate (B : Bt h s) (hi : i + 5 ≤ xs.length) (hx : xs.length ≤ 320) (Q : ∀ h' s', Bt h' s' → Wp xs m_Law_law 1033 [.retAddr 0, .ref 0, .ref 98, .int (nI i)] [] h' 111 5177 K) : Wp xs m_Law_law 917 [.retAddr 0, .ref 0, .ref 98, .int (nI i)] [] h 111 5177 K := by
  have T0 : ∀ P, q_is (h.1 0) 5 P = P := fun P => q_is_t B.tag
  refine law_case (pc2 := 931) (pc3 := 945) (o_rate (v := xs.getD (i + 1) 0) (u := xs.getD (i + 2) 0) B) (fun h1 K' w => g_rate w) ?_ (fun r h1 t => ?_) (fun r h2 => ?_) Q
  · simp (disch := omega) only [w_Law_law_917, w_Law_law_918, w_Law_law_919, w_Law_law_920, w_Law_law_921, w_Law_law_922, w_Law_law_923, w_Law_law_924, w_Law_law_925, w_Law_law_926, w_Law_law_927, w_Law_law_928, q_rd_eq, q_nt_0, q_nt_s, q_ld_tab, q_st_tab, q_aa13, q_aa14, q_is_eq, q_wr_eq, q_01_0, q_01_1, q_nz_nI, q_len_tab, psh_some, psh_none, sm_up_at, sm_up_ne, nI_add, nI_lt2, nI_le2, nI_eq2, ls_set0, ls_setS, Nat.reduceAdd, Nat.zero_add, Nat.add_zero, not_true_eq_false, not_false_eq_true, ite_true, ite_false, q_xs_eq, T0]
  · have T1 : ∀ P, q_is (h1.1 98) 6 P = P := fun P => q_is_t t
    simp (disch := omega) only [w_Law_law_931, w_Law_law_932, w_Law_law_933, w_Law_law_934, w_Law_law_935, w_Law_law_936, w_Law_law_937, w_Law_law_938, w_Law_law_939, w_Law_law_940, w_Law_law_941, w_Law_law_942, q_rd_eq, q_nt_0, q_nt_s, q_ld_tab, q_st_tab, q_aa13, q_aa14, q_is_eq, q_wr_eq, q_01_0, q_01_1, q_nz_nI, q_len_tab, psh_some, psh_none, sm_up_at, sm_up_ne, nI_add, nI_lt2, nI_le2, nI_eq2, ls_set0, ls_setS, Nat.reduceAdd, Nat.zero_add, Nat.add_zero, not_true_eq_false, not_false_eq_true, ite_true, ite_false, q_xs_eq, T1]
  · simp (disch := omega) only [w_Law_law_945, q_rd_eq, q_nt_0, q_nt_s, q_ld_tab, q_st_tab, q_aa13, q_aa14, q_is_eq, q_wr_eq, q_01_0, q_01_1, q_nz_nI, q_len_tab, psh_some, psh_none, sm_up_at, sm_up_ne, nI_add, nI_lt2, nI_le2, nI_eq2, ls_set0, ls_setS, Nat.reduceAdd, Nat.zero_add, Nat.add_zero, not_true_eq_false, not_false_eq_true, ite_true, ite_false]
theorem g_keep {x0 : Int32} (w : Wp xs m_Model_keep 0 [.ref 98, .int x0, .null] [] h 0 0 K) : (h.1 98).1 = 6 := by
  rw [w_Model_keep_0, w_Model_keep_1, w_Model_keep_2] at w
  exact q_wr_t w
theorem lc_keep (B : Bt h s) (hi : i + 5 ≤ xs.length) (hx : xs.length ≤ 320) (Q : ∀ h' s', Bt h' s' → Wp xs m_Law_law 1033 [.retAddr 0, .ref 0, .ref 98, .int (nI i)] [] h' 111 5177 K) : Wp xs m_Law_law 950 [.retAddr 0, .ref 0, .ref 98, .int (nI i)] [] h 111 5177 K := by
  have T0 : ∀ P, q_is (h.1 0) 5 P = P := fun P => q_is_t B.tag
  refine law_case (pc2 := 959) (pc3 := 968) (o_keep (u := xs.getD (i + 1) 0) B) (fun h1 K' w => g_keep w) ?_ (fun r h1 t => ?_) (fun r h2 => ?_) Q
  · simp (disch := omega) only [w_Law_law_950, w_Law_law_951, w_Law_law_952, w_Law_law_953, w_Law_law_954, w_Law_law_955, w_Law_law_956, q_rd_eq, q_nt_0, q_nt_s, q_ld_tab, q_st_tab, q_aa13, q_aa14, q_is_eq, q_wr_eq, q_01_0, q_01_1, q_nz_nI, q_len_tab, psh_some, psh_none, sm_up_at, sm_up_ne, nI_add, nI_lt2, nI_le2, nI_eq2, ls_set0, ls_setS, Nat.reduceAdd, Nat.zero_add, Nat.add_zero, not_true_eq_false, not_false_eq_true, ite_true, ite_false, q_xs_eq, T0]
  · have T1 : ∀ P, q_is (h1.1 98) 6 P = P := fun P => q_is_t t
    simp (disch := omega) only [w_Law_law_959, w_Law_law_960, w_Law_law_961, w_Law_law_962, w_Law_law_963, w_Law_law_964, w_Law_law_965, q_rd_eq, q_nt_0, q_nt_s, q_ld_tab, q_st_tab, q_aa13, q_aa14, q_is_eq, q_wr_eq, q_01_0, q_01_1, q_nz_nI, q_len_tab, psh_some, psh_none, sm_up_at, sm_up_ne, nI_add, nI_lt2, nI_le2, nI_eq2, ls_set0, ls_setS, Nat.reduceAdd, Nat.zero_add, Nat.add_zero, not_true_eq_false, not_false_eq_true, ite_true, ite_false, q_xs_eq, T1]
  · simp (disch := omega) only [w_Law_law_968, q_rd_eq, q_nt_0, q_nt_s, q_ld_tab, q_st_tab, q_aa13, q_aa14, q_is_eq, q_wr_eq, q_01_0, q_01_1, q_nz_nI, q_len_tab, psh_some, psh_none, sm_up_at, sm_up_ne, nI_add, nI_lt2, nI_le2, nI_eq2, ls_set0, ls_setS, Nat.reduceAdd, Nat.zero_add, Nat.add_zero, not_true_eq_false, not_false_eq_true, ite_true, ite_false]
theorem g_back {x0 : Int32} (w : Wp xs m_Model_back 0 [.ref 98, .int x0, .null] [] h 0 0 K) : (h.1 98).1 = 6 := by
  rw [w_Model_back_0, w_Model_back_1, w_Model_back_2] at w
  exact q_wr_t w
theorem lc_back (B : Bt h s) (hi : i + 5 ≤ xs.length) (hx : xs.length ≤ 320) (Q : ∀ h' s', Bt h' s' → Wp xs m_Law_law 1033 [.retAddr 0, .ref 0, .ref 98, .int (nI i)] [] h' 111 5177 K) : Wp xs m_Law_law 973 [.retAddr 0, .ref 0, .ref 98, .int (nI i)] [] h 111 5177 K := by
  have T0 : ∀ P, q_is (h.1 0) 5 P = P := fun P => q_is_t B.tag
  refine law_case (pc2 := 982) (pc3 := 991) (o_back (u := xs.getD (i + 1) 0) B) (fun h1 K' w => g_back w) ?_ (fun r h1 t => ?_) (fun r h2 => ?_) Q
  · simp (disch := omega) only [w_Law_law_973, w_Law_law_974, w_Law_law_975, w_Law_law_976, w_Law_law_977, w_Law_law_978, w_Law_law_979, q_rd_eq, q_nt_0, q_nt_s, q_ld_tab, q_st_tab, q_aa13, q_aa14, q_is_eq, q_wr_eq, q_01_0, q_01_1, q_nz_nI, q_len_tab, psh_some, psh_none, sm_up_at, sm_up_ne, nI_add, nI_lt2, nI_le2, nI_eq2, ls_set0, ls_setS, Nat.reduceAdd, Nat.zero_add, Nat.add_zero, not_true_eq_false, not_false_eq_true, ite_true, ite_false, q_xs_eq, T0]
  · have T1 : ∀ P, q_is (h1.1 98) 6 P = P := fun P => q_is_t t
    simp (disch := omega) only [w_Law_law_982, w_Law_law_983, w_Law_law_984, w_Law_law_985, w_Law_law_986, w_Law_law_987, w_Law_law_988, q_rd_eq, q_nt_0, q_nt_s, q_ld_tab, q_st_tab, q_aa13, q_aa14, q_is_eq, q_wr_eq, q_01_0, q_01_1, q_nz_nI, q_len_tab, psh_some, psh_none, sm_up_at, sm_up_ne, nI_add, nI_lt2, nI_le2, nI_eq2, ls_set0, ls_setS, Nat.reduceAdd, Nat.zero_add, Nat.add_zero, not_true_eq_false, not_false_eq_true, ite_true, ite_false, q_xs_eq, T1]
  · simp (disch := omega) only [w_Law_law_991, q_rd_eq, q_nt_0, q_nt_s, q_ld_tab, q_st_tab, q_aa13, q_aa14, q_is_eq, q_wr_eq, q_01_0, q_01_1, q_nz_nI, q_len_tab, psh_some, psh_none, sm_up_at, sm_up_ne, nI_add, nI_lt2, nI_le2, nI_eq2, ls_set0, ls_setS, Nat.reduceAdd, Nat.zero_add, Nat.add_zero, not_true_eq_false, not_false_eq_true, ite_true, ite_false]
theorem g_count {x0 : Int32} (w : Wp xs m_Model_count 0 [.ref 98, .int x0] [] h 0 0 K) : (h.1 98).1 = 6 := by
  rw [w_Model_count_0, w_Model_count_1, w_Model_count_2] at w
  exact q_wr_t w
theorem lc_count (B : Bt h s) (hi : i + 5 ≤ xs.length) (hx : xs.length ≤ 320) (Q : ∀ h' s', Bt h' s' → Wp xs m_Law_law 1033 [.retAddr 0, .ref 0, .ref 98, .int (nI i)] [] h' 111 5177 K) : Wp xs m_Law_law 996 [.retAddr 0, .ref 0, .ref 98, .int (nI i)] [] h 111 5177 K := by
  have T0 : ∀ P, q_is (h.1 0) 5 P = P := fun P => q_is_t B.tag
  refine law_case (pc2 := 1005) (pc3 := 1014) (o_count (u := xs.getD (i + 1) 0) B) (fun h1 K' w => g_count w) ?_ (fun r h1 t => ?_) (fun r h2 => ?_) Q
  · simp (disch := omega) only [w_Law_law_996, w_Law_law_997, w_Law_law_998, w_Law_law_999, w_Law_law_1000, w_Law_law_1001, w_Law_law_1002, q_rd_eq, q_nt_0, q_nt_s, q_ld_tab, q_st_tab, q_aa13, q_aa14, q_is_eq, q_wr_eq, q_01_0, q_01_1, q_nz_nI, q_len_tab, psh_some, psh_none, sm_up_at, sm_up_ne, nI_add, nI_lt2, nI_le2, nI_eq2, ls_set0, ls_setS, Nat.reduceAdd, Nat.zero_add, Nat.add_zero, not_true_eq_false, not_false_eq_true, ite_true, ite_false, q_xs_eq, T0]
  · have T1 : ∀ P, q_is (h1.1 98) 6 P = P := fun P => q_is_t t
    simp (disch := omega) only [w_Law_law_1005, w_Law_law_1006, w_Law_law_1007, w_Law_law_1008, w_Law_law_1009, w_Law_law_1010, w_Law_law_1011, q_rd_eq, q_nt_0, q_nt_s, q_ld_tab, q_st_tab, q_aa13, q_aa14, q_is_eq, q_wr_eq, q_01_0, q_01_1, q_nz_nI, q_len_tab, psh_some, psh_none, sm_up_at, sm_up_ne, nI_add, nI_lt2, nI_le2, nI_eq2, ls_set0, ls_setS, Nat.reduceAdd, Nat.zero_add, Nat.add_zero, not_true_eq_false, not_false_eq_true, ite_true, ite_false, q_xs_eq, T1]
  · simp (disch := omega) only [w_Law_law_1014, q_rd_eq, q_nt_0, q_nt_s, q_ld_tab, q_st_tab, q_aa13, q_aa14, q_is_eq, q_wr_eq, q_01_0, q_01_1, q_nz_nI, q_len_tab, psh_some, psh_none, sm_up_at, sm_up_ne, nI_add, nI_lt2, nI_le2, nI_eq2, ls_set0, ls_setS, Nat.reduceAdd, Nat.zero_add, Nat.add_zero, not_true_eq_false, not_false_eq_true, ite_true, ite_false]
theorem g_trace (w : Wp xs m_Model_trace 0 [.ref 98] [] h 0 0 K) : (h.1 98).1 = 6 := by
  rw [w_Model_trace_0, w_Model_trace_1, w_Model_trace_2] at w
  exact q_wr_t w
theorem lc_trace (B : Bt h s) (Q : ∀ h' s', Bt h' s' → Wp xs m_Law_law 1033 [.retAddr 0, .ref 0, .ref 98, .int (nI i)] [] h' 111 5177 K) : Wp xs m_Law_law 1019 [.retAddr 0, .ref 0, .ref 98, .int (nI i)] [] h 111 5177 K := by
  have T0 : ∀ P, q_is (h.1 0) 5 P = P := fun P => q_is_t B.tag
  have key := o_trace B xs (fun r1 r2 h2 => (∃ r, r1 = some (.long r) ∧ r2 = some (.long r)) ∧ ∃ s', Bt h2 s') (fun r h' s' hb => ⟨⟨r, rfl, rfl⟩, s', hb⟩)
  simp (disch := omega) only [w_Law_law_1019, w_Law_law_1020, q_rd_eq, q_nt_0, q_nt_s, q_ld_tab, q_st_tab, q_aa13, q_aa14, q_is_eq, q_wr_eq, q_01_0, q_01_1, q_nz_nI, q_len_tab, psh_some, psh_none, sm_up_at, sm_up_ne, nI_add, nI_lt2, nI_le2, nI_eq2, ls_set0, ls_setS, Nat.reduceAdd, Nat.zero_add, Nat.add_zero, not_true_eq_false, not_false_eq_true, ite_true, ite_false, T0]
  refine Wp.mono (fun r1 h1 w => ?_) key
  have t := g_trace w
  obtain ⟨n, r2, h2, hr, ⟨r, e1, e2⟩, s', hb⟩ := id w
  subst e1
  have T1 : ∀ P, q_is (h1.1 98) 6 P = P := fun P => q_is_t t
  simp (disch := omega) only [w_Law_law_1023, w_Law_law_1024, q_rd_eq, q_nt_0, q_nt_s, q_ld_tab, q_st_tab, q_aa13, q_aa14, q_is_eq, q_wr_eq, q_01_0, q_01_1, q_nz_nI, q_len_tab, psh_some, psh_none, sm_up_at, sm_up_ne, nI_add, nI_lt2, nI_le2, nI_eq2, ls_set0, ls_setS, Nat.reduceAdd, Nat.zero_add, Nat.add_zero, not_true_eq_false, not_false_eq_true, ite_true, ite_false, T1]
  refine Wp.mono (fun r2' h2' q => ?_) w
  obtain ⟨⟨r', e1, e2⟩, s'', hb'⟩ := q
  cases e1
  subst e2
  have ec : lg_cmp r r = nI 0 := lg_self r
  simp (disch := omega) only [w_Law_law_1027, w_Law_law_1028, q_rd_eq, q_nt_0, q_nt_s, q_ld_tab, q_st_tab, q_aa13, q_aa14, q_is_eq, q_wr_eq, q_01_0, q_01_1, q_nz_nI, q_len_tab, psh_some, psh_none, sm_up_at, sm_up_ne, nI_add, nI_lt2, nI_le2, nI_eq2, ls_set0, ls_setS, Nat.reduceAdd, Nat.zero_add, Nat.add_zero, not_true_eq_false, not_false_eq_true, ite_true, ite_false, ec]
  exact Q _ _ hb'
theorem law_loop (hx : xs.length ≤ 320) (hK : ∀ h', K (some (.int 1)) h') : ∀ r i (h : sm_Hp) (s : CS), xs.length ≤ i + r → i ≤ xs.length → Bt h s → Wp xs m_Law_law 18 [.retAddr 0, .ref 0, .ref 98, .int (nI i)] [] h 111 5177 K := by
  intro r
  induction r with
  | zero =>
    intro i h s h1 h2 B
    exact law_exit hx hK (by omega) h2
  | succ r ih =>
    intro i h s h1 h2 B
    by_cases hc : i + 5 ≤ xs.length
    · have c1 : ¬ xs.length - 5 < i := by omega
      obtain ⟨j, hj, ej⟩ := and31 (xs.getD i 0)
      have Q : ∀ h' s', Bt h' s' → Wp xs m_Law_law 1033 [.retAddr 0, .ref 0, .ref 98, .int (nI i)] [] h' 111 5177 K := fun h' s' B' => by
        simp (disch := omega) only [w_Law_law_1033, w_Law_law_1036, q_rd_eq, q_nt_0, q_nt_s, q_ld_tab, q_st_tab, q_aa13, q_aa14, q_is_eq, q_wr_eq, q_01_0, q_01_1, q_nz_nI, q_len_tab, psh_some, psh_none, sm_up_at, sm_up_ne, nI_add, nI_lt2, nI_le2, nI_eq2, ls_set0, ls_setS, Nat.reduceAdd, Nat.zero_add, Nat.add_zero, not_true_eq_false, not_false_eq_true, ite_true, ite_false]
        exact ih (i + 5) h' s' (by omega) hc B'
      rw [w_Law_law_18]
      simp (disch := omega) only [w_Law_law_19, w_Law_law_20, w_Law_law_21, w_Law_law_22, w_Law_law_23, w_Law_law_26, w_Law_law_27, w_Law_law_28, w_Law_law_29, w_Law_law_31, q_rd_eq, q_nt_0, q_nt_s, q_ld_tab, q_st_tab, q_aa13, q_aa14, q_is_eq, q_wr_eq, q_01_0, q_01_1, q_nz_nI, q_len_tab, psh_some, psh_none, sm_up_at, sm_up_ne, nI_add, nI_lt2, nI_le2, nI_eq2, ls_set0, ls_setS, Nat.reduceAdd, Nat.zero_add, Nat.add_zero, not_true_eq_false, not_false_eq_true, ite_true, ite_false, nI_sub2, c1, q_xs_eq]
      rw [ej]
      match j, hj with
      | 0, _ => rw [w_Law_law_32_0]; exact lc_type B hc hx Q
      | 1, _ => rw [w_Law_law_32_1]; exact lc_clear B hc hx Q
      | 2, _ => rw [w_Law_law_32_2]; exact lc_path B hc hx Q
      | 3, _ => rw [w_Law_law_32_3]; exact lc_walker B hc hx Q
      | 4, _ => rw [w_Law_law_32_4]; exact lc_depth B hc hx Q
      | 5, _ => rw [w_Law_law_32_5]; exact lc_gift B hc hx Q
      | 6, _ => rw [w_Law_law_32_6]; exact lc_now B hc hx Q
      | 7, _ => rw [w_Law_law_32_7]; exact lc_walks B hc hx Q
      | 8, _ => rw [w_Law_law_32_8]; exact lc_gives B hc hx Q
      | 9, _ => rw [w_Law_law_32_9]; exact lc_rains B hc hx Q
      | 10, _ => rw [w_Law_law_32_10]; exact lc_snows B hc hx Q
      | 11, _ => rw [w_Law_law_32_11]; exact lc_cows B hc hx Q
      | 12, _ => rw [w_Law_law_32_12]; exact lc_fills B hc hx Q
      | 13, _ => rw [w_Law_law_32_13]; exact lc_undo B hc hx Q
      | 14, _ => rw [w_Law_law_32_14]; exact lc_whose B hc hx Q
      | 15, _ => rw [w_Law_law_32_15]; exact lc_both B hc hx Q
      | 16, _ => rw [w_Law_law_32_16]; exact lc_tells B hc hx Q
      | 17, _ => rw [w_Law_law_32_17]; exact lc_left B hc hx Q
      | 18, _ => rw [w_Law_law_32_18]; exact lc_jumps B hc hx Q
      | 19, _ => rw [w_Law_law_32_19]; exact lc_child B hc hx Q
      | 20, _ => rw [w_Law_law_32_20]; exact lc_go B hc hx Q
      | 21, _ => rw [w_Law_law_32_21]; exact lc_odds B hc hx Q
      | 22, _ => rw [w_Law_law_32_22]; exact lc_onePath B hc hx Q
      | 23, _ => rw [w_Law_law_32_23]; exact lc_finds B hc hx Q
      | 24, _ => rw [w_Law_law_32_24]; exact lc_forget B hc hx Q
      | 25, _ => rw [w_Law_law_32_25]; exact lc_who B hc hx Q
      | 26, _ => rw [w_Law_law_32_26]; exact lc_strangers B hc hx Q
      | 27, _ => rw [w_Law_law_32_27]; exact lc_rate B hc hx Q
      | 28, _ => rw [w_Law_law_32_28]; exact lc_keep B hc hx Q
      | 29, _ => rw [w_Law_law_32_29]; exact lc_back B hc hx Q
      | 30, _ => rw [w_Law_law_32_30]; exact lc_count B hc hx Q
      | 31, _ => rw [w_Law_law_32_31]; exact lc_trace B Q
      | j + 32, hj => exact absurd hj (by omega)
    · exact law_exit hx hK (by omega) h2
end LAW
