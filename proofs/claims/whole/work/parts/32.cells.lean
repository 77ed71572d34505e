/-! the class's cells, one by one; how they go on -/
section CEL
variable {h : sm_Hp} {s : CS} {j : CJ}
theorem InvC.o0 (I : InvC h s j) : h.1 0 = (5, [.ref 1, .ref 3, .ref 10, .ref 68, .ref 69, .ref 70, .ref (cLp j), .ref (cDp j), .long (lN s.2.2.2.2.2.1.1), .int (nI s.2.2.2.2.2.1.2), .long s.2.2.2.2.2.2]) := I.1.1
theorem InvC.o1 (I : InvC h s j) : h.1 1 = (4, [.ref 2, .int (nI s.1.2), .int j.1.1, .int j.1.2.1, .int (nI (b2n j.1.2.2.1)), .int (nI (b2n j.1.2.2.2.1)), .int (nI (b2n j.1.2.2.2.2))]) := I.1.2.1
theorem InvC.o2 (I : InvC h s j) : h.1 2 = (10, tab 120 (fun i => .int (nI (s.1.1 i)))) := I.1.2.2
theorem InvC.pr (I : InvC h s j) : PrAt h 3 s.2.2.1 := I.2.1
theorem InvC.o10 (I : InvC h s j) : h.1 10 = (1, [.ref 11, .int (nI s.2.2.2.1.2.2), .int (nI s.2.2.2.1.2.1)]) := I.2.2.1.1
theorem InvC.o11 (I : InvC h s j) : h.1 11 = (14, tab 8 (fun i => .ref (12 + 7 * i))) := I.2.2.1.2
theorem InvC.rg (I : InvC h s j) {i : Nat} (hi : i < 8) : PrAt h (12 + 7 * i) (s.2.2.2.1.1 i) := I.2.2.2.1 i hi
theorem InvC.o68 (I : InvC h s j) : h.1 68 = (14, tab 2 (fun i => .ref (84 + 7 * i))) := I.2.2.2.2.1.1
theorem InvC.o69 (I : InvC h s j) : h.1 69 = (12, tab 2 (fun i => .int (nI (b2n (s.2.2.2.2.1.2 i))))) := I.2.2.2.2.1.2
theorem InvC.im (I : InvC h s j) {i : Nat} (hi : i < 2) : PrAt h (84 + 7 * i) (s.2.2.2.2.1.1 i) := I.2.2.2.2.2.1 i hi
theorem InvC.pt (I : InvC h s j) : PtAt h (cLp j) s.2.1 (trk s.2.1) := I.2.2.2.2.2.2.2.1
theorem InvC.dt (I : InvC h s j) : PtAt h (cDp j) j.2.1.1 j.2.1.2 := I.2.2.2.2.2.2.2.2
theorem InvC.obj (I : InvC h s j) (F fc : Nat) (tr : Int64) : InvC (sm_up h 0 (5, [.ref 1, .ref 3, .ref 10, .ref 68, .ref 69, .ref 70, .ref (cLp j), .ref (cDp j), .long (lN F), .int (nI fc), .long tr])) (s.1, s.2.1, s.2.2.1, s.2.2.2.1, s.2.2.2.2.1, (F, fc), tr) j := by
  obtain ⟨⟨a0, a1, a2⟩, a3, ⟨a4, a5⟩, a6, ⟨a7, a8⟩, a9, ⟨b0, b1, b2, b3⟩, b4, b5⟩ := I
  have hj := cLp_or j
  exact ⟨⟨sm_up_at, by rw [sm_up_ne (by omega)]; exact a1, by rw [sm_up_ne (by omega)]; exact a2⟩, a3.up (by omega), ⟨by rw [sm_up_ne (by omega)]; exact a4, by rw [sm_up_ne (by omega)]; exact a5⟩, fun i hi => (a6 i hi).up (by omega), ⟨by rw [sm_up_ne (by omega)]; exact a7, by rw [sm_up_ne (by omega)]; exact a8⟩, fun i hi => (a9 i hi).up (by omega), ⟨by rw [sm_up_ne (by omega)]; exact b0, by rw [sm_up_ne (by omega)]; exact b1, by rw [sm_up_ne (by omega)]; exact b2, by rw [sm_up_ne (by omega)]; exact b3⟩, b4.up (by omega), b5.up (by omega)⟩
theorem InvC.size (I : InvC h s j) (n : Nat) : InvC (sm_up h 1 (4, [.ref 2, .int (nI n), .int j.1.1, .int j.1.2.1, .int (nI (b2n j.1.2.2.1)), .int (nI (b2n j.1.2.2.2.1)), .int (nI (b2n j.1.2.2.2.2))])) ((s.1.1, n), s.2) j := by
  obtain ⟨⟨a0, a1, a2⟩, a3, ⟨a4, a5⟩, a6, ⟨a7, a8⟩, a9, ⟨b0, b1, b2, b3⟩, b4, b5⟩ := I
  have hj := cLp_or j
  exact ⟨⟨by rw [sm_up_ne (by omega)]; exact a0, sm_up_at, by rw [sm_up_ne (by omega)]; exact a2⟩, a3.up (by omega), ⟨by rw [sm_up_ne (by omega)]; exact a4, by rw [sm_up_ne (by omega)]; exact a5⟩, fun i hi => (a6 i hi).up (by omega), ⟨by rw [sm_up_ne (by omega)]; exact a7, by rw [sm_up_ne (by omega)]; exact a8⟩, fun i hi => (a9 i hi).up (by omega), ⟨by rw [sm_up_ne (by omega)]; exact b0, by rw [sm_up_ne (by omega)]; exact b1, by rw [sm_up_ne (by omega)]; exact b2, by rw [sm_up_ne (by omega)]; exact b3⟩, b4.up (by omega), b5.up (by omega)⟩
theorem InvC.letters (I : InvC h s j) (T : Nat → Nat) : InvC (sm_up h 2 (10, tab 120 (fun i => .int (nI (T i))))) ((T, s.1.2), s.2) j := by
  obtain ⟨⟨a0, a1, a2⟩, a3, ⟨a4, a5⟩, a6, ⟨a7, a8⟩, a9, ⟨b0, b1, b2, b3⟩, b4, b5⟩ := I
  have hj := cLp_or j
  exact ⟨⟨by rw [sm_up_ne (by omega)]; exact a0, by rw [sm_up_ne (by omega)]; exact a1, sm_up_at⟩, a3.up (by omega), ⟨by rw [sm_up_ne (by omega)]; exact a4, by rw [sm_up_ne (by omega)]; exact a5⟩, fun i hi => (a6 i hi).up (by omega), ⟨by rw [sm_up_ne (by omega)]; exact a7, by rw [sm_up_ne (by omega)]; exact a8⟩, fun i hi => (a9 i hi).up (by omega), ⟨by rw [sm_up_ne (by omega)]; exact b0, by rw [sm_up_ne (by omega)]; exact b1, by rw [sm_up_ne (by omega)]; exact b2, by rw [sm_up_ne (by omega)]; exact b3⟩, b4.up (by omega), b5.up (by omega)⟩
theorem InvC.known (I : InvC h s j) (kn nx : Nat) : InvC (sm_up h 10 (1, [.ref 11, .int (nI kn), .int (nI nx)])) (s.1, s.2.1, s.2.2.1, (s.2.2.2.1.1, nx, kn), s.2.2.2.2) j := by
  obtain ⟨⟨a0, a1, a2⟩, a3, ⟨a4, a5⟩, a6, ⟨a7, a8⟩, a9, ⟨b0, b1, b2, b3⟩, b4, b5⟩ := I
  have hj := cLp_or j
  exact ⟨⟨by rw [sm_up_ne (by omega)]; exact a0, by rw [sm_up_ne (by omega)]; exact a1, by rw [sm_up_ne (by omega)]; exact a2⟩, a3.up (by omega), ⟨sm_up_at, by rw [sm_up_ne (by omega)]; exact a5⟩, fun i hi => (a6 i hi).up (by omega), ⟨by rw [sm_up_ne (by omega)]; exact a7, by rw [sm_up_ne (by omega)]; exact a8⟩, fun i hi => (a9 i hi).up (by omega), ⟨by rw [sm_up_ne (by omega)]; exact b0, by rw [sm_up_ne (by omega)]; exact b1, by rw [sm_up_ne (by omega)]; exact b2, by rw [sm_up_ne (by omega)]; exact b3⟩, b4.up (by omega), b5.up (by omega)⟩
theorem InvC.kepts (I : InvC h s j) (kp : Nat → Bool) : InvC (sm_up h 69 (12, tab 2 (fun i => .int (nI (b2n (kp i)))))) (s.1, s.2.1, s.2.2.1, s.2.2.2.1, (s.2.2.2.2.1.1, kp), s.2.2.2.2.2) j := by
  obtain ⟨⟨a0, a1, a2⟩, a3, ⟨a4, a5⟩, a6, ⟨a7, a8⟩, a9, ⟨b0, b1, b2, b3⟩, b4, b5⟩ := I
  have hj := cLp_or j
  exact ⟨⟨by rw [sm_up_ne (by omega)]; exact a0, by rw [sm_up_ne (by omega)]; exact a1, by rw [sm_up_ne (by omega)]; exact a2⟩, a3.up (by omega), ⟨by rw [sm_up_ne (by omega)]; exact a4, by rw [sm_up_ne (by omega)]; exact a5⟩, fun i hi => (a6 i hi).up (by omega), ⟨by rw [sm_up_ne (by omega)]; exact a7, sm_up_at⟩, fun i hi => (a9 i hi).up (by omega), ⟨by rw [sm_up_ne (by omega)]; exact b0, by rw [sm_up_ne (by omega)]; exact b1, by rw [sm_up_ne (by omega)]; exact b2, by rw [sm_up_ne (by omega)]; exact b3⟩, b4.up (by omega), b5.up (by omega)⟩
theorem InvC.img (I : InvC h s j) {i : Nat} (hi : i < 2) (P : PrS) : InvC (setPr h (84 + 7 * i) P) (s.1, s.2.1, s.2.2.1, s.2.2.2.1, (fun k => if k = i then P else s.2.2.2.2.1.1 k, s.2.2.2.2.1.2), s.2.2.2.2.2) j := by
  obtain ⟨⟨a0, a1, a2⟩, a3, ⟨a4, a5⟩, a6, ⟨a7, a8⟩, a9, ⟨b0, b1, b2, b3⟩, b4, b5⟩ := I
  have hj := cLp_or j
  refine ⟨⟨by rw [setPr_ne (by omega)]; exact a0, by rw [setPr_ne (by omega)]; exact a1, by rw [setPr_ne (by omega)]; exact a2⟩, a3.off (by omega), ⟨by rw [setPr_ne (by omega)]; exact a4, by rw [setPr_ne (by omega)]; exact a5⟩, fun i' hi' => (a6 i' hi').off (by omega), ⟨by rw [setPr_ne (by omega)]; exact a7, by rw [setPr_ne (by omega)]; exact a8⟩, fun i' hi' => ?_, ⟨by rw [setPr_ne (by omega)]; exact b0, by rw [setPr_ne (by omega)]; exact b1, by rw [setPr_ne (by omega)]; exact b2, by rw [setPr_ne (by omega)]; exact b3⟩, b4.off (by omega), b5.off (by omega)⟩
  show PrAt _ (84 + 7 * i') (if i' = i then P else s.2.2.2.2.1.1 i')
  by_cases e : i' = i
  · rw [if_pos e, e]
    exact setPr_at _ _ _
  · rw [if_neg e]
    exact (a9 i' hi').off (by omega)
end CEL
section TST
variable {xs : List Int32} {h : sm_Hp} {K : Option Value → sm_Hp → Prop} {x : Int32} {k : Nat}
theorem t_isWalker (hk : k < 2) : Wp xs m_TwoPrints_isWalker 0 [.int (nI k)] [] h 0 0 K = K (some (.int (nI 1))) h := by
  have h1 : ¬ k < 0 := by omega
  have h2 : ¬ 2 ≤ k := by omega
  simp (disch := omega) only [w_TwoPrints_isWalker_0, w_TwoPrints_isWalker_1, w_TwoPrints_isWalker_4, w_TwoPrints_isWalker_5, w_TwoPrints_isWalker_6, w_TwoPrints_isWalker_9, w_TwoPrints_isWalker_10, w_TwoPrints_isWalker_13, w_TwoPrints_isWalker_14, q_rd_eq, q_nt_0, q_nt_s, q_ld_tab, q_st_tab, q_aa13, q_aa14, q_is_eq, q_wr_eq, q_01_0, q_01_1, q_nz_nI, q_len_tab, psh_some, psh_none, sm_up_at, sm_up_ne, nI_add, nI_lt2, nI_le2, nI_eq2, ls_set0, ls_setS, Nat.reduceAdd, Nat.zero_add, Nat.add_zero, not_true_eq_false, not_false_eq_true, ite_true, ite_false, nI_rem3, nI_div2, nI_sub2, q_max_nI, q_min_nI, h1, h2]
theorem f_isWalker (hx : ¬ inr x 2) : Wp xs m_TwoPrints_isWalker 0 [.int x] [] h 0 0 K = K (some (.int (nI 0))) h := by
  rcases inr_no (by omega) hx with q | ⟨q, q2⟩
  · simp (disch := omega) only [w_TwoPrints_isWalker_0, w_TwoPrints_isWalker_1, w_TwoPrints_isWalker_4, w_TwoPrints_isWalker_5, w_TwoPrints_isWalker_6, w_TwoPrints_isWalker_9, w_TwoPrints_isWalker_10, w_TwoPrints_isWalker_13, w_TwoPrints_isWalker_14, q_rd_eq, q_nt_0, q_nt_s, q_ld_tab, q_st_tab, q_aa13, q_aa14, q_is_eq, q_wr_eq, q_01_0, q_01_1, q_nz_nI, q_len_tab, psh_some, psh_none, sm_up_at, sm_up_ne, nI_add, nI_lt2, nI_le2, nI_eq2, ls_set0, ls_setS, Nat.reduceAdd, Nat.zero_add, Nat.add_zero, not_true_eq_false, not_false_eq_true, ite_true, ite_false, nI_rem3, nI_div2, nI_sub2, q_max_nI, q_min_nI, q]
  · have q3 := q2
    simp (disch := omega) only [w_TwoPrints_isWalker_0, w_TwoPrints_isWalker_1, w_TwoPrints_isWalker_4, w_TwoPrints_isWalker_5, w_TwoPrints_isWalker_6, w_TwoPrints_isWalker_9, w_TwoPrints_isWalker_10, w_TwoPrints_isWalker_13, w_TwoPrints_isWalker_14, q_rd_eq, q_nt_0, q_nt_s, q_ld_tab, q_st_tab, q_aa13, q_aa14, q_is_eq, q_wr_eq, q_01_0, q_01_1, q_nz_nI, q_len_tab, psh_some, psh_none, sm_up_at, sm_up_ne, nI_add, nI_lt2, nI_le2, nI_eq2, ls_set0, ls_setS, Nat.reduceAdd, Nat.zero_add, Nat.add_zero, not_true_eq_false, not_false_eq_true, ite_true, ite_false, nI_rem3, nI_div2, nI_sub2, q_max_nI, q_min_nI, q, q3]
theorem t_isTrack (hk : k < 4) : Wp xs m_TwoPrints_isTrack 0 [.int (nI k)] [] h 0 0 K = K (some (.int (nI 1))) h := by
  have h1 : ¬ k < 0 := by omega
  have h2 : ¬ 4 ≤ k := by omega
  simp (disch := omega) only [w_TwoPrints_isTrack_0, w_TwoPrints_isTrack_1, w_TwoPrints_isTrack_4, w_TwoPrints_isTrack_5, w_TwoPrints_isTrack_6, w_TwoPrints_isTrack_9, w_TwoPrints_isTrack_10, w_TwoPrints_isTrack_13, w_TwoPrints_isTrack_14, q_rd_eq, q_nt_0, q_nt_s, q_ld_tab, q_st_tab, q_aa13, q_aa14, q_is_eq, q_wr_eq, q_01_0, q_01_1, q_nz_nI, q_len_tab, psh_some, psh_none, sm_up_at, sm_up_ne, nI_add, nI_lt2, nI_le2, nI_eq2, ls_set0, ls_setS, Nat.reduceAdd, Nat.zero_add, Nat.add_zero, not_true_eq_false, not_false_eq_true, ite_true, ite_false, nI_rem3, nI_div2, nI_sub2, q_max_nI, q_min_nI, h1, h2]
theorem f_isTrack (hx : ¬ inr x 4) : Wp xs m_TwoPrints_isTrack 0 [.int x] [] h 0 0 K = K (some (.int (nI 0))) h := by
  rcases inr_no (by omega) hx with q | ⟨q, q2⟩
  · simp (disch := omega) only [w_TwoPrints_isTrack_0, w_TwoPrints_isTrack_1, w_TwoPrints_isTrack_4, w_TwoPrints_isTrack_5, w_TwoPrints_isTrack_6, w_TwoPrints_isTrack_9, w_TwoPrints_isTrack_10, w_TwoPrints_isTrack_13, w_TwoPrints_isTrack_14, q_rd_eq, q_nt_0, q_nt_s, q_ld_tab, q_st_tab, q_aa13, q_aa14, q_is_eq, q_wr_eq, q_01_0, q_01_1, q_nz_nI, q_len_tab, psh_some, psh_none, sm_up_at, sm_up_ne, nI_add, nI_lt2, nI_le2, nI_eq2, ls_set0, ls_setS, Nat.reduceAdd, Nat.zero_add, Nat.add_zero, not_true_eq_false, not_false_eq_true, ite_true, ite_false, nI_rem3, nI_div2, nI_sub2, q_max_nI, q_min_nI, q]
  · have q3 := q2
    simp (disch := omega) only [w_TwoPrints_isTrack_0, w_TwoPrints_isTrack_1, w_TwoPrints_isTrack_4, w_TwoPrints_isTrack_5, w_TwoPrints_isTrack_6, w_TwoPrints_isTrack_9, w_TwoPrints_isTrack_10, w_TwoPrints_isTrack_13, w_TwoPrints_isTrack_14, q_rd_eq, q_nt_0, q_nt_s, q_ld_tab, q_st_tab, q_aa13, q_aa14, q_is_eq, q_wr_eq, q_01_0, q_01_1, q_nz_nI, q_len_tab, psh_some, psh_none, sm_up_at, sm_up_ne, nI_add, nI_lt2, nI_le2, nI_eq2, ls_set0, ls_setS, Nat.reduceAdd, Nat.zero_add, Nat.add_zero, not_true_eq_false, not_false_eq_true, ite_true, ite_false, nI_rem3, nI_div2, nI_sub2, q_max_nI, q_min_nI, q, q3]
theorem t_isImage (hk : k < 2) : Wp xs m_TwoPrints_isImage 0 [.int (nI k)] [] h 0 0 K = K (some (.int (nI 1))) h := by
  have h1 : ¬ k < 0 := by omega
  have h2 : ¬ 2 ≤ k := by omega
  simp (disch := omega) only [w_TwoPrints_isImage_0, w_TwoPrints_isImage_1, w_TwoPrints_isImage_4, w_TwoPrints_isImage_5, w_TwoPrints_isImage_6, w_TwoPrints_isImage_9, w_TwoPrints_isImage_10, w_TwoPrints_isImage_13, w_TwoPrints_isImage_14, q_rd_eq, q_nt_0, q_nt_s, q_ld_tab, q_st_tab, q_aa13, q_aa14, q_is_eq, q_wr_eq, q_01_0, q_01_1, q_nz_nI, q_len_tab, psh_some, psh_none, sm_up_at, sm_up_ne, nI_add, nI_lt2, nI_le2, nI_eq2, ls_set0, ls_setS, Nat.reduceAdd, Nat.zero_add, Nat.add_zero, not_true_eq_false, not_false_eq_true, ite_true, ite_false, nI_rem3, nI_div2, nI_sub2, q_max_nI, q_min_nI, h1, h2]
theorem f_isImage (hx : ¬ inr x 2) : Wp xs m_TwoPrints_isImage 0 [.int x] [] h 0 0 K = K (some (.int (nI 0))) h := by
  rcases inr_no (by omega) hx with q | ⟨q, q2⟩
  · simp (disch := omega) only [w_TwoPrints_isImage_0, w_TwoPrints_isImage_1, w_TwoPrints_isImage_4, w_TwoPrints_isImage_5, w_TwoPrints_isImage_6, w_TwoPrints_isImage_9, w_TwoPrints_isImage_10, w_TwoPrints_isImage_13, w_TwoPrints_isImage_14, q_rd_eq, q_nt_0, q_nt_s, q_ld_tab, q_st_tab, q_aa13, q_aa14, q_is_eq, q_wr_eq, q_01_0, q_01_1, q_nz_nI, q_len_tab, psh_some, psh_none, sm_up_at, sm_up_ne, nI_add, nI_lt2, nI_le2, nI_eq2, ls_set0, ls_setS, Nat.reduceAdd, Nat.zero_add, Nat.add_zero, not_true_eq_false, not_false_eq_true, ite_true, ite_false, nI_rem3, nI_div2, nI_sub2, q_max_nI, q_min_nI, q]
  · have q3 := q2
    simp (disch := omega) only [w_TwoPrints_isImage_0, w_TwoPrints_isImage_1, w_TwoPrints_isImage_4, w_TwoPrints_isImage_5, w_TwoPrints_isImage_6, w_TwoPrints_isImage_9, w_TwoPrints_isImage_10, w_TwoPrints_isImage_13, w_TwoPrints_isImage_14, q_rd_eq, q_nt_0, q_nt_s, q_ld_tab, q_st_tab, q_aa13, q_aa14, q_is_eq, q_wr_eq, q_01_0, q_01_1, q_nz_nI, q_len_tab, psh_some, psh_none, sm_up_at, sm_up_ne, nI_add, nI_lt2, nI_le2, nI_eq2, ls_set0, ls_setS, Nat.reduceAdd, Nat.zero_add, Nat.add_zero, not_true_eq_false, not_false_eq_true, ite_true, ite_false, nI_rem3, nI_div2, nI_sub2, q_max_nI, q_min_nI, q, q3]
theorem t_isJump (hk : k < 61) : Wp xs m_TwoPrints_isJump 0 [.int (nI k)] [] h 0 0 K = K (some (.int (nI 1))) h := by
  have h1 : ¬ k < 0 := by omega
  have h2 : ¬ 60 < k := by omega
  simp (disch := omega) only [w_TwoPrints_isJump_0, w_TwoPrints_isJump_1, w_TwoPrints_isJump_4, w_TwoPrints_isJump_5, w_TwoPrints_isJump_7, w_TwoPrints_isJump_10, w_TwoPrints_isJump_11, w_TwoPrints_isJump_14, w_TwoPrints_isJump_15, q_rd_eq, q_nt_0, q_nt_s, q_ld_tab, q_st_tab, q_aa13, q_aa14, q_is_eq, q_wr_eq, q_01_0, q_01_1, q_nz_nI, q_len_tab, psh_some, psh_none, sm_up_at, sm_up_ne, nI_add, nI_lt2, nI_le2, nI_eq2, ls_set0, ls_setS, Nat.reduceAdd, Nat.zero_add, Nat.add_zero, not_true_eq_false, not_false_eq_true, ite_true, ite_false, nI_rem3, nI_div2, nI_sub2, q_max_nI, q_min_nI, h1, h2]
theorem f_isJump (hx : ¬ inr x 61) : Wp xs m_TwoPrints_isJump 0 [.int x] [] h 0 0 K = K (some (.int (nI 0))) h := by
  rcases inr_no (by omega) hx with q | ⟨q, q2⟩
  · simp (disch := omega) only [w_TwoPrints_isJump_0, w_TwoPrints_isJump_1, w_TwoPrints_isJump_4, w_TwoPrints_isJump_5, w_TwoPrints_isJump_7, w_TwoPrints_isJump_10, w_TwoPrints_isJump_11, w_TwoPrints_isJump_14, w_TwoPrints_isJump_15, q_rd_eq, q_nt_0, q_nt_s, q_ld_tab, q_st_tab, q_aa13, q_aa14, q_is_eq, q_wr_eq, q_01_0, q_01_1, q_nz_nI, q_len_tab, psh_some, psh_none, sm_up_at, sm_up_ne, nI_add, nI_lt2, nI_le2, nI_eq2, ls_set0, ls_setS, Nat.reduceAdd, Nat.zero_add, Nat.add_zero, not_true_eq_false, not_false_eq_true, ite_true, ite_false, nI_rem3, nI_div2, nI_sub2, q_max_nI, q_min_nI, q]
  · have q3 := (nI_step (n := 60) (by omega) q2).1
    simp (disch := omega) only [w_TwoPrints_isJump_0, w_TwoPrints_isJump_1, w_TwoPrints_isJump_4, w_TwoPrints_isJump_5, w_TwoPrints_isJump_7, w_TwoPrints_isJump_10, w_TwoPrints_isJump_11, w_TwoPrints_isJump_14, w_TwoPrints_isJump_15, q_rd_eq, q_nt_0, q_nt_s, q_ld_tab, q_st_tab, q_aa13, q_aa14, q_is_eq, q_wr_eq, q_01_0, q_01_1, q_nz_nI, q_len_tab, psh_some, psh_none, sm_up_at, sm_up_ne, nI_add, nI_lt2, nI_le2, nI_eq2, ls_set0, ls_setS, Nat.reduceAdd, Nat.zero_add, Nat.add_zero, not_true_eq_false, not_false_eq_true, ite_true, ite_false, nI_rem3, nI_div2, nI_sub2, q_max_nI, q_min_nI, q, q3]
theorem t_isTenths (hk : k < 11) : Wp xs m_TwoPrints_isTenths 0 [.int (nI k)] [] h 0 0 K = K (some (.int (nI 1))) h := by
  have h1 : ¬ k < 0 := by omega
  have h2 : ¬ 10 < k := by omega
  simp (disch := omega) only [w_TwoPrints_isTenths_0, w_TwoPrints_isTenths_1, w_TwoPrints_isTenths_4, w_TwoPrints_isTenths_5, w_TwoPrints_isTenths_7, w_TwoPrints_isTenths_10, w_TwoPrints_isTenths_11, w_TwoPrints_isTenths_14, w_TwoPrints_isTenths_15, q_rd_eq, q_nt_0, q_nt_s, q_ld_tab, q_st_tab, q_aa13, q_aa14, q_is_eq, q_wr_eq, q_01_0, q_01_1, q_nz_nI, q_len_tab, psh_some, psh_none, sm_up_at, sm_up_ne, nI_add, nI_lt2, nI_le2, nI_eq2, ls_set0, ls_setS, Nat.reduceAdd, Nat.zero_add, Nat.add_zero, not_true_eq_false, not_false_eq_true, ite_true, ite_false, nI_rem3, nI_div2, nI_sub2, q_max_nI, q_min_nI, h1, h2]
theorem f_isTenths (hx : ¬ inr x 11) : Wp xs m_TwoPrints_isTenths 0 [.int x] [] h 0 0 K = K (some (.int (nI 0))) h := by
  rcases inr_no (by omega) hx with q | ⟨q, q2⟩
  · simp (disch := omega) only [w_TwoPrints_isTenths_0, w_TwoPrints_isTenths_1, w_TwoPrints_isTenths_4, w_TwoPrints_isTenths_5, w_TwoPrints_isTenths_7, w_TwoPrints_isTenths_10, w_TwoPrints_isTenths_11, w_TwoPrints_isTenths_14, w_TwoPrints_isTenths_15, q_rd_eq, q_nt_0, q_nt_s, q_ld_tab, q_st_tab, q_aa13, q_aa14, q_is_eq, q_wr_eq, q_01_0, q_01_1, q_nz_nI, q_len_tab, psh_some, psh_none, sm_up_at, sm_up_ne, nI_add, nI_lt2, nI_le2, nI_eq2, ls_set0, ls_setS, Nat.reduceAdd, Nat.zero_add, Nat.add_zero, not_true_eq_false, not_false_eq_true, ite_true, ite_false, nI_rem3, nI_div2, nI_sub2, q_max_nI, q_min_nI, q]
  · have q3 := (nI_step (n := 10) (by omega) q2).1
    simp (disch := omega) only [w_TwoPrints_isTenths_0, w_TwoPrints_isTenths_1, w_TwoPrints_isTenths_4, w_TwoPrints_isTenths_5, w_TwoPrints_isTenths_7, w_TwoPrints_isTenths_10, w_TwoPrints_isTenths_11, w_TwoPrints_isTenths_14, w_TwoPrints_isTenths_15, q_rd_eq, q_nt_0, q_nt_s, q_ld_tab, q_st_tab, q_aa13, q_aa14, q_is_eq, q_wr_eq, q_01_0, q_01_1, q_nz_nI, q_len_tab, psh_some, psh_none, sm_up_at, sm_up_ne, nI_add, nI_lt2, nI_le2, nI_eq2, ls_set0, ls_setS, Nat.reduceAdd, Nat.zero_add, Nat.add_zero, not_true_eq_false, not_false_eq_true, ite_true, ite_false, nI_rem3, nI_div2, nI_sub2, q_max_nI, q_min_nI, q, q3]
end TST
