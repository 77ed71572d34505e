/-! the child's way, by the model: measures() -/
def ZH (h : sm_Hp) (F G : Nat → Int32) : sm_Hp := sm_up (sm_up h 109 (10, tab 122 (fun i => .int (F i)))) 110 (10, tab 122 (fun i => .int (G i)))
def mB (m : MC) (p : Nat) : Bool := decide (0 < m.2.2.2.1.1 p)
def mixN (p : Nat) (f' f : Nat → Nat) : Nat → Nat := fun q => if q < p then f' q else f q
def mixI (p : Nat) (f' f : Nat → Int32) : Nat → Int32 := fun q => if q < p then f' q else f q
theorem mixN_at {p : Nat} {f' f : Nat → Nat} : mixN p f' f p = f p := if_neg (Nat.lt_irrefl p)
theorem mixN_0 {f' f : Nat → Nat} : mixN 0 f' f = f := funext fun q => if_neg (Nat.not_lt_zero _)
theorem mixI_0 {f' f : Nat → Int32} : mixI 0 f' f = f := funext fun q => if_neg (Nat.not_lt_zero _)
theorem mixN_s {p v : Nat} {f' f : Nat → Nat} (hv : v = f' p) : fup (mixN p f' f) p v = mixN (p + 1) f' f := by
  funext q
  unfold fup mixN
  by_cases e : q = p
  · rw [if_pos e, if_pos (by omega), e, hv]
  · rw [if_neg e]
    by_cases c : q < p
    · rw [if_pos c, if_pos (by omega)]
    · rw [if_neg c, if_neg (by omega)]
theorem mixI_s {p : Nat} {v : Int32} {f' f : Nat → Int32} (hv : v = f' p) : fupI (mixI p f' f) p v = mixI (p + 1) f' f := by
  funext q
  unfold fupI mixI
  by_cases e : q = p
  · rw [if_pos e, if_pos (by omega), e, hv]
  · rw [if_neg e]
    by_cases c : q < p
    · rw [if_pos c, if_pos (by omega)]
    · rw [if_neg c, if_neg (by omega)]
theorem mixN_k {p : Nat} {f' f : Nat → Nat} (hv : f' p = f p) : mixN p f' f = mixN (p + 1) f' f := by
  funext q
  unfold mixN
  by_cases e : q = p
  · rw [if_neg (by omega), if_pos (by omega), e, hv]
  · by_cases c : q < p
    · rw [if_pos c, if_pos (by omega)]
    · rw [if_neg c, if_neg (by omega)]
theorem dm (a d : Nat) : a - a / d * d = a % d := by
  have := Nat.div_add_mod a d
  rw [Nat.mul_comm] at this
  omega
section MMS
variable {xs : List Int32} {h : sm_Hp} {K : Option Value → sm_Hp → Prop} {m : MC} {F G : Nat → Int32} {f w : Nat → Nat} {d e n p : Nat}
theorem zh_ne {a : Nat} (h1 : a ≠ 109) (h2 : a ≠ 110) : (ZH h F G).1 a = h.1 a := (sm_up_ne h2).trans (sm_up_ne h1)
theorem zh98 : (ZH h F G).1 98 = h.1 98 := zh_ne (by omega) (by omega)
theorem zh100 : (ZH h F G).1 100 = h.1 100 := zh_ne (by omega) (by omega)
theorem zh109 : (ZH h F G).1 109 = (10, tab 122 (fun i => .int (F i))) := (sm_up_ne (by omega)).trans sm_up_at
theorem zh110 : (ZH h F G).1 110 = (10, tab 122 (fun i => .int (G i))) := sm_up_at
theorem zu109 {g : Nat → Int32} : sm_up (ZH h F G) 109 (10, tab 122 (fun i => .int (g i))) = ZH h g G := by
  unfold ZH
  rw [up_comm (a := 110) (b := 109) (by omega), up_up]
theorem zu110 {g : Nat → Int32} : sm_up (ZH h F G) 110 (10, tab 122 (fun i => .int (g i))) = ZH h F g := up_up
theorem zh_at (I : MAt h m) : MAt (ZH h F G) ((m.1.1, m.1.2.1, m.1.2.2.1, m.1.2.2.2), (m.2.1.1, m.2.1.2.1, m.2.1.2.2.1, m.2.1.2.2.2.1, m.2.1.2.2.2.2.1, m.2.1.2.2.2.2.2), (m.2.2.1.1, m.2.2.1.2.1, m.2.2.1.2.2.1, m.2.2.1.2.2.2.1, m.2.2.1.2.2.2.2), (m.2.2.2.1.1, m.2.2.2.1.2.1, m.2.2.2.1.2.2.1, m.2.2.2.1.2.2.2), (m.2.2.2.2.1, F, G)) := (I.ufr F).uwy G
theorem zh_fr : FrM h (ZH h F G) := (FrM.rfl.up (by omega)).up (by omega)
theorem zh_self (I : MAt h m) : ZH h m.2.2.2.2.2.1 m.2.2.2.2.2.2 = h := by
  unfold ZH
  rw [sm_up_self I.fr]
  exact sm_up_self I.wy
theorem zh_congr {F' G' : Nat → Int32} (h1 : ∀ i, i < 122 → F i = F' i) (h2 : ∀ i, i < 122 → G i = G' i) : ZH h F G = ZH h F' G' := by
  unfold ZH
  rw [tab_congr (F := fun i => Value.int (F i)) (G := fun i => .int (F' i)) (fun i hi => by rw [h1 i hi]), tab_congr (F := fun i => Value.int (G i)) (G := fun i => .int (G' i)) (fun i hi => by rw [h2 i hi])]
theorem zh_has (I : MAt h m) (hs : SfOk m.2.2.2.1.1) {k x : Nat} (hk : k < 2) (hx : x < 61) : Wp xs m_Model_hasPrint 0 [.ref 98, .int (nI k), .int (nI x)] [] (ZH h F G) 0 0 K = K (some (.int (nI (b2n (decide (0 < m.2.2.2.1.1 (61 * k + x))))))) (ZH h F G) := m_hasPrint (m := ((m.1.1, m.1.2.1, m.1.2.2.1, m.1.2.2.2), (m.2.1.1, m.2.1.2.1, m.2.1.2.2.1, m.2.1.2.2.2.1, m.2.1.2.2.2.2.1, m.2.1.2.2.2.2.2), (m.2.2.1.1, m.2.2.1.2.1, m.2.2.1.2.2.1, m.2.2.1.2.2.2.1, m.2.2.1.2.2.2.2), (m.2.2.2.1.1, m.2.2.2.1.2.1, m.2.2.2.1.2.2.1, m.2.2.2.1.2.2.2), (m.2.2.2.2.1, F, G))) (zh_at I) hs hk hx
theorem ms_init (I : MAt h m) (hs : SfOk m.2.2.2.1.1) (he : e ≤ 60) {a5 a6 a7 a8 a9 a10 : Value} (Q : ∀ a4, Wp xs m_Model_measures 74 [.ref 98, .int (nI d), .int (nI e), .int (nI 122), a4, a5, a6, a7, a8, a9, a10] [] (ZH h (fun i => nI (f0 (mB m) e i)) (fun i => nI (w0 (mB m) e i))) 0 0 K) : ∀ r p a4, p + r = 122 → Wp xs m_Model_measures 2 [.ref 98, .int (nI d), .int (nI e), .int (nI p), a4, a5, a6, a7, a8, a9, a10] [] (ZH h (mixI p (fun i => nI (f0 (mB m) e i)) m.2.2.2.2.2.1) (mixI p (fun i => nI (w0 (mB m) e i)) m.2.2.2.2.2.2)) 0 0 K := by
  intro r
  induction r with
  | zero =>
    intro p a4 hp
    have : p = 122 := by omega
    subst this
    rw [w_Model_measures_2]
    simp (disch := omega) only [w_Model_measures_3, w_Model_measures_5, q_rd_eq, q_nt_0, q_nt_s, q_ld_tab, q_st_tab, q_aa13, q_aa14, q_is_eq, q_wr_eq, q_01_0, q_01_1, q_nz_nI, q_len_tab, psh_some, psh_none, sm_up_at, sm_up_ne, nI_add, nI_lt2, nI_le2, nI_eq2, ls_set0, ls_setS, Nat.reduceAdd, Nat.zero_add, Nat.add_zero, not_true_eq_false, not_false_eq_true, ite_true, ite_false, nI_rem3, nI_div2, nI_sub2, q_max_nI, q_min_nI, Nat.le_refl]
    rw [zh_congr (F := mixI 122 (fun i => nI (f0 (mB m) e i)) m.2.2.2.2.2.1) (G := mixI 122 (fun i => nI (w0 (mB m) e i)) m.2.2.2.2.2.2) (F' := fun i => nI (f0 (mB m) e i)) (G' := fun i => nI (w0 (mB m) e i)) (fun i hi => if_pos hi) (fun i hi => if_pos hi)]
    exact Q a4
  | succ r ih =>
    intro p a4 hp
    have h1 : ¬ 122 ≤ p := by omega
    have ht : b2n true = 1 := rfl
    have c10 : ¬ (1 : Nat) = 0 := by omega
    have E := fun a4 => ih (p + 1) a4 (by omega)
    rw [w_Model_measures_2]
    by_cases c1 : p % 61 = e
    · have c1' : ¬ ¬ p % 61 = e := not_not_intro c1
      have ep : 61 * (p / 61) + e = p := by omega
      by_cases c2 : 0 < m.2.2.2.1.1 p
      · have hb : decide (0 < m.2.2.2.1.1 p) = true := decide_eq_true c2
        have eF : f0 (mB m) e p = 0 := if_pos ⟨c1, hb⟩
        have eW : w0 (mB m) e p = 1 := if_pos ⟨c1, hb⟩
        simp (disch := first | assumption | omega) only [w_Model_measures_3, w_Model_measures_5, w_Model_measures_8, w_Model_measures_9, w_Model_measures_11, w_Model_measures_12, w_Model_measures_13, w_Model_measures_16, w_Model_measures_17, w_Model_measures_18, w_Model_measures_20, w_Model_measures_21, w_Model_measures_22, w_Model_measures_25, w_Model_measures_28, w_Model_measures_29, w_Model_measures_32, w_Model_measures_33, w_Model_measures_35, w_Model_measures_36, w_Model_measures_39, w_Model_measures_40, w_Model_measures_42, w_Model_measures_45, w_Model_measures_46, w_Model_measures_49, w_Model_measures_51, w_Model_measures_52, w_Model_measures_53, w_Model_measures_56, w_Model_measures_57, w_Model_measures_59, w_Model_measures_62, w_Model_measures_63, w_Model_measures_66, w_Model_measures_67, w_Model_measures_68, w_Model_measures_71, q_rd_eq, q_nt_0, q_nt_s, q_ld_tab, q_st_tab, q_aa13, q_aa14, q_is_eq, q_wr_eq, q_01_0, q_01_1, q_nz_nI, q_len_tab, psh_some, psh_none, sm_up_at, sm_up_ne, nI_add, nI_lt2, nI_le2, nI_eq2, ls_set0, ls_setS, Nat.reduceAdd, Nat.zero_add, Nat.add_zero, not_true_eq_false, not_false_eq_true, ite_true, ite_false, nI_rem3, nI_div2, nI_sub2, q_max_nI, q_min_nI, zh98, zh109, zh110, I.o, h1, c1', zh_has I hs, ep, hb, ht, c10, tab_fupI, zu109, zu110]
        rw [mixI_s (by show _ = nI (f0 (mB m) e p); rw [eF]), mixI_s (by show _ = nI (w0 (mB m) e p); rw [eW])]
        exact E _
      · have hb : decide (0 < m.2.2.2.1.1 p) = false := decide_eq_false c2
        have hb2 : ¬ (p % 61 = e ∧ mB m p = true) := fun z => by
          have z2 : decide (0 < m.2.2.2.1.1 p) = true := z.2
          rw [hb] at z2; cases z2
        have eF : f0 (mB m) e p = 1000000 := if_neg hb2
        have eW : w0 (mB m) e p = 0 := if_neg hb2
        simp (disch := first | assumption | omega) only [w_Model_measures_3, w_Model_measures_5, w_Model_measures_8, w_Model_measures_9, w_Model_measures_11, w_Model_measures_12, w_Model_measures_13, w_Model_measures_16, w_Model_measures_17, w_Model_measures_18, w_Model_measures_20, w_Model_measures_21, w_Model_measures_22, w_Model_measures_25, w_Model_measures_28, w_Model_measures_29, w_Model_measures_32, w_Model_measures_33, w_Model_measures_35, w_Model_measures_36, w_Model_measures_39, w_Model_measures_40, w_Model_measures_42, w_Model_measures_45, w_Model_measures_46, w_Model_measures_49, w_Model_measures_51, w_Model_measures_52, w_Model_measures_53, w_Model_measures_56, w_Model_measures_57, w_Model_measures_59, w_Model_measures_62, w_Model_measures_63, w_Model_measures_66, w_Model_measures_67, w_Model_measures_68, w_Model_measures_71, q_rd_eq, q_nt_0, q_nt_s, q_ld_tab, q_st_tab, q_aa13, q_aa14, q_is_eq, q_wr_eq, q_01_0, q_01_1, q_nz_nI, q_len_tab, psh_some, psh_none, sm_up_at, sm_up_ne, nI_add, nI_lt2, nI_le2, nI_eq2, ls_set0, ls_setS, Nat.reduceAdd, Nat.zero_add, Nat.add_zero, not_true_eq_false, not_false_eq_true, ite_true, ite_false, nI_rem3, nI_div2, nI_sub2, q_max_nI, q_min_nI, zh98, zh109, zh110, I.o, h1, c1', zh_has I hs, ep, hb, nI_b2n0, tab_fupI, zu109, zu110]
        rw [mixI_s (by show _ = nI (f0 (mB m) e p); rw [eF]), mixI_s (by show _ = nI (w0 (mB m) e p); rw [eW])]
        exact E _
    · have hb2 : ¬ (p % 61 = e ∧ mB m p = true) := fun z => c1 z.1
      have eF : f0 (mB m) e p = 1000000 := if_neg hb2
      have eW : w0 (mB m) e p = 0 := if_neg hb2
      simp (disch := first | assumption | omega) only [w_Model_measures_3, w_Model_measures_5, w_Model_measures_8, w_Model_measures_9, w_Model_measures_11, w_Model_measures_12, w_Model_measures_13, w_Model_measures_16, w_Model_measures_17, w_Model_measures_18, w_Model_measures_20, w_Model_measures_21, w_Model_measures_22, w_Model_measures_25, w_Model_measures_28, w_Model_measures_29, w_Model_measures_32, w_Model_measures_33, w_Model_measures_35, w_Model_measures_36, w_Model_measures_39, w_Model_measures_40, w_Model_measures_42, w_Model_measures_45, w_Model_measures_46, w_Model_measures_49, w_Model_measures_51, w_Model_measures_52, w_Model_measures_53, w_Model_measures_56, w_Model_measures_57, w_Model_measures_59, w_Model_measures_62, w_Model_measures_63, w_Model_measures_66, w_Model_measures_67, w_Model_measures_68, w_Model_measures_71, q_rd_eq, q_nt_0, q_nt_s, q_ld_tab, q_st_tab, q_aa13, q_aa14, q_is_eq, q_wr_eq, q_01_0, q_01_1, q_nz_nI, q_len_tab, psh_some, psh_none, sm_up_at, sm_up_ne, nI_add, nI_lt2, nI_le2, nI_eq2, ls_set0, ls_setS, Nat.reduceAdd, Nat.zero_add, Nat.add_zero, not_true_eq_false, not_false_eq_true, ite_true, ite_false, nI_rem3, nI_div2, nI_sub2, q_max_nI, q_min_nI, zh98, zh109, zh110, I.o, h1, c1, tab_fupI, zu109, zu110]
      rw [mixI_s (by show _ = nI (f0 (mB m) e p); rw [eF]), mixI_s (by show _ = nI (w0 (mB m) e p); rw [eW])]
      exact E _
theorem ms_in (I : MAt h m) (hl : m.2.2.1.2.1 0 ≤ 60) (hd : d ≤ 60) (hn : n < 1000) (hp : p < 122) (hx : p % 61 ≤ m.2.2.1.2.1 0) (hF : ∀ q, q < 122 → f q ≤ 1000000) (hW : ∀ q, q < 122 → w q < 1000003) {a2 a3 : Int32} (Q : ∀ a8 a9 a10, Wp xs m_Model_measures 243 [.ref 98, .int (nI d), .int a2, .int a3, .int (nI (n + 1)), .int (nI p), .int (nI (suC (m.2.2.1.2.1 0) d f w n p)), .int (nI (b2n (isC (m.2.2.1.2.1 0) d f n p))), a8, a9, a10] [] (ZH h (fun i => nI (f i)) (fun i => nI (w i))) 0 0 K) : ∀ r i a9 a10, i + r = rr (m.2.2.1.2.1 0) d p → Wp xs m_Model_measures 137 [.ref 98, .int (nI d), .int a2, .int a3, .int (nI (n + 1)), .int (nI p), .int (nI (smC (cmS f w n p) i)), .int (nI (b2n (anyC (cmB f n p) i))), .int (nI (p % 61 + i)), a9, a10] [] (ZH h (fun i => nI (f i)) (fun i => nI (w i))) 0 0 K := by
  intro r
  induction r with
  | zero =>
    intro i a9 a10 hi
    have ei : i = rr (m.2.2.1.2.1 0) d p := by omega
    have Q' := Q (.int (nI (p % 61 + i))) a9 a10
    unfold suC isC at Q'
    rw [← ei] at Q'
    unfold rr at hi
    rw [w_Model_measures_137]
    by_cases c : m.2.2.1.2.1 0 < p % 61 + i
    · simp (disch := omega) only [w_Model_measures_139, w_Model_measures_140, w_Model_measures_143, w_Model_measures_144, w_Model_measures_145, w_Model_measures_148, w_Model_measures_150, w_Model_measures_152, w_Model_measures_154, w_Model_measures_155, w_Model_measures_156, w_Model_measures_157, q_rd_eq, q_nt_0, q_nt_s, q_ld_tab, q_st_tab, q_aa13, q_aa14, q_is_eq, q_wr_eq, q_01_0, q_01_1, q_nz_nI, q_len_tab, psh_some, psh_none, sm_up_at, sm_up_ne, nI_add, nI_lt2, nI_le2, nI_eq2, ls_set0, ls_setS, Nat.reduceAdd, Nat.zero_add, Nat.add_zero, not_true_eq_false, not_false_eq_true, ite_true, ite_false, nI_rem3, nI_div2, nI_sub2, q_max_nI, q_min_nI, zh98, zh100, I.o, I.mn, c]
      exact Q'
    · have c2 : p % 61 + d < p % 61 + i := by omega
      simp (disch := omega) only [w_Model_measures_139, w_Model_measures_140, w_Model_measures_143, w_Model_measures_144, w_Model_measures_145, w_Model_measures_148, w_Model_measures_150, w_Model_measures_152, w_Model_measures_154, w_Model_measures_155, w_Model_measures_156, w_Model_measures_157, q_rd_eq, q_nt_0, q_nt_s, q_ld_tab, q_st_tab, q_aa13, q_aa14, q_is_eq, q_wr_eq, q_01_0, q_01_1, q_nz_nI, q_len_tab, psh_some, psh_none, sm_up_at, sm_up_ne, nI_add, nI_lt2, nI_le2, nI_eq2, ls_set0, ls_setS, Nat.reduceAdd, Nat.zero_add, Nat.add_zero, not_true_eq_false, not_false_eq_true, ite_true, ite_false, nI_rem3, nI_div2, nI_sub2, q_max_nI, q_min_nI, zh98, zh100, I.o, I.mn, c, c2]
      exact Q'
  | succ r ih =>
    intro i a9 a10 hi
    have E := fun a9 a10 => ih (i + 1) a9 a10 (by omega)
    unfold rr at hi
    have c1 : ¬ m.2.2.1.2.1 0 < p % 61 + i := by omega
    have c2 : ¬ p % 61 + d < p % 61 + i := by omega
    have hf := hF (61 * (1 - p / 61) + (p % 61 + i)) (by omega)
    have hw := hW (61 * (1 - p / 61) + (p % 61 + i)) (by omega)
    have hS := smC_lt (cmS f w n p) i
    have h9 : ¬ (true = false) := by decide
    have c10 : ¬ (1 : Nat) = 0 := by omega
    rw [w_Model_measures_137]
    by_cases cc : f (61 * (1 - p / 61) + (p % 61 + i)) = n
    · have cc' : ¬ ¬ f (61 * (1 - p / 61) + (p % 61 + i)) = n := not_not_intro cc
      have es : smC (cmS f w n p) (i + 1) = (smC (cmS f w n p) i + w (61 * (1 - p / 61) + (p % 61 + i))) % 1000003 := by
        show (_ + cmS f w n p i) % _ = _
        rw [show cmS f w n p i = w (61 * (1 - p / 61) + (p % 61 + i)) from if_pos cc]
      have ea : anyC (cmB f n p) (i + 1) = true := by
        show (_ || cmB f n p i) = true
        rw [show cmB f n p i = true from decide_eq_true cc, Bool.or_true]
      rw [es, ea] at E
      cases eb : anyC (cmB f n p) i with
      | true =>
        simp (disch := first | assumption | omega) only [w_Model_measures_139, w_Model_measures_140, w_Model_measures_143, w_Model_measures_144, w_Model_measures_145, w_Model_measures_148, w_Model_measures_150, w_Model_measures_152, w_Model_measures_154, w_Model_measures_155, w_Model_measures_156, w_Model_measures_157, w_Model_measures_160, w_Model_measures_162, w_Model_measures_163, w_Model_measures_165, w_Model_measures_167, w_Model_measures_168, w_Model_measures_169, w_Model_measures_170, w_Model_measures_172, w_Model_measures_173, w_Model_measures_175, w_Model_measures_176, w_Model_measures_179, w_Model_measures_181, w_Model_measures_182, w_Model_measures_184, w_Model_measures_185, w_Model_measures_186, w_Model_measures_189, w_Model_measures_190, w_Model_measures_193, w_Model_measures_194, w_Model_measures_196, w_Model_measures_198, w_Model_measures_201, w_Model_measures_203, w_Model_measures_206, w_Model_measures_207, w_Model_measures_210, w_Model_measures_211, w_Model_measures_213, w_Model_measures_215, w_Model_measures_217, w_Model_measures_220, w_Model_measures_221, w_Model_measures_224, w_Model_measures_226, w_Model_measures_227, w_Model_measures_230, w_Model_measures_231, w_Model_measures_232, w_Model_measures_234, w_Model_measures_235, w_Model_measures_237, w_Model_measures_240, q_rd_eq, q_nt_0, q_nt_s, q_ld_tab, q_st_tab, q_aa13, q_aa14, q_is_eq, q_wr_eq, q_01_0, q_01_1, q_nz_nI, q_len_tab, psh_some, psh_none, sm_up_at, sm_up_ne, nI_add, nI_lt2, nI_le2, nI_eq2, ls_set0, ls_setS, Nat.reduceAdd, Nat.zero_add, Nat.add_zero, not_true_eq_false, not_false_eq_true, ite_true, ite_false, nI_rem3, nI_div2, nI_sub2, q_max_nI, q_min_nI, pk_mul, dm, Nat.add_sub_cancel, zh98, zh100, zh109, zh110, I.o, I.mn, c1, c2, cc', nI_b2n0, h9, c10]
        exact E _ _
      | false =>
        simp (disch := first | assumption | omega) only [w_Model_measures_139, w_Model_measures_140, w_Model_measures_143, w_Model_measures_144, w_Model_measures_145, w_Model_measures_148, w_Model_measures_150, w_Model_measures_152, w_Model_measures_154, w_Model_measures_155, w_Model_measures_156, w_Model_measures_157, w_Model_measures_160, w_Model_measures_162, w_Model_measures_163, w_Model_measures_165, w_Model_measures_167, w_Model_measures_168, w_Model_measures_169, w_Model_measures_170, w_Model_measures_172, w_Model_measures_173, w_Model_measures_175, w_Model_measures_176, w_Model_measures_179, w_Model_measures_181, w_Model_measures_182, w_Model_measures_184, w_Model_measures_185, w_Model_measures_186, w_Model_measures_189, w_Model_measures_190, w_Model_measures_193, w_Model_measures_194, w_Model_measures_196, w_Model_measures_198, w_Model_measures_201, w_Model_measures_203, w_Model_measures_206, w_Model_measures_207, w_Model_measures_210, w_Model_measures_211, w_Model_measures_213, w_Model_measures_215, w_Model_measures_217, w_Model_measures_220, w_Model_measures_221, w_Model_measures_224, w_Model_measures_226, w_Model_measures_227, w_Model_measures_230, w_Model_measures_231, w_Model_measures_232, w_Model_measures_234, w_Model_measures_235, w_Model_measures_237, w_Model_measures_240, q_rd_eq, q_nt_0, q_nt_s, q_ld_tab, q_st_tab, q_aa13, q_aa14, q_is_eq, q_wr_eq, q_01_0, q_01_1, q_nz_nI, q_len_tab, psh_some, psh_none, sm_up_at, sm_up_ne, nI_add, nI_lt2, nI_le2, nI_eq2, ls_set0, ls_setS, Nat.reduceAdd, Nat.zero_add, Nat.add_zero, not_true_eq_false, not_false_eq_true, ite_true, ite_false, nI_rem3, nI_div2, nI_sub2, q_max_nI, q_min_nI, pk_mul, dm, Nat.add_sub_cancel, zh98, zh100, zh109, zh110, I.o, I.mn, c1, c2, cc', nI_b2n0, c10]
        exact E _ _
    · have es : smC (cmS f w n p) (i + 1) = smC (cmS f w n p) i % 1000003 := by
        show (_ + cmS f w n p i) % _ = _
        rw [show cmS f w n p i = 0 from if_neg cc, Nat.add_zero]
      have ea : anyC (cmB f n p) (i + 1) = anyC (cmB f n p) i := by
        show (_ || cmB f n p i) = _
        rw [show cmB f n p i = false from decide_eq_false cc, Bool.or_false]
      rw [es, ea] at E
      cases eb : anyC (cmB f n p) i with
      | true =>
        rw [eb] at E
        simp (disch := first | assumption | omega) only [w_Model_measures_139, w_Model_measures_140, w_Model_measures_143, w_Model_measures_144, w_Model_measures_145, w_Model_measures_148, w_Model_measures_150, w_Model_measures_152, w_Model_measures_154, w_Model_measures_155, w_Model_measures_156, w_Model_measures_157, w_Model_measures_160, w_Model_measures_162, w_Model_measures_163, w_Model_measures_165, w_Model_measures_167, w_Model_measures_168, w_Model_measures_169, w_Model_measures_170, w_Model_measures_172, w_Model_measures_173, w_Model_measures_175, w_Model_measures_176, w_Model_measures_179, w_Model_measures_181, w_Model_measures_182, w_Model_measures_184, w_Model_measures_185, w_Model_measures_186, w_Model_measures_189, w_Model_measures_190, w_Model_measures_193, w_Model_measures_194, w_Model_measures_196, w_Model_measures_198, w_Model_measures_201, w_Model_measures_203, w_Model_measures_206, w_Model_measures_207, w_Model_measures_210, w_Model_measures_211, w_Model_measures_213, w_Model_measures_215, w_Model_measures_217, w_Model_measures_220, w_Model_measures_221, w_Model_measures_224, w_Model_measures_226, w_Model_measures_227, w_Model_measures_230, w_Model_measures_231, w_Model_measures_232, w_Model_measures_234, w_Model_measures_235, w_Model_measures_237, w_Model_measures_240, q_rd_eq, q_nt_0, q_nt_s, q_ld_tab, q_st_tab, q_aa13, q_aa14, q_is_eq, q_wr_eq, q_01_0, q_01_1, q_nz_nI, q_len_tab, psh_some, psh_none, sm_up_at, sm_up_ne, nI_add, nI_lt2, nI_le2, nI_eq2, ls_set0, ls_setS, Nat.reduceAdd, Nat.zero_add, Nat.add_zero, not_true_eq_false, not_false_eq_true, ite_true, ite_false, nI_rem3, nI_div2, nI_sub2, q_max_nI, q_min_nI, pk_mul, dm, Nat.add_sub_cancel, zh98, zh100, zh109, zh110, I.o, I.mn, c1, c2, cc, nI_b2n0, h9]
        exact E _ _
      | false =>
        rw [eb] at E
        simp (disch := first | assumption | omega) only [w_Model_measures_139, w_Model_measures_140, w_Model_measures_143, w_Model_measures_144, w_Model_measures_145, w_Model_measures_148, w_Model_measures_150, w_Model_measures_152, w_Model_measures_154, w_Model_measures_155, w_Model_measures_156, w_Model_measures_157, w_Model_measures_160, w_Model_measures_162, w_Model_measures_163, w_Model_measures_165, w_Model_measures_167, w_Model_measures_168, w_Model_measures_169, w_Model_measures_170, w_Model_measures_172, w_Model_measures_173, w_Model_measures_175, w_Model_measures_176, w_Model_measures_179, w_Model_measures_181, w_Model_measures_182, w_Model_measures_184, w_Model_measures_185, w_Model_measures_186, w_Model_measures_189, w_Model_measures_190, w_Model_measures_193, w_Model_measures_194, w_Model_measures_196, w_Model_measures_198, w_Model_measures_201, w_Model_measures_203, w_Model_measures_206, w_Model_measures_207, w_Model_measures_210, w_Model_measures_211, w_Model_measures_213, w_Model_measures_215, w_Model_measures_217, w_Model_measures_220, w_Model_measures_221, w_Model_measures_224, w_Model_measures_226, w_Model_measures_227, w_Model_measures_230, w_Model_measures_231, w_Model_measures_232, w_Model_measures_234, w_Model_measures_235, w_Model_measures_237, w_Model_measures_240, q_rd_eq, q_nt_0, q_nt_s, q_ld_tab, q_st_tab, q_aa13, q_aa14, q_is_eq, q_wr_eq, q_01_0, q_01_1, q_nz_nI, q_len_tab, psh_some, psh_none, sm_up_at, sm_up_ne, nI_add, nI_lt2, nI_le2, nI_eq2, ls_set0, ls_setS, Nat.reduceAdd, Nat.zero_add, Nat.add_zero, not_true_eq_false, not_false_eq_true, ite_true, ite_false, nI_rem3, nI_div2, nI_sub2, q_max_nI, q_min_nI, pk_mul, dm, Nat.add_sub_cancel, zh98, zh100, zh109, zh110, I.o, I.mn, c1, c2, cc, nI_b2n0]
        exact E _ _
/-- what was set in this pass is not taken for what stood before -/
theorem mix_eq {B : Nat → Bool} {len : Nat} (hn : n < 1000) {q : Nat} : mixN p (stF B len d n f) f q = n ↔ f q = n := by
  unfold mixN
  by_cases c : q < p
  · rw [if_pos c]
    unfold stF
    by_cases c2 : chB B len d n f q = true
    · have := (chB_iff.mp c2).1
      rw [if_pos c2]
      constructor <;> intro z <;> omega
    · rw [if_neg c2]
  · rw [if_neg c]
theorem mix_w {B : Nat → Bool} {len : Nat} (hn : n < 1000) {q : Nat} (hq : f q = n) : mixN p (stW B len d n f w) w q = w q := by
  unfold mixN
  by_cases c : q < p
  · rw [if_pos c]
    exact stW_far (by omega)
  · rw [if_neg c]
theorem mix_is {B : Nat → Bool} {len len' d' t : Nat} (hn : n < 1000) : isC len' d' (mixN p (stF B len d n f) f) n t = isC len' d' f n t := anyC_congr _ (fun i _ => by
  unfold cmB
  exact decide_eq_decide.mpr (mix_eq hn))
theorem mix_su {B : Nat → Bool} {len len' d' t : Nat} (hn : n < 1000) : suC len' d' (mixN p (stF B len d n f) f) (mixN p (stW B len d n f w) w) n t = suC len' d' f w n t := smC_congr _ (fun i _ => by
  unfold cmS
  by_cases c : f (61 * (1 - t / 61) + (t % 61 + i)) = n
  · rw [if_pos c, if_pos ((mix_eq hn).mpr c), mix_w hn c]
  · rw [if_neg c, if_neg (fun z => c ((mix_eq hn).mp z))])
theorem ms_pass (I : MAt h m) (hs : SfOk m.2.2.2.1.1) (hl : m.2.2.1.2.1 0 ≤ 60) (hd : d ≤ 60) (hn : n < 1000) (hB : ∀ p, p < 122 → mB m p = true → p % 61 ≤ m.2.2.1.2.1 0) (hF : ∀ q, q < 122 → f q ≤ 1000000) (hW : ∀ q, q < 122 → w q < 1000003) {F' W' : Nat → Nat} {C : Nat → Bool} (eF : F' = stF (mB m) (m.2.2.1.2.1 0) d n f) (eW : W' = stW (mB m) (m.2.2.1.2.1 0) d n f w) (eC : C = chB (mB m) (m.2.2.1.2.1 0) d n f) {a2 : Int32} (Q : ∀ a6 a7 a8 a9 a10, Wp xs m_Model_measures 301 [.ref 98, .int (nI d), .int a2, .int (nI (b2n (anyC C 122))), .int (nI (n + 1)), .int (nI 122), a6, a7, a8, a9, a10] [] (ZH h (fun i => nI (F' i)) (fun i => nI (W' i))) 0 0 K) : ∀ r p a6 a7 a8 a9 a10, p + r = 122 → Wp xs m_Model_measures 88 [.ref 98, .int (nI d), .int a2, .int (nI (b2n (anyC C p))), .int (nI (n + 1)), .int (nI p), a6, a7, a8, a9, a10] [] (ZH h (fun i => nI (mixN p F' f i)) (fun i => nI (mixN p W' w i))) 0 0 K := by
  intro r
  induction r with
  | zero =>
    intro p a6 a7 a8 a9 a10 hp
    have : p = 122 := by omega
    subst this
    rw [w_Model_measures_88]
    simp (disch := omega) only [w_Model_measures_90, w_Model_measures_92, q_rd_eq, q_nt_0, q_nt_s, q_ld_tab, q_st_tab, q_aa13, q_aa14, q_is_eq, q_wr_eq, q_01_0, q_01_1, q_nz_nI, q_len_tab, psh_some, psh_none, sm_up_at, sm_up_ne, nI_add, nI_lt2, nI_le2, nI_eq2, ls_set0, ls_setS, Nat.reduceAdd, Nat.zero_add, Nat.add_zero, not_true_eq_false, not_false_eq_true, ite_true, ite_false, nI_rem3, nI_div2, nI_sub2, q_max_nI, q_min_nI, Nat.le_refl]
    rw [zh_congr (F' := fun i => nI (F' i)) (G' := fun i => nI (W' i)) (fun i hi => by show nI (if i < 122 then F' i else f i) = _; rw [if_pos hi]) (fun i hi => by show nI (if i < 122 then W' i else w i) = _; rw [if_pos hi])]
    exact Q _ _ _ _ _
  | succ r ih =>
    intro p a6 a7 a8 a9 a10 hp
    have h1 : ¬ 122 ≤ p := by omega
    have h9 : ¬ (true = false) := by decide
    have c10 : ¬ (1 : Nat) = 0 := by omega
    have hf := hF p (by omega)
    have epf : mixN p F' f p = f p := mixN_at
    have E := fun a6 a7 a8 a9 a10 => ih (p + 1) a6 a7 a8 a9 a10 (by omega)
    have eaC : anyC C (p + 1) = (anyC C p || C p) := rfl
    have hmF : ∀ q, q < 122 → mixN p F' f q ≤ 1000000 := by
      intro q hq
      unfold mixN
      split
      · rw [eF]
        unfold stF
        split
        · omega
        · exact hF q hq
      · exact hF q hq
    have hmW : ∀ q, q < 122 → mixN p W' w q < 1000003 := by
      intro q hq
      unfold mixN
      split
      · rw [eW]
        unfold stW
        split
        · split
          · exact smC_lt _ _
          · omega
        · exact hW q hq
      · exact hW q hq
    rw [w_Model_measures_88]
    by_cases c1 : f p = 1000000
    · have c1' : ¬ ¬ f p = 1000000 := not_not_intro c1
      by_cases c2 : 0 < m.2.2.2.1.1 p
      · have hb : decide (0 < m.2.2.2.1.1 p) = true := decide_eq_true c2
        have hx := hB p (by omega) hb
        have T := ms_in (xs := xs) (K := K) (f := mixN p F' f) (w := mixN p W' w) (a2 := a2) (a3 := nI (b2n (anyC C p))) I hl hd hn (show p < 122 by omega) hx hmF hmW (fun a8 a9 a10 => ?_) (rr (m.2.2.1.2.1 0) d p) 0 a9 a10 (by omega)
        · simp (disch := first | assumption | omega) only [w_Model_measures_90, w_Model_measures_92, w_Model_measures_95, w_Model_measures_96, w_Model_measures_99, w_Model_measures_101, w_Model_measures_102, w_Model_measures_104, w_Model_measures_107, w_Model_measures_108, w_Model_measures_110, w_Model_measures_112, w_Model_measures_113, w_Model_measures_115, w_Model_measures_117, w_Model_measures_118, w_Model_measures_121, w_Model_measures_124, w_Model_measures_125, w_Model_measures_127, w_Model_measures_128, w_Model_measures_130, w_Model_measures_132, w_Model_measures_134, w_Model_measures_135, q_rd_eq, q_nt_0, q_nt_s, q_ld_tab, q_st_tab, q_aa13, q_aa14, q_is_eq, q_wr_eq, q_01_0, q_01_1, q_nz_nI, q_len_tab, psh_some, psh_none, sm_up_at, sm_up_ne, nI_add, nI_lt2, nI_le2, nI_eq2, ls_set0, ls_setS, Nat.reduceAdd, Nat.zero_add, Nat.add_zero, not_true_eq_false, not_false_eq_true, ite_true, ite_false, nI_rem3, nI_div2, nI_sub2, q_max_nI, q_min_nI, zh98, zh109, I.o, h1, epf, c1', zh_has I hs, Nat.div_add_mod, hb, nI_b2n0, h9]
          exact T
        · rw [eF, eW, mix_is hn, mix_su hn, ← eF, ← eW]
          have eC1 : C p = isC (m.2.2.1.2.1 0) d f n p := by
            rw [eC]
            unfold chB
            rw [decide_eq_true c1, show mB m p = true from hb, Bool.true_and, Bool.true_and]
          have hS := smC_lt (cmS f w n p) (rr (m.2.2.1.2.1 0) d p)
          cases c3 : isC (m.2.2.1.2.1 0) d f n p with
          | true =>
            rw [c3] at eC1
            have ch : chB (mB m) (m.2.2.1.2.1 0) d n f p = true := by rw [← eC]; exact eC1
            have e1 : F' p = n + 1 := by rw [eF]; exact if_pos ch
            have e2 : W' p = suC (m.2.2.1.2.1 0) d f w n p := by
              rw [eW]
              unfold stW
              rw [if_pos ⟨c1, hb⟩, if_pos c3]
            rw [eaC, eC1, Bool.or_true] at E
            cases c4 : anyC C p with
            | true =>
              simp (disch := first | assumption | omega) only [w_Model_measures_243, w_Model_measures_244, w_Model_measures_247, w_Model_measures_249, w_Model_measures_251, w_Model_measures_254, w_Model_measures_256, w_Model_measures_259, w_Model_measures_261, w_Model_measures_262, w_Model_measures_263, w_Model_measures_266, w_Model_measures_268, w_Model_measures_270, w_Model_measures_273, w_Model_measures_275, w_Model_measures_278, w_Model_measures_279, w_Model_measures_280, w_Model_measures_281, w_Model_measures_284, w_Model_measures_286, w_Model_measures_289, w_Model_measures_290, w_Model_measures_293, w_Model_measures_294, w_Model_measures_295, w_Model_measures_298, q_rd_eq, q_nt_0, q_nt_s, q_ld_tab, q_st_tab, q_aa13, q_aa14, q_is_eq, q_wr_eq, q_01_0, q_01_1, q_nz_nI, q_len_tab, psh_some, psh_none, sm_up_at, sm_up_ne, nI_add, nI_lt2, nI_le2, nI_eq2, ls_set0, ls_setS, Nat.reduceAdd, Nat.zero_add, Nat.add_zero, not_true_eq_false, not_false_eq_true, ite_true, ite_false, nI_rem3, nI_div2, nI_sub2, q_max_nI, q_min_nI, zh98, zh109, zh110, I.o, nI_b2n0, h9, tab_fup, zu109, zu110]
              rw [mixN_s e1.symm, mixN_s e2.symm]
              exact E _ _ _ _ _
            | false =>
              simp (disch := first | assumption | omega) only [w_Model_measures_243, w_Model_measures_244, w_Model_measures_247, w_Model_measures_249, w_Model_measures_251, w_Model_measures_254, w_Model_measures_256, w_Model_measures_259, w_Model_measures_261, w_Model_measures_262, w_Model_measures_263, w_Model_measures_266, w_Model_measures_268, w_Model_measures_270, w_Model_measures_273, w_Model_measures_275, w_Model_measures_278, w_Model_measures_279, w_Model_measures_280, w_Model_measures_281, w_Model_measures_284, w_Model_measures_286, w_Model_measures_289, w_Model_measures_290, w_Model_measures_293, w_Model_measures_294, w_Model_measures_295, w_Model_measures_298, q_rd_eq, q_nt_0, q_nt_s, q_ld_tab, q_st_tab, q_aa13, q_aa14, q_is_eq, q_wr_eq, q_01_0, q_01_1, q_nz_nI, q_len_tab, psh_some, psh_none, sm_up_at, sm_up_ne, nI_add, nI_lt2, nI_le2, nI_eq2, ls_set0, ls_setS, Nat.reduceAdd, Nat.zero_add, Nat.add_zero, not_true_eq_false, not_false_eq_true, ite_true, ite_false, nI_rem3, nI_div2, nI_sub2, q_max_nI, q_min_nI, zh98, zh109, zh110, I.o, nI_b2n0, h9, tab_fup, zu109, zu110]
              rw [mixN_s e1.symm, mixN_s e2.symm]
              exact E _ _ _ _ _
          | false =>
            rw [c3] at eC1
            have ch : ¬ chB (mB m) (m.2.2.1.2.1 0) d n f p = true := by rw [← eC, eC1]; decide
            have e1 : F' p = 1000000 := by rw [eF, ← c1]; exact if_neg ch
            have e2 : W' p = 0 := by
              rw [eW]
              unfold stW
              rw [if_pos ⟨c1, hb⟩, if_neg (by rw [c3]; decide)]
            rw [eaC, eC1, Bool.or_false] at E
            cases c4 : anyC C p with
            | true =>
              rw [c4] at E
              simp (disch := first | assumption | omega) only [w_Model_measures_243, w_Model_measures_244, w_Model_measures_247, w_Model_measures_249, w_Model_measures_251, w_Model_measures_254, w_Model_measures_256, w_Model_measures_259, w_Model_measures_261, w_Model_measures_262, w_Model_measures_263, w_Model_measures_266, w_Model_measures_268, w_Model_measures_270, w_Model_measures_273, w_Model_measures_275, w_Model_measures_278, w_Model_measures_279, w_Model_measures_280, w_Model_measures_281, w_Model_measures_284, w_Model_measures_286, w_Model_measures_289, w_Model_measures_290, w_Model_measures_293, w_Model_measures_294, w_Model_measures_295, w_Model_measures_298, q_rd_eq, q_nt_0, q_nt_s, q_ld_tab, q_st_tab, q_aa13, q_aa14, q_is_eq, q_wr_eq, q_01_0, q_01_1, q_nz_nI, q_len_tab, psh_some, psh_none, sm_up_at, sm_up_ne, nI_add, nI_lt2, nI_le2, nI_eq2, ls_set0, ls_setS, Nat.reduceAdd, Nat.zero_add, Nat.add_zero, not_true_eq_false, not_false_eq_true, ite_true, ite_false, nI_rem3, nI_div2, nI_sub2, q_max_nI, q_min_nI, zh98, zh109, zh110, I.o, nI_b2n0, h9, tab_fup, zu109, zu110]
              rw [mixN_s e1.symm, mixN_s e2.symm]
              exact E _ _ _ _ _
            | false =>
              rw [c4] at E
              simp (disch := first | assumption | omega) only [w_Model_measures_243, w_Model_measures_244, w_Model_measures_247, w_Model_measures_249, w_Model_measures_251, w_Model_measures_254, w_Model_measures_256, w_Model_measures_259, w_Model_measures_261, w_Model_measures_262, w_Model_measures_263, w_Model_measures_266, w_Model_measures_268, w_Model_measures_270, w_Model_measures_273, w_Model_measures_275, w_Model_measures_278, w_Model_measures_279, w_Model_measures_280, w_Model_measures_281, w_Model_measures_284, w_Model_measures_286, w_Model_measures_289, w_Model_measures_290, w_Model_measures_293, w_Model_measures_294, w_Model_measures_295, w_Model_measures_298, q_rd_eq, q_nt_0, q_nt_s, q_ld_tab, q_st_tab, q_aa13, q_aa14, q_is_eq, q_wr_eq, q_01_0, q_01_1, q_nz_nI, q_len_tab, psh_some, psh_none, sm_up_at, sm_up_ne, nI_add, nI_lt2, nI_le2, nI_eq2, ls_set0, ls_setS, Nat.reduceAdd, Nat.zero_add, Nat.add_zero, not_true_eq_false, not_false_eq_true, ite_true, ite_false, nI_rem3, nI_div2, nI_sub2, q_max_nI, q_min_nI, zh98, zh109, zh110, I.o, nI_b2n0, tab_fup, zu109, zu110]
              rw [mixN_s e1.symm, mixN_s e2.symm]
              exact E _ _ _ _ _
      · have hb : decide (0 < m.2.2.2.1.1 p) = false := decide_eq_false c2
        have hb2 : ¬ mB m p = true := fun z => by
          have z2 : decide (0 < m.2.2.2.1.1 p) = true := z
          rw [hb] at z2; cases z2
        have ch : ¬ chB (mB m) (m.2.2.1.2.1 0) d n f p = true := fun z => hb2 (chB_iff.mp z).2.1
        have e1 : F' p = f p := by rw [eF]; exact if_neg ch
        have e2 : W' p = w p := by rw [eW]; exact if_neg (fun z => hb2 z.2)
        have eC1 : C p = false := by
          cases z : C p
          · rfl
          · rw [eC] at z; exact absurd z ch
        rw [eaC, eC1, Bool.or_false, ← mixN_k e1, ← mixN_k e2] at E
        simp (disch := first | assumption | omega) only [w_Model_measures_90, w_Model_measures_92, w_Model_measures_95, w_Model_measures_96, w_Model_measures_99, w_Model_measures_101, w_Model_measures_102, w_Model_measures_104, w_Model_measures_107, w_Model_measures_108, w_Model_measures_110, w_Model_measures_112, w_Model_measures_113, w_Model_measures_115, w_Model_measures_117, w_Model_measures_118, w_Model_measures_121, w_Model_measures_295, w_Model_measures_298, q_rd_eq, q_nt_0, q_nt_s, q_ld_tab, q_st_tab, q_aa13, q_aa14, q_is_eq, q_wr_eq, q_01_0, q_01_1, q_nz_nI, q_len_tab, psh_some, psh_none, sm_up_at, sm_up_ne, nI_add, nI_lt2, nI_le2, nI_eq2, ls_set0, ls_setS, Nat.reduceAdd, Nat.zero_add, Nat.add_zero, not_true_eq_false, not_false_eq_true, ite_true, ite_false, nI_rem3, nI_div2, nI_sub2, q_max_nI, q_min_nI, zh98, zh109, I.o, h1, epf, c1', zh_has I hs, Nat.div_add_mod, hb, nI_b2n0]
        exact E _ _ _ _ _
    · have ch : ¬ chB (mB m) (m.2.2.1.2.1 0) d n f p = true := fun z => c1 (chB_iff.mp z).1
      have e1 : F' p = f p := by rw [eF]; exact if_neg ch
      have e2 : W' p = w p := by rw [eW]; exact if_neg (fun z => c1 z.1)
      have eC1 : C p = false := by
        cases z : C p
        · rfl
        · rw [eC] at z; exact absurd z ch
      rw [eaC, eC1, Bool.or_false, ← mixN_k e1, ← mixN_k e2] at E
      simp (disch := first | assumption | omega) only [w_Model_measures_90, w_Model_measures_92, w_Model_measures_95, w_Model_measures_96, w_Model_measures_99, w_Model_measures_101, w_Model_measures_102, w_Model_measures_104, w_Model_measures_295, w_Model_measures_298, q_rd_eq, q_nt_0, q_nt_s, q_ld_tab, q_st_tab, q_aa13, q_aa14, q_is_eq, q_wr_eq, q_01_0, q_01_1, q_nz_nI, q_len_tab, psh_some, psh_none, sm_up_at, sm_up_ne, nI_add, nI_lt2, nI_le2, nI_eq2, ls_set0, ls_setS, Nat.reduceAdd, Nat.zero_add, Nat.add_zero, not_true_eq_false, not_false_eq_true, ite_true, ite_false, nI_rem3, nI_div2, nI_sub2, q_max_nI, q_min_nI, zh98, zh109, I.o, h1, epf, c1]
      exact E _ _ _ _ _
theorem ms_turn (I : MAt h m) (hs : SfOk m.2.2.2.1.1) (hl : m.2.2.1.2.1 0 ≤ 60) (hd : d ≤ 60) (hn : n < 900) (hB : ∀ p, p < 122 → mB m p = true → p % 61 ≤ m.2.2.1.2.1 0) (V : LvI (mB m) d e n f w) {a2 : Int32} {a5 a6 a7 a8 a9 a10 : Value} (T : anyC (chB (mB m) (m.2.2.1.2.1 0) d n f) 122 = true → ∀ a5 a6 a7 a8 a9 a10, Wp xs m_Model_measures 79 [.ref 98, .int (nI d), .int a2, .int (nI 1), .int (nI (n + 1 + 1)), a5, a6, a7, a8, a9, a10] [] (ZH h (fun i => nI (stF (mB m) (m.2.2.1.2.1 0) d n f i)) (fun i => nI (stW (mB m) (m.2.2.1.2.1 0) d n f w i))) 0 0 K) (S : anyC (chB (mB m) (m.2.2.1.2.1 0) d n f) 122 = false → K none (ZH h (fun i => nI (stF (mB m) (m.2.2.1.2.1 0) d n f i)) (fun i => nI (stW (mB m) (m.2.2.1.2.1 0) d n f w i)))) : Wp xs m_Model_measures 79 [.ref 98, .int (nI d), .int a2, .int (nI 1), .int (nI (n + 1)), a5, a6, a7, a8, a9, a10] [] (ZH h (fun i => nI (f i)) (fun i => nI (w i))) 0 0 K := by
  have hF : ∀ q, q < 122 → f q ≤ 1000000 := fun q hq => by
    by_cases c : f q = 1000000
    · omega
    · have := (V.1 q hq c).2; omega
  have hW : ∀ q, q < 122 → w q < 1000003 := V.2.2.2.2.2.2
  have c10 : ¬ (1 : Nat) = 0 := by omega
  rw [w_Model_measures_79]
  have P := ms_pass (xs := xs) (K := K) (a2 := a2) I hs hl hd (show n < 1000 by omega) hB hF hW rfl rfl rfl (fun a6 a7 a8 a9 a10 => ?_) 122 0 a6 a7 a8 a9 a10 (by omega)
  · rw [mixN_0, mixN_0] at P
    simp (disch := first | assumption | omega) only [w_Model_measures_80, w_Model_measures_83, w_Model_measures_84, w_Model_measures_85, w_Model_measures_86, q_rd_eq, q_nt_0, q_nt_s, q_ld_tab, q_st_tab, q_aa13, q_aa14, q_is_eq, q_wr_eq, q_01_0, q_01_1, q_nz_nI, q_len_tab, psh_some, psh_none, sm_up_at, sm_up_ne, nI_add, nI_lt2, nI_le2, nI_eq2, ls_set0, ls_setS, Nat.reduceAdd, Nat.zero_add, Nat.add_zero, not_true_eq_false, not_false_eq_true, ite_true, ite_false, nI_rem3, nI_div2, nI_sub2, q_max_nI, q_min_nI, c10]
    exact P
  · cases z : anyC (chB (mB m) (m.2.2.1.2.1 0) d n f) 122 with
    | true =>
      simp (disch := first | assumption | omega) only [w_Model_measures_301, w_Model_measures_304, q_rd_eq, q_nt_0, q_nt_s, q_ld_tab, q_st_tab, q_aa13, q_aa14, q_is_eq, q_wr_eq, q_01_0, q_01_1, q_nz_nI, q_len_tab, psh_some, psh_none, sm_up_at, sm_up_ne, nI_add, nI_lt2, nI_le2, nI_eq2, ls_set0, ls_setS, Nat.reduceAdd, Nat.zero_add, Nat.add_zero, not_true_eq_false, not_false_eq_true, ite_true, ite_false, nI_rem3, nI_div2, nI_sub2, q_max_nI, q_min_nI]
      exact T z _ _ _ _ _ _
    | false =>
      have S' := S z
      simp (disch := first | assumption | omega) only [w_Model_measures_301, w_Model_measures_304, q_rd_eq, q_nt_0, q_nt_s, q_ld_tab, q_st_tab, q_aa13, q_aa14, q_is_eq, q_wr_eq, q_01_0, q_01_1, q_nz_nI, q_len_tab, psh_some, psh_none, sm_up_at, sm_up_ne, nI_add, nI_lt2, nI_le2, nI_eq2, ls_set0, ls_setS, Nat.reduceAdd, Nat.zero_add, Nat.add_zero, not_true_eq_false, not_false_eq_true, ite_true, ite_false, nI_rem3, nI_div2, nI_sub2, q_max_nI, q_min_nI]
      rw [w_Model_measures_79]
      have e0 : b2n false = 0 := rfl
      simp (disch := first | assumption | omega) only [w_Model_measures_80, w_Model_measures_307, q_rd_eq, q_nt_0, q_nt_s, q_ld_tab, q_st_tab, q_aa13, q_aa14, q_is_eq, q_wr_eq, q_01_0, q_01_1, q_nz_nI, q_len_tab, psh_some, psh_none, sm_up_at, sm_up_ne, nI_add, nI_lt2, nI_le2, nI_eq2, ls_set0, ls_setS, Nat.reduceAdd, Nat.zero_add, Nat.add_zero, not_true_eq_false, not_false_eq_true, ite_true, ite_false, nI_rem3, nI_div2, nI_sub2, q_max_nI, q_min_nI, e0]
      exact S'
theorem ms_main (I : MAt h m) (hs : SfOk m.2.2.2.1.1) (hl : m.2.2.1.2.1 0 ≤ 60) (hd : d ≤ 60) (hB : ∀ p, p < 122 → mB m p = true → p % 61 ≤ m.2.2.1.2.1 0) {a2 : Int32} : ∀ c n f w a5 a6 a7 a8 a9 a10, cnt (fun q => decide (f q = 1000000)) 122 ≤ c → n + c ≤ 122 → LvI (mB m) d e n f w → K none (ZH h (fun i => nI ((lv (mB m) (m.2.2.1.2.1 0) d (c + 1) n f w).1 i)) (fun i => nI ((lv (mB m) (m.2.2.1.2.1 0) d (c + 1) n f w).2 i))) → Wp xs m_Model_measures 79 [.ref 98, .int (nI d), .int a2, .int (nI 1), .int (nI (n + 1)), a5, a6, a7, a8, a9, a10] [] (ZH h (fun i => nI (f i)) (fun i => nI (w i))) 0 0 K := by
  intro c
  induction c with
  | zero =>
    intro n f w a5 a6 a7 a8 a9 a10 h1 h2 V Q
    refine ms_turn I hs hl hd (by omega) hB V (fun z => ?_) (fun z => ?_)
    · obtain ⟨p, hp, hc⟩ := (anyC_iff 122).mp z
      have := far_less (by omega) hp hc
      omega
    · have e1 : lv (mB m) (m.2.2.1.2.1 0) d (0 + 1) n f w = (stF (mB m) (m.2.2.1.2.1 0) d n f, stW (mB m) (m.2.2.1.2.1 0) d n f w) := if_neg (by rw [z]; decide)
      rw [e1] at Q
      exact Q
  | succ c ih =>
    intro n f w a5 a6 a7 a8 a9 a10 h1 h2 V Q
    refine ms_turn I hs hl hd (by omega) hB V (fun z => ?_) (fun z => ?_)
    · have e1 : lv (mB m) (m.2.2.1.2.1 0) d (c + 1 + 1) n f w = lv (mB m) (m.2.2.1.2.1 0) d (c + 1) (n + 1) (stF (mB m) (m.2.2.1.2.1 0) d n f) (stW (mB m) (m.2.2.1.2.1 0) d n f w) := if_pos z
      rw [e1] at Q
      obtain ⟨p, hp, hc⟩ := (anyC_iff 122).mp z
      have := far_less (by omega) hp hc
      exact fun a5 a6 a7 a8 a9 a10 => ih (n + 1) _ _ a5 a6 a7 a8 a9 a10 (by omega) (by omega) (V.step hB hl (by omega)) Q
    · have e1 : lv (mB m) (m.2.2.1.2.1 0) d (c + 1 + 1) n f w = (stF (mB m) (m.2.2.1.2.1 0) d n f, stW (mB m) (m.2.2.1.2.1 0) d n f w) := if_neg (by rw [z]; decide)
      rw [e1] at Q
      exact Q
def lvM (m : MC) (d e : Nat) : (Nat → Nat) × (Nat → Nat) := lv (mB m) (m.2.2.1.2.1 0) d (122 + 1) 0 (f0 (mB m) e) (w0 (mB m) e)
theorem lvM_lev (hl : m.2.2.1.2.1 0 ≤ 60) (hB : ∀ p, p < 122 → mB m p = true → p % 61 ≤ m.2.2.1.2.1 0) : Lev (mB m) d e (lvM m d e).1 (lvM m d e).2 := lv_lev hB hl 122 0 _ _ (cnt_le _ _) (by omega) LvI.start
theorem M_measures (I : MAt h m) (hs : SfOk m.2.2.2.1.1) (hl : m.2.2.1.2.1 0 ≤ 60) (hd : d ≤ 60) (he : e ≤ 60) (hB : ∀ p, p < 122 → mB m p = true → p % 61 ≤ m.2.2.1.2.1 0) (Q : K none (ZH h (fun i => nI ((lvM m d e).1 i)) (fun i => nI ((lvM m d e).2 i)))) : Wp xs m_Model_measures 0 [.ref 98, .int (nI d), .int (nI e), .null, .null, .null, .null, .null, .null, .null, .null] [] h 0 0 K := by
  have T := ms_init (xs := xs) (K := K) (d := d) (a5 := .null) (a6 := .null) (a7 := .null) (a8 := .null) (a9 := .null) (a10 := .null) I hs he (fun a4 => ?_) 122 0 .null (by omega)
  · rw [mixI_0, mixI_0, zh_self I] at T
    simp (disch := first | assumption | omega) only [w_Model_measures_0, w_Model_measures_1, q_rd_eq, q_nt_0, q_nt_s, q_ld_tab, q_st_tab, q_aa13, q_aa14, q_is_eq, q_wr_eq, q_01_0, q_01_1, q_nz_nI, q_len_tab, psh_some, psh_none, sm_up_at, sm_up_ne, nI_add, nI_lt2, nI_le2, nI_eq2, ls_set0, ls_setS, Nat.reduceAdd, Nat.zero_add, Nat.add_zero, not_true_eq_false, not_false_eq_true, ite_true, ite_false, nI_rem3, nI_div2, nI_sub2, q_max_nI, q_min_nI]
    exact T
  · simp (disch := first | assumption | omega) only [w_Model_measures_74, w_Model_measures_75, w_Model_measures_76, w_Model_measures_77, q_rd_eq, q_nt_0, q_nt_s, q_ld_tab, q_st_tab, q_aa13, q_aa14, q_is_eq, q_wr_eq, q_01_0, q_01_1, q_nz_nI, q_len_tab, psh_some, psh_none, sm_up_at, sm_up_ne, nI_add, nI_lt2, nI_le2, nI_eq2, ls_set0, ls_setS, Nat.reduceAdd, Nat.zero_add, Nat.add_zero, not_true_eq_false, not_false_eq_true, ite_true, ite_false, nI_rem3, nI_div2, nI_sub2, q_max_nI, q_min_nI]
    unfold lvM at Q
    exact ms_main I hs hl hd hB 122 0 (f0 (mB m) e) (w0 (mB m) e) _ _ _ _ _ _ (cnt_le _ _) (by omega) LvI.start Q
end MMS
