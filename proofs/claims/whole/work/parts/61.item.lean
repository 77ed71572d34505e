/-! what a text tells, and that the class reads it so -/
abbrev FlS : Type := Nat × Nat × Nat
abbrev ItR : Type := Nat ⊕ (Nat × FlS × PathS)
def num1 (T : Nat → Nat) (n lo hi q : Nat) (k : Nat → Nat → ItR) : ItR := if nOk T n lo hi (sk T n 120 q) = true then k (rW T n q) (rE T n q) else .inl (sk T n 120 q)
def endS (T : Nat → Nat) (n q : Nat) (fl : FlS) (pa : PathS) : ItR := if sk T n 120 q < n ∧ T (sk T n 120 q) = 59 then .inr (sk T n 120 q + 1, fl, pa) else .inl (sk T n 120 q)
def itS (T : Nat → Nat) (n : Nat) (first : Bool) (fl : FlS) (pa : PathS) (a : Nat) : ItR :=
  if T a = 108 then (if first = true then num1 T n 5 60 (a + 1) (fun v q => endS T n q fl ((v, pa.1.2), pa.2)) else .inl a)
  else if T a = 119 then num1 T n 0 1 (a + 1) (fun k q1 => num1 T n 0 9 q1 (fun st q2 => num1 T n 2 9 q2 (fun sd q3 => num1 T n 1 9 q3 (fun sp q4 => endS T n q4 fl (pa.1, fup pa.2.1 k st, fup pa.2.2.1 k sd, fup pa.2.2.2 k sp)))))
  else if T a = 98 then (if fl.1 = 0 then num1 T n 0 pa.1.1 (a + 1) (fun v q => endS T n q (1, fl.2) ((pa.1.1, v, pa.1.2.2), pa.2)) else .inl a)
  else if T a = 112 then (if fl.2.1 = 0 then num1 T n 0 pa.1.1 (a + 1) (fun v q => endS T n q (fl.1, 1, fl.2.2) ((pa.1.1, pa.1.2.1, v, pa.1.2.2.2), pa.2)) else .inl a)
  else if T a = 116 then (if fl.2.2 = 0 then num1 T n 1 9 (a + 1) (fun v q => endS T n q (fl.1, fl.2.1, 1) ((pa.1.1, pa.1.2.1, pa.1.2.2.1, v), pa.2)) else .inl a)
  else .inl a
/-- items from q on -/
def lpS (T : Nat → Nat) (n : Nat) : Nat → Nat → Nat → FlS → PathS → Nat ⊕ (Nat × PathS)
  | 0, _, _, _, _ => .inl 0
  | r + 1, items, q, fl, pa => if n ≤ sk T n 120 q then .inr (items, pa) else match itS T n (decide (items = 0)) fl pa (sk T n 120 q) with
    | .inl e => .inl e
    | .inr z => lpS T n r (items + 1) z.1 z.2.1 z.2.2
def tellS (T : Nat → Nat) (n : Nat) : Nat ⊕ (Nat × PathS) := lpS T n 121 0 0 (0, 0, 0) path0
def res (a : Nat) (f : Option Nat) (fl : FlS) (pa : PathS) : ItR := match f with
  | none => .inr (a, fl, pa)
  | some e => .inl e
section SPC
variable {T : Nat → Nat} {n : Nat}
theorem rF_some {lo hi a e : Nat} : rF T n lo hi a (some e) = some e := by
  unfold rF fail
  split <;> rfl
theorem eF_some {a e : Nat} : eF T n a (some e) = some e := by
  unfold eF fail
  split <;> rfl
theorem endS_eq {q : Nat} {fl : FlS} {pa : PathS} : endS T n q fl pa = res (eA T n q) (eF T n q none) fl pa := by
  unfold endS eA eF
  by_cases c : sk T n 120 q < n ∧ T (sk T n 120 q) = 59
  · rw [if_pos c, if_pos c, if_pos c]; rfl
  · rw [if_neg c, if_neg c, if_neg c]; rfl
theorem num1_n {lo hi q : Nat} {k : Nat → Nat → ItR} (hf : rF T n lo hi q none = none) : num1 T n lo hi q k = k (rV T n lo hi q none) (rE T n q) := by
  have eV : rV T n lo hi q none = rW T n q := by unfold rV; rw [if_pos hf]
  unfold rF at hf
  unfold num1
  by_cases c : nOk T n lo hi (sk T n 120 q) = true
  · rw [if_pos c, eV]
  · rw [if_neg c] at hf
    exact absurd hf (fail_ne _ _)
theorem num1_s {lo hi q e : Nat} {k : Nat → Nat → ItR} (hf : rF T n lo hi q none = some e) : num1 T n lo hi q k = .inl e := by
  unfold rF at hf
  unfold num1
  by_cases c : nOk T n lo hi (sk T n 120 q) = true
  · rw [if_pos c] at hf; cases hf
  · rw [if_neg c] at hf ⊢
    cases hf
    rfl
/-- a number, then the item's end -/
theorem num1_end {lo hi q : Nat} {fl : FlS} {g : Nat → PathS} : num1 T n lo hi q (fun v q => endS T n q fl (g v)) = res (eA T n (rE T n q)) (eF T n (rE T n q) (rF T n lo hi q none)) fl (g (rV T n lo hi q none)) := by
  cases hf : rF T n lo hi q none with
  | none => rw [num1_n hf, endS_eq]
  | some e => rw [num1_s hf, eF_some]; rfl
theorem num1_inv {lo hi q : Nat} {k : Nat → Nat → ItR} {x : Nat × FlS × PathS} (hq : q ≤ n) (h : num1 T n lo hi q k = .inr x) : ∃ v q', lo ≤ v ∧ v ≤ hi ∧ q ≤ q' ∧ q' ≤ n ∧ k v q' = .inr x := by
  unfold num1 at h
  by_cases c : nOk T n lo hi (sk T n 120 q) = true
  · rw [if_pos c] at h
    have c' := of_decide_eq_true c
    have b := rE_le (T := T) hq
    exact ⟨_, _, c'.2.2.1, c'.2.2.2, b.1, b.2, h⟩
  · rw [if_neg c] at h
    cases h
theorem endS_inv {q : Nat} {fl : FlS} {pa : PathS} {x : Nat × FlS × PathS} (hq : q ≤ n) (h : endS T n q fl pa = .inr x) : q < x.1 ∧ x.1 ≤ n ∧ x.2.1 = fl ∧ x.2.2 = pa := by
  unfold endS at h
  have b := sk_le (T := T) 120 q hq
  by_cases c : sk T n 120 q < n ∧ T (sk T n 120 q) = 59
  · rw [if_pos c] at h
    cases h
    exact ⟨by omega, by omega, rfl, rfl⟩
  · rw [if_neg c] at h
    cases h
def FlOk (fl : FlS) : Prop := fl.1 ≤ 1 ∧ fl.2.1 ≤ 1 ∧ fl.2.2 ≤ 1
theorem itS_inv {first : Bool} {fl : FlS} {pa : PathS} {a : Nat} {x : Nat × FlS × PathS} (ha : a < n) (ok : PathOk pa) (hfl : FlOk fl) (h0 : first = true → pa.1.2.1 = 0 ∧ pa.1.2.2.1 = 0) (h : itS T n first fl pa a = .inr x) : a < x.1 ∧ x.1 ≤ n ∧ FlOk x.2.1 ∧ PathOk x.2.2 := by
  obtain ⟨p1, p2, p3, p4, p5, p6, p7⟩ := ok
  obtain ⟨f1, f2, f3⟩ := hfl
  unfold itS at h
  by_cases c1 : T a = 108
  · rw [if_pos c1] at h
    by_cases c : first = true
    · rw [if_pos c] at h
      obtain ⟨v, q, v1, v2, q1, q2, h⟩ := num1_inv (by omega) h
      obtain ⟨e1, e2, e3, e4⟩ := endS_inv q2 h
      have z := h0 c
      refine ⟨by omega, e2, by rw [e3]; exact ⟨f1, f2, f3⟩, ?_⟩
      rw [e4]
      exact ⟨v1, v2, by show pa.1.2.1 ≤ v; omega, by show pa.1.2.2.1 ≤ v; omega, p5, p6, p7⟩
    · rw [if_neg c] at h
      cases h
  · rw [if_neg c1] at h
    by_cases c2 : T a = 119
    · rw [if_pos c2] at h
      obtain ⟨k, q1, k1, k2, b1, b2, h⟩ := num1_inv (by omega) h
      obtain ⟨st, q2, s1, s2, b3, b4, h⟩ := num1_inv b2 h
      obtain ⟨sd, q3, s3, s4, b5, b6, h⟩ := num1_inv b4 h
      obtain ⟨sp, q4, s5, s6, b7, b8, h⟩ := num1_inv b6 h
      obtain ⟨e1, e2, e3, e4⟩ := endS_inv b8 h
      refine ⟨by omega, e2, by rw [e3]; exact ⟨f1, f2, f3⟩, ?_⟩
      rw [e4]
      refine ⟨p1, p2, p3, p4, p5, p6, fun i hi => ?_⟩
      have w := p7 i hi
      show fup pa.2.1 k st i ≤ 9 ∧ 2 ≤ fup pa.2.2.1 k sd i ∧ fup pa.2.2.1 k sd i ≤ 9 ∧ 1 ≤ fup pa.2.2.2 k sp i ∧ fup pa.2.2.2 k sp i ≤ 9
      unfold fup
      by_cases z : i = k
      · rw [if_pos z, if_pos z, if_pos z]
        exact ⟨s2, s3, s4, s5, s6⟩
      · rw [if_neg z, if_neg z, if_neg z]
        exact w
    · rw [if_neg c2] at h
      by_cases c3 : T a = 98
      · rw [if_pos c3] at h
        by_cases c : fl.1 = 0
        · rw [if_pos c] at h
          obtain ⟨v, q, v1, v2, q1, q2, h⟩ := num1_inv (by omega) h
          obtain ⟨e1, e2, e3, e4⟩ := endS_inv q2 h
          refine ⟨by omega, e2, by rw [e3]; exact ⟨Nat.le_refl _, f2, f3⟩, ?_⟩
          rw [e4]
          exact ⟨p1, p2, v2, p4, p5, p6, p7⟩
        · rw [if_neg c] at h
          cases h
      · rw [if_neg c3] at h
        by_cases c4 : T a = 112
        · rw [if_pos c4] at h
          by_cases c : fl.2.1 = 0
          · rw [if_pos c] at h
            obtain ⟨v, q, v1, v2, q1, q2, h⟩ := num1_inv (by omega) h
            obtain ⟨e1, e2, e3, e4⟩ := endS_inv q2 h
            refine ⟨by omega, e2, by rw [e3]; exact ⟨f1, Nat.le_refl _, f3⟩, ?_⟩
            rw [e4]
            exact ⟨p1, p2, p3, v2, p5, p6, p7⟩
          · rw [if_neg c] at h
            cases h
        · rw [if_neg c4] at h
          by_cases c5 : T a = 116
          · rw [if_pos c5] at h
            by_cases c : fl.2.2 = 0
            · rw [if_pos c] at h
              obtain ⟨v, q, v1, v2, q1, q2, h⟩ := num1_inv (by omega) h
              obtain ⟨e1, e2, e3, e4⟩ := endS_inv q2 h
              refine ⟨by omega, e2, by rw [e3]; exact ⟨f1, f2, Nat.le_refl _⟩, ?_⟩
              rw [e4]
              exact ⟨p1, p2, p3, p4, v1, v2, p7⟩
            · rw [if_neg c] at h
              cases h
          · rw [if_neg c5] at h
            cases h
theorem lpS_ok : ∀ r items q fl pa items' pa', q ≤ n → PathOk pa → FlOk fl → (items = 0 → pa.1.2.1 = 0 ∧ pa.1.2.2.1 = 0) → lpS T n r items q fl pa = .inr (items', pa') → items' ≤ items + r ∧ PathOk pa'
  | 0, items, q, fl, pa, items', pa', _, _, _, _, h => by cases h
  | r + 1, items, q, fl, pa, items', pa', hq, ok, hfl, h0, h => by
    unfold lpS at h
    have b := sk_le (T := T) 120 q hq
    by_cases c : n ≤ sk T n 120 q
    · rw [if_pos c] at h
      cases h
      exact ⟨by omega, ok⟩
    · rw [if_neg c] at h
      cases hi : itS T n (decide (items = 0)) fl pa (sk T n 120 q) with
      | inl e => rw [hi] at h; cases h
      | inr z =>
        rw [hi] at h
        obtain ⟨g1, g2, g3, g4⟩ := itS_inv (by omega) ok hfl (fun z => h0 (of_decide_eq_true z)) hi
        have := lpS_ok r (items + 1) z.1 z.2.1 z.2.2 items' pa' g2 g4 g3 (fun z => absurd z (by omega)) h
        exact ⟨by omega, this.2⟩
theorem path0_ok : PathOk path0 := ⟨by decide, by decide, by decide, by decide, by decide, by decide, fun k _ => ⟨Nat.zero_le _, by show 2 ≤ 3; decide, by show 3 ≤ 9; decide, by show 1 ≤ 3; decide, by show 3 ≤ 9; decide⟩⟩
theorem tellS_ok {items : Nat} {pa : PathS} (h : tellS T n = .inr (items, pa)) : items ≤ 121 ∧ PathOk pa := by
  have := lpS_ok 121 0 0 (0, 0, 0) path0 items pa (Nat.zero_le _) path0_ok ⟨by decide, by decide, by decide⟩ (fun _ => ⟨rfl, rfl⟩) h
  exact ⟨by omega, this.2⟩
end SPC
section ITM
variable {xs : List Int32} {h : sm_Hp} {K : Option Value → sm_Hp → Prop} {d n a : Nat} {av fv : Int32} {b p t : Nat} {pa : PathS} {tk : Nat → Nat} {T : Nat → Nat} {f : Option Nat} {fl : FlS}
theorem e_walker (hT : h.1 2 = (10, tab 120 (fun i => .int (nI (T i))))) (hT2 : ∀ i, T i < 256) (hd : 2 < d) (hn : n ≤ 120) (ha : a ≤ n) (hf : fOk f) {a1 a2 a3 a4 : Nat} {f1 f2 f3 f4 : Option Nat} (ea1 : rE T n a = a1) (ea2 : rE T n a1 = a2) (ea3 : rE T n a2 = a3) (ea4 : rE T n a3 = a4) (ef1 : rF T n 0 1 a f = f1) (ef2 : rF T n 0 9 a1 f1 = f2) (ef3 : rF T n 2 9 a2 f2 = f3) (ef4 : rF T n 1 9 a3 f3 = f4) {k st sd sp : Nat} (ek : rV T n 0 1 a f = k) (est : rV T n 0 9 a1 f1 = st) (esd : rV T n 2 9 a2 f2 = sd) (esp : rV T n 1 9 a3 f3 = sp) : Wp xs m_Reader_readWalker 0 [.ref 1, .ref d, .null] [] (RH h d n (nI a) (fI f) b p t pa tk) 0 0 K = K none (RH h d n (nI a4) (fI f4) b p t (pa.1, fup pa.2.1 k st, fup pa.2.2.1 k sd, fup pa.2.2.2 k sp) tk) := by
  have b1 := (rE_le (T := T) ha).2
  rw [ea1] at b1
  have b2 := (rE_le (T := T) b1).2
  rw [ea2] at b2
  have b3 := (rE_le (T := T) b2).2
  rw [ea3] at b3
  have o1 : fOk f1 := by rw [← ef1]; exact rF_ok hf ha hn
  have o2 : fOk f2 := by rw [← ef2]; exact rF_ok o1 b1 hn
  have o3 : fOk f3 := by rw [← ef3]; exact rF_ok o2 b2 hn
  have hk : k ≤ 1 := by rw [← ek]; exact (rV_in (by omega)).2
  simp (disch := first | assumption | omega) only [w_Reader_readWalker_0, w_Reader_readWalker_1, w_Reader_readWalker_2, w_Reader_readWalker_3, w_Reader_readWalker_6, w_Reader_readWalker_7, w_Reader_readWalker_8, w_Reader_readWalker_11, w_Reader_readWalker_12, w_Reader_readWalker_13, w_Reader_readWalker_14, w_Reader_readWalker_16, w_Reader_readWalker_19, w_Reader_readWalker_20, w_Reader_readWalker_21, w_Reader_readWalker_24, w_Reader_readWalker_25, w_Reader_readWalker_26, w_Reader_readWalker_27, w_Reader_readWalker_29, w_Reader_readWalker_32, w_Reader_readWalker_33, w_Reader_readWalker_34, w_Reader_readWalker_37, w_Reader_readWalker_38, w_Reader_readWalker_39, w_Reader_readWalker_40, w_Reader_readWalker_42, w_Reader_readWalker_45, w_Reader_readWalker_46, q_rd_eq, q_nt_0, q_nt_s, q_ld_tab, q_st_tab, q_aa13, q_aa14, q_is_eq, q_wr_eq, q_01_0, q_01_1, q_nz_nI, q_len_tab, psh_some, psh_none, sm_up_at, sm_up_ne, nI_add, nI_lt2, nI_le2, nI_eq2, ls_set0, ls_setS, Nat.reduceAdd, Nat.zero_add, Nat.add_zero, not_true_eq_false, not_false_eq_true, ite_true, ite_false, nI_rem3, nI_div2, nI_sub2, q_max_nI, q_min_nI, rh1, rh_d, rh_d1, rh_d2, rh_d3, e_num hT hT2, ea1, ea2, ea3, ea4, ef1, ef2, ef3, ef4, ek, est, esd, esp, tab_fup, rh_ud1, rh_ud2, rh_ud3]
theorem sw_def0 : ∀ c, c < 256 → (c = 98 ∨ c = 108 ∨ c = 112 ∨ c = 116 ∨ c = 119 ∨ Op.lookupswitch.offset [(98, 83), (108, 51), (112, 120), (116, 157), (119, 70)] 192 (nI c).toInt = 192) := by decide +kernel
theorem sw_def (c : Nat) (h : c < 256) (h1 : c ≠ 98) (h2 : c ≠ 108) (h3 : c ≠ 112) (h4 : c ≠ 116) (h5 : c ≠ 119) : Op.lookupswitch.offset [(98, 83), (108, 51), (112, 120), (116, 157), (119, 70)] 192 (nI c).toInt = 192 := by
  rcases sw_def0 c h with e | e | e | e | e | e
  · exact absurd e h1
  · exact absurd e h2
  · exact absurd e h3
  · exact absurd e h4
  · exact absurd e h5
  · exact e
/-- what is left behind an item: its tale, and what may be -/
def RdP (n : Nat) (r : ItR) (a : Nat) (f : Option Nat) (fl : FlS) (pa : PathS) : Prop := r = res a f fl pa ∧ fOk f ∧ a ≤ n ∧ pa.1.1 ≤ 60 ∧ FlOk fl
theorem C_item (hT : h.1 2 = (10, tab 120 (fun i => .int (nI (T i))))) (hT2 : ∀ i, T i < 256) (hd : 2 < d) (hn : n ≤ 120) (ha : a < n) (hl : pa.1.1 ≤ 60) (hfl : FlOk fl) {first : Bool} (q : ∀ a' f' fl' pa', RdP n (itS T n first fl pa a) a' f' fl' pa' → K none (RH h d n (nI a') (fI f') fl'.1 fl'.2.1 fl'.2.2 pa' tk)) : Wp xs m_Reader_readItem 0 [.ref 1, .ref d, .int (nI (b2n first))] [] (RH h d n (nI a) (fI none) fl.1 fl.2.1 fl.2.2 pa tk) 0 0 K := by
  have h9 := hT2 a
  have c7 : ¬ (1 : Nat) = 0 := by omega
  have o0 := fOk_none
  have oa : fOk (fail none a) := fOk_some (by omega)
  have efa : fail none a = some a := rfl
  obtain ⟨g1, g2, g3⟩ := hfl
  have bA := rE_le (T := T) (show a ≤ n by omega)
  have bA1 := rE_le (T := T) (show a + 1 ≤ n by omega)
  by_cases c1 : T a = 108
  · cases first with
    | true =>
      have hb : b2n true = 1 := rfl
      have oF := rF_ok (T := T) (lo := 5) (hi := 60) o0 (show a + 1 ≤ n by omega) hn
      have bV := rV_in (T := T) (n := n) (lo := 5) (hi := 60) (a := a + 1) (f := none) (by omega)
      have bE := eA_le (T := T) bA1.2
      have oE := eF_ok (T := T) oF bA1.2 hn
      simp (disch := first | assumption | omega) only [w_Reader_readItem_0, w_Reader_readItem_1, w_Reader_readItem_4, w_Reader_readItem_5, w_Reader_readItem_8, w_Reader_readItem_60, w_Reader_readItem_61, w_Reader_readItem_62, w_Reader_readItem_65, w_Reader_readItem_66, w_Reader_readItem_67, w_Reader_readItem_68, w_Reader_readItem_70, w_Reader_readItem_73, w_Reader_readItem_76, w_Reader_readItem_79, w_Reader_readItem_80, w_Reader_readItem_81, w_Reader_readItem_84, w_Reader_readItem_85, w_Reader_readItem_86, w_Reader_readItem_89, w_Reader_readItem_92, w_Reader_readItem_93, w_Reader_readItem_94, w_Reader_readItem_97, w_Reader_readItem_100, w_Reader_readItem_101, w_Reader_readItem_104, w_Reader_readItem_105, w_Reader_readItem_108, w_Reader_readItem_109, w_Reader_readItem_110, w_Reader_readItem_113, w_Reader_readItem_114, w_Reader_readItem_115, w_Reader_readItem_116, w_Reader_readItem_117, w_Reader_readItem_120, w_Reader_readItem_123, w_Reader_readItem_126, w_Reader_readItem_129, w_Reader_readItem_130, w_Reader_readItem_131, w_Reader_readItem_134, w_Reader_readItem_137, w_Reader_readItem_138, w_Reader_readItem_141, w_Reader_readItem_142, w_Reader_readItem_145, w_Reader_readItem_146, w_Reader_readItem_147, w_Reader_readItem_150, w_Reader_readItem_151, w_Reader_readItem_152, w_Reader_readItem_153, w_Reader_readItem_154, w_Reader_readItem_157, w_Reader_readItem_160, w_Reader_readItem_163, w_Reader_readItem_166, w_Reader_readItem_167, w_Reader_readItem_168, w_Reader_readItem_171, w_Reader_readItem_174, w_Reader_readItem_175, w_Reader_readItem_178, w_Reader_readItem_179, w_Reader_readItem_182, w_Reader_readItem_183, w_Reader_readItem_184, w_Reader_readItem_187, w_Reader_readItem_188, w_Reader_readItem_189, w_Reader_readItem_190, w_Reader_readItem_192, w_Reader_readItem_195, w_Reader_readItem_198, w_Reader_readItem_201, w_Reader_readItem_202, w_Reader_readItem_203, w_Reader_readItem_206, w_Reader_readItem_207, w_Reader_readItem_210, w_Reader_readItem_9_108, q_rd_eq, q_nt_0, q_nt_s, q_ld_tab, q_st_tab, q_aa13, q_aa14, q_is_eq, q_wr_eq, q_01_0, q_01_1, q_nz_nI, q_len_tab, psh_some, psh_none, sm_up_at, sm_up_ne, nI_add, nI_lt2, nI_le2, nI_eq2, ls_set0, ls_setS, Nat.reduceAdd, Nat.zero_add, Nat.add_zero, not_true_eq_false, not_false_eq_true, ite_true, ite_false, nI_rem3, nI_div2, nI_sub2, q_max_nI, q_min_nI, rh1, rh2, hT, c1, hb, e_pass1, e_num hT hT2, rh_d, rh_ud, e_end hT hT2]
      refine q _ _ fl _ ⟨?_, oE, bE, bV.2, g1, g2, g3⟩
      unfold itS
      rw [if_pos c1, if_pos rfl]
      exact num1_end (g := fun v => ((v, pa.1.2), pa.2))
    | false =>
      have hb : b2n false = 0 := rfl
      have oF := rF_ok (T := T) (lo := 5) (hi := 60) oa (show a ≤ n by omega) hn
      have bV := rV_in (T := T) (n := n) (lo := 5) (hi := 60) (a := a) (f := fail none a) (by omega)
      have bE := eA_le (T := T) bA.2
      have oE := eF_ok (T := T) oF bA.2 hn
      simp (disch := first | assumption | omega) only [w_Reader_readItem_0, w_Reader_readItem_1, w_Reader_readItem_4, w_Reader_readItem_5, w_Reader_readItem_8, w_Reader_readItem_60, w_Reader_readItem_61, w_Reader_readItem_62, w_Reader_readItem_65, w_Reader_readItem_66, w_Reader_readItem_67, w_Reader_readItem_68, w_Reader_readItem_70, w_Reader_readItem_73, w_Reader_readItem_76, w_Reader_readItem_79, w_Reader_readItem_80, w_Reader_readItem_81, w_Reader_readItem_84, w_Reader_readItem_85, w_Reader_readItem_86, w_Reader_readItem_89, w_Reader_readItem_92, w_Reader_readItem_93, w_Reader_readItem_94, w_Reader_readItem_97, w_Reader_readItem_100, w_Reader_readItem_101, w_Reader_readItem_104, w_Reader_readItem_105, w_Reader_readItem_108, w_Reader_readItem_109, w_Reader_readItem_110, w_Reader_readItem_113, w_Reader_readItem_114, w_Reader_readItem_115, w_Reader_readItem_116, w_Reader_readItem_117, w_Reader_readItem_120, w_Reader_readItem_123, w_Reader_readItem_126, w_Reader_readItem_129, w_Reader_readItem_130, w_Reader_readItem_131, w_Reader_readItem_134, w_Reader_readItem_137, w_Reader_readItem_138, w_Reader_readItem_141, w_Reader_readItem_142, w_Reader_readItem_145, w_Reader_readItem_146, w_Reader_readItem_147, w_Reader_readItem_150, w_Reader_readItem_151, w_Reader_readItem_152, w_Reader_readItem_153, w_Reader_readItem_154, w_Reader_readItem_157, w_Reader_readItem_160, w_Reader_readItem_163, w_Reader_readItem_166, w_Reader_readItem_167, w_Reader_readItem_168, w_Reader_readItem_171, w_Reader_readItem_174, w_Reader_readItem_175, w_Reader_readItem_178, w_Reader_readItem_179, w_Reader_readItem_182, w_Reader_readItem_183, w_Reader_readItem_184, w_Reader_readItem_187, w_Reader_readItem_188, w_Reader_readItem_189, w_Reader_readItem_190, w_Reader_readItem_192, w_Reader_readItem_195, w_Reader_readItem_198, w_Reader_readItem_201, w_Reader_readItem_202, w_Reader_readItem_203, w_Reader_readItem_206, w_Reader_readItem_207, w_Reader_readItem_210, w_Reader_readItem_9_108, q_rd_eq, q_nt_0, q_nt_s, q_ld_tab, q_st_tab, q_aa13, q_aa14, q_is_eq, q_wr_eq, q_01_0, q_01_1, q_nz_nI, q_len_tab, psh_some, psh_none, sm_up_at, sm_up_ne, nI_add, nI_lt2, nI_le2, nI_eq2, ls_set0, ls_setS, Nat.reduceAdd, Nat.zero_add, Nat.add_zero, not_true_eq_false, not_false_eq_true, ite_true, ite_false, nI_rem3, nI_div2, nI_sub2, q_max_nI, q_min_nI, rh1, rh2, hT, c1, hb, e_pass0, e_num hT hT2, rh_d, rh_ud, e_end hT hT2]
      refine q _ _ fl _ ⟨?_, oE, bE, bV.2, g1, g2, g3⟩
      unfold itS
      rw [if_pos c1, if_neg (by decide), efa, rF_some, eF_some]
      rfl
  · by_cases c2 : T a = 119
    · have bA2 := rE_le (T := T) bA1.2
      have bA3 := rE_le (T := T) bA2.2
      have bA4 := rE_le (T := T) bA3.2
      have oF1 := rF_ok (T := T) (lo := 0) (hi := 1) o0 (show a + 1 ≤ n by omega) hn
      have oF2 := rF_ok (T := T) (lo := 0) (hi := 9) oF1 bA1.2 hn
      have oF3 := rF_ok (T := T) (lo := 2) (hi := 9) oF2 bA2.2 hn
      have oF4 := rF_ok (T := T) (lo := 1) (hi := 9) oF3 bA3.2 hn
      have bE := eA_le (T := T) bA4.2
      have oE := eF_ok (T := T) oF4 bA4.2 hn
      have ew := fun K => e_walker (xs := xs) (K := K) (b := fl.1) (p := fl.2.1) (t := fl.2.2) (pa := pa) (tk := tk) hT hT2 hd hn (show a + 1 ≤ n by omega) o0 rfl rfl rfl rfl rfl rfl rfl rfl rfl rfl rfl rfl
      simp (disch := first | assumption | omega) only [w_Reader_readItem_0, w_Reader_readItem_1, w_Reader_readItem_4, w_Reader_readItem_5, w_Reader_readItem_8, w_Reader_readItem_60, w_Reader_readItem_61, w_Reader_readItem_62, w_Reader_readItem_65, w_Reader_readItem_66, w_Reader_readItem_67, w_Reader_readItem_68, w_Reader_readItem_70, w_Reader_readItem_73, w_Reader_readItem_76, w_Reader_readItem_79, w_Reader_readItem_80, w_Reader_readItem_81, w_Reader_readItem_84, w_Reader_readItem_85, w_Reader_readItem_86, w_Reader_readItem_89, w_Reader_readItem_92, w_Reader_readItem_93, w_Reader_readItem_94, w_Reader_readItem_97, w_Reader_readItem_100, w_Reader_readItem_101, w_Reader_readItem_104, w_Reader_readItem_105, w_Reader_readItem_108, w_Reader_readItem_109, w_Reader_readItem_110, w_Reader_readItem_113, w_Reader_readItem_114, w_Reader_readItem_115, w_Reader_readItem_116, w_Reader_readItem_117, w_Reader_readItem_120, w_Reader_readItem_123, w_Reader_readItem_126, w_Reader_readItem_129, w_Reader_readItem_130, w_Reader_readItem_131, w_Reader_readItem_134, w_Reader_readItem_137, w_Reader_readItem_138, w_Reader_readItem_141, w_Reader_readItem_142, w_Reader_readItem_145, w_Reader_readItem_146, w_Reader_readItem_147, w_Reader_readItem_150, w_Reader_readItem_151, w_Reader_readItem_152, w_Reader_readItem_153, w_Reader_readItem_154, w_Reader_readItem_157, w_Reader_readItem_160, w_Reader_readItem_163, w_Reader_readItem_166, w_Reader_readItem_167, w_Reader_readItem_168, w_Reader_readItem_171, w_Reader_readItem_174, w_Reader_readItem_175, w_Reader_readItem_178, w_Reader_readItem_179, w_Reader_readItem_182, w_Reader_readItem_183, w_Reader_readItem_184, w_Reader_readItem_187, w_Reader_readItem_188, w_Reader_readItem_189, w_Reader_readItem_190, w_Reader_readItem_192, w_Reader_readItem_195, w_Reader_readItem_198, w_Reader_readItem_201, w_Reader_readItem_202, w_Reader_readItem_203, w_Reader_readItem_206, w_Reader_readItem_207, w_Reader_readItem_210, w_Reader_readItem_9_119, q_rd_eq, q_nt_0, q_nt_s, q_ld_tab, q_st_tab, q_aa13, q_aa14, q_is_eq, q_wr_eq, q_01_0, q_01_1, q_nz_nI, q_len_tab, psh_some, psh_none, sm_up_at, sm_up_ne, nI_add, nI_lt2, nI_le2, nI_eq2, ls_set0, ls_setS, Nat.reduceAdd, Nat.zero_add, Nat.add_zero, not_true_eq_false, not_false_eq_true, ite_true, ite_false, nI_rem3, nI_div2, nI_sub2, q_max_nI, q_min_nI, rh1, rh2, hT, c2, e_pass1, ew, e_end hT hT2]
      refine q _ _ fl _ ⟨?_, oE, bE, hl, g1, g2, g3⟩
      unfold itS
      rw [if_neg c1, if_pos c2]
      cases h1 : rF T n 0 1 (a + 1) none with
      | some e => rw [num1_s h1, rF_some, rF_some, rF_some, eF_some]; rfl
      | none =>
        rw [num1_n h1]
        cases h2 : rF T n 0 9 (rE T n (a + 1)) none with
        | some e => rw [num1_s h2, rF_some, rF_some, eF_some]; rfl
        | none =>
          rw [num1_n h2]
          cases h3 : rF T n 2 9 (rE T n (rE T n (a + 1))) none with
          | some e => rw [num1_s h3, rF_some, eF_some]; rfl
          | none =>
            rw [num1_n h3]
            exact num1_end (g := fun v => (pa.1, fup pa.2.1 _ _, fup pa.2.2.1 _ _, fup pa.2.2.2 _ v))
    · by_cases c3 : T a = 98
      · by_cases cf : fl.1 = 0
        · have oF := rF_ok (T := T) (lo := 0) (hi := pa.1.1) o0 (show a + 1 ≤ n by omega) hn
          have bE := eA_le (T := T) bA1.2
          have oE := eF_ok (T := T) oF bA1.2 hn
          have cf' : ¬ ¬ fl.1 = 0 := not_not_intro cf
          simp (disch := first | assumption | omega) only [w_Reader_readItem_0, w_Reader_readItem_1, w_Reader_readItem_4, w_Reader_readItem_5, w_Reader_readItem_8, w_Reader_readItem_60, w_Reader_readItem_61, w_Reader_readItem_62, w_Reader_readItem_65, w_Reader_readItem_66, w_Reader_readItem_67, w_Reader_readItem_68, w_Reader_readItem_70, w_Reader_readItem_73, w_Reader_readItem_76, w_Reader_readItem_79, w_Reader_readItem_80, w_Reader_readItem_81, w_Reader_readItem_84, w_Reader_readItem_85, w_Reader_readItem_86, w_Reader_readItem_89, w_Reader_readItem_92, w_Reader_readItem_93, w_Reader_readItem_94, w_Reader_readItem_97, w_Reader_readItem_100, w_Reader_readItem_101, w_Reader_readItem_104, w_Reader_readItem_105, w_Reader_readItem_108, w_Reader_readItem_109, w_Reader_readItem_110, w_Reader_readItem_113, w_Reader_readItem_114, w_Reader_readItem_115, w_Reader_readItem_116, w_Reader_readItem_117, w_Reader_readItem_120, w_Reader_readItem_123, w_Reader_readItem_126, w_Reader_readItem_129, w_Reader_readItem_130, w_Reader_readItem_131, w_Reader_readItem_134, w_Reader_readItem_137, w_Reader_readItem_138, w_Reader_readItem_141, w_Reader_readItem_142, w_Reader_readItem_145, w_Reader_readItem_146, w_Reader_readItem_147, w_Reader_readItem_150, w_Reader_readItem_151, w_Reader_readItem_152, w_Reader_readItem_153, w_Reader_readItem_154, w_Reader_readItem_157, w_Reader_readItem_160, w_Reader_readItem_163, w_Reader_readItem_166, w_Reader_readItem_167, w_Reader_readItem_168, w_Reader_readItem_171, w_Reader_readItem_174, w_Reader_readItem_175, w_Reader_readItem_178, w_Reader_readItem_179, w_Reader_readItem_182, w_Reader_readItem_183, w_Reader_readItem_184, w_Reader_readItem_187, w_Reader_readItem_188, w_Reader_readItem_189, w_Reader_readItem_190, w_Reader_readItem_192, w_Reader_readItem_195, w_Reader_readItem_198, w_Reader_readItem_201, w_Reader_readItem_202, w_Reader_readItem_203, w_Reader_readItem_206, w_Reader_readItem_207, w_Reader_readItem_210, w_Reader_readItem_9_98, q_rd_eq, q_nt_0, q_nt_s, q_ld_tab, q_st_tab, q_aa13, q_aa14, q_is_eq, q_wr_eq, q_01_0, q_01_1, q_nz_nI, q_len_tab, psh_some, psh_none, sm_up_at, sm_up_ne, nI_add, nI_lt2, nI_le2, nI_eq2, ls_set0, ls_setS, Nat.reduceAdd, Nat.zero_add, Nat.add_zero, not_true_eq_false, not_false_eq_true, ite_true, ite_false, nI_rem3, nI_div2, nI_sub2, q_max_nI, q_min_nI, rh1, rh2, hT, c3, cf', e_pass1, e_num hT hT2, rh_d, rh_ud, rh_u1, e_end hT hT2]
          refine q _ _ (1, fl.2) _ ⟨?_, oE, bE, hl, Nat.le_refl _, g2, g3⟩
          unfold itS
          rw [if_neg c1, if_neg c2, if_pos c3, if_pos cf]
          exact num1_end (g := fun v => ((pa.1.1, v, pa.1.2.2), pa.2))
        · have oF := rF_ok (T := T) (lo := 0) (hi := pa.1.1) oa (show a ≤ n by omega) hn
          have bE := eA_le (T := T) bA.2
          have oE := eF_ok (T := T) oF bA.2 hn
          simp (disch := first | assumption | omega) only [w_Reader_readItem_0, w_Reader_readItem_1, w_Reader_readItem_4, w_Reader_readItem_5, w_Reader_readItem_8, w_Reader_readItem_60, w_Reader_readItem_61, w_Reader_readItem_62, w_Reader_readItem_65, w_Reader_readItem_66, w_Reader_readItem_67, w_Reader_readItem_68, w_Reader_readItem_70, w_Reader_readItem_73, w_Reader_readItem_76, w_Reader_readItem_79, w_Reader_readItem_80, w_Reader_readItem_81, w_Reader_readItem_84, w_Reader_readItem_85, w_Reader_readItem_86, w_Reader_readItem_89, w_Reader_readItem_92, w_Reader_readItem_93, w_Reader_readItem_94, w_Reader_readItem_97, w_Reader_readItem_100, w_Reader_readItem_101, w_Reader_readItem_104, w_Reader_readItem_105, w_Reader_readItem_108, w_Reader_readItem_109, w_Reader_readItem_110, w_Reader_readItem_113, w_Reader_readItem_114, w_Reader_readItem_115, w_Reader_readItem_116, w_Reader_readItem_117, w_Reader_readItem_120, w_Reader_readItem_123, w_Reader_readItem_126, w_Reader_readItem_129, w_Reader_readItem_130, w_Reader_readItem_131, w_Reader_readItem_134, w_Reader_readItem_137, w_Reader_readItem_138, w_Reader_readItem_141, w_Reader_readItem_142, w_Reader_readItem_145, w_Reader_readItem_146, w_Reader_readItem_147, w_Reader_readItem_150, w_Reader_readItem_151, w_Reader_readItem_152, w_Reader_readItem_153, w_Reader_readItem_154, w_Reader_readItem_157, w_Reader_readItem_160, w_Reader_readItem_163, w_Reader_readItem_166, w_Reader_readItem_167, w_Reader_readItem_168, w_Reader_readItem_171, w_Reader_readItem_174, w_Reader_readItem_175, w_Reader_readItem_178, w_Reader_readItem_179, w_Reader_readItem_182, w_Reader_readItem_183, w_Reader_readItem_184, w_Reader_readItem_187, w_Reader_readItem_188, w_Reader_readItem_189, w_Reader_readItem_190, w_Reader_readItem_192, w_Reader_readItem_195, w_Reader_readItem_198, w_Reader_readItem_201, w_Reader_readItem_202, w_Reader_readItem_203, w_Reader_readItem_206, w_Reader_readItem_207, w_Reader_readItem_210, w_Reader_readItem_9_98, q_rd_eq, q_nt_0, q_nt_s, q_ld_tab, q_st_tab, q_aa13, q_aa14, q_is_eq, q_wr_eq, q_01_0, q_01_1, q_nz_nI, q_len_tab, psh_some, psh_none, sm_up_at, sm_up_ne, nI_add, nI_lt2, nI_le2, nI_eq2, ls_set0, ls_setS, Nat.reduceAdd, Nat.zero_add, Nat.add_zero, not_true_eq_false, not_false_eq_true, ite_true, ite_false, nI_rem3, nI_div2, nI_sub2, q_max_nI, q_min_nI, rh1, rh2, hT, c3, cf, e_pass0, e_num hT hT2, rh_d, rh_ud, rh_u1, e_end hT hT2]
          refine q _ _ (1, fl.2) _ ⟨?_, oE, bE, hl, Nat.le_refl _, g2, g3⟩
          unfold itS
          rw [if_neg c1, if_neg c2, if_pos c3, if_neg cf, efa, rF_some, eF_some]
          rfl
      · by_cases c4 : T a = 112
        · by_cases cf : fl.2.1 = 0
          · have oF := rF_ok (T := T) (lo := 0) (hi := pa.1.1) o0 (show a + 1 ≤ n by omega) hn
            have bE := eA_le (T := T) bA1.2
            have oE := eF_ok (T := T) oF bA1.2 hn
            have cf' : ¬ ¬ fl.2.1 = 0 := not_not_intro cf
            simp (disch := first | assumption | omega) only [w_Reader_readItem_0, w_Reader_readItem_1, w_Reader_readItem_4, w_Reader_readItem_5, w_Reader_readItem_8, w_Reader_readItem_60, w_Reader_readItem_61, w_Reader_readItem_62, w_Reader_readItem_65, w_Reader_readItem_66, w_Reader_readItem_67, w_Reader_readItem_68, w_Reader_readItem_70, w_Reader_readItem_73, w_Reader_readItem_76, w_Reader_readItem_79, w_Reader_readItem_80, w_Reader_readItem_81, w_Reader_readItem_84, w_Reader_readItem_85, w_Reader_readItem_86, w_Reader_readItem_89, w_Reader_readItem_92, w_Reader_readItem_93, w_Reader_readItem_94, w_Reader_readItem_97, w_Reader_readItem_100, w_Reader_readItem_101, w_Reader_readItem_104, w_Reader_readItem_105, w_Reader_readItem_108, w_Reader_readItem_109, w_Reader_readItem_110, w_Reader_readItem_113, w_Reader_readItem_114, w_Reader_readItem_115, w_Reader_readItem_116, w_Reader_readItem_117, w_Reader_readItem_120, w_Reader_readItem_123, w_Reader_readItem_126, w_Reader_readItem_129, w_Reader_readItem_130, w_Reader_readItem_131, w_Reader_readItem_134, w_Reader_readItem_137, w_Reader_readItem_138, w_Reader_readItem_141, w_Reader_readItem_142, w_Reader_readItem_145, w_Reader_readItem_146, w_Reader_readItem_147, w_Reader_readItem_150, w_Reader_readItem_151, w_Reader_readItem_152, w_Reader_readItem_153, w_Reader_readItem_154, w_Reader_readItem_157, w_Reader_readItem_160, w_Reader_readItem_163, w_Reader_readItem_166, w_Reader_readItem_167, w_Reader_readItem_168, w_Reader_readItem_171, w_Reader_readItem_174, w_Reader_readItem_175, w_Reader_readItem_178, w_Reader_readItem_179, w_Reader_readItem_182, w_Reader_readItem_183, w_Reader_readItem_184, w_Reader_readItem_187, w_Reader_readItem_188, w_Reader_readItem_189, w_Reader_readItem_190, w_Reader_readItem_192, w_Reader_readItem_195, w_Reader_readItem_198, w_Reader_readItem_201, w_Reader_readItem_202, w_Reader_readItem_203, w_Reader_readItem_206, w_Reader_readItem_207, w_Reader_readItem_210, w_Reader_readItem_9_112, q_rd_eq, q_nt_0, q_nt_s, q_ld_tab, q_st_tab, q_aa13, q_aa14, q_is_eq, q_wr_eq, q_01_0, q_01_1, q_nz_nI, q_len_tab, psh_some, psh_none, sm_up_at, sm_up_ne, nI_add, nI_lt2, nI_le2, nI_eq2, ls_set0, ls_setS, Nat.reduceAdd, Nat.zero_add, Nat.add_zero, not_true_eq_false, not_false_eq_true, ite_true, ite_false, nI_rem3, nI_div2, nI_sub2, q_max_nI, q_min_nI, rh1, rh2, hT, c4, cf', e_pass1, e_num hT hT2, rh_d, rh_ud, rh_u1, e_end hT hT2]
            refine q _ _ (fl.1, 1, fl.2.2) _ ⟨?_, oE, bE, hl, g1, Nat.le_refl _, g3⟩
            unfold itS
            rw [if_neg c1, if_neg c2, if_neg c3, if_pos c4, if_pos cf]
            exact num1_end (g := fun v => ((pa.1.1, pa.1.2.1, v, pa.1.2.2.2), pa.2))
          · have oF := rF_ok (T := T) (lo := 0) (hi := pa.1.1) oa (show a ≤ n by omega) hn
            have bE := eA_le (T := T) bA.2
            have oE := eF_ok (T := T) oF bA.2 hn
            simp (disch := first | assumption | omega) only [w_Reader_readItem_0, w_Reader_readItem_1, w_Reader_readItem_4, w_Reader_readItem_5, w_Reader_readItem_8, w_Reader_readItem_60, w_Reader_readItem_61, w_Reader_readItem_62, w_Reader_readItem_65, w_Reader_readItem_66, w_Reader_readItem_67, w_Reader_readItem_68, w_Reader_readItem_70, w_Reader_readItem_73, w_Reader_readItem_76, w_Reader_readItem_79, w_Reader_readItem_80, w_Reader_readItem_81, w_Reader_readItem_84, w_Reader_readItem_85, w_Reader_readItem_86, w_Reader_readItem_89, w_Reader_readItem_92, w_Reader_readItem_93, w_Reader_readItem_94, w_Reader_readItem_97, w_Reader_readItem_100, w_Reader_readItem_101, w_Reader_readItem_104, w_Reader_readItem_105, w_Reader_readItem_108, w_Reader_readItem_109, w_Reader_readItem_110, w_Reader_readItem_113, w_Reader_readItem_114, w_Reader_readItem_115, w_Reader_readItem_116, w_Reader_readItem_117, w_Reader_readItem_120, w_Reader_readItem_123, w_Reader_readItem_126, w_Reader_readItem_129, w_Reader_readItem_130, w_Reader_readItem_131, w_Reader_readItem_134, w_Reader_readItem_137, w_Reader_readItem_138, w_Reader_readItem_141, w_Reader_readItem_142, w_Reader_readItem_145, w_Reader_readItem_146, w_Reader_readItem_147, w_Reader_readItem_150, w_Reader_readItem_151, w_Reader_readItem_152, w_Reader_readItem_153, w_Reader_readItem_154, w_Reader_readItem_157, w_Reader_readItem_160, w_Reader_readItem_163, w_Reader_readItem_166, w_Reader_readItem_167, w_Reader_readItem_168, w_Reader_readItem_171, w_Reader_readItem_174, w_Reader_readItem_175, w_Reader_readItem_178, w_Reader_readItem_179, w_Reader_readItem_182, w_Reader_readItem_183, w_Reader_readItem_184, w_Reader_readItem_187, w_Reader_readItem_188, w_Reader_readItem_189, w_Reader_readItem_190, w_Reader_readItem_192, w_Reader_readItem_195, w_Reader_readItem_198, w_Reader_readItem_201, w_Reader_readItem_202, w_Reader_readItem_203, w_Reader_readItem_206, w_Reader_readItem_207, w_Reader_readItem_210, w_Reader_readItem_9_112, q_rd_eq, q_nt_0, q_nt_s, q_ld_tab, q_st_tab, q_aa13, q_aa14, q_is_eq, q_wr_eq, q_01_0, q_01_1, q_nz_nI, q_len_tab, psh_some, psh_none, sm_up_at, sm_up_ne, nI_add, nI_lt2, nI_le2, nI_eq2, ls_set0, ls_setS, Nat.reduceAdd, Nat.zero_add, Nat.add_zero, not_true_eq_false, not_false_eq_true, ite_true, ite_false, nI_rem3, nI_div2, nI_sub2, q_max_nI, q_min_nI, rh1, rh2, hT, c4, cf, e_pass0, e_num hT hT2, rh_d, rh_ud, rh_u1, e_end hT hT2]
            refine q _ _ (fl.1, 1, fl.2.2) _ ⟨?_, oE, bE, hl, g1, Nat.le_refl _, g3⟩
            unfold itS
            rw [if_neg c1, if_neg c2, if_neg c3, if_pos c4, if_neg cf, efa, rF_some, eF_some]
            rfl
        · by_cases c5 : T a = 116
          · by_cases cf : fl.2.2 = 0
            · have oF := rF_ok (T := T) (lo := 1) (hi := 9) o0 (show a + 1 ≤ n by omega) hn
              have bE := eA_le (T := T) bA1.2
              have oE := eF_ok (T := T) oF bA1.2 hn
              have cf' : ¬ ¬ fl.2.2 = 0 := not_not_intro cf
              simp (disch := first | assumption | omega) only [w_Reader_readItem_0, w_Reader_readItem_1, w_Reader_readItem_4, w_Reader_readItem_5, w_Reader_readItem_8, w_Reader_readItem_60, w_Reader_readItem_61, w_Reader_readItem_62, w_Reader_readItem_65, w_Reader_readItem_66, w_Reader_readItem_67, w_Reader_readItem_68, w_Reader_readItem_70, w_Reader_readItem_73, w_Reader_readItem_76, w_Reader_readItem_79, w_Reader_readItem_80, w_Reader_readItem_81, w_Reader_readItem_84, w_Reader_readItem_85, w_Reader_readItem_86, w_Reader_readItem_89, w_Reader_readItem_92, w_Reader_readItem_93, w_Reader_readItem_94, w_Reader_readItem_97, w_Reader_readItem_100, w_Reader_readItem_101, w_Reader_readItem_104, w_Reader_readItem_105, w_Reader_readItem_108, w_Reader_readItem_109, w_Reader_readItem_110, w_Reader_readItem_113, w_Reader_readItem_114, w_Reader_readItem_115, w_Reader_readItem_116, w_Reader_readItem_117, w_Reader_readItem_120, w_Reader_readItem_123, w_Reader_readItem_126, w_Reader_readItem_129, w_Reader_readItem_130, w_Reader_readItem_131, w_Reader_readItem_134, w_Reader_readItem_137, w_Reader_readItem_138, w_Reader_readItem_141, w_Reader_readItem_142, w_Reader_readItem_145, w_Reader_readItem_146, w_Reader_readItem_147, w_Reader_readItem_150, w_Reader_readItem_151, w_Reader_readItem_152, w_Reader_readItem_153, w_Reader_readItem_154, w_Reader_readItem_157, w_Reader_readItem_160, w_Reader_readItem_163, w_Reader_readItem_166, w_Reader_readItem_167, w_Reader_readItem_168, w_Reader_readItem_171, w_Reader_readItem_174, w_Reader_readItem_175, w_Reader_readItem_178, w_Reader_readItem_179, w_Reader_readItem_182, w_Reader_readItem_183, w_Reader_readItem_184, w_Reader_readItem_187, w_Reader_readItem_188, w_Reader_readItem_189, w_Reader_readItem_190, w_Reader_readItem_192, w_Reader_readItem_195, w_Reader_readItem_198, w_Reader_readItem_201, w_Reader_readItem_202, w_Reader_readItem_203, w_Reader_readItem_206, w_Reader_readItem_207, w_Reader_readItem_210, w_Reader_readItem_9_116, q_rd_eq, q_nt_0, q_nt_s, q_ld_tab, q_st_tab, q_aa13, q_aa14, q_is_eq, q_wr_eq, q_01_0, q_01_1, q_nz_nI, q_len_tab, psh_some, psh_none, sm_up_at, sm_up_ne, nI_add, nI_lt2, nI_le2, nI_eq2, ls_set0, ls_setS, Nat.reduceAdd, Nat.zero_add, Nat.add_zero, not_true_eq_false, not_false_eq_true, ite_true, ite_false, nI_rem3, nI_div2, nI_sub2, q_max_nI, q_min_nI, rh1, rh2, hT, c5, cf', e_pass1, e_num hT hT2, rh_d, rh_ud, rh_u1, e_end hT hT2]
              refine q _ _ (fl.1, fl.2.1, 1) _ ⟨?_, oE, bE, hl, g1, g2, Nat.le_refl _⟩
              unfold itS
              rw [if_neg c1, if_neg c2, if_neg c3, if_neg c4, if_pos c5, if_pos cf]
              exact num1_end (g := fun v => ((pa.1.1, pa.1.2.1, pa.1.2.2.1, v), pa.2))
            · have oF := rF_ok (T := T) (lo := 1) (hi := 9) oa (show a ≤ n by omega) hn
              have bE := eA_le (T := T) bA.2
              have oE := eF_ok (T := T) oF bA.2 hn
              simp (disch := first | assumption | omega) only [w_Reader_readItem_0, w_Reader_readItem_1, w_Reader_readItem_4, w_Reader_readItem_5, w_Reader_readItem_8, w_Reader_readItem_60, w_Reader_readItem_61, w_Reader_readItem_62, w_Reader_readItem_65, w_Reader_readItem_66, w_Reader_readItem_67, w_Reader_readItem_68, w_Reader_readItem_70, w_Reader_readItem_73, w_Reader_readItem_76, w_Reader_readItem_79, w_Reader_readItem_80, w_Reader_readItem_81, w_Reader_readItem_84, w_Reader_readItem_85, w_Reader_readItem_86, w_Reader_readItem_89, w_Reader_readItem_92, w_Reader_readItem_93, w_Reader_readItem_94, w_Reader_readItem_97, w_Reader_readItem_100, w_Reader_readItem_101, w_Reader_readItem_104, w_Reader_readItem_105, w_Reader_readItem_108, w_Reader_readItem_109, w_Reader_readItem_110, w_Reader_readItem_113, w_Reader_readItem_114, w_Reader_readItem_115, w_Reader_readItem_116, w_Reader_readItem_117, w_Reader_readItem_120, w_Reader_readItem_123, w_Reader_readItem_126, w_Reader_readItem_129, w_Reader_readItem_130, w_Reader_readItem_131, w_Reader_readItem_134, w_Reader_readItem_137, w_Reader_readItem_138, w_Reader_readItem_141, w_Reader_readItem_142, w_Reader_readItem_145, w_Reader_readItem_146, w_Reader_readItem_147, w_Reader_readItem_150, w_Reader_readItem_151, w_Reader_readItem_152, w_Reader_readItem_153, w_Reader_readItem_154, w_Reader_readItem_157, w_Reader_readItem_160, w_Reader_readItem_163, w_Reader_readItem_166, w_Reader_readItem_167, w_Reader_readItem_168, w_Reader_readItem_171, w_Reader_readItem_174, w_Reader_readItem_175, w_Reader_readItem_178, w_Reader_readItem_179, w_Reader_readItem_182, w_Reader_readItem_183, w_Reader_readItem_184, w_Reader_readItem_187, w_Reader_readItem_188, w_Reader_readItem_189, w_Reader_readItem_190, w_Reader_readItem_192, w_Reader_readItem_195, w_Reader_readItem_198, w_Reader_readItem_201, w_Reader_readItem_202, w_Reader_readItem_203, w_Reader_readItem_206, w_Reader_readItem_207, w_Reader_readItem_210, w_Reader_readItem_9_116, q_rd_eq, q_nt_0, q_nt_s, q_ld_tab, q_st_tab, q_aa13, q_aa14, q_is_eq, q_wr_eq, q_01_0, q_01_1, q_nz_nI, q_len_tab, psh_some, psh_none, sm_up_at, sm_up_ne, nI_add, nI_lt2, nI_le2, nI_eq2, ls_set0, ls_setS, Nat.reduceAdd, Nat.zero_add, Nat.add_zero, not_true_eq_false, not_false_eq_true, ite_true, ite_false, nI_rem3, nI_div2, nI_sub2, q_max_nI, q_min_nI, rh1, rh2, hT, c5, cf, e_pass0, e_num hT hT2, rh_d, rh_ud, rh_u1, e_end hT hT2]
              refine q _ _ (fl.1, fl.2.1, 1) _ ⟨?_, oE, bE, hl, g1, g2, Nat.le_refl _⟩
              unfold itS
              rw [if_neg c1, if_neg c2, if_neg c3, if_neg c4, if_pos c5, if_neg cf, efa, rF_some, eF_some]
              rfl
          · have e9 := sw_def (T a) h9 c3 c1 c4 c5 c2
            have bE := eA_le (T := T) (show a ≤ n by omega)
            have oE := eF_ok (T := T) oa (show a ≤ n by omega) hn
            simp (disch := first | assumption | omega) only [w_Reader_readItem_0, w_Reader_readItem_1, w_Reader_readItem_4, w_Reader_readItem_5, w_Reader_readItem_8, w_Reader_readItem_60, w_Reader_readItem_61, w_Reader_readItem_62, w_Reader_readItem_65, w_Reader_readItem_66, w_Reader_readItem_67, w_Reader_readItem_68, w_Reader_readItem_70, w_Reader_readItem_73, w_Reader_readItem_76, w_Reader_readItem_79, w_Reader_readItem_80, w_Reader_readItem_81, w_Reader_readItem_84, w_Reader_readItem_85, w_Reader_readItem_86, w_Reader_readItem_89, w_Reader_readItem_92, w_Reader_readItem_93, w_Reader_readItem_94, w_Reader_readItem_97, w_Reader_readItem_100, w_Reader_readItem_101, w_Reader_readItem_104, w_Reader_readItem_105, w_Reader_readItem_108, w_Reader_readItem_109, w_Reader_readItem_110, w_Reader_readItem_113, w_Reader_readItem_114, w_Reader_readItem_115, w_Reader_readItem_116, w_Reader_readItem_117, w_Reader_readItem_120, w_Reader_readItem_123, w_Reader_readItem_126, w_Reader_readItem_129, w_Reader_readItem_130, w_Reader_readItem_131, w_Reader_readItem_134, w_Reader_readItem_137, w_Reader_readItem_138, w_Reader_readItem_141, w_Reader_readItem_142, w_Reader_readItem_145, w_Reader_readItem_146, w_Reader_readItem_147, w_Reader_readItem_150, w_Reader_readItem_151, w_Reader_readItem_152, w_Reader_readItem_153, w_Reader_readItem_154, w_Reader_readItem_157, w_Reader_readItem_160, w_Reader_readItem_163, w_Reader_readItem_166, w_Reader_readItem_167, w_Reader_readItem_168, w_Reader_readItem_171, w_Reader_readItem_174, w_Reader_readItem_175, w_Reader_readItem_178, w_Reader_readItem_179, w_Reader_readItem_182, w_Reader_readItem_183, w_Reader_readItem_184, w_Reader_readItem_187, w_Reader_readItem_188, w_Reader_readItem_189, w_Reader_readItem_190, w_Reader_readItem_192, w_Reader_readItem_195, w_Reader_readItem_198, w_Reader_readItem_201, w_Reader_readItem_202, w_Reader_readItem_203, w_Reader_readItem_206, w_Reader_readItem_207, w_Reader_readItem_210, w_Reader_readItem_9_d e9, q_rd_eq, q_nt_0, q_nt_s, q_ld_tab, q_st_tab, q_aa13, q_aa14, q_is_eq, q_wr_eq, q_01_0, q_01_1, q_nz_nI, q_len_tab, psh_some, psh_none, sm_up_at, sm_up_ne, nI_add, nI_lt2, nI_le2, nI_eq2, ls_set0, ls_setS, Nat.reduceAdd, Nat.zero_add, Nat.add_zero, not_true_eq_false, not_false_eq_true, ite_true, ite_false, nI_rem3, nI_div2, nI_sub2, q_max_nI, q_min_nI, rh1, rh2, hT, e_pass0, e_end hT hT2]
            refine q _ _ fl _ ⟨?_, oE, bE, hl, g1, g2, g3⟩
            unfold itS
            rw [if_neg c1, if_neg c2, if_neg c3, if_neg c4, if_neg c5, efa, eF_some]
            rfl
end ITM
