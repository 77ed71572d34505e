/-! both sides: the calls that do something -/
section OPD
variable {h : sm_Hp} {s : CS} {u v w t : Int32}
theorem o_type (B : Bt h s) : Opc m_TwoPrints_type m_Model_type [.ref 0, .int u] [.ref 98, .int u] h := by
  intro xs K q
  have B' := B
  obtain ⟨j, m, I, J, R, ok, hh⟩ := B
  by_cases c : inr u 256
  · obtain ⟨k, hk, rfl⟩ := c
    have e1 : m.1.2.1 = s.1.2 := R.1.1
    by_cases c2 : s.1.2 = 120
    · rw [c_typeF I hk c2, m_typeF J hk (by omega)]
      exact q _ _ s B'
    · have h120 := ok.1.2
      refine C_type I hk (by omega) (fun h1 j1 I1 f1 => ?_)
      refine M_type (J.frC f1) hk (by omega) (fun h2 J2 f2 => ?_)
      rw [e1]
      refine q _ h2 (sType s k) ⟨j1, _, I1.frM f2, J2, ?_, ?_, by rw [f2.2, f1.2, hh]⟩
      · refine ⟨⟨by show m.1.2.1 + 1 = s.1.2 + 1; rw [e1], fun i hi => ?_⟩, R.2⟩
        show (if i = m.1.2.1 then k else m.2.2.1.1 i) = (if i = s.1.2 then k else s.1.1 i)
        rw [e1, R.1.2 i hi]
      · refine ⟨⟨fun i => ?_, by show s.1.2 + 1 ≤ 120; omega⟩, ok.2⟩
        show (if i = s.1.2 then k else s.1.1 i) < 256
        split
        · exact hk
        · exact ok.1.1 i
  · rw [c_typeX c, m_typeX J c]
    exact q _ _ s B'
theorem o_clear (B : Bt h s) : Opc m_TwoPrints_clear m_Model_clear [.ref 0, .null] [.ref 98, .null] h := by
  intro xs K q
  obtain ⟨j, m, I, J, R, ok, hh⟩ := B
  have e1 : m.1.2.1 = s.1.2 := R.1.1
  refine C_clear I (fun h1 j1 I1 f1 => ?_)
  refine M_clear (J.frC f1) (fun h2 J2 f2 => ?_)
  rw [e1]
  exact q _ h2 (sClear s) ⟨j1, _, I1.frM f2, J2, ⟨⟨rfl, R.1.2⟩, R.2⟩, ⟨⟨ok.1.1, Nat.zero_le _⟩, ok.2⟩, by rw [f2.2, f1.2, hh]⟩
theorem o_walks (B : Bt h s) : Opc m_TwoPrints_walks m_Model_walks [.ref 0, .int v, .int u, .null, .null] [.ref 98, .int v, .int u, .null, .null] h := by
  intro xs K q
  have B' := B
  obtain ⟨j, m, I, J, R, ok, hh⟩ := B
  by_cases c : inr v 2 ∧ inr u 2
  · obtain ⟨⟨k, hk, rfl⟩, ⟨l, hl, rfl⟩⟩ := c
    have h9 := ok.2.2.1.2.2.2.1 k
    by_cases c2 : s.2.2.1.2.2.1 k = 999
    · rw [c_walksS I hk hl c2, m_walksS J hk hl (by rw [R.W hk]; exact c2)]
      exact q _ _ s B'
    · refine C_walks I ok hk hl (by omega) (fun h1 j1 I1 f1 => ?_)
      refine M_walks (J.frC f1) (R.2.1.ok ok.2.1) (R.sok ok) (by rw [R.um]; exact ok.2.2.2.1.2.1) hk hl (by rw [R.W hk]; exact c2) (fun h2 J2 f2 => ?_)
      obtain ⟨w1, w2, w3, -, -⟩ := ok.2.1.2.2.2.2.2.2 k hk
      obtain ⟨q1, q2, -⟩ := R.2.1.2.2.2.2 k hk
      have ea : cnt (fun i => (trk s.2.1 (k + 2 * l)).testBit i) 64 = nT (m.2.2.1.2.1 0) (m.2.2.1.2.2.1 k) (m.2.2.1.2.2.2.1 k) l 61 0 := by
        rw [q1, q2, R.len]
        unfold trk
        rw [show (k + 2 * l) % 2 = k by omega, show (k + 2 * l) / 2 = l by omega]
        exact trkN_cnt ok.2.1.2.1 w2 (by omega)
      rw [ea]
      refine q _ h2 (sWalk s k l) ⟨j1, _, I1.frM f2, J2, rel_chg R ok (sv_walk R ok hk hl), ?_, by rw [f2.2, f1.2, hh]⟩
      exact ok_set (ok_rem ok) (wk_ok ok.2.2.1 (trk_lt ok.2.1 (by omega)) (by omega))
  · have hb := Classical.not_and_iff_not_or_not.mp c
    rw [c_walksX hb, m_walksX J hb]
    exact q _ _ s B'
theorem o_gives (B : Bt h s) : Opc m_TwoPrints_gives m_Model_gives [.ref 0, .int v, .int u, .null] [.ref 98, .int v, .int u] h := by
  intro xs K q
  have B' := B
  obtain ⟨j, m, I, J, R, ok, hh⟩ := B
  have hl : m.2.2.1.2.1 0 ≤ 60 := by rw [R.len]; exact ok.2.1.2.1
  have hl2 := ok.2.1.2.1
  by_cases c : inr v 2 ∧ inr u (s.2.1.1.1 + 1)
  · obtain ⟨⟨k, hk, rfl⟩, ⟨x, hx, rfl⟩⟩ := c
    have hD : m.2.2.2.1.1 (61 * (1 - k) + x) = s.2.2.1.1 (1 - k) x := R.D (by omega) (by omega)
    have hG : m.2.2.2.1.1 (122 + 61 * (1 - k) + x) = bitI (s.2.2.1.2.1 (1 - k)) x := R.G (by omega) (by omega)
    have hxm : x ≤ m.2.2.1.2.1 0 := by rw [R.len]; omega
    by_cases c2 : s.2.2.1.1 (1 - k) x = 0 ∨ (s.2.2.1.2.1 (1 - k)).testBit x = true
    · rw [c_givesS I ok hk (by omega) c2, m_givesS J (R.sok ok) hl hk hxm (by
        rw [hD, hG]
        exact c2.imp id (fun e => by unfold bitI; rw [e]; rfl))]
      exact q _ _ s B'
    · have ⟨n1, n2⟩ := not_or.mp c2
      have n2' : (s.2.2.1.2.1 (1 - k)).testBit x = false := by
        cases e : (s.2.2.1.2.1 (1 - k)).testBit x
        · rfl
        · exact absurd e n2
      refine C_gives I ok hk (by omega) n1 n2' (fun h1 j1 I1 f1 => ?_)
      refine M_gives (J.frC f1) (R.sok ok) hl (by rw [R.um]; exact ok.2.2.2.1.2.1) hk hxm (by rw [hD]; omega) (by rw [hG]; unfold bitI; rw [n2']; decide) (fun h2 J2 f2 => ?_)
      have eS := sv_gv (P := s.2.2.1) (k := 1 - k) (x := x) (by omega) (by omega) R.2.2.1
      have hP := gv_ok ok.2.2.1 (k := 1 - k) (x := x) (by omega)
      have ea : cnt (fun i => (s.2.2.1.2.1 (1 - k) ||| 2 ^ x).testBit i) 64 = sumTo (fun y => fup m.2.2.2.1.1 (122 + 61 * (1 - k) + x) 1 (122 + 61 * (1 - k) + y)) (m.2.2.1.2.1 0 + 1) := by
        rw [R.len, gifts_of (P := giveP s.2.2.1 (1 - k) x) hl2 (k := 1 - k) (by omega) (hP.2.2.1 (1 - k)) eS]
        show _ = cnt (fun i => (if 1 - k = 1 - k then s.2.2.1.2.1 (1 - k) ||| 2 ^ x else s.2.2.1.2.1 (1 - k)).testBit i) 64
        rw [if_pos rfl]
      rw [ea]
      exact q _ h2 (sGive s k x) ⟨j1, _, I1.frM f2, J2, rel_chg R ok eS, ok_set (ok_rem ok) hP, by rw [f2.2, f1.2, hh]⟩
  · have hb := Classical.not_and_iff_not_or_not.mp c
    rw [c_givesX I ok hb, m_givesX J hl (hb.imp id (hbR R))]
    exact q _ _ s B'
theorem o_rains (B : Bt h s) : Opc m_TwoPrints_rains m_Model_rains [.ref 0, .int u] [.ref 98, .int u, .null] h := by
  intro xs K q
  have B' := B
  obtain ⟨j, m, I, J, R, ok, hh⟩ := B
  have hl : m.2.2.1.2.1 0 ≤ 60 := by rw [R.len]; exact ok.2.1.2.1
  by_cases c : ¬ inr u 10 ∨ u = nI 0
  · rw [c_rainsX c, m_rainsX J c]
    exact q _ _ s B'
  · have ⟨n1, n2⟩ := not_or.mp c
    obtain ⟨n, hn, rfl⟩ := Classical.not_not.mp n1
    have h0 : 1 ≤ n := by
      apply Classical.byContradiction
      intro z
      exact n2 (by rw [show n = 0 by omega])
    refine C_rains I ok h0 (by omega) (fun h1 j1 I1 f1 => ?_)
    refine M_rains (J.frC f1) (R.sok ok) hl (by rw [R.um]; exact ok.2.2.2.1.2.1) h0 (by omega) (fun h2 J2 f2 => ?_)
    have eS := sv_rn (n := n) R.2.2.1
    have hP := rn_ok ok.2.2.1 n
    rw [R.len, bothF_of ok.2.1.2.1 hP eS]
    exact q _ h2 (sRain s n) ⟨j1, _, I1.frM f2, J2, rel_chg R ok eS, ok_set (ok_rem ok) hP, by rw [f2.2, f1.2, hh]⟩
theorem o_snows (B : Bt h s) : Opc m_TwoPrints_snows m_Model_snows [.ref 0, .null] [.ref 98, .null, .null] h := by
  intro xs K q
  obtain ⟨j, m, I, J, R, ok, hh⟩ := B
  have hl : m.2.2.1.2.1 0 ≤ 60 := by rw [R.len]; exact ok.2.1.2.1
  refine C_snows I ok (fun h1 j1 I1 f1 => ?_)
  refine M_snows (J.frC f1) (R.sok ok) hl (by rw [R.um]; exact ok.2.2.2.1.2.1) (fun h2 J2 f2 => ?_)
  rw [R.len, bothF_of ok.2.1.2.1 ok.2.2.1 R.2.2.1]
  exact q _ h2 (sSnow s) ⟨j1, _, I1.frM f2, J2, rel_chg R ok (sv_sn R.2.2.1), ok_set (ok_rem ok) (sn_ok ok.2.2.1), by rw [f2.2, f1.2, hh]⟩
theorem o_cows (B : Bt h s) : Opc m_TwoPrints_cows m_Model_cows [.ref 0, .int u, .null, .null, .null] [.ref 98, .int u, .null, .null, .null] h := by
  intro xs K q
  have B' := B
  obtain ⟨j, m, I, J, R, ok, hh⟩ := B
  have hl : m.2.2.1.2.1 0 ≤ 60 := by rw [R.len]; exact ok.2.1.2.1
  have hl2 := ok.2.1.2.1
  by_cases c : inr u (s.2.1.1.1 + 1)
  · obtain ⟨x, hx, rfl⟩ := c
    refine C_cows I ok (by omega) (fun h1 j1 I1 f1 => ?_)
    refine M_cows (J.frC f1) (R.sok ok) hl (by rw [R.um]; exact ok.2.2.2.1.2.1) (by rw [R.len]; omega) (fun h2 J2 f2 => ?_)
    have en : min 3 (m.2.2.1.2.1 0 + 1 - x) = nCow s x := by rw [R.len]; rfl
    have hn : x + nCow s x ≤ 61 := by unfold nCow; omega
    have eS := sv_cow (P := s.2.2.1) (f := m.2.2.2.1.1) (x := x) R.2.2.1 (nCow s x) hn
    have ec := cow_n (P := s.2.2.1) (f := m.2.2.2.1.1) (x := x) R.2.2.1 (nCow s x) hn
    rw [en] at J2 ⊢
    rw [show nPr s.2.2.1 0 0 + nPr s.2.2.1 1 0 - (nPr (cowP s.2.2.1 x (nCow s x)) 0 0 + nPr (cowP s.2.2.1 x (nCow s x)) 1 0) = cowN m.2.2.2.1.1 x (nCow s x) by omega]
    exact q _ h2 (sCow s x) ⟨j1, _, I1.frM f2, J2, rel_chg R ok eS, ok_set (ok_rem ok) (cow_ok ok.2.2.1 x _), by rw [f2.2, f1.2, hh]⟩
  · rw [c_cowsX I ok c, m_cowsX J hl (hbR R c)]
    exact q _ _ s B'
theorem o_fills (B : Bt h s) : Opc m_TwoPrints_fills m_Model_fills [.ref 0, .int v, .int u, .null] [.ref 98, .int v, .int u, .null] h := by
  intro xs K q
  have B' := B
  obtain ⟨j, m, I, J, R, ok, hh⟩ := B
  have hl : m.2.2.1.2.1 0 ≤ 60 := by rw [R.len]; exact ok.2.1.2.1
  have hl2 := ok.2.1.2.1
  by_cases c : inr v 2 ∧ inr u (s.2.1.1.1 + 1)
  · obtain ⟨⟨k, hk, rfl⟩, ⟨x, hx, rfl⟩⟩ := c
    have hD : m.2.2.2.1.1 (61 * k + x) = s.2.2.1.1 k x := R.D hk (by omega)
    have hxm : x ≤ m.2.2.1.2.1 0 := by rw [R.len]; omega
    by_cases c2 : s.2.2.1.1 k x = 0
    · rw [c_fillsS I ok hk (by omega) c2, m_fillsS J (R.sok ok) hl hk hxm (by rw [hD]; exact c2)]
      exact q _ _ s B'
    · refine C_fills I ok hk (by omega) c2 (fun h1 j1 I1 f1 => ?_)
      refine M_fills (J.frC f1) (R.sok ok) hl (by rw [R.um]; exact ok.2.2.2.1.2.1) hk hxm (by rw [hD]; omega) (fun h2 J2 f2 => ?_)
      rw [hD]
      exact q _ h2 (sFill s k x) ⟨j1, _, I1.frM f2, J2, rel_chg R ok (sv_rem hk (by omega) R.2.2.1), ok_set (ok_rem ok) (rem_ok ok.2.2.1 k x), by rw [f2.2, f1.2, hh]⟩
  · have hb := Classical.not_and_iff_not_or_not.mp c
    rw [c_fillsX I ok hb, m_fillsX J hl (hb.imp id (hbR R))]
    exact q _ _ s B'
theorem o_undo (B : Bt h s) : Opc m_TwoPrints_undo m_Model_undo [.ref 0] [.ref 98, .null] h := by
  intro xs K q
  have B' := B
  obtain ⟨j, m, I, J, R, ok, hh⟩ := B
  have eu : m.1.2.2.1 = s.2.2.2.1.2.2 := R.um
  have o4 := ok.2.2.2.1.1
  have o5 := ok.2.2.2.1.2.1
  by_cases c : s.2.2.2.1.2.2 = 0
  · rw [c_undoS I c, m_undoS J (by omega)]
    exact q _ _ s B'
  · refine C_undo I ok c (fun h1 j1 I1 f1 => ?_)
    refine M_undo (J.frC f1) (by omega) (by omega) (fun h2 J2 f2 => ?_)
    rw [eu] at J2 ⊢
    have ix : (s.2.2.2.1.2.1 + 8 - s.2.2.2.1.2.2 + (s.2.2.2.1.2.2 - 1)) % 8 = (s.2.2.2.1.2.1 + 7) % 8 := by omega
    have eS : ∀ i, i < 248 → cpF m.2.2.2.1.1 m.2.2.2.1.2.2.1 0 (248 * (s.2.2.2.1.2.2 - 1)) 248 i = sv (s.2.2.2.1.1 ((s.2.2.2.1.2.1 + 7) % 8)) i := by
      intro i hi
      have := R.2.2.2.1.2 (s.2.2.2.1.2.2 - 1) (by omega) i hi
      rw [ix] at this
      rw [cpF_in (by omega) (by omega), ← this]
      rfl
    have hi2 : ∀ i, i < s.2.2.2.1.2.2 - 1 → ((s.2.2.2.1.2.1 + 7) % 8 + 8 - (s.2.2.2.1.2.2 - 1) + i) % 8 = (s.2.2.2.1.2.1 + 8 - s.2.2.2.1.2.2 + i) % 8 := fun i hi => by omega
    refine q _ h2 (sUndo s) ⟨j1, _, I1.frM f2, J2, ⟨R.1, R.2.1, eS, ⟨rfl, fun i hi p hp => ?_⟩, R.2.2.2.2⟩, ⟨ok.1, ok.2.1, ?_, ⟨?_, ?_, fun i hi => ?_⟩, ok.2.2.2.2⟩, by rw [f2.2, f1.2, hh]⟩
    · have hi3 : i < s.2.2.2.1.2.2 - 1 := hi
      show m.2.2.2.1.2.2.1 (248 * i + p) = sv (s.2.2.2.1.1 (((s.2.2.2.1.2.1 + 7) % 8 + 8 - (s.2.2.2.1.2.2 - 1) + i) % 8)) p
      rw [hi2 i hi3]
      exact R.2.2.2.1.2 i (by omega) p hp
    · have := ok.2.2.2.1.2.2 (s.2.2.2.1.2.2 - 1) (by omega)
      rw [ix] at this
      exact this
    · show (s.2.2.2.1.2.1 + 7) % 8 < 8
      omega
    · show s.2.2.2.1.2.2 - 1 ≤ 8
      omega
    · have hi3 : i < s.2.2.2.1.2.2 - 1 := hi
      show PrOk s.2.1.1.1 (s.2.2.2.1.1 (((s.2.2.2.1.2.1 + 7) % 8 + 8 - (s.2.2.2.1.2.2 - 1) + i) % 8))
      rw [hi2 i hi3]
      exact ok.2.2.2.1.2.2 i (by omega)
theorem o_finds (B : Bt h s) : Opc m_TwoPrints_finds m_Model_finds [.ref 0, .int u] [.ref 98, .int u] h := by
  intro xs K q
  have B' := B
  obtain ⟨j, m, I, J, R, ok, hh⟩ := B
  have hl : m.2.2.1.2.1 0 ≤ 60 := by rw [R.len]; exact ok.2.1.2.1
  have ef : m.1.2.2.2 = s.2.2.2.2.2.1.2 := R.2.2.2.2.2.1.1
  by_cases c : inr u (s.2.1.1.1 + 1)
  · obtain ⟨x, hx, rfl⟩ := c
    have hxm : x ≤ m.2.2.1.2.1 0 := by rw [R.len]; omega
    have o6 := ok.2.2.2.2.2.2
    by_cases c2 : s.2.2.2.2.2.1.2 = 6
    · rw [c_findsF I ok (by omega) c2, m_findsF J hl hxm (by omega)]
      exact q _ _ s B'
    · refine C_finds I ok (by omega) (by omega) (fun h1 j1 I1 f1 => ?_)
      refine M_finds (J.frC f1) hl hxm (by omega) (fun h2 J2 f2 => ?_)
      rw [ef] at J2 ⊢
      refine q _ h2 (sFind s x) ⟨j1, _, I1.frM f2, J2, ⟨R.1, R.2.1, R.2.2.1, R.2.2.2.1, R.2.2.2.2.1, ⟨rfl, fun e he => ?_, fun y => ?_⟩, R.2.2.2.2.2.2⟩, ⟨ok.1, ok.2.1, ok.2.2.1, ok.2.2.2.1, ok.2.2.2.2.1, ?_, ?_⟩, by rw [f2.2, f1.2, hh]⟩
      · have he2 : e < s.2.2.2.2.2.1.2 + 1 := he
        show (if e = s.2.2.2.2.2.1.2 then x else m.2.2.2.1.2.2.2 e) ≤ s.2.1.1.1
        by_cases z : e = s.2.2.2.2.2.1.2
        · rw [if_pos z]; omega
        · rw [if_neg z]; exact R.2.2.2.2.2.1.2.1 e (by omega)
      · show (s.2.2.2.2.2.1.1 ||| 2 ^ x).testBit y = true ↔ ∃ e, e < s.2.2.2.2.2.1.2 + 1 ∧ (if e = s.2.2.2.2.2.1.2 then x else m.2.2.2.1.2.2.2 e) = y
        rw [Nat.testBit_or, Bool.or_eq_true, R.2.2.2.2.2.1.2.2 y, pow_bit, decide_eq_true_eq]
        constructor
        · rintro (⟨e, he, ey⟩ | ey)
          · exact ⟨e, by omega, by rw [if_neg (by omega)]; exact ey⟩
          · exact ⟨s.2.2.2.2.2.1.2, by omega, by rw [if_pos rfl]; exact ey⟩
        · rintro ⟨e, he, ey⟩
          by_cases z : e = s.2.2.2.2.2.1.2
          · rw [if_pos z] at ey; exact Or.inr ey
          · rw [if_neg z] at ey; exact Or.inl ⟨e, by omega, ey⟩
      · show s.2.2.2.2.2.1.1 ||| 2 ^ x < 2 ^ (s.2.1.1.1 + 1)
        exact or_lt ok.2.2.2.2.2.1 (Nat.pow_lt_pow_right (by decide) (by omega))
      · show s.2.2.2.2.2.1.2 + 1 ≤ 6
        omega
  · rw [c_findsX I ok c, m_findsX J hl (hbR R c)]
    exact q _ _ s B'
theorem o_forget (B : Bt h s) : Opc m_TwoPrints_forget m_Model_forget [.ref 0, .null] [.ref 98, .null] h := by
  intro xs K q
  obtain ⟨j, m, I, J, R, ok, hh⟩ := B
  have ef : m.1.2.2.2 = s.2.2.2.2.2.1.2 := R.2.2.2.2.2.1.1
  refine C_forget I (fun h1 j1 I1 f1 => ?_)
  refine M_forget (J.frC f1) (fun h2 J2 f2 => ?_)
  rw [ef]
  refine q _ h2 (sForget s) ⟨j1, _, I1.frM f2, J2, ⟨R.1, R.2.1, R.2.2.1, R.2.2.2.1, R.2.2.2.2.1, ⟨rfl, fun e he => absurd he (Nat.not_lt_zero _), fun y => ?_⟩, R.2.2.2.2.2.2⟩, ⟨ok.1, ok.2.1, ok.2.2.1, ok.2.2.2.1, ok.2.2.2.2.1, Nat.two_pow_pos _, Nat.zero_le _⟩, by rw [f2.2, f1.2, hh]⟩
  show (0 : Nat).testBit y = true ↔ ∃ e, e < 0 ∧ m.2.2.2.1.2.2.2 e = y
  rw [Nat.zero_testBit]
  exact ⟨fun z => absurd z (by decide), fun ⟨e, he, _⟩ => absurd he (Nat.not_lt_zero _)⟩
theorem o_rate (B : Bt h s) : Opc m_TwoPrints_rate m_Model_rate [.ref 0, .int v, .int u] [.ref 98, .int v, .int u, .null, .null, .null] h := by
  intro xs K q
  have B' := B
  obtain ⟨j, m, I, J, R, ok, hh⟩ := B
  have hl : m.2.2.1.2.1 0 ≤ 60 := by rw [R.len]; exact ok.2.1.2.1
  have hl2 := ok.2.1.2.1
  by_cases c : inr v 6 ∧ inr u (s.2.1.1.1 + 1)
  · obtain ⟨⟨n, hn, rfl⟩, ⟨x, hx, rfl⟩⟩ := c
    refine C_rate I ok hn (by omega) (fun h1 j1 I1 f1 => ?_)
    refine M_rate (J.frC f1) (R.2.1.ok ok.2.1) hn (by rw [R.len]; omega) (fun h2 J2 f2 => ?_)
    have d0 : m.2.2.2.1.1 x = s.2.2.1.1 0 x := by
      have := R.D (k := 0) (x := x) (by omega) (by omega)
      rw [Nat.mul_zero, Nat.zero_add] at this
      exact this
    have d1 : m.2.2.2.1.1 (61 + x) = s.2.2.1.1 1 x := R.D (k := 1) (x := x) (by omega) (by omega)
    have g0 : m.2.2.2.1.1 244 = s.2.2.1.2.2.1 0 := R.W (k := 0) (by omega)
    have g1 : m.2.2.2.1.1 245 = s.2.2.1.2.2.1 1 := R.W (k := 1) (by omega)
    have e : mRate m x n = rateI s x n := by
      have hc : n = 0 ∨ n = 1 ∨ n = 2 ∨ n = 3 ∨ n = 4 ∨ n = 5 := by omega
      rcases hc with rfl | rfl | rfl | rfl | rfl | rfl
      · show nI (m.2.2.2.1.1 x) = nI (s.2.2.1.1 0 x)
        rw [d0]
      · show nI (m.2.2.2.1.1 x + m.2.2.2.1.1 (61 + x)) = nI (s.2.2.1.1 0 x + s.2.2.1.1 1 x)
        rw [d0, d1]
      · show nI (m.2.2.2.1.1 x) - nI x = nI (s.2.2.1.1 0 x) - nI x
        rw [d0]
      · show nI (2 * (m.2.2.2.1.1 x + m.2.2.2.1.1 (61 + x))) = nI (2 * (s.2.2.1.1 0 x + s.2.2.1.1 1 x))
        rw [d0, d1]
      · show nI (m.2.2.2.1.1 x) - nI x + nI (cnt (fun i => (twN (2 ^ x) (trk (mpa m)) 4).testBit i) 6) = nI (s.2.2.1.1 0 x) - nI x + nI (cnt (fun i => (twN (2 ^ x) (trk s.2.1) 4).testBit i) 6)
        rw [d0, R.2.1.tw]
      · show nI (m.2.2.2.1.1 x + m.2.2.2.1.1 244 + m.2.2.2.1.1 245) = nI (s.2.2.1.1 0 x + s.2.2.1.2.2.1 0 + s.2.2.1.2.2.1 1)
        rw [d0, g0, g1]
    have et : m.1.1 + rateT n = s.2.2.2.2.2.2 + rateT n := by rw [R.2.2.2.2.2.2]
    rw [e]
    exact q _ h2 (sTr s (s.2.2.2.2.2.2 + rateT n)) ⟨j1, _, I1.frM f2, J2, ⟨R.1, R.2.1, R.2.2.1, R.2.2.2.1, R.2.2.2.2.1, R.2.2.2.2.2.1, et⟩, ok, by rw [f2.2, f1.2, hh]⟩
  · have hb := Classical.not_and_iff_not_or_not.mp c
    rw [c_rateX I ok hb, m_rateX J hl (hb.imp id (hbR R))]
    exact q _ _ s B'
theorem o_keep (B : Bt h s) : Opc m_TwoPrints_keep m_Model_keep [.ref 0, .int u] [.ref 98, .int u, .null] h := by
  intro xs K q
  have B' := B
  obtain ⟨j, m, I, J, R, ok, hh⟩ := B
  have hl : m.2.2.1.2.1 0 ≤ 60 := by rw [R.len]; exact ok.2.1.2.1
  by_cases c : inr u 2
  · obtain ⟨k, hk, rfl⟩ := c
    refine C_keep I ok hk (fun h1 j1 I1 f1 => ?_)
    refine M_keep (J.frC f1) (R.sok ok) hl hk (fun h2 J2 f2 => ?_)
    rw [R.len, bothF_of ok.2.1.2.1 ok.2.2.1 R.2.2.1]
    refine q _ h2 (sKeep s k) ⟨j1, _, I1.frM f2, J2, ⟨R.1, R.2.1, R.2.2.1, R.2.2.2.1, fun i hi => ⟨?_, fun hb p hp => ?_⟩, R.2.2.2.2.2⟩, ⟨ok.1, ok.2.1, ok.2.2.1, ok.2.2.2.1, fun i hi hb => ?_, ok.2.2.2.2.2⟩, by rw [f2.2, f1.2, hh]⟩
    · show (if i = k then true else m.2.2.2.2.1 i) = (if i = k then true else s.2.2.2.2.1.2 i)
      rw [(R.2.2.2.2.1 i hi).1]
    · show cpF m.2.2.2.1.2.1 m.2.2.2.1.1 (248 * k) 0 248 (248 * i + p) = sv (if i = k then s.2.2.1 else s.2.2.2.2.1.1 i) p
      have hb2 : (if i = k then true else s.2.2.2.2.1.2 i) = true := hb
      by_cases z : i = k
      · rw [if_pos z, z, cpF_in (by omega) (by omega), ← R.2.2.1 p hp]
        exact congrArg m.2.2.2.1.1 (by omega)
      · rw [if_neg z] at hb2 ⊢
        rw [cpF_out (by omega)]
        exact (R.2.2.2.2.1 i hi).2 hb2 p hp
    · show PrOk s.2.1.1.1 (if i = k then s.2.2.1 else s.2.2.2.2.1.1 i)
      have hb2 : (if i = k then true else s.2.2.2.2.1.2 i) = true := hb
      by_cases z : i = k
      · rw [if_pos z]; exact ok.2.2.1
      · rw [if_neg z] at hb2 ⊢
        exact ok.2.2.2.2.1 i hi hb2
  · rw [c_keepX c, m_keepX J c]
    exact q _ _ s B'
theorem o_back (B : Bt h s) : Opc m_TwoPrints_back m_Model_back [.ref 0, .int u] [.ref 98, .int u, .null] h := by
  intro xs K q
  have B' := B
  obtain ⟨j, m, I, J, R, ok, hh⟩ := B
  have hl : m.2.2.1.2.1 0 ≤ 60 := by rw [R.len]; exact ok.2.1.2.1
  by_cases c : inr u 2
  · obtain ⟨k, hk, rfl⟩ := c
    obtain ⟨k1, k2⟩ := R.2.2.2.2.1 k hk
    cases ck : s.2.2.2.2.1.2 k with
    | false =>
      rw [c_backS I hk ck, m_backS J hk (by rw [k1]; exact ck)]
      exact q _ _ s B'
    | true =>
      have hP := ok.2.2.2.2.1 k hk ck
      have eS : ∀ i, i < 248 → cpF m.2.2.2.1.1 m.2.2.2.1.2.1 0 (248 * k) 248 i = sv (s.2.2.2.2.1.1 k) i := by
        intro i hi
        rw [cpF_in (by omega) (by omega), ← k2 ck i hi]
        rfl
      refine C_back I ok hk ck (fun h1 j1 I1 f1 => ?_)
      refine M_back (J.frC f1) hl hk (fun i hi => by rw [eS i hi]; exact sv_le hP) (by rw [k1]; exact ck) (fun h2 J2 f2 => ?_)
      rw [R.len, bothF_of ok.2.1.2.1 hP eS]
      exact q _ h2 (sBack s k) ⟨j1, _, I1.frM f2, J2, ⟨R.1, R.2.1, eS, ⟨rfl, fun i hi => absurd hi (Nat.not_lt_zero _)⟩, R.2.2.2.2⟩, ⟨ok.1, ok.2.1, hP, ⟨ok.2.2.2.1.1, Nat.zero_le _, fun i hi => absurd hi (Nat.not_lt_zero _)⟩, ok.2.2.2.2⟩, by rw [f2.2, f1.2, hh]⟩
  · rw [c_backX c, m_backX J c]
    exact q _ _ s B'
end OPD
