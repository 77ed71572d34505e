/-! both sides: the calls that ask -/
section OPA
variable {h : sm_Hp} {s : CS} {u v w t : Int32}
theorem o_walker (B : Bt h s) : Opc m_TwoPrints_walker m_Model_walker [.ref 0, .int v, .int u] [.ref 98, .int v, .int u] h := by
  intro xs K q
  have B' := B
  obtain ⟨j, m, I, J, R, ok, hh⟩ := B
  by_cases c : inr v 2 ∧ inr u 7
  · obtain ⟨⟨k, hk, rfl⟩, ⟨n, hn, rfl⟩⟩ := c
    have hl : m.2.2.1.2.1 0 ≤ 60 := by rw [R.len]; exact ok.2.1.2.1
    rw [c_walker I ok hk hn, m_walker J (R.sok ok) hl hk hn]
    have e : mWalkerA m k n = aWalker s k n := by
      have hc : n = 0 ∨ n = 1 ∨ n = 2 ∨ n = 3 ∨ n = 4 ∨ n = 5 ∨ n = 6 := by omega
      rcases hc with rfl | rfl | rfl | rfl | rfl | rfl | rfl
      · exact (R.2.1.2.2.2.2 k hk).1
      · exact (R.2.1.2.2.2.2 k hk).2.1
      · exact (R.2.1.2.2.2.2 k hk).2.2
      · exact R.W hk
      · exact R.prs ok hk
      · show sumTo (fun x => m.2.2.2.1.1 (122 + 61 * k + x)) (m.2.2.1.2.1 0 + 1) = cnt (fun i => (s.2.2.1.2.1 k).testBit i) 64
        rw [R.len]
        exact gifts_of ok.2.1.2.1 hk (ok.2.2.1.2.2.1 k) R.2.2.1
      · exact R.T hk
    rw [e]
    exact q _ _ s B'
  · have hb : ¬ inr v 2 ∨ ¬ inr u 7 := Classical.not_and_iff_not_or_not.mp c
    rw [c_walkerX hb, m_walkerX J hb]
    exact q _ _ s B'
theorem hbR {m : MC} (R : Rel s m) {u : Int32} (h : ¬ inr u (s.2.1.1.1 + 1)) : ¬ inr u (m.2.2.1.2.1 0 + 1) := by rw [R.len]; exact h
theorem o_depth (B : Bt h s) : Opc m_TwoPrints_depth m_Model_depth [.ref 0, .int v, .int u] [.ref 98, .int v, .int u] h := by
  intro xs K q
  have B' := B
  obtain ⟨j, m, I, J, R, ok, hh⟩ := B
  have hl : m.2.2.1.2.1 0 ≤ 60 := by rw [R.len]; exact ok.2.1.2.1
  by_cases c : inr v 2 ∧ inr u (s.2.1.1.1 + 1)
  · obtain ⟨⟨k, hk, rfl⟩, ⟨n, hn, rfl⟩⟩ := c
    rw [c_depth I ok hk (by omega), m_depth J hl hk (by rw [R.len]; omega), R.D hk (by have := ok.2.1.2.1; omega)]
    exact q _ _ s B'
  · have hb := Classical.not_and_iff_not_or_not.mp c
    rw [c_depthX I ok hb, m_depthX J hl (hb.imp id (hbR R))]
    exact q _ _ s B'
theorem o_gift (B : Bt h s) : Opc m_TwoPrints_gift m_Model_gift [.ref 0, .int v, .int u] [.ref 98, .int v, .int u] h := by
  intro xs K q
  have B' := B
  obtain ⟨j, m, I, J, R, ok, hh⟩ := B
  have hl : m.2.2.1.2.1 0 ≤ 60 := by rw [R.len]; exact ok.2.1.2.1
  by_cases c : inr v 2 ∧ inr u (s.2.1.1.1 + 1)
  · obtain ⟨⟨k, hk, rfl⟩, ⟨n, hn, rfl⟩⟩ := c
    rw [c_gift I ok hk (by omega), m_gift J hl hk (by rw [R.len]; omega), R.G hk (by have := ok.2.1.2.1; omega)]
    exact q _ _ s B'
  · have hb := Classical.not_and_iff_not_or_not.mp c
    rw [c_giftX I ok hb, m_giftX J hl (hb.imp id (hbR R))]
    exact q _ _ s B'
theorem o_now (B : Bt h s) : Opc m_TwoPrints_now m_Model_now [.ref 0, .int u] [.ref 98, .int u, .null, .null] h := by
  intro xs K q
  have B' := B
  obtain ⟨j, m, I, J, R, ok, hh⟩ := B
  have hl : m.2.2.1.2.1 0 ≤ 60 := by rw [R.len]; exact ok.2.1.2.1
  by_cases c : inr u 4
  · obtain ⟨n, hn, rfl⟩ := c
    rw [c_now I ok hn, m_now J (R.sok ok) hl hn]
    have e : mNow m n = aNow s n := by
      have hc : n = 0 ∨ n = 1 ∨ n = 2 ∨ n = 3 := by omega
      have hl2 := ok.2.1.2.1
      rcases hc with rfl | rfl | rfl | rfl
      · show nI (cnt (fun x => decide (0 < m.2.2.2.1.1 (61 * 0 + x)) && decide (0 < m.2.2.2.1.1 (61 * 1 + x))) (m.2.2.1.2.1 0 + 1)) = nI (cnt (fun x => hasP s.2.2.1 0 x && hasP s.2.2.1 1 x) 61)
        rw [R.len, cnt_cut (B := fun x => hasP s.2.2.1 0 x && hasP s.2.2.1 1 x) (m := s.2.1.1.1 + 1) (fun x hx => by
          have : hasP s.2.2.1 0 x = false := decide_eq_false (by rw [ok.2.2.1.2.1 0 x (by omega)]; omega)
          show (hasP s.2.2.1 0 x && hasP s.2.2.1 1 x) = false
          rw [this]; rfl) 61 (by omega)]
        congr 1
        exact cnt_congr (fun x hx => by rw [R.D (k := 0) (by omega) (by omega), R.D (k := 1) (by omega) (by omega)]; rfl)
      · show nI (mPeace m.2.2.2.1.1 (m.2.2.1.2.1 0 + 1)) = nI (peaceN s.2.2.1 61)
        rw [R.len, peace_of hl2 ok.2.2.1 R.2.2.1]
      · show owesI (m.2.2.2.1.1 (246 + 0)) (m.2.2.2.1.1 (246 + 1)) = owesI (s.2.2.1.2.2.2 0) (s.2.2.1.2.2.2 1)
        rw [R.T (by omega), R.T (by omega)]
      · show nI m.1.2.2.1 = nI s.2.2.2.1.2.2
        rw [R.um]
    rw [e]
    exact q _ _ s B'
  · rw [c_nowX c, m_nowX J c]
    exact q _ _ s B'
theorem o_left (B : Bt h s) : Opc m_TwoPrints_left m_Model_left [.ref 0, .int v, .int u] [.ref 98, .int v, .int u] h := by
  intro xs K q
  have B' := B
  obtain ⟨j, m, I, J, R, ok, hh⟩ := B
  have hl : m.2.2.1.2.1 0 ≤ 60 := by rw [R.len]; exact ok.2.1.2.1
  by_cases c : inr v 2 ∧ inr u 10
  · obtain ⟨⟨k, hk, rfl⟩, ⟨n, hn, rfl⟩⟩ := c
    rw [c_left I ok hk hn, m_left J (R.sok ok) hl hk hn, R.prs ok hk]
    exact q _ _ s B'
  · have hb := Classical.not_and_iff_not_or_not.mp c
    rw [c_leftX hb, m_leftX J hb]
    exact q _ _ s B'
theorem o_jumps (B : Bt h s) : Opc m_TwoPrints_jumps m_Model_jumps [.ref 0, .int v, .int u] [.ref 98, .int v, .int u, .null, .null, .null, .null] h := by
  intro xs K q
  have B' := B
  obtain ⟨j, m, I, J, R, ok, hh⟩ := B
  have hl : m.2.2.1.2.1 0 ≤ 60 := by rw [R.len]; exact ok.2.1.2.1
  by_cases c : inr v 61 ∧ inr u 2
  · obtain ⟨⟨k, hk, rfl⟩, ⟨n, hn, rfl⟩⟩ := c
    rw [c_jumps I ok hk hn, m_jumps J (R.sok ok) hl hk hn, jumps_eq R ok (by omega)]
    exact q _ _ s B'
  · have hb := Classical.not_and_iff_not_or_not.mp c
    rw [c_jumpsX hb, m_jumpsX J hb]
    exact q _ _ s B'
theorem o_whose (B : Bt h s) : Opc m_TwoPrints_whose m_Model_whose [.ref 0, .int u] [.ref 98, .int u] h := by
  intro xs K q
  have B' := B
  obtain ⟨j, m, I, J, R, ok, hh⟩ := B
  have hl : m.2.2.1.2.1 0 ≤ 60 := by rw [R.len]; exact ok.2.1.2.1
  by_cases c : inr u (s.2.1.1.1 + 1)
  · obtain ⟨n, hn, rfl⟩ := c
    rw [c_whose I ok (by omega), m_whose J (R.2.1.ok ok.2.1) (by rw [R.len]; omega), R.2.1.tw]
    exact q _ _ s B'
  · rw [c_whoseX I ok c, m_whoseX J hl (hbR R c)]
    exact q _ _ s B'
theorem o_both (B : Bt h s) : Opc m_TwoPrints_both m_Model_both [.ref 0, .int u, .null, .null] [.ref 98, .int u, .null, .null] h := by
  intro xs K q
  have B' := B
  obtain ⟨j, m, I, J, R, ok, hh⟩ := B
  by_cases c : (-1 : Int32) ≤ u
  · rw [c_both I ok c, m_both J (R.2.1.ok ok.2.1) c, both_eq R ok]
    exact q _ _ s B'
  · rw [c_bothX c, m_bothX J c]
    exact q _ _ s B'
theorem o_tells (B : Bt h s) : Opc m_TwoPrints_tells m_Model_tells [.ref 0, .int v, .int u] [.ref 98, .int v, .int u, .null] h := by
  intro xs K q
  have B' := B
  obtain ⟨j, m, I, J, R, ok, hh⟩ := B
  by_cases c : inr v 4 ∧ inr u 4
  · obtain ⟨⟨k, hk, rfl⟩, ⟨n, hn, rfl⟩⟩ := c
    rw [c_tells I ok hk hn, m_tells J (R.2.1.ok ok.2.1) hk hn, tells_eq R ok hk hn]
    exact q _ _ s B'
  · have hb := Classical.not_and_iff_not_or_not.mp c
    rw [c_tellsX hb, m_tellsX J hb]
    exact q _ _ s B'
theorem o_go (B : Bt h s) : Opc m_TwoPrints_go m_Model_go [.ref 0, .int v, .int u, .int w, .int t, .null, .null, .null, .null] [.ref 98, .int v, .int u, .int w, .int t, .null, .null, .null, .null, .null] h := by
  intro xs K q
  have B' := B
  obtain ⟨j, m, I, J, R, ok, hh⟩ := B
  by_cases c : inr v 2 ∧ inr u 100 ∧ inr w 200 ∧ inr t 3
  · obtain ⟨⟨k, hk, rfl⟩, ⟨o, ho, rfl⟩, ⟨e, he, rfl⟩, ⟨n, hn, rfl⟩⟩ := c
    rw [c_go I ok hk ho he hn, m_go J (R.2.1.ok ok.2.1) hk ho he hn, R.2.1.go hk]
    exact q _ _ s B'
  · rw [c_goX c, m_goX J c]
    exact q _ _ s B'
theorem o_odds (B : Bt h s) : Opc m_TwoPrints_odds m_Model_odds [.ref 0, .int v, .int u, .int w, .int t, .null, .null, .null] [.ref 98, .int v, .int u, .int w, .int t, .null, .null, .null] h := by
  intro xs K q
  have B' := B
  obtain ⟨j, m, I, J, R, ok, hh⟩ := B
  have hl : m.2.2.1.2.1 0 ≤ 60 := by rw [R.len]; exact ok.2.1.2.1
  by_cases c : inr v 2 ∧ inr u 11 ∧ inr w 7 ∧ inr t 2
  · obtain ⟨⟨k, hk, rfl⟩, ⟨x, hx, rfl⟩, ⟨n, hn, rfl⟩, ⟨e, he, rfl⟩⟩ := c
    have hp : min 6 (nPr s.2.2.1 k 0) < 7 := by omega
    obtain ⟨t1, t2, t3⟩ := odds_tab _ hp x hx n hn
    have hU := oddU_le (x := x) (n := n) hp
    rw [c_odds I ok hk hx hn he, m_odds J (R.sok ok) hl hk hx hn he (pr := min 6 (nPr s.2.2.1 k 0)) (by rw [R.prs ok hk]) (by omega) (by rw [t1]; exact t2) (by rw [t1]; exact t3), t1]
    have e2 : aOdds s.2.2.1 k x n e = (if e = 0 then oddU (min 6 (nPr s.2.2.1 k 0)) x n else 10 ^ min 6 (nPr s.2.2.1 k 0)) / gcF 64 (oddU (min 6 (nPr s.2.2.1 k 0)) x n) (10 ^ min 6 (nPr s.2.2.1 k 0)) := by
      unfold aOdds ltA
      rw [max_pos t3]
    rw [e2]
    exact q _ _ s B'
  · rw [c_oddsX c, m_oddsX J c]
    exact q _ _ s B'
theorem o_onePath (B : Bt h s) : Opc m_TwoPrints_onePath m_Model_onePath [.ref 0, .int u, .int w, .int t, .null, .null, .null] [.ref 98, .int u, .int w, .int t, .null, .null] h := by
  intro xs K q
  have B' := B
  obtain ⟨j, m, I, J, R, ok, hh⟩ := B
  have hl : m.2.2.1.2.1 0 ≤ 60 := by rw [R.len]; exact ok.2.1.2.1
  by_cases c : inr u 11 ∧ inr w 6 ∧ inr t 2
  · obtain ⟨⟨x, hx, rfl⟩, ⟨n, hn, rfl⟩, ⟨e, he, rfl⟩⟩ := c
    have hW := peace_le ok.dep 61
    obtain ⟨t1, t2, t3⟩ := one_tab (peaceN s.2.2.1 61) (by omega) x hx n hn
    have hU : oneU (peaceN s.2.2.1 61) x n ≤ _ := oneS_le hn hx (n + 1) (Nat.le_refl _)
    rw [c_onePath I ok hx hn he, m_onePath J (R.sok ok) hl hx hn he (W := peaceN s.2.2.1 61) (by rw [R.len, peace_of ok.2.1.2.1 ok.2.2.1 R.2.2.1]) (by omega) (by rw [t1]; exact t2) (by rw [t1]; exact t3), t1]
    have e2 : aOne s.2.2.1 x n e = (if e = 0 then oneU (peaceN s.2.2.1 61) x n else 10 ^ n) / gcF 64 (oneU (peaceN s.2.2.1 61) x n) (10 ^ n) := by
      unfold aOne ltA
      rw [max_pos t3]
    rw [e2]
    exact q _ _ s B'
  · rw [c_onePathX c, m_onePathX J c]
    exact q _ _ s B'
theorem o_who (B : Bt h s) : Opc m_TwoPrints_who m_Model_who [.ref 0] [.ref 98, .null, .null] h := by
  intro xs K q
  have B' := B
  obtain ⟨j, m, I, J, R, ok, hh⟩ := B
  have hf : m.1.2.2.2 ≤ 6 := by rw [R.2.2.2.2.2.1.1]; exact ok.2.2.2.2.2.2
  rw [c_who I ok, m_who J (R.2.1.ok ok.2.1) hf (fun e he => by rw [R.len]; exact R.2.2.2.2.2.1.2.1 e he), who_eq R]
  exact q _ _ s B'
theorem o_strangers (B : Bt h s) : Opc m_TwoPrints_strangers m_Model_strangers [.ref 0, .int u, .null, .null, .null, .null] [.ref 98, .int u, .null, .null, .null, .null, .null, .null] h := by
  intro xs K q
  have B' := B
  obtain ⟨j, m, I, J, R, ok, hh⟩ := B
  have hf : m.1.2.2.2 ≤ 6 := by rw [R.2.2.2.2.2.1.1]; exact ok.2.2.2.2.2.2
  by_cases c : inr u 2
  · obtain ⟨n, hn, rfl⟩ := c
    rw [c_strangers I ok hn, m_strangers J hf (fun e he => by have := R.2.2.2.2.2.1.2.1 e he; have := ok.2.1.2.1; omega) hn, aStr_eq R ok]
    exact q _ _ s B'
  · rw [c_strangersX c, m_strangersX J c]
    exact q _ _ s B'
theorem o_count (B : Bt h s) : Opc m_TwoPrints_count m_Model_count [.ref 0, .int u] [.ref 98, .int u] h := by
  intro xs K q
  have B' := B
  obtain ⟨j, m, I, J, R, ok, hh⟩ := B
  by_cases c : inr u 6
  · obtain ⟨n, hn, rfl⟩ := c
    rw [c_count I hn, m_count J hn]
    have e : mCountA m n = aCount s n := by
      have hc : n = 0 ∨ n = 1 ∨ n = 2 ∨ n = 3 ∨ n = 4 ∨ n = 5 := by omega
      rcases hc with rfl | rfl | rfl | rfl | rfl | rfl
      · exact R.2.1.1
      · exact R.2.1.2.1
      · exact R.2.1.2.2.1
      · exact R.2.1.2.2.2.1
      · exact R.2.2.2.2.2.1.1
      · exact R.1.1
    rw [e]
    exact q _ _ s B'
  · rw [c_countX c, m_countX J c]
    exact q _ _ s B'
/-- the trace is a long -/
theorem o_trace (B : Bt h s) (xs : List Int32) (K : Option Value → Option Value → sm_Hp → Prop) (q : ∀ r h' s', Bt h' s' → K (some (.long r)) (some (.long r)) h') : Wp xs m_TwoPrints_trace 0 [.ref 0] [] h 0 0 (fun r1 h1 => Wp xs m_Model_trace 0 [.ref 98] [] h1 0 0 (fun r2 h2 => K r1 r2 h2)) := by
  have B' := B
  obtain ⟨j, m, I, J, R, ok, hh⟩ := B
  rw [c_trace I, m_trace J, R.2.2.2.2.2.2]
  exact q _ _ s B'
end OPA
