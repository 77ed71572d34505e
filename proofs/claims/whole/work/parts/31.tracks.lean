/-! tracks: which feet they have, how many -/
theorem nT_spec (len s d sh : Nat) : ∀ m i, i ≤ nT len s d sh m i ∧ nT len s d sh m i ≤ i + m ∧ (∀ j, i ≤ j → j < nT len s d sh m i → ft s d sh j ≤ len) ∧ (nT len s d sh m i < i + m → len < ft s d sh (nT len s d sh m i))
  | 0, i => ⟨Nat.le_refl _, Nat.le_refl _, fun j h1 h2 => absurd h2 (by show ¬ j < i; omega), fun h => absurd h (by show ¬ i < i + 0; omega)⟩
  | m + 1, i => by
    have e : nT len s d sh (m + 1) i = if ft s d sh i ≤ len then nT len s d sh m (i + 1) else i := rfl
    by_cases hc : ft s d sh i ≤ len
    · rw [if_pos hc] at e
      obtain ⟨g1, g2, g3, g4⟩ := nT_spec len s d sh m (i + 1)
      rw [e]
      refine ⟨by omega, by omega, fun j h1 h2 => ?_, fun h => g4 (by omega)⟩
      by_cases ej : j = i
      · rw [ej]; exact hc
      · exact g3 j (by omega) h2
    · rw [if_neg hc] at e
      rw [e]
      exact ⟨Nat.le_refl _, by omega, fun j h1 h2 => absurd h2 (by omega), fun _ => by omega⟩
theorem trA_bit (s d sh : Nat) (x : Nat) : ∀ i, (trA s d sh i).testBit x = true ↔ ∃ j, j < i ∧ ft s d sh j = x
  | 0 => by simp [trA]
  | i + 1 => by
    show (trA s d sh i ||| 2 ^ ft s d sh i).testBit x = true ↔ _
    rw [Nat.testBit_or, Bool.or_eq_true, trA_bit s d sh x i, Nat.testBit_two_pow]
    constructor
    · rintro (⟨j, h1, h2⟩ | h)
      · exact ⟨j, by omega, h2⟩
      · exact ⟨i, by omega, of_decide_eq_true h⟩
    · rintro ⟨j, h1, h2⟩
      by_cases e : j = i
      · subst e
        exact Or.inr (decide_eq_true h2)
      · exact Or.inl ⟨j, by omega, h2⟩
/-- a track has a foot -/
def onT (s d sh x : Nat) : Prop := ∃ j, ft s d sh j = x
theorem trkN_bit {len s d sh : Nat} (hl : len ≤ 60) (hd : 2 ≤ d) (hs : sh ≤ 1) (x : Nat) : (trkN len s d sh).testBit x = true ↔ x ≤ len ∧ onT s d sh x := by
  unfold trkN
  rw [trA_bit]
  obtain ⟨g1, g2, g3, g4⟩ := nT_spec len s d sh 61 0
  constructor
  · rintro ⟨j, h1, h2⟩
    exact ⟨by rw [← h2]; exact g3 j (by omega) h1, j, h2⟩
  · rintro ⟨h1, j, h2⟩
    refine ⟨j, ?_, h2⟩
    have h3 := ft_ge (s := s) hd hs j
    rcases Nat.lt_or_ge j (nT len s d sh 61 0) with q | q
    · exact q
    · exfalso
      by_cases e : nT len s d sh 61 0 < 0 + 61
      · have h5 := g4 e
        rcases Nat.lt_or_ge (nT len s d sh 61 0) j with q2 | q2
        · have := ft_mono (s := s) hd hs q2
          omega
        · have : j = nT len s d sh 61 0 := by omega
          rw [← this] at h5
          omega
      · omega
theorem trkN_lt {len s d sh : Nat} (hl : len ≤ 60) (hd : 2 ≤ d) (hs : sh ≤ 1) : trkN len s d sh < 2 ^ (len + 1) := bits_lt (fun i hi => by
  cases hb : (trkN len s d sh).testBit i with
  | false => rfl
  | true => exact absurd ((trkN_bit hl hd hs i).mp hb).1 (by omega))
theorem cnt_zero {B : Nat → Bool} : ∀ {n}, (∀ x, x < n → B x = false) → cnt B n = 0
  | 0, _ => rfl
  | n + 1, h => by
    show cnt B n + (if B n = true then 1 else 0) = 0
    rw [cnt_zero (fun x hx => h x (by omega)), h n (by omega)]
    rfl
theorem cnt_up {B B' : Nat → Bool} {a : Nat} (ha : B a = false) (ha' : B' a = true) (ho : ∀ x, x ≠ a → B' x = B x) : ∀ n, a < n → cnt B' n = cnt B n + 1
  | 0, h => absurd h (by omega)
  | n + 1, h => by
    show cnt B' n + (if B' n = true then 1 else 0) = cnt B n + (if B n = true then 1 else 0) + 1
    by_cases e : a = n
    · subst e
      rw [ha, ha', cnt_congr (fun x hx => ho x (by omega))]
      rfl
    · rw [cnt_up ha ha' ho n (by omega), ho n (by omega)]
      omega
/-- beyond m there is none -/
theorem cnt_cut {B : Nat → Bool} {m : Nat} (h : ∀ x, m ≤ x → B x = false) : ∀ n, m ≤ n → cnt B n = cnt B m := by
  intro n hn
  have e : n = m + (n - m) := by omega
  rw [e, cnt_shift, cnt_zero (fun x _ => h (m + x) (by omega))]
  rfl
theorem trA_cnt {s d sh : Nat} (hd : 2 ≤ d) (hs : sh ≤ 1) : ∀ i, (∀ j, j < i → ft s d sh j < 64) → cnt (fun x => (trA s d sh i).testBit x) 64 = i
  | 0, _ => cnt_zero (fun x _ => by simp [trA])
  | i + 1, h => by
    have h1 := trA_cnt hd hs i (fun j hj => h j (by omega))
    rw [cnt_up (B := fun x => (trA s d sh i).testBit x) (a := ft s d sh i) ?_ ?_ ?_ 64 (h i (by omega)), h1]
    · show (trA s d sh i).testBit (ft s d sh i) = false
      cases hb : (trA s d sh i).testBit (ft s d sh i) with
      | false => rfl
      | true =>
        obtain ⟨j, q1, q2⟩ := (trA_bit s d sh _ i).mp hb
        have := ft_mono (s := s) hd hs q1
        omega
    · exact (trA_bit s d sh _ (i + 1)).mpr ⟨i, by omega, rfl⟩
    · intro x hx
      show (trA s d sh i ||| 2 ^ ft s d sh i).testBit x = (trA s d sh i).testBit x
      rw [Nat.testBit_or, Nat.testBit_two_pow, decide_eq_false (Ne.symm hx), Bool.or_false]
theorem trkN_cnt {len s d sh : Nat} (hl : len ≤ 60) (hd : 2 ≤ d) (hs : sh ≤ 1) : cnt (fun x => (trkN len s d sh).testBit x) 64 = nT len s d sh 61 0 := by
  obtain ⟨g1, g2, g3, g4⟩ := nT_spec len s d sh 61 0
  exact trA_cnt hd hs _ (fun j hj => by have := g3 j (by omega) hj; omega)
/-! what a state must be -/
def PathOk (pa : PathS) : Prop := 5 ≤ pa.1.1 ∧ pa.1.1 ≤ 60 ∧ pa.1.2.1 ≤ pa.1.1 ∧ pa.1.2.2.1 ≤ pa.1.1 ∧ 1 ≤ pa.1.2.2.2 ∧ pa.1.2.2.2 ≤ 9 ∧ WalkOk pa
def PrOk (len : Nat) (P : PrS) : Prop := (∀ k x, P.1 k x ≤ 9) ∧ (∀ k x, len < x → P.1 k x = 0) ∧ (∀ k, P.2.1 k < 2 ^ (len + 1)) ∧ (∀ k, P.2.2.1 k ≤ 999) ∧ ∀ k, P.2.2.2 k ≤ 9999
theorem pow61 {len g : Nat} (hl : len ≤ 60) (h : g < 2 ^ (len + 1)) : g < 2 ^ 61 := Nat.lt_of_lt_of_le h (Nat.pow_le_pow_right (by decide) (by omega))
theorem trk_lt {pa : PathS} (ok : PathOk pa) {j : Nat} (hj : j < 4) : trk pa j < 2 ^ (pa.1.1 + 1) := by
  obtain ⟨-, h2, -, -, -, -, h7⟩ := ok
  obtain ⟨-, h8, -, -, -⟩ := h7 (j % 2) (by omega)
  exact trkN_lt h2 h8 (by omega)
theorem trk_bit {pa : PathS} (ok : PathOk pa) {j : Nat} (hj : j < 4) (x : Nat) : (trk pa j).testBit x = true ↔ x ≤ pa.1.1 ∧ onT (pa.2.1 (j % 2)) (pa.2.2.1 (j % 2)) (j / 2) x := by
  obtain ⟨-, h2, -, -, -, -, h7⟩ := ok
  obtain ⟨-, h8, -, -, -⟩ := h7 (j % 2) (by omega)
  exact trkN_bit h2 h8 (by omega) x
def StOk (s : CS) : Prop := ((∀ i, s.1.1 i < 256) ∧ s.1.2 ≤ 120) ∧ PathOk s.2.1 ∧ PrOk s.2.1.1.1 s.2.2.1 ∧ (s.2.2.2.1.2.1 < 8 ∧ s.2.2.2.1.2.2 ≤ 8 ∧ ∀ j, j < s.2.2.2.1.2.2 → PrOk s.2.1.1.1 (s.2.2.2.1.1 ((s.2.2.2.1.2.1 + 8 - s.2.2.2.1.2.2 + j) % 8))) ∧ (∀ i, i < 2 → s.2.2.2.2.1.2 i = true → PrOk s.2.1.1.1 (s.2.2.2.2.1.1 i)) ∧ s.2.2.2.2.2.1.1 < 2 ^ (s.2.1.1.1 + 1) ∧ s.2.2.2.2.2.1.2 ≤ 6
/-! numbers that may be, and those that may not -/
def inr (x : Int32) (n : Nat) : Prop := ∃ j, j < n ∧ x = nI j
theorem inr_no {x : Int32} {n : Nat} (hn : n < 2147483648) (h : ¬ inr x n) : x < nI 0 ∨ (¬ x < nI 0 ∧ nI n ≤ x) := by
  rcases pk_ix x (n := n) hn with q | q | ⟨j, q1, q2⟩
  · exact Or.inl q
  · by_cases h0 : x < 0
    · exact Or.inl h0
    · exact Or.inr ⟨h0, q⟩
  · exact absurd ⟨j, q1, q2⟩ h
theorem nI_step {x : Int32} {n : Nat} (hn : n + 1 < 2147483648) (h : nI (n + 1) ≤ x) : nI n < x ∧ ¬ x ≤ nI n ∧ ¬ x < nI (n + 1) := by
  rw [Int32.le_iff_toInt_le, nI_toInt (by omega)] at h
  refine ⟨?_, ?_, ?_⟩
  · rw [Int32.lt_iff_toInt_lt, nI_toInt (by omega)]; omega
  · rw [Int32.le_iff_toInt_le, nI_toInt (by omega)]; omega
  · rw [Int32.lt_iff_toInt_lt, nI_toInt (by omega)]; omega
theorem nI_nlt0 {x : Int32} (h : ¬ x < nI 0) : nI 0 ≤ x := Int32.not_lt.mp h
