/-! what stays so when something is done -/
section KOK
variable {s : CS} {m : MC}
theorem ok_set {P : PrS} (ok : StOk s) (hP : PrOk s.2.1.1.1 P) : StOk (sSet s P) := ⟨ok.1, ok.2.1, hP, ok.2.2.2⟩
theorem rem_ix {nx kn i : Nat} (h1 : nx < 8) (h2 : kn ≤ 8) (hi : i < min 8 (kn + 1)) : (((nx + 1) % 8 + 8 - min 8 (kn + 1) + i) % 8 = nx ∧ i = min 8 (kn + 1) - 1) ∨ ((((nx + 1) % 8 + 8 - min 8 (kn + 1) + i) % 8 ≠ nx) ∧ (kn < 8 → i < kn ∧ ((nx + 1) % 8 + 8 - min 8 (kn + 1) + i) % 8 = (nx + 8 - kn + i) % 8) ∧ (kn = 8 → i + 1 < kn ∧ ((nx + 1) % 8 + 8 - min 8 (kn + 1) + i) % 8 = (nx + 8 - kn + (i + 1)) % 8)) := by
  by_cases c : kn < 8
  · rw [show min 8 (kn + 1) = kn + 1 by omega] at hi ⊢
    omega
  · have : kn = 8 := by omega
    subst this
    rw [show min 8 (8 + 1) = 8 by omega] at hi ⊢
    omega
theorem ok_rem (ok : StOk s) : StOk (sRem s) := by
  obtain ⟨o1, o2, o3, ⟨o4, o5, o6⟩, o7⟩ := ok
  refine ⟨o1, o2, o3, ⟨?_, ?_, ?_⟩, o7⟩
  · show (s.2.2.2.1.2.1 + 1) % 8 < 8
    omega
  · show min 8 (s.2.2.2.1.2.2 + 1) ≤ 8
    omega
  · intro i hi
    have hi2 : i < min 8 (s.2.2.2.1.2.2 + 1) := hi
    show PrOk s.2.1.1.1 (if ((s.2.2.2.1.2.1 + 1) % 8 + 8 - min 8 (s.2.2.2.1.2.2 + 1) + i) % 8 = s.2.2.2.1.2.1 then s.2.2.1 else s.2.2.2.1.1 (((s.2.2.2.1.2.1 + 1) % 8 + 8 - min 8 (s.2.2.2.1.2.2 + 1) + i) % 8))
    rcases rem_ix o4 o5 hi2 with ⟨a, -⟩ | ⟨a, b, c⟩
    · rw [if_pos a]; exact o3
    · rw [if_neg a]
      by_cases d : s.2.2.2.1.2.2 < 8
      · obtain ⟨b1, b2⟩ := b d
        rw [b2]
        exact o6 i b1
      · obtain ⟨b1, b2⟩ := c (by omega)
        rw [b2]
        exact o6 (i + 1) b1
/-- what both have noted -/
theorem ud_note (R : Rel s m) (ok : StOk s) : ∀ i, i < min 8 (m.1.2.2.1 + 1) → ∀ q, q < 248 → ntU m.2.2.2.1.2.2.1 m.2.2.2.1.1 m.1.2.2.1 (248 * i + q) = sv ((sRem s).2.2.2.1.1 (((sRem s).2.2.2.1.2.1 + 8 - (sRem s).2.2.2.1.2.2 + i) % 8)) q := by
  obtain ⟨-, -, -, ⟨o4, o5, -⟩, -⟩ := ok
  obtain ⟨-, -, hs, ⟨hu, hd⟩, -⟩ := R
  intro i hi q hq
  have hi2 : i < min 8 (s.2.2.2.1.2.2 + 1) := by rw [← hu]; exact hi
  show _ = sv (if ((s.2.2.2.1.2.1 + 1) % 8 + 8 - min 8 (s.2.2.2.1.2.2 + 1) + i) % 8 = s.2.2.2.1.2.1 then s.2.2.1 else s.2.2.2.1.1 (((s.2.2.2.1.2.1 + 1) % 8 + 8 - min 8 (s.2.2.2.1.2.2 + 1) + i) % 8)) q
  unfold ntU
  rcases rem_ix o4 o5 hi2 with ⟨a, ai⟩ | ⟨a, b, c⟩
  · rw [if_pos a, ← hs q hq]
    by_cases d : m.1.2.2.1 = 8
    · rw [if_pos d, cpF_in (by omega) (by omega)]
      exact congrArg m.2.2.2.1.1 (by omega)
    · have e : i = m.1.2.2.1 := by omega
      rw [if_neg d, e, cpF_in (by omega) (by omega)]
      exact congrArg m.2.2.2.1.1 (by omega)
  · rw [if_neg a]
    by_cases d : m.1.2.2.1 = 8
    · obtain ⟨b1, b2⟩ := c (by omega)
      rw [if_pos d, b2, cpF_out (by omega), cpF_in (by omega) (by omega), ← hd (i + 1) (by omega) q hq]
      exact congrArg m.2.2.2.1.2.2.1 (by omega)
    · obtain ⟨b1, b2⟩ := b (by omega)
      rw [if_neg d, b2, cpF_out (by omega), ← hd i (by omega) q hq]
/-- the row goes on as the prints do: then all goes on alike -/
theorem rel_chg (R : Rel s m) (ok : StOk s) {P : PrS} {f : Nat → Nat} (e : ∀ i, i < 248 → f i = sv P i) : Rel (sSet (sRem s) P) ((m.1.1, m.1.2.1, min 8 (m.1.2.2.1 + 1), m.1.2.2.2), (m.2.1.1, m.2.1.2.1, m.2.1.2.2.1, m.2.1.2.2.2.1, m.2.1.2.2.2.2.1, m.2.1.2.2.2.2.2), (m.2.2.1.1, m.2.2.1.2.1, m.2.2.1.2.2.1, m.2.2.1.2.2.2.1, m.2.2.1.2.2.2.2), (f, m.2.2.2.1.2.1, ntU m.2.2.2.1.2.2.1 m.2.2.2.1.1 m.1.2.2.1, m.2.2.2.1.2.2.2), (m.2.2.2.2.1, m.2.2.2.2.2.1, m.2.2.2.2.2.2)) := by
  have hn := ud_note R ok
  obtain ⟨r1, r2, r3, ⟨hu, hd⟩, r5, r6, r7⟩ := R
  exact ⟨r1, r2, e, ⟨by show min 8 (m.1.2.2.1 + 1) = min 8 (s.2.2.2.1.2.2 + 1); rw [hu], hn⟩, r5, r6, r7⟩
theorem bitI_eq {a b x y : Nat} (h : a.testBit x = b.testBit y) : bitI a x = bitI b y := by unfold bitI; rw [h]
theorem pow_bit {x y : Nat} : (2 ^ x).testBit y = decide (x = y) := by rw [Nat.testBit_two_pow]
/-! filled, cows -/
theorem rem_ok {len : Nat} {P : PrS} (hP : PrOk len P) (k x : Nat) : PrOk len (remP P k x) := by
  obtain ⟨p1, p2, p3, p4, p5⟩ := hP
  refine ⟨fun i y => Nat.le_trans (rem_le i y) (p1 i y), fun i y hy => ?_, fun i => ?_, p4, p5⟩
  · have := rem_le (P := P) (k := k) (x := x) i y
    rw [p2 i y hy] at this
    omega
  · show (if i = k then andn (P.2.1 k) (2 ^ x) else P.2.1 i) < _
    split
    · exact andn_lt (p3 k)
    · exact p3 i
theorem cow_ok {len : Nat} {P : PrS} (hP : PrOk len P) (x : Nat) : ∀ n, PrOk len (cowP P x n)
  | 0 => hP
  | n + 1 => rem_ok (rem_ok (cow_ok hP x n) 0 (x + n)) 1 (x + n)
theorem sv_rem {P : PrS} {f : Nat → Nat} {k x : Nat} (hk : k < 2) (hx : x < 61) (e : ∀ i, i < 248 → f i = sv P i) : ∀ i, i < 248 → cowS f k x i = sv (remP P k x) i := by
  refine sv_ext (fun k' x' hk' hx' => ?_) (fun k' x' hk' hx' => ?_) (fun k' hk' => ?_) (fun k' hk' => ?_)
  · show (if 61 * k' + x' = 122 + 61 * k + x then 0 else if 61 * k' + x' = 61 * k + x then 0 else f (61 * k' + x')) = (if k' = k ∧ x' = x then 0 else P.1 k' x')
    rw [if_neg (by omega), e _ (by omega), sv_D hk' hx']
    by_cases c : k' = k ∧ x' = x
    · rw [if_pos c, if_pos (by omega)]
    · rw [if_neg c, if_neg (by omega)]
  · show (if 122 + 61 * k' + x' = 122 + 61 * k + x then 0 else if 122 + 61 * k' + x' = 61 * k + x then 0 else f (122 + 61 * k' + x')) = bitI (if k' = k then andn (P.2.1 k) (2 ^ x) else P.2.1 k') x'
    rw [if_neg (show ¬ 122 + 61 * k' + x' = 61 * k + x by omega), e _ (by omega), sv_G hk' hx']
    by_cases c : k' = k
    · subst c
      rw [if_pos rfl]
      by_cases d : x' = x
      · subst d
        rw [if_pos rfl]
        unfold bitI
        rw [andn_bit, pow_bit, decide_eq_true rfl]
        simp
      · rw [if_neg (by omega)]
        apply bitI_eq
        rw [andn_bit, pow_bit, decide_eq_false (fun q => d q.symm)]
        simp
    · rw [if_neg c, if_neg (by omega)]
  · show (if 244 + k' = 122 + 61 * k + x then 0 else if 244 + k' = 61 * k + x then 0 else f (244 + k')) = P.2.2.1 k'
    rw [if_neg (by omega), if_neg (by omega), e _ (by omega), sv_W hk']
  · show (if 246 + k' = 122 + 61 * k + x then 0 else if 246 + k' = 61 * k + x then 0 else f (246 + k')) = P.2.2.2 k'
    rw [if_neg (by omega), if_neg (by omega), e _ (by omega), sv_T]
theorem sv_cow {P : PrS} {f : Nat → Nat} {x : Nat} (e : ∀ i, i < 248 → f i = sv P i) : ∀ n, x + n ≤ 61 → ∀ i, i < 248 → cowF f x n i = sv (cowP P x n) i
  | 0, _ => e
  | n + 1, hn => sv_rem (by omega) (by omega) (sv_rem (by omega) (by omega) (sv_cow e n (by omega)))
theorem nPr_rem {P : PrS} {k x : Nat} (hx : x < 61) : nPr (remP P k x) k 0 + b2n (hasP P k x) = nPr P k 0 := by
  unfold nPr
  cases c : hasP P k x with
  | true =>
    have h1 := cnt_up (B := fun y => decide (0 < (remP P k x).1 k y)) (B' := fun y => decide (0 < P.1 k y)) (a := x) (by
      show decide (0 < (if k = k ∧ x = x then 0 else P.1 k x)) = false
      rw [if_pos ⟨rfl, rfl⟩]; rfl) c (fun y hy => by
      show decide (0 < P.1 k y) = decide (0 < (if k = k ∧ y = x then 0 else P.1 k y))
      rw [if_neg (fun q => hy q.2)]) 61 hx
    rw [h1]
    rfl
  | false =>
    show _ + 0 = _
    rw [Nat.add_zero]
    refine cnt_congr (fun y hy => ?_)
    show decide (0 < (if k = k ∧ y = x then 0 else P.1 k y)) = decide (0 < P.1 k y)
    by_cases d : y = x
    · subst d
      have c' : decide (0 < P.1 k y) = false := c
      rw [if_pos ⟨rfl, rfl⟩, c']
      rfl
    · rw [if_neg (fun q => d q.2)]
theorem nPr_rem_ne {P : PrS} {k k' x : Nat} (hk : k' ≠ k) : nPr (remP P k x) k' 0 = nPr P k' 0 := by
  unfold nPr
  refine cnt_congr (fun y hy => ?_)
  show decide (0 < (if k' = k ∧ y = x then 0 else P.1 k' y)) = _
  rw [if_neg (fun q => hk q.1)]
theorem cow_n {P : PrS} {f : Nat → Nat} {x : Nat} (e : ∀ i, i < 248 → f i = sv P i) : ∀ n, x + n ≤ 61 → nPr (cowP P x n) 0 0 + nPr (cowP P x n) 1 0 + cowN f x n = nPr P 0 0 + nPr P 1 0
  | 0, _ => rfl
  | n + 1, hn => by
    have ih := cow_n (f := f) (x := x) e n (by omega)
    have eF := sv_cow (x := x) e n (by omega)
    have eF2 := sv_rem (k := 0) (x := x + n) (by omega) (by omega) eF
    have a0 := nPr_rem (P := cowP P x n) (k := 0) (x := x + n) (by omega)
    have a1 := nPr_rem (P := remP (cowP P x n) 0 (x + n)) (k := 1) (x := x + n) (by omega)
    have b0 := nPr_rem_ne (P := remP (cowP P x n) 0 (x + n)) (k := 1) (k' := 0) (x := x + n) (by omega)
    have b1 := nPr_rem_ne (P := cowP P x n) (k := 0) (k' := 1) (x := x + n) (by omega)
    have c0 : decide (0 < cowF f x n (61 * 0 + (x + n))) = hasP (cowP P x n) 0 (x + n) := by rw [eF _ (by omega), sv_D (by omega) (by omega)]; rfl
    have c1 : decide (0 < cowS (cowF f x n) 0 (x + n) (61 * 1 + (x + n))) = hasP (remP (cowP P x n) 0 (x + n)) 1 (x + n) := by rw [eF2 _ (by omega), sv_D (by omega) (by omega)]; rfl
    show nPr (remP (remP (cowP P x n) 0 (x + n)) 1 (x + n)) 0 0 + nPr (remP (remP (cowP P x n) 0 (x + n)) 1 (x + n)) 1 0 + (cowN f x n + b2n (decide (0 < cowF f x n (61 * 0 + (x + n)))) + b2n (decide (0 < cowS (cowF f x n) 0 (x + n) (61 * 1 + (x + n))))) = _
    rw [c0, c1]
    omega
/-! rain, snow, gifts -/
theorem rn_ok {len : Nat} {P : PrS} (hP : PrOk len P) (n : Nat) : PrOk len (rnP P n) := by
  obtain ⟨p1, p2, p3, p4, p5⟩ := hP
  refine ⟨fun i y => Nat.le_trans (Nat.sub_le _ _) (p1 i y), fun i y hy => ?_, p3, p4, p5⟩
  show P.1 i y - n = 0
  rw [p2 i y hy]
  omega
theorem sv_rn {P : PrS} {f : Nat → Nat} {n : Nat} (e : ∀ i, i < 248 → f i = sv P i) : ∀ i, i < 248 → rnF f n 122 i = sv (rnP P n) i := by
  refine sv_ext (fun k' x' hk' hx' => ?_) (fun k' x' hk' hx' => ?_) (fun k' hk' => ?_) (fun k' hk' => ?_)
  · show (if 61 * k' + x' < 122 then f (61 * k' + x') - n else f (61 * k' + x')) = P.1 k' x' - n
    rw [if_pos (by omega), e _ (by omega), sv_D hk' hx']
  · rw [rnF_ge (by omega), e _ (by omega), sv_G hk' hx']; rfl
  · rw [rnF_ge (by omega), e _ (by omega), sv_W hk']; rfl
  · rw [rnF_ge (by omega), e _ (by omega), sv_T]; rfl
theorem sn_ok {len : Nat} {P : PrS} (hP : PrOk len P) : PrOk len (snowP P 2) := by
  obtain ⟨p1, p2, p3, p4, p5⟩ := hP
  refine ⟨fun i y => ?_, fun i y hy => ?_, fun i => ?_, fun i => ?_, p5⟩
  · show (if i < 2 then 0 else P.1 i y) ≤ 9
    split
    · omega
    · exact p1 i y
  · show (if i < 2 then 0 else P.1 i y) = 0
    rw [p2 i y hy]
    split <;> rfl
  · show (if i < 2 then 0 else P.2.1 i) < _
    split
    · exact Nat.two_pow_pos _
    · exact p3 i
  · show (if i < 2 then 0 else P.2.2.1 i) ≤ 999
    split
    · omega
    · exact p4 i
theorem bitI_0 (x : Nat) : bitI 0 x = 0 := by unfold bitI; rw [Nat.zero_testBit]; rfl
theorem sv_sn {P : PrS} {f : Nat → Nat} (e : ∀ i, i < 248 → f i = sv P i) : ∀ i, i < 248 → zF f 246 i = sv (snowP P 2) i := by
  refine sv_ext (fun k' x' hk' hx' => ?_) (fun k' x' hk' hx' => ?_) (fun k' hk' => ?_) (fun k' hk' => ?_)
  · show (if 61 * k' + x' < 246 then 0 else f (61 * k' + x')) = (if k' < 2 then 0 else P.1 k' x')
    rw [if_pos (by omega), if_pos hk']
  · show (if 122 + 61 * k' + x' < 246 then 0 else f (122 + 61 * k' + x')) = bitI (if k' < 2 then 0 else P.2.1 k') x'
    rw [if_pos (by omega), if_pos hk', bitI_0]
  · show (if 244 + k' < 246 then 0 else f (244 + k')) = (if k' < 2 then 0 else P.2.2.1 k')
    rw [if_pos (by omega), if_pos hk']
  · show (if 246 + k' < 246 then 0 else f (246 + k')) = P.2.2.2 k'
    rw [if_neg (by omega), e _ (by omega), sv_T]
theorem gv_ok {len : Nat} {P : PrS} (hP : PrOk len P) {k x : Nat} (hx : x ≤ len) : PrOk len (giveP P k x) := by
  obtain ⟨p1, p2, p3, p4, p5⟩ := hP
  refine ⟨p1, p2, fun i => ?_, p4, p5⟩
  show (if i = k then P.2.1 k ||| 2 ^ x else P.2.1 i) < _
  split
  · exact or_lt (p3 k) (Nat.pow_lt_pow_right (by decide) (by omega))
  · exact p3 i
theorem sv_gv {P : PrS} {f : Nat → Nat} {k x : Nat} (hk : k < 2) (hx : x < 61) (e : ∀ i, i < 248 → f i = sv P i) : ∀ i, i < 248 → fup f (122 + 61 * k + x) 1 i = sv (giveP P k x) i := by
  refine sv_ext (fun k' x' hk' hx' => ?_) (fun k' x' hk' hx' => ?_) (fun k' hk' => ?_) (fun k' hk' => ?_)
  · rw [fup_ne (by omega), e _ (by omega), sv_D hk' hx']; rfl
  · show (if 122 + 61 * k' + x' = 122 + 61 * k + x then 1 else f (122 + 61 * k' + x')) = bitI (if k' = k then P.2.1 k ||| 2 ^ x else P.2.1 k') x'
    rw [e _ (by omega), sv_G hk' hx']
    by_cases c : k' = k
    · subst c
      rw [if_pos (show k' = k' from rfl)]
      by_cases d : x' = x
      · subst d
        rw [if_pos rfl]
        unfold bitI
        rw [Nat.testBit_or, pow_bit, decide_eq_true rfl, Bool.or_true]
        rfl
      · rw [if_neg (by omega)]
        apply bitI_eq
        rw [Nat.testBit_or, pow_bit, decide_eq_false (fun q => d q.symm), Bool.or_false]
    · rw [if_neg c, if_neg (by omega)]
  · rw [fup_ne (by omega), e _ (by omega), sv_W hk']; rfl
  · rw [fup_ne (by omega), e _ (by omega), sv_T]; rfl
/-! walks -/
def wk0 (P : PrS) (k t : Nat) : PrS := (fun j y => if j = k ∧ t.testBit y = true then 9 else P.1 j y, fun j => if j = k then andn (P.2.1 k) t else P.2.1 j, P.2.2.1, fun j => if j = k then min 9999 (P.2.2.2 k + cnt (fun i => (P.2.1 k &&& t).testBit i) 64) else P.2.2.2 j)
theorem sv_wk {P : PrS} {f : Nat → Nat} {k st d sh : Nat} (hk : k < 2) (hd : 2 ≤ d) (hsh : sh ≤ 1) (hT : P.2.2.2 k ≤ 9999) (e : ∀ i, i < 248 → f i = sv P i) : ∀ n, (∀ i, i < n → ft st d sh i ≤ 60) → ∀ i, i < 248 → wkF f k st d sh n i = sv (wk0 P k (trA st d sh n)) i
  | 0, _ => by
    intro i hi
    show f i = _
    rw [e i hi]
    refine sv_ext (f := sv P) (fun k' x' hk' hx' => ?_) (fun k' x' hk' hx' => ?_) (fun k' hk' => ?_) (fun k' hk' => ?_) i hi
    · rw [sv_D hk' hx']
      show _ = if k' = k ∧ (0 : Nat).testBit x' = true then 9 else P.1 k' x'
      rw [if_neg (fun q => by rw [Nat.zero_testBit] at q; exact absurd q.2 (by decide))]
    · rw [sv_G hk' hx']
      show _ = bitI (if k' = k then andn (P.2.1 k) 0 else P.2.1 k') x'
      by_cases c : k' = k
      · subst c
        rw [if_pos rfl]
        apply bitI_eq
        rw [andn_bit, Nat.zero_testBit]
        simp
      · rw [if_neg c]
    · rw [sv_W hk']; rfl
    · rw [sv_T]
      show _ = if k' = k then min 9999 (P.2.2.2 k + cnt (fun i => (P.2.1 k &&& 0).testBit i) 64) else P.2.2.2 k'
      have h0 : cnt (fun i => (P.2.1 k &&& 0).testBit i) 64 = 0 := cnt_zero (fun x _ => by rw [Nat.and_zero, Nat.zero_testBit])
      by_cases c : k' = k
      · subst c
        rw [if_pos rfl, h0]
        omega
      · rw [if_neg c]
  | n + 1, hn => by
    have ih := sv_wk (P := P) (f := f) (st := st) hk hd hsh hT e n (fun i hi => hn i (by omega))
    have hx := hn n (by omega)
    have hnb : (trA st d sh n).testBit (ft st d sh n) = false := by
      cases c : (trA st d sh n).testBit (ft st d sh n)
      · rfl
      · obtain ⟨j, hj, ej⟩ := (trA_bit st d sh _ n).mp c
        have := ft_mono (s := st) hd hsh hj
        omega
    show ∀ i, i < 248 → wkS (wkF f k st d sh n) k (ft st d sh n) i = sv (wk0 P k (trA st d sh n ||| 2 ^ ft st d sh n)) i
    generalize hxe : ft st d sh n = x at hx hnb
    generalize hte : trA st d sh n = t at ih hnb
    generalize hFe : wkF f k st d sh n = F at ih
    have fT : F (246 + k) = min 9999 (P.2.2.2 k + cnt (fun i => (P.2.1 k &&& t).testBit i) 64) := by
      rw [ih _ (by omega), sv_T]
      show (if k = k then _ else _) = _
      rw [if_pos rfl]
    have fG : F (122 + 61 * k + x) = bitI (P.2.1 k) x := by
      rw [ih _ (by omega), sv_G hk (by omega)]
      show bitI (if k = k then andn (P.2.1 k) t else P.2.1 k) x = _
      rw [if_pos rfl]
      apply bitI_eq
      rw [andn_bit, hnb]
      simp
    refine sv_ext (fun k' x' hk' hx' => ?_) (fun k' x' hk' hx' => ?_) (fun k' hk' => ?_) (fun k' hk' => ?_)
    · show (if 61 * k' + x' = 122 + 61 * k + x then 0 else if 61 * k' + x' = 246 + k then wkT F k x else if 61 * k' + x' = 61 * k + x then 9 else F (61 * k' + x')) = (if k' = k ∧ (t ||| 2 ^ x).testBit x' = true then 9 else P.1 k' x')
      rw [if_neg (by omega), if_neg (by omega), ih _ (by omega), sv_D hk' hx', Nat.testBit_or, pow_bit]
      show (if 61 * k' + x' = 61 * k + x then 9 else if k' = k ∧ t.testBit x' = true then 9 else P.1 k' x') = _
      by_cases c : k' = k
      · subst c
        by_cases d2 : x = x'
        · rw [if_pos (by omega), decide_eq_true d2, Bool.or_true, if_pos ⟨rfl, rfl⟩]
        · rw [if_neg (by omega), decide_eq_false d2, Bool.or_false]
      · rw [if_neg (by omega), if_neg (fun q => c q.1), if_neg (fun q => c q.1)]
    · show (if 122 + 61 * k' + x' = 122 + 61 * k + x then 0 else if 122 + 61 * k' + x' = 246 + k then wkT F k x else if 122 + 61 * k' + x' = 61 * k + x then 9 else F (122 + 61 * k' + x')) = bitI (if k' = k then andn (P.2.1 k) (t ||| 2 ^ x) else P.2.1 k') x'
      rw [if_neg (show ¬ 122 + 61 * k' + x' = 246 + k by omega), if_neg (show ¬ 122 + 61 * k' + x' = 61 * k + x by omega), ih _ (by omega), sv_G hk' hx']
      show (if 122 + 61 * k' + x' = 122 + 61 * k + x then 0 else bitI (if k' = k then andn (P.2.1 k) t else P.2.1 k') x') = _
      by_cases c : k' = k
      · subst c
        rw [if_pos (show k' = k' from rfl), if_pos (show k' = k' from rfl)]
        by_cases d2 : x = x'
        · rw [if_pos (by omega)]
          unfold bitI
          rw [andn_bit, Nat.testBit_or, pow_bit, decide_eq_true d2]
          simp
        · rw [if_neg (by omega)]
          apply bitI_eq
          rw [andn_bit, andn_bit, Nat.testBit_or, pow_bit, decide_eq_false d2, Bool.or_false]
      · rw [if_neg c, if_neg c, if_neg (by omega)]
    · show (if 244 + k' = 122 + 61 * k + x then 0 else if 244 + k' = 246 + k then wkT F k x else if 244 + k' = 61 * k + x then 9 else F (244 + k')) = P.2.2.1 k'
      rw [if_neg (by omega), if_neg (by omega), if_neg (by omega), ih _ (by omega), sv_W hk']
      rfl
    · show (if 246 + k' = 122 + 61 * k + x then 0 else if 246 + k' = 246 + k then wkT F k x else if 246 + k' = 61 * k + x then 9 else F (246 + k')) = (if k' = k then min 9999 (P.2.2.2 k + cnt (fun i => (P.2.1 k &&& (t ||| 2 ^ x)).testBit i) 64) else P.2.2.2 k')
      rw [if_neg (by omega), if_neg (show ¬ 246 + k' = 61 * k + x by omega)]
      by_cases c : k' = k
      · subst c
        rw [if_pos rfl, if_pos rfl]
        unfold wkT
        rw [fT, fG]
        unfold bitI
        cases cb : (P.2.1 k').testBit x with
        | true =>
          have hc := cnt_up (B := fun i => (P.2.1 k' &&& t).testBit i) (B' := fun i => (P.2.1 k' &&& (t ||| 2 ^ x)).testBit i) (a := x) (by
            show (P.2.1 k' &&& t).testBit x = false
            rw [Nat.testBit_and, hnb, Bool.and_false]) (by
            show (P.2.1 k' &&& (t ||| 2 ^ x)).testBit x = true
            rw [Nat.testBit_and, Nat.testBit_or, pow_bit, cb, decide_eq_true rfl, Bool.or_true]
            rfl) (fun y hy => by
            show (P.2.1 k' &&& (t ||| 2 ^ x)).testBit y = (P.2.1 k' &&& t).testBit y
            rw [Nat.testBit_and, Nat.testBit_and, Nat.testBit_or, pow_bit, decide_eq_false (fun q => hy q.symm), Bool.or_false]) 64 (by omega)
          rw [hc, if_pos rfl]
          generalize cnt (fun i => (P.2.1 k' &&& t).testBit i) 64 = C
          by_cases q : min 9999 (P.2.2.2 k' + C) < 9999
          · rw [if_pos ⟨rfl, q⟩]
            omega
          · rw [if_neg (fun z => q z.2)]
            omega
        | false =>
          have hc : cnt (fun i => (P.2.1 k' &&& (t ||| 2 ^ x)).testBit i) 64 = cnt (fun i => (P.2.1 k' &&& t).testBit i) 64 := cnt_congr (fun y _ => by
            rw [Nat.testBit_and, Nat.testBit_and, Nat.testBit_or, pow_bit]
            by_cases q : x = y
            · subst q
              rw [cb]
              rfl
            · rw [decide_eq_false q, Bool.or_false])
          rw [hc, if_neg (show ¬ (false = true) by decide), if_neg (fun q => absurd q.1 (by omega)), Nat.add_zero]
      · rw [if_neg (by omega), if_neg c, ih _ (by omega), sv_T]
        show (if k' = k then _ else P.2.2.2 k') = _
        rw [if_neg c]
theorem wk_ok {len : Nat} {P : PrS} (hP : PrOk len P) {k t : Nat} (ht : t < 2 ^ (len + 1)) (hw : P.2.2.1 k < 999) : PrOk len (walkP P k t) := by
  obtain ⟨p1, p2, p3, p4, p5⟩ := hP
  refine ⟨fun i y => ?_, fun i y hy => ?_, fun i => ?_, fun i => ?_, fun i => ?_⟩
  · show (if i = k ∧ t.testBit y = true then 9 else P.1 i y) ≤ 9
    split
    · omega
    · exact p1 i y
  · show (if i = k ∧ t.testBit y = true then 9 else P.1 i y) = 0
    rw [if_neg (fun q => by rw [bits_ge ht (by omega)] at q; exact absurd q.2 (by decide))]
    exact p2 i y hy
  · show (if i = k then andn (P.2.1 k) t else P.2.1 i) < _
    split
    · exact andn_lt (p3 k)
    · exact p3 i
  · show (if i = k then P.2.2.1 k + 1 else P.2.2.1 i) ≤ 999
    split
    · omega
    · exact p4 i
  · show (if i = k then min 9999 _ else P.2.2.2 i) ≤ 9999
    split
    · omega
    · exact p5 i
theorem sv_walk (R : Rel s m) (ok : StOk s) {k l : Nat} (hk : k < 2) (hl : l < 2) : ∀ i, i < 248 → wkE m k l i = sv (walkP s.2.2.1 k (trk s.2.1 (k + 2 * l))) i := by
  obtain ⟨q1, q2, -⟩ := R.2.1.2.2.2.2 k hk
  obtain ⟨w1, w2, w3, -, -⟩ := ok.2.1.2.2.2.2.2.2 k hk
  have hlen := ok.2.1.2.1
  have hsp := nT_spec s.2.1.1.1 (s.2.1.2.1 k) (s.2.1.2.2.1 k) l 61 0
  have et : trk s.2.1 (k + 2 * l) = trA (s.2.1.2.1 k) (s.2.1.2.2.1 k) l (nT s.2.1.1.1 (s.2.1.2.1 k) (s.2.1.2.2.1 k) l 61 0) := by
    unfold trk trkN
    rw [show (k + 2 * l) % 2 = k by omega, show (k + 2 * l) / 2 = l by omega]
  have key := sv_wk (P := s.2.2.1) (f := m.2.2.2.1.1) (k := k) (st := s.2.1.2.1 k) (d := s.2.1.2.2.1 k) (sh := l) hk w2 (by omega) (ok.2.2.1.2.2.2.2 k) R.2.2.1 (nT s.2.1.1.1 (s.2.1.2.1 k) (s.2.1.2.2.1 k) l 61 0) (fun i hi => Nat.le_trans (hsp.2.2.1 i (by omega) hi) hlen)
  rw [← et] at key
  unfold wkE
  rw [q1, q2, R.len]
  generalize hF : wkF m.2.2.2.1.1 k (s.2.1.2.1 k) (s.2.1.2.2.1 k) l (nT s.2.1.1.1 (s.2.1.2.1 k) (s.2.1.2.2.1 k) l 61 0) = F at key
  refine sv_ext (fun k' x' hk' hx' => ?_) (fun k' x' hk' hx' => ?_) (fun k' hk' => ?_) (fun k' hk' => ?_)
  · rw [fup_ne (by omega), key _ (by omega), sv_D hk' hx']; rfl
  · rw [fup_ne (by omega), key _ (by omega), sv_G hk' hx']; rfl
  · show (if 244 + k' = 244 + k then F (244 + k) + 1 else F (244 + k')) = (if k' = k then s.2.2.1.2.2.1 k + 1 else s.2.2.1.2.2.1 k')
    rw [key _ (by omega), sv_W hk, key _ (by omega), sv_W hk']
    by_cases c : k' = k
    · rw [if_pos (by omega), if_pos c]; rfl
    · rw [if_neg (by omega), if_neg c]; rfl
  · rw [fup_ne (by omega), key _ (by omega), sv_T]; rfl
end KOK
