/-! both sides answer alike: what is only reckoned -/
theorem nthF_congr {B B' : Nat → Bool} {u : Int32} : ∀ m x p, (∀ i, x ≤ i → i < x + m → B i = B' i) → nthF B u m x p = nthF B' u m x p
  | 0, _, _, _ => rfl
  | m + 1, x, p, e => by
    unfold nthF
    rw [e x (by omega) (by omega), nthF_congr m (x + 1) p (fun i h1 h2 => e i (by omega) (by omega)), nthF_congr m (x + 1) (p + 1) (fun i h1 h2 => e i (by omega) (by omega))]
theorem nthF_none {B : Nat → Bool} {u : Int32} : ∀ m x p, (∀ i, x ≤ i → i < x + m → B i = false) → nthF B u m x p = -9
  | 0, _, _, _ => rfl
  | m + 1, x, p, e => by
    unfold nthF
    rw [e x (by omega) (by omega), if_neg (by decide)]
    exact nthF_none m (x + 1) p (fun i h1 h2 => e i (by omega) (by omega))
theorem nthF_cut {B : Nat → Bool} {u : Int32} (n : Nat) : ∀ m x p, (∀ i, x + m ≤ i → B i = false) → nthF B u (m + n) x p = nthF B u m x p
  | 0, x, p, e => by
    rw [Nat.zero_add]
    exact nthF_none n x p (fun i h1 h2 => e i (by omega))
  | m + 1, x, p, e => by
    rw [show m + 1 + n = m + n + 1 by omega]
    unfold nthF
    rw [nthF_cut n m (x + 1) p (fun i h1 => e i (by omega)), nthF_cut n m (x + 1) (p + 1) (fun i h1 => e i (by omega))]
theorem nthF_first {B : Nat → Bool} : ∀ m x, nthF B (nI 0) m x 0 = oI (firstF B x m)
  | 0, _ => rfl
  | m + 1, x => by
    show (if B x = true then (if nI 0 = nI 0 then nI x else nthF B (nI 0) m (x + 1) (0 + 1)) else nthF B (nI 0) m (x + 1) 0) = oI (if B x = true then some x else firstF B (x + 1) m)
    by_cases c : B x = true
    · rw [if_pos c, if_pos c, if_pos rfl]
      rfl
    · rw [if_neg c, if_neg c]
      exact nthF_first m (x + 1)
theorem firstF_congr {B B' : Nat → Bool} : ∀ m x, (∀ i, x ≤ i → i < x + m → B i = B' i) → firstF B x m = firstF B' x m
  | 0, _, _ => rfl
  | m + 1, x, e => by
    show (if B x = true then some x else firstF B (x + 1) m) = (if B' x = true then some x else firstF B' (x + 1) m)
    rw [e x (by omega) (by omega), firstF_congr m (x + 1) (fun i h1 h2 => e i (by omega) (by omega))]
section PUR
variable {s : CS} {m : MC}
theorem both_eq (R : Rel s m) (ok : StOk s) (u : Int32) : mBoth m u = bothI s.2.1 u := by
  have hl := ok.2.1.2.1
  have hb : ∀ x, s.2.1.1.1 + 1 ≤ x → (trk s.2.1 0 &&& trk s.2.1 1).testBit x = false := fun x hx => by
    rw [Nat.testBit_and, bits_ge (trk_lt ok.2.1 (j := 0) (by omega)) hx]
    rfl
  have eb : (fun i => (trk (mpa m) 0).testBit i && (trk (mpa m) 1).testBit i) = fun i => (trk s.2.1 0 &&& trk s.2.1 1).testBit i := by
    funext i
    rw [Nat.testBit_and, R.2.1.tr4, R.2.1.tr4]
  unfold mBoth bothI
  rw [eb, R.len]
  have e1 := cnt_cut (B := fun i => (trk s.2.1 0 &&& trk s.2.1 1).testBit i) hb 64 (by omega)
  have e2 := nthF_cut (u := u) (60 - s.2.1.1.1) (s.2.1.1.1 + 1) 0 0 (fun i hi => hb i (by omega))
  rw [show s.2.1.1.1 + 1 + (60 - s.2.1.1.1) = 61 by omega] at e2
  rw [e1, e2]
theorem tells_eq (R : Rel s m) (ok : StOk s) {k n : Nat} (hk : k < 4) (hn : n < 4) : oI (firstF (fun i => (trk (mpa m) k ^^^ trk (mpa m) n).testBit i) 0 (m.2.2.1.2.1 0 + 1)) = nthF (fun i => (trk s.2.1 k ^^^ trk s.2.1 n).testBit i) (nI 0) 61 0 0 := by
  have hl := ok.2.1.2.1
  have hb : ∀ x, s.2.1.1.1 + 1 ≤ x → (trk s.2.1 k ^^^ trk s.2.1 n).testBit x = false := fun x hx => by
    rw [Nat.testBit_xor, bits_ge (trk_lt ok.2.1 hk) hx, bits_ge (trk_lt ok.2.1 hn) hx]
    rfl
  have e2 := nthF_cut (u := nI 0) (60 - s.2.1.1.1) (s.2.1.1.1 + 1) 0 0 (fun i hi => hb i (by omega))
  rw [show s.2.1.1.1 + 1 + (60 - s.2.1.1.1) = 61 by omega] at e2
  rw [e2, nthF_first, R.len, R.2.1.tr4, R.2.1.tr4]
theorem andn_zero {F t : Nat} : andn F t = 0 ↔ ∀ x, F.testBit x = true → t.testBit x = true := by
  refine ⟨fun e x hx => ?_, fun e => ?_⟩
  · have q := andn_bit F t x
    rw [e, Nat.zero_testBit, hx] at q
    cases ht : t.testBit x
    · rw [ht] at q; cases q
    · rfl
  · apply Nat.eq_of_testBit_eq
    intro i
    rw [andn_bit, Nat.zero_testBit]
    cases hF : F.testBit i
    · rfl
    · rw [e i hF]; rfl
theorem twN_bit {f : Nat} {tk : Nat → Nat} : ∀ n j, (twN f tk n).testBit j = true ↔ j < n ∧ andn f (tk j) = 0
  | 0, j => by
    show (0 : Nat).testBit j = true ↔ _
    rw [Nat.zero_testBit]
    exact ⟨fun q => absurd q (by decide), fun q => absurd q.1 (by omega)⟩
  | n + 1, j => by
    have ih := twN_bit (f := f) (tk := tk) n j
    show (if andn f (tk n) = 0 then twN f tk n ||| 2 ^ n else twN f tk n).testBit j = true ↔ _
    by_cases c : andn f (tk n) = 0
    · rw [if_pos c, Nat.testBit_or, Bool.or_eq_true, ih, Nat.testBit_two_pow]
      constructor
      · rintro (⟨a, b⟩ | a)
        · exact ⟨by omega, b⟩
        · have := of_decide_eq_true a
          subst this
          exact ⟨by omega, c⟩
      · rintro ⟨a, b⟩
        by_cases e : j = n
        · right; rw [e]; exact decide_eq_true rfl
        · left; exact ⟨by omega, b⟩
    · rw [if_neg c, ih]
      constructor
      · rintro ⟨a, b⟩; exact ⟨by omega, b⟩
      · rintro ⟨a, b⟩
        by_cases e : j = n
        · subst e; exact absurd b c
        · exact ⟨by omega, b⟩
theorem whF_bit (m : MC) : ∀ e j, (whF m e).testBit j = true ↔ j < 4 ∧ ∀ i, i < e → (trk (mpa m) j).testBit (m.2.2.2.1.2.2.2 i) = true
  | 0, j => by
    have h15 : whF m 0 = 2 ^ 4 - 1 := rfl
    rw [h15, Nat.testBit_two_pow_sub_one]
    exact ⟨fun q => ⟨of_decide_eq_true q, fun i hi => absurd hi (by omega)⟩, fun q => decide_eq_true q.1⟩
  | e + 1, j => by
    show (whF m e &&& twN (2 ^ m.2.2.2.1.2.2.2 e) (trk (mpa m)) 4).testBit j = true ↔ _
    rw [Nat.testBit_and, Bool.and_eq_true, whF_bit m e j, twN_bit 4 j, andn_pow]
    constructor
    · rintro ⟨⟨a, b⟩, -, c⟩
      refine ⟨a, fun i hi => ?_⟩
      by_cases q : i = e
      · rw [q]; exact c
      · exact b i (by omega)
    · rintro ⟨a, b⟩
      exact ⟨⟨a, fun i hi => b i (by omega)⟩, a, b e (by omega)⟩
theorem who_eq (R : Rel s m) : whF m m.1.2.2.2 = twN s.2.2.2.2.2.1.1 (trk s.2.1) 4 := by
  obtain ⟨f1, f2, f3⟩ := R.2.2.2.2.2.1
  apply Nat.eq_of_testBit_eq
  intro j
  have e1 := whF_bit m m.1.2.2.2 j
  have e2 := twN_bit (f := s.2.2.2.2.2.1.1) (tk := trk s.2.1) 4 j
  have e3 : (whF m m.1.2.2.2).testBit j = true ↔ (twN s.2.2.2.2.2.1.1 (trk s.2.1) 4).testBit j = true := by
    rw [e1, e2, andn_zero]
    constructor
    · rintro ⟨a, b⟩
      refine ⟨a, fun x hx => ?_⟩
      obtain ⟨e, he, rfl⟩ := (f3 x).mp hx
      have := b e he
      rw [R.2.1.tr4] at this
      exact this
    · rintro ⟨a, b⟩
      refine ⟨a, fun i hi => ?_⟩
      rw [R.2.1.tr4]
      exact b _ ((f3 _).mpr ⟨i, hi, rfl⟩)
  cases q1 : (whF m m.1.2.2.2).testBit j <;> cases q2 : (twN s.2.2.2.2.2.1.1 (trk s.2.1) 4).testBit j
  · rfl
  · rw [q1, q2] at e3; exact absurd (e3.mpr rfl) (by decide)
  · rw [q1, q2] at e3; exact absurd (e3.mp rfl) (by decide)
  · rfl
theorem ft_0 (s d : Nat) : ∀ i, ft s d 0 i = s + d * i
  | 0 => by rw [Nat.mul_zero]; rfl
  | i + 1 => by
    show ft s d 0 i + (d - (if (i + 1) % 2 = 0 then 0 else 0)) = _
    have : (if (i + 1) % 2 = 0 then 0 else 0) = 0 := by split <;> rfl
    rw [ft_0 s d i, this, Nat.mul_succ]
    omega
theorem onT_0 {a d x : Nat} (hd : 0 < d) : onT a d 0 x ↔ a ≤ x ∧ (x - a) % d = 0 := by
  constructor
  · rintro ⟨i, e⟩
    rw [ft_0] at e
    refine ⟨by omega, ?_⟩
    rw [show x - a = d * i by omega, Nat.mul_mod_right]
  · rintro ⟨h1, h2⟩
    refine ⟨(x - a) / d, ?_⟩
    rw [ft_0]
    have := Nat.div_add_mod (x - a) d
    omega
theorem strE_iff {fd : Nat → Nat} {a d : Nat} : ∀ e, strE fd a d e = true ↔ ∀ i, i < e → a ≤ fd i ∧ (fd i - a) % d = 0
  | 0 => ⟨fun _ i hi => absurd hi (by omega), fun _ => rfl⟩
  | e + 1 => by
    show (strE fd a d e && decide (a ≤ fd e) && decide ((fd e - a) % d = 0)) = true ↔ _
    rw [Bool.and_eq_true, Bool.and_eq_true, strE_iff e, decide_eq_true_eq, decide_eq_true_eq]
    constructor
    · rintro ⟨⟨b, c⟩, q⟩ i hi
      by_cases ei : i = e
      · rw [ei]; exact ⟨c, q⟩
      · exact b i (by omega)
    · intro b
      exact ⟨⟨fun i hi => b i (by omega), (b e (by omega)).1⟩, (b e (by omega)).2⟩
theorem str_eq (R : Rel s m) (ok : StOk s) {a d : Nat} (hd : 2 ≤ d) : strM m a d = strB s a d := by
  obtain ⟨f1, f2, f3⟩ := R.2.2.2.2.2.1
  have hl := ok.2.1.2.1
  have e1 : strM m a d = true ↔ ∀ i, i < m.1.2.2.2 → a ≤ m.2.2.2.1.2.2.2 i ∧ (m.2.2.2.1.2.2.2 i - a) % d = 0 := strE_iff m.1.2.2.2
  have e2 : strB s a d = true ↔ andn s.2.2.2.2.2.1.1 (trkN s.2.1.1.1 a d 0) = 0 := decide_eq_true_iff
  have e3 : strM m a d = true ↔ strB s a d = true := by
    rw [e1, e2, andn_zero]
    constructor
    · intro b x hx
      obtain ⟨e, he, rfl⟩ := (f3 x).mp hx
      rw [trkN_bit hl hd (by omega)]
      exact ⟨f2 e he, (onT_0 (by omega)).mpr (b e he)⟩
    · intro b i hi
      have := b _ ((f3 _).mpr ⟨i, hi, rfl⟩)
      rw [trkN_bit hl hd (by omega)] at this
      exact (onT_0 (by omega)).mp this.2
  cases q1 : strM m a d <;> cases q2 : strB s a d
  · rfl
  · rw [q1, q2] at e3; exact absurd (e3.mpr rfl) (by decide)
  · rw [q1, q2] at e3; exact absurd (e3.mp rfl) (by decide)
  · rfl
theorem aStr_eq (R : Rel s m) (ok : StOk s) (n : Nat) : aStr (strM m) n = aStr (strB s) n := by
  unfold aStr
  rw [stO_congr 10 (fun a d _ h2 _ => str_eq R ok h2)]
/-! jumps -/
theorem jpI_n (B : Nat → Nat → Bool) (x : Nat) (q : Nat × Int32) : ∀ n, (jpI B x q n).1 = q.1 + cnt (B x) n
  | 0 => rfl
  | n + 1 => by
    have ih := jpI_n B x q n
    show (jpS B x n (jpI B x q n)).1 = q.1 + (cnt (B x) n + (if B x n = true then 1 else 0))
    unfold jpS
    by_cases c : B x n = true
    · rw [if_pos c, if_pos c]
      show (jpI B x q n).1 + 1 = _
      omega
    · rw [if_neg c, if_neg c]
      omega
theorem jpO_n (B : Nat → Nat → Bool) (N : Nat) : ∀ n, (jpO B N n).1 = sumTo (fun x => cnt (B x) N) n
  | 0 => rfl
  | n + 1 => by
    show (jpI B n (jpO B N n) N).1 = sumTo _ n + cnt (B n) N
    rw [jpI_n, jpO_n B N n]
theorem firstF_app (B : Nat → Bool) : ∀ m a, firstF B a (m + 1) = (match firstF B a m with | some y => some y | none => if B (a + m) = true then some (a + m) else none)
  | 0, a => by
    show (if B a = true then some a else none) = (if B (a + 0) = true then some (a + 0) else none)
    rw [Nat.add_zero]
  | m + 1, a => by
    have ih := firstF_app B m (a + 1)
    show (if B a = true then some a else firstF B (a + 1) (m + 1)) = (match (if B a = true then some a else firstF B (a + 1) m) with | some y => some y | none => if B (a + (m + 1)) = true then some (a + (m + 1)) else none)
    by_cases c : B a = true
    · rw [if_pos c, if_pos c]
    · rw [if_neg c, if_neg c, ih, show a + 1 + m = a + (m + 1) by omega]
theorem cnt0 (B : Nat → Bool) : ∀ n, cnt B n = 0 ↔ firstF B 0 n = none
  | 0 => ⟨fun _ => rfl, fun _ => rfl⟩
  | n + 1 => by
    have ih := cnt0 B n
    rw [firstF_app]
    show cnt B n + (if B n = true then 1 else 0) = 0 ↔ _
    cases hf : firstF B 0 n with
    | some y =>
      have : cnt B n ≠ 0 := fun q => by rw [ih, hf] at q; cases q
      exact ⟨fun q => absurd q (by omega), fun q => by cases q⟩
    | none =>
      have : cnt B n = 0 := ih.mpr hf
      rw [Nat.zero_add, this]
      by_cases c : B n = true
      · rw [if_pos c]
        exact ⟨fun q => absurd q (by omega), fun q => by rw [if_pos c] at q; cases q⟩
      · rw [if_neg c]
        exact ⟨fun _ => by rw [if_neg c], fun _ => rfl⟩
theorem jpI_f (B : Nat → Nat → Bool) (x : Nat) (q : Nat × Int32) : ∀ n, (jpI B x q n).2 = if q.1 = 0 then (match firstF (B x) 0 n with | some y => nI (100 * x + y) | none => q.2) else q.2
  | 0 => by
    show q.2 = if q.1 = 0 then q.2 else q.2
    split <;> rfl
  | n + 1 => by
    have ih := jpI_f B x q n
    have hn := jpI_n B x q n
    have h0 := cnt0 (B x) n
    rw [firstF_app, Nat.zero_add]
    show (jpS B x n (jpI B x q n)).2 = _
    unfold jpS
    by_cases c : B x n = true
    · rw [if_pos c]
      show (if (jpI B x q n).1 = 0 then nI (100 * x + n) else (jpI B x q n).2) = _
      rw [ih, hn]
      by_cases cq : q.1 = 0
      · rw [if_pos cq, if_pos cq, cq, Nat.zero_add]
        cases hf : firstF (B x) 0 n with
        | some y =>
          rw [if_neg (fun e => by rw [h0, hf] at e; cases e)]
        | none =>
          rw [if_pos (h0.mpr hf)]
          show _ = (match (if B x n = true then some n else none) with | some y => nI (100 * x + y) | none => q.2)
          rw [if_pos c]
      · rw [if_neg cq, if_neg cq, if_neg (by omega)]
    · rw [if_neg c, ih]
      by_cases cq : q.1 = 0
      · rw [if_pos cq, if_pos cq]
        cases hf : firstF (B x) 0 n with
        | some y => rfl
        | none =>
          show q.2 = (match (if B x n = true then some n else none) with | some y => nI (100 * x + y) | none => q.2)
          rw [if_neg c]
      · rw [if_neg cq, if_neg cq]
/-- the first pair, row by row -/
def fB (B : Nat → Nat → Bool) (N : Nat) : Nat → Nat → Option (Nat × Nat)
  | _, 0 => none
  | x, m + 1 => (match firstF (B x) 0 N with
    | some y => some (x, y)
    | none => fB B N (x + 1) m)
theorem fB_app (B : Nat → Nat → Bool) (N : Nat) : ∀ m x, fB B N x (m + 1) = (match fB B N x m with | some q => some q | none => (match firstF (B (x + m)) 0 N with | some y => some (x + m, y) | none => none))
  | 0, x => rfl
  | m + 1, x => by
    have ih := fB_app B N m (x + 1)
    show (match firstF (B x) 0 N with | some y => some (x, y) | none => fB B N (x + 1) (m + 1)) = (match (match firstF (B x) 0 N with | some y => some (x, y) | none => fB B N (x + 1) m) with | some q => some q | none => (match firstF (B (x + (m + 1))) 0 N with | some y => some (x + (m + 1), y) | none => none))
    cases firstF (B x) 0 N with
    | some y => rfl
    | none =>
      show fB B N (x + 1) (m + 1) = _
      rw [ih, show x + 1 + m = x + (m + 1) by omega]
theorem jpO_f (B : Nat → Nat → Bool) (N : Nat) : ∀ n, (jpO B N n).2 = jI (fB B N 0 n) ∧ ((jpO B N n).1 = 0 ↔ fB B N 0 n = none)
  | 0 => ⟨rfl, fun _ => rfl, fun _ => rfl⟩
  | n + 1 => by
    obtain ⟨i1, i2⟩ := jpO_f B N n
    have h1 := jpI_f B n (jpO B N n) N
    have h2 := jpI_n B n (jpO B N n) N
    have h3 := cnt0 (B n) N
    rw [fB_app, Nat.zero_add]
    show (jpI B n (jpO B N n) N).2 = _ ∧ ((jpI B n (jpO B N n) N).1 = 0 ↔ _)
    rw [h1, h2]
    cases hf : fB B N 0 n with
    | some q =>
      have hz : ¬ (jpO B N n).1 = 0 := fun e => by rw [i2, hf] at e; cases e
      rw [if_neg hz, i1, hf]
      exact ⟨rfl, fun e => absurd e (by omega), fun e => by cases e⟩
    | none =>
      have hz : (jpO B N n).1 = 0 := i2.mpr hf
      rw [if_pos hz, hz, Nat.zero_add, i1, hf]
      cases hg : firstF (B n) 0 N with
      | some y =>
        refine ⟨rfl, Iff.intro (fun e => ?_) (fun e => by cases e)⟩
        rw [h3, hg] at e
        cases e
      | none => exact ⟨rfl, Iff.intro (fun _ => rfl) (fun _ => h3.mpr hg)⟩
theorem firstF_eq {B B' : Nat → Bool} {a n a' n' : Nat} (h1 : ∀ y, firstF B a n = some y → a' ≤ y ∧ y < a' + n' ∧ B' y = true) (h2 : ∀ y, a' ≤ y → y < a' + n' → B' y = true → a ≤ y ∧ y < a + n ∧ B y = true) : firstF B a n = firstF B' a' n' := by
  cases e : firstF B a n with
  | none =>
    cases e' : firstF B' a' n' with
    | none => rfl
    | some y =>
      obtain ⟨c1, c2, c3, -⟩ := firstF_lt B' n' a' y e'
      obtain ⟨d1, d2, d3⟩ := h2 y c1 c2 c3
      rw [firstF_none B n a e y d1 d2] at d3
      cases d3
  | some y =>
    obtain ⟨c1, c2, c3, c4⟩ := firstF_lt B n a y e
    obtain ⟨d1, d2, d3⟩ := h1 y e
    cases e' : firstF B' a' n' with
    | none =>
      rw [firstF_none B' n' a' e' y d1 d2] at d3
      cases d3
    | some z =>
      obtain ⟨g1, g2, g3, g4⟩ := firstF_lt B' n' a' z e'
      obtain ⟨k1, k2, k3⟩ := h2 z g1 g2 g3
      rcases Nat.lt_trichotomy y z with q | q | q
      · have := g4 y d1 q
        rw [this] at d3; cases d3
      · rw [q]
      · have := c4 z k1 q
        rw [this] at k3; cases k3
theorem fJ_eq (R : Rel s m) (ok : StOk s) {d : Nat} : ∀ r x, x + r = s.2.1.1.1 + 1 → fB (jpB m.2.2.2.1.1 d) (s.2.1.1.1 + 1) x r = fJ s.2.2.1 d x (r + (60 - s.2.1.1.1)) := by
  have hl := ok.2.1.2.1
  have hz := ok.2.2.1.2.1
  intro r
  induction r with
  | zero =>
    intro x hx
    have key : ∀ n y, s.2.1.1.1 < y → fJ s.2.2.1 d y n = none := by
      intro n
      induction n with
      | zero => intro y _; rfl
      | succ n ih =>
        intro y hy
        have : hasP s.2.2.1 0 y = false := decide_eq_false (by rw [hz 0 y hy]; omega)
        unfold fJ
        rw [this, if_neg (by decide)]
        exact ih (y + 1) (by omega)
    rw [key _ _ (by omega)]
    rfl
  | succ r ih =>
    intro x hx
    rw [show r + 1 + (60 - s.2.1.1.1) = r + (60 - s.2.1.1.1) + 1 by omega]
    have e := ih (x + 1) (by omega)
    have hD0 : m.2.2.2.1.1 (61 * 0 + x) = s.2.2.1.1 0 x := R.D (by omega) (by omega)
    show (match firstF (jpB m.2.2.2.1.1 d x) 0 (s.2.1.1.1 + 1) with | some y => some (x, y) | none => fB (jpB m.2.2.2.1.1 d) (s.2.1.1.1 + 1) (x + 1) r) = (if hasP s.2.2.1 0 x = true then (match firstF (hasP s.2.2.1 1) (x - d) (61 - (x - d)) with | some y => if y ≤ x + d then some (x, y) else fJ s.2.2.1 d (x + 1) (r + (60 - s.2.1.1.1)) | none => fJ s.2.2.1 d (x + 1) (r + (60 - s.2.1.1.1))) else fJ s.2.2.1 d (x + 1) (r + (60 - s.2.1.1.1)))
    rw [e]
    have jb : ∀ y, y ≤ s.2.1.1.1 → (jpB m.2.2.2.1.1 d x y = true ↔ hasP s.2.2.1 0 x = true ∧ hasP s.2.2.1 1 y = true ∧ y ≤ x + d ∧ x ≤ y + d) := by
      intro y hy
      have hD1 : m.2.2.2.1.1 (61 * 1 + y) = s.2.2.1.1 1 y := R.D (by omega) (by omega)
      unfold jpB
      rw [hD0, hD1, Bool.and_eq_true, Bool.and_eq_true, Bool.and_eq_true, decide_eq_true_eq, decide_eq_true_eq]
      exact ⟨fun q => ⟨decide_eq_true q.1.1, decide_eq_true q.1.2, of_decide_eq_true q.2.1, of_decide_eq_true q.2.2⟩, fun q => ⟨⟨of_decide_eq_true q.1, of_decide_eq_true q.2.1⟩, decide_eq_true q.2.2.1, decide_eq_true q.2.2.2⟩⟩
    by_cases c : hasP s.2.2.1 0 x = true
    · rw [if_pos c]
      cases hg : firstF (hasP s.2.2.1 1) (x - d) (61 - (x - d)) with
      | some y =>
        obtain ⟨g1, g2, g3, g4⟩ := firstF_lt _ _ _ _ hg
        have hyl : y ≤ s.2.1.1.1 := by
          apply Classical.byContradiction
          intro q
          have : hasP s.2.2.1 1 y = false := decide_eq_false (by rw [hz 1 y (by omega)]; omega)
          rw [this] at g3; cases g3
        by_cases cy : y ≤ x + d
        · have : firstF (jpB m.2.2.2.1.1 d x) 0 (s.2.1.1.1 + 1) = some y := by
            cases hh : firstF (jpB m.2.2.2.1.1 d x) 0 (s.2.1.1.1 + 1) with
            | none =>
              have q := firstF_none _ _ _ hh y (by omega) (by omega)
              rw [(jb y hyl).mpr ⟨c, g3, cy, by omega⟩] at q
              cases q
            | some z =>
              obtain ⟨k1, k2, k3, k4⟩ := firstF_lt _ _ _ _ hh
              have kz := (jb z (by omega)).mp k3
              rcases Nat.lt_trichotomy z y with q | q | q
              · have := g4 z (by omega) q
                rw [this] at kz; exact absurd kz.2.1 (by decide)
              · rw [q]
              · have := k4 y (by omega) q
                rw [(jb y hyl).mpr ⟨c, g3, cy, by omega⟩] at this
                cases this
          rw [this]
          show some (x, y) = if y ≤ x + d then _ else _
          rw [if_pos cy]
        · have : firstF (jpB m.2.2.2.1.1 d x) 0 (s.2.1.1.1 + 1) = none := by
            cases hh : firstF (jpB m.2.2.2.1.1 d x) 0 (s.2.1.1.1 + 1) with
            | none => rfl
            | some z =>
              obtain ⟨k1, k2, k3, k4⟩ := firstF_lt _ _ _ _ hh
              have kz := (jb z (by omega)).mp k3
              have := g4 z (by omega) (by omega)
              rw [this] at kz; exact absurd kz.2.1 (by decide)
          rw [this]
          show _ = if y ≤ x + d then _ else _
          rw [if_neg cy]
      | none =>
        have : firstF (jpB m.2.2.2.1.1 d x) 0 (s.2.1.1.1 + 1) = none := by
          cases hh : firstF (jpB m.2.2.2.1.1 d x) 0 (s.2.1.1.1 + 1) with
          | none => rfl
          | some z =>
            obtain ⟨k1, k2, k3, k4⟩ := firstF_lt _ _ _ _ hh
            have kz := (jb z (by omega)).mp k3
            have := firstF_none _ _ _ hg z (by omega) (by omega)
            rw [this] at kz; exact absurd kz.2.1 (by decide)
        rw [this]
    · rw [if_neg c]
      have : firstF (jpB m.2.2.2.1.1 d x) 0 (s.2.1.1.1 + 1) = none := by
        cases hh : firstF (jpB m.2.2.2.1.1 d x) 0 (s.2.1.1.1 + 1) with
        | none => rfl
        | some z =>
          obtain ⟨k1, k2, k3, k4⟩ := firstF_lt _ _ _ _ hh
          exact absurd ((jb z (by omega)).mp k3).1 c
      rw [this]
theorem sumTo_cut {f : Nat → Nat} {k : Nat} (h : ∀ x, k ≤ x → f x = 0) : ∀ n, sumTo f (k + n) = sumTo f k
  | 0 => rfl
  | n + 1 => by
    show sumTo f (k + n) + f (k + n) = _
    rw [sumTo_cut h n, h (k + n) (by omega)]
    rfl
theorem jumps_eq (R : Rel s m) (ok : StOk s) {d n : Nat} (hd : d ≤ 60) : mJump m d n = if n = 0 then nI (sumTo (jmpF s.2.2.1 d) 61) else jI (fJ s.2.2.1 d 0 61) := by
  have hl := ok.2.1.2.1
  have hz := ok.2.2.1.2.1
  unfold mJump
  rw [R.len]
  by_cases c : n = 0
  · rw [if_pos c, if_pos c, jpO_n]
    congr 1
    have h61 := sumTo_cut (f := jmpF s.2.2.1 d) (k := s.2.1.1.1 + 1) (fun x hx => by
      have : hasP s.2.2.1 0 x = false := decide_eq_false (by rw [hz 0 x (by omega)]; omega)
      unfold jmpF
      rw [this, if_neg (by decide)]) (60 - s.2.1.1.1)
    rw [show s.2.1.1.1 + 1 + (60 - s.2.1.1.1) = 61 by omega] at h61
    rw [h61]
    refine sumTo_congr (fun x hx => ?_)
    have hD0 : m.2.2.2.1.1 (61 * 0 + x) = s.2.2.1.1 0 x := R.D (by omega) (by omega)
    unfold jmpF
    by_cases cx : hasP s.2.2.1 0 x = true
    · rw [if_pos cx]
      unfold cntF
      have e1 : cnt (jpB m.2.2.2.1.1 d x) (s.2.1.1.1 + 1) = cnt (fun y => hasP s.2.2.1 1 y && decide (y ≤ x + d) && decide (x - d ≤ y)) (s.2.1.1.1 + 1) := cnt_congr (fun y hy => by
        have hD1 : m.2.2.2.1.1 (61 * 1 + y) = s.2.2.1.1 1 y := R.D (by omega) (by omega)
        have cx' : decide (0 < s.2.2.1.1 0 x) = true := cx
        have ed : decide (x ≤ y + d) = decide (x - d ≤ y) := by
          by_cases q : x ≤ y + d
          · rw [decide_eq_true q, decide_eq_true (by omega)]
          · rw [decide_eq_false q, decide_eq_false (by omega)]
        unfold jpB
        rw [hD0, hD1, cx', Bool.true_and, ed, Bool.and_assoc]
        rfl)
      rw [e1]
      have e2 := cnt_cut (B := fun y => hasP s.2.2.1 1 y && decide (y ≤ x + d) && decide (x - d ≤ y)) (m := s.2.1.1.1 + 1) (fun y hy => by
        have : hasP s.2.2.1 1 y = false := decide_eq_false (by rw [hz 1 y (by omega)]; omega)
        show (hasP s.2.2.1 1 y && decide (y ≤ x + d) && decide (x - d ≤ y)) = false
        rw [this]; rfl) 61 (by omega)
      rw [← e2]
      have e3 : ∀ N, N ≤ 61 → min 60 (x + d) + 1 ≤ N → cnt (fun y => hasP s.2.2.1 1 y && decide (y ≤ x + d) && decide (x - d ≤ y)) N = cnt (fun y => hasP s.2.2.1 1 y && decide (y ≤ x + d) && decide (x - d ≤ y)) (min 60 (x + d) + 1) := by
        intro N
        induction N with
        | zero => intro _ q; omega
        | succ N ih =>
          intro hN q
          by_cases qe : min 60 (x + d) + 1 = N + 1
          · rw [qe]
          · show cnt _ N + _ = _
            have ef : (hasP s.2.2.1 1 N && decide (N ≤ x + d) && decide (x - d ≤ N)) = false := by
              rw [decide_eq_false (show ¬ N ≤ x + d by omega), Bool.and_false, Bool.false_and]
            rw [ih (by omega) (by omega)]
            show _ + (if (hasP s.2.2.1 1 N && decide (N ≤ x + d) && decide (x - d ≤ N)) = true then 1 else 0) = _
            rw [ef]
            rfl
      rw [e3 61 (by omega) (by omega)]
      refine cnt_congr (fun y hy => ?_)
      rw [decide_eq_true (show y ≤ x + d by omega), Bool.and_true, Bool.and_comm]
    · rw [if_neg cx]
      refine cnt_zero (fun y hy => ?_)
      have cx' : decide (0 < s.2.2.1.1 0 x) = false := by
        cases q : decide (0 < s.2.2.1.1 0 x)
        · rfl
        · exact absurd q cx
      unfold jpB
      rw [hD0, cx', Bool.false_and, Bool.false_and]
  · rw [if_neg c, if_neg c, (jpO_f _ _ _).1, fJ_eq R ok (s.2.1.1.1 + 1) 0 (by omega), show s.2.1.1.1 + 1 + (60 - s.2.1.1.1) = 61 by omega]
/-! odds -/
theorem odds_tab : ∀ pr, pr < 7 → ∀ x, x < 11 → ∀ n, n < 7 → oddM pr x n (2 ^ pr) = oddU pr x n ∧ gcE 64 (oddU pr x n) (10 ^ pr) = true ∧ gcF 64 (oddU pr x n) (10 ^ pr) ≠ 0 := by decide +kernel
theorem one_tab : ∀ W, W < 10 → ∀ x, x < 11 → ∀ n, n < 6 → oneM W x n (2 ^ n) = oneU W x n ∧ gcE 64 (oneU W x n) (10 ^ n) = true ∧ gcF 64 (oneU W x n) (10 ^ n) ≠ 0 := by decide +kernel
theorem max_pos {g : Nat} (h : g ≠ 0) : max 1 g = g := by omega
end PUR
