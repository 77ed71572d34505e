/-! both sides -/
def PaEq (m : MC) (pa : PathS) : Prop := m.2.2.1.2.1 0 = pa.1.1 ∧ m.2.2.1.2.1 1 = pa.1.2.1 ∧ m.2.2.1.2.1 2 = pa.1.2.2.1 ∧ m.2.2.1.2.1 3 = pa.1.2.2.2 ∧ ∀ k, k < 2 → m.2.2.1.2.2.1 k = pa.2.1 k ∧ m.2.2.1.2.2.2.1 k = pa.2.2.1 k ∧ m.2.2.1.2.2.2.2 k = pa.2.2.2 k
def FdEq (m : MC) (s : CS) : Prop := m.1.2.2.2 = s.2.2.2.2.2.1.2 ∧ (∀ e, e < m.1.2.2.2 → m.2.2.2.1.2.2.2 e ≤ s.2.1.1.1) ∧ ∀ x, s.2.2.2.2.2.1.1.testBit x = true ↔ ∃ e, e < m.1.2.2.2 ∧ m.2.2.2.1.2.2.2 e = x
def UdEq (m : MC) (s : CS) : Prop := m.1.2.2.1 = s.2.2.2.1.2.2 ∧ ∀ i, i < m.1.2.2.1 → ∀ q, q < 248 → m.2.2.2.1.2.2.1 (248 * i + q) = sv (s.2.2.2.1.1 ((s.2.2.2.1.2.1 + 8 - s.2.2.2.1.2.2 + i) % 8)) q
def KpEq (m : MC) (s : CS) : Prop := ∀ i, i < 2 → m.2.2.2.2.1 i = s.2.2.2.2.1.2 i ∧ (s.2.2.2.2.1.2 i = true → ∀ q, q < 248 → m.2.2.2.1.2.1 (248 * i + q) = sv (s.2.2.2.2.1.1 i) q)
def TxEq (m : MC) (s : CS) : Prop := m.1.2.1 = s.1.2 ∧ ∀ i, i < 120 → m.2.2.1.1 i = s.1.1 i
def Rel (s : CS) (m : MC) : Prop := TxEq m s ∧ PaEq m s.2.1 ∧ (∀ i, i < 248 → m.2.2.2.1.1 i = sv s.2.2.1 i) ∧ UdEq m s ∧ KpEq m s ∧ FdEq m s ∧ m.1.1 = s.2.2.2.2.2.2
def Bt (h : sm_Hp) (s : CS) : Prop := ∃ (j : CJ) (m : MC), InvC h s j ∧ MAt h m ∧ Rel s m ∧ StOk s ∧ h.2 = 111
/-- the same answer on both sides, and both go on alike -/
def Opc (y1 y2 : Nat) (L1 L2 : List Value) (h : sm_Hp) : Prop := ∀ (xs : List Int32) (K : Option Value → Option Value → sm_Hp → Prop), (∀ r h' s', Bt h' s' → K (some (.int r)) (some (.int r)) h') → Wp xs y1 0 L1 [] h 0 0 (fun r1 h1 => Wp xs y2 0 L2 [] h1 0 0 (fun r2 h2 => K r1 r2 h2))
theorem MAt.frC {h h' : sm_Hp} {m : MC} (I : MAt h m) (f : FrC h h') : MAt h' m := by
  obtain ⟨a0, a1, a2, a3, a4, a5, a6, a7, a8, a9, b0, b1, b2⟩ := I
  exact ⟨(f.1 _ (by omega)).trans a0, (f.1 _ (by omega)).trans a1, (f.1 _ (by omega)).trans a2, (f.1 _ (by omega)).trans a3, (f.1 _ (by omega)).trans a4, (f.1 _ (by omega)).trans a5, (f.1 _ (by omega)).trans a6, (f.1 _ (by omega)).trans a7, (f.1 _ (by omega)).trans a8, (f.1 _ (by omega)).trans a9, (f.1 _ (by omega)).trans b0, (f.1 _ (by omega)).trans b1, (f.1 _ (by omega)).trans b2⟩
theorem InvC.frM {h h' : sm_Hp} {s : CS} {j : CJ} (I : InvC h s j) (f : FrM h h') : InvC h' s j := by
  obtain ⟨⟨a0, a1, a2⟩, a3, ⟨a4, a5⟩, a6, ⟨a7, a8⟩, a9, ⟨b0, b1, b2, b3⟩, b4, b5⟩ := I
  have hj := cLp_or j
  exact ⟨⟨(f.1 _ (by omega)).trans a0, (f.1 _ (by omega)).trans a1, (f.1 _ (by omega)).trans a2⟩, fun q hq => (f.1 _ (by omega)).trans (a3 q hq), ⟨(f.1 _ (by omega)).trans a4, (f.1 _ (by omega)).trans a5⟩, fun i hi q hq => (f.1 _ (by omega)).trans (a6 i hi q hq), ⟨(f.1 _ (by omega)).trans a7, (f.1 _ (by omega)).trans a8⟩, fun i hi q hq => (f.1 _ (by omega)).trans (a9 i hi q hq), ⟨(f.1 _ (by omega)).trans b0, (f.1 _ (by omega)).trans b1, (f.1 _ (by omega)).trans b2, (f.1 _ (by omega)).trans b3⟩, fun q hq => (f.1 _ (by omega)).trans (b4 q hq), fun q hq => (f.1 _ (by omega)).trans (b5 q hq)⟩
section REL
variable {h : sm_Hp} {s : CS} {m : MC}
theorem Rel.len (R : Rel s m) : m.2.2.1.2.1 0 = s.2.1.1.1 := R.2.1.1
theorem Rel.um (R : Rel s m) : m.1.2.2.1 = s.2.2.2.1.2.2 := R.2.2.2.1.1
theorem bitI_1 (g x : Nat) : bitI g x = if g.testBit x = true then 1 else 0 := rfl
theorem sv_le {len : Nat} {P : PrS} (ok : PrOk len P) {i : Nat} : sv P i ≤ 9999 := by
  obtain ⟨h1, h2, h3, h4, h5⟩ := ok
  unfold sv
  split
  · have := h1 (i / 61) (i % 61); omega
  · split
    · have := bitI_le (P.2.1 ((i - 122) / 61)) ((i - 122) % 61); omega
    · split
      · have := h4 (i - 244); omega
      · exact h5 _
theorem Rel.sok (R : Rel s m) (ok : StOk s) : SfOk m.2.2.2.1.1 := fun i hi => by
  rw [R.2.2.1 i hi]
  exact sv_le ok.2.2.1
theorem Rel.D (R : Rel s m) {k x : Nat} (hk : k < 2) (hx : x < 61) : m.2.2.2.1.1 (61 * k + x) = s.2.2.1.1 k x := by rw [R.2.2.1 _ (by omega), sv_D hk hx]
theorem Rel.G (R : Rel s m) {k x : Nat} (hk : k < 2) (hx : x < 61) : m.2.2.2.1.1 (122 + 61 * k + x) = bitI (s.2.2.1.2.1 k) x := by rw [R.2.2.1 _ (by omega), sv_G hk hx]
theorem Rel.W (R : Rel s m) {k : Nat} (hk : k < 2) : m.2.2.2.1.1 (244 + k) = s.2.2.1.2.2.1 k := by rw [R.2.2.1 _ (by omega), sv_W hk]
theorem Rel.T (R : Rel s m) {k : Nat} (hk : k < 2) : m.2.2.2.1.1 (246 + k) = s.2.2.1.2.2.2 k := by rw [R.2.2.1 _ (by omega), sv_T]
theorem PaEq.ok {pa : PathS} (e : PaEq m pa) (ok : PathOk pa) : PathOk (mpa m) := by
  obtain ⟨e0, e1, e2, e3, e4⟩ := e
  obtain ⟨p1, p2, p3, p4, p5, p6, p7⟩ := ok
  refine ⟨?_, ?_, ?_, ?_, ?_, ?_, fun k hk => ?_⟩
  · show 5 ≤ m.2.2.1.2.1 0; omega
  · show m.2.2.1.2.1 0 ≤ 60; omega
  · show m.2.2.1.2.1 1 ≤ m.2.2.1.2.1 0; omega
  · show m.2.2.1.2.1 2 ≤ m.2.2.1.2.1 0; omega
  · show 1 ≤ m.2.2.1.2.1 3; omega
  · show m.2.2.1.2.1 3 ≤ 9; omega
  · obtain ⟨a, b, c⟩ := e4 k hk
    show m.2.2.1.2.2.1 k ≤ 9 ∧ 2 ≤ m.2.2.1.2.2.2.1 k ∧ m.2.2.1.2.2.2.1 k ≤ 9 ∧ 1 ≤ m.2.2.1.2.2.2.2 k ∧ m.2.2.1.2.2.2.2 k ≤ 9
    rw [a, b, c]
    exact p7 k hk
theorem PaEq.tr4 {pa : PathS} (e : PaEq m pa) {j : Nat} : trk (mpa m) j = trk pa j := by
  obtain ⟨e0, e1, e2, e3, e4⟩ := e
  obtain ⟨a, b, c⟩ := e4 (j % 2) (by omega)
  show trkN (m.2.2.1.2.1 0) (m.2.2.1.2.2.1 (j % 2)) (m.2.2.1.2.2.2.1 (j % 2)) (j / 2) = _
  rw [e0, a, b]
  rfl
theorem twN_congr {f : Nat} {tk tl : Nat → Nat} : ∀ n, (∀ j, j < n → tk j = tl j) → twN f tk n = twN f tl n
  | 0, _ => rfl
  | n + 1, e => by
    unfold twN
    rw [twN_congr n (fun j hj => e j (by omega)), e n (by omega)]
theorem PaEq.tw {pa : PathS} (e : PaEq m pa) {f : Nat} : twN f (trk (mpa m)) 4 = twN f (trk pa) 4 := twN_congr 4 (fun j _ => e.tr4)
theorem PaEq.cut {pa : PathS} (e : PaEq m pa) {f k : Nat} (hk : k < 2) : cutN (mpa m) f k = cutN pa f k := by
  show (f + m.2.2.1.2.2.2.2 k - 1) / m.2.2.1.2.2.2.2 k = _
  rw [(e.2.2.2.2 k hk).2.2]
  rfl
theorem PaEq.go {pa : PathS} (e : PaEq m pa) {k o d n : Nat} (hk : k < 2) : aGo (mpa m) k o d n = aGo pa k o d n := by
  have eB : ∀ i, goB (mpa m) k o d i = goB pa k o d i := by
    intro i
    unfold goB
    rw [e.cut hk, e.cut hk, e.cut hk, e.cut (show 1 - k < 2 by omega)]
    show _ = _
    have e0 : (mpa m).1.1 = pa.1.1 := e.1
    have e1 : (mpa m).1.2.1 = pa.1.2.1 := e.2.1
    have e2 : (mpa m).1.2.2.1 = pa.1.2.2.1 := e.2.2.1
    have e3 : (mpa m).1.2.2.2 = pa.1.2.2.2 := e.2.2.2.1
    rw [e0, e1, e2, e3]
  unfold aGo
  rw [goT_congr 100 (fun i _ => eB i)]
/-- how many prints: those behind the path's end don't count -/
theorem Rel.prs (R : Rel s m) (ok : StOk s) {k n : Nat} (hk : k < 2) : cnt (fun x => decide (n < m.2.2.2.1.1 (61 * k + x))) (m.2.2.1.2.1 0 + 1) = nPr s.2.2.1 k n := by
  have hl := ok.2.1.2.1
  rw [R.len]
  unfold nPr
  rw [cnt_cut (B := fun x => decide (n < s.2.2.1.1 k x)) (m := s.2.1.1.1 + 1) (fun x hx => decide_eq_false (by rw [ok.2.2.1.2.1 k x (by omega)]; omega)) 61 (by omega)]
  exact cnt_congr (fun x hx => by rw [R.D hk (by omega)])
theorem bothF_of {len : Nat} {P : PrS} (hl : len ≤ 60) (ok : PrOk len P) {f : Nat → Nat} (e : ∀ i, i < 248 → f i = sv P i) : bothF f len = nPr P 0 0 + nPr P 1 0 := by
  have key : ∀ k, k < 2 → cnt (fun x => decide (0 < f (61 * k + x))) (len + 1) = nPr P k 0 := by
    intro k hk
    unfold nPr
    rw [cnt_cut (B := fun x => decide (0 < P.1 k x)) (m := len + 1) (fun x hx => decide_eq_false (by rw [ok.2.1 k x (by omega)]; omega)) 61 (by omega)]
    exact cnt_congr (fun x hx => by rw [e _ (by omega), sv_D hk (by omega)])
  unfold bothF
  rw [key 0 (by omega), key 1 (by omega)]
theorem sum_bits {f : Nat → Nat} {g : Nat} : ∀ n, (∀ x, x < n → f x = bitI g x) → sumTo f n = cnt (fun i => g.testBit i) n
  | 0, _ => rfl
  | n + 1, e => by
    show sumTo f n + f n = cnt _ n + _
    rw [sum_bits n (fun x hx => e x (by omega)), e n (by omega)]
    rfl
theorem gifts_of {len : Nat} {P : PrS} (hl : len ≤ 60) {k : Nat} (hk : k < 2) (hg : P.2.1 k < 2 ^ (len + 1)) {f : Nat → Nat} (e : ∀ i, i < 248 → f i = sv P i) : sumTo (fun x => f (122 + 61 * k + x)) (len + 1) = cnt (fun i => (P.2.1 k).testBit i) 64 := by
  rw [cnt_cut (B := fun i => (P.2.1 k).testBit i) (m := len + 1) (fun x hx => bits_ge hg hx) 64 (by omega)]
  exact sum_bits _ (fun x hx => by show f _ = _; rw [e _ (by omega), sv_G hk (by omega)])
theorem peace_of {len : Nat} {P : PrS} (hl : len ≤ 60) (ok : PrOk len P) {f : Nat → Nat} (e : ∀ i, i < 248 → f i = sv P i) : mPeace f (len + 1) = peaceN P 61 := by
  have h1 : ∀ x, x ≤ 61 → mPeace f x = peaceN P x := by
    intro x
    induction x with
    | zero => intro _; rfl
    | succ x ih =>
      intro hx
      have d0 : f x = P.1 0 x := by
        have := e (61 * 0 + x) (by omega)
        rw [sv_D (by omega) (by omega), Nat.mul_zero, Nat.zero_add] at this
        exact this
      have d1 : f (61 + x) = P.1 1 x := by
        have := e (61 * 1 + x) (by omega)
        rw [sv_D (by omega) (by omega), Nat.mul_one] at this
        exact this
      show max (mPeace f x) (min (f x) (f (61 + x))) = max (peaceN P x) (min (P.1 0 x) (P.1 1 x))
      rw [ih (by omega), d0, d1]
  have h2 : ∀ n, peaceN P (len + 1 + n) = peaceN P (len + 1) := by
    intro n
    induction n with
    | zero => rfl
    | succ n ih =>
      show max (peaceN P (len + 1 + n)) (min (P.1 0 (len + 1 + n)) (P.1 1 (len + 1 + n))) = _
      rw [ih, ok.2.1 0 _ (by omega), ok.2.1 1 _ (by omega)]
      omega
  rw [h1 _ (by omega), ← h2 (60 - len), show len + 1 + (60 - len) = 61 by omega]
end REL
