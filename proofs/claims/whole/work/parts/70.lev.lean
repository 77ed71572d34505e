/-! the child's way: how many jumps are left from a print (1000000: it gets nowhere), in how many ways -/
def oth (p : Nat) : Nat := 61 * (1 - p / 61)
theorem oth_lt {p y : Nat} (hy : y < 61) : oth p + y < 122 := by unfold oth; omega
theorem oth_div {p y : Nat} (hy : y < 61) : (oth p + y) / 61 = 1 - p / 61 := by unfold oth; omega
theorem oth_mod {p y : Nat} (hy : y < 61) : (oth p + y) % 61 = y := by unfold oth; omega
theorem oth_oth {p y : Nat} (hp : p < 122) (hy : y < 61) : oth (oth p + y) + p % 61 = p := by
  have := oth_div (p := p) hy
  unfold oth at this ⊢
  omega
def anyC (F : Nat → Bool) : Nat → Bool
  | 0 => false
  | r + 1 => anyC F r || F r
theorem anyC_iff {F : Nat → Bool} : ∀ r, anyC F r = true ↔ ∃ i, i < r ∧ F i = true
  | 0 => ⟨fun z => (by cases z), fun ⟨i, h, _⟩ => absurd h (Nat.not_lt_zero _)⟩
  | r + 1 => by
    show (anyC F r || F r) = true ↔ _
    rw [Bool.or_eq_true, anyC_iff r]
    constructor
    · rintro (⟨i, h1, h2⟩ | h)
      · exact ⟨i, by omega, h2⟩
      · exact ⟨r, by omega, h⟩
    · rintro ⟨i, h1, h2⟩
      by_cases e : i = r
      · right; rw [← e]; exact h2
      · left; exact ⟨i, by omega, h2⟩
theorem anyC_no {F : Nat → Bool} {r : Nat} (h : anyC F r = false) : ∀ i, i < r → F i = false := fun i hi => by
  cases e : F i
  · rfl
  · rw [(anyC_iff r).mpr ⟨i, hi, e⟩] at h; cases h
theorem anyC_congr {F F' : Nat → Bool} : ∀ r, (∀ i, i < r → F i = F' i) → anyC F r = anyC F' r
  | 0, _ => rfl
  | r + 1, h => by
    show (anyC F r || F r) = (anyC F' r || F' r)
    rw [anyC_congr r (fun i hi => h i (by omega)), h r (by omega)]
def smC (G : Nat → Nat) : Nat → Nat
  | 0 => 0
  | r + 1 => (smC G r + G r) % 1000003
theorem smC_eq (G : Nat → Nat) : ∀ r, smC G r = sumTo G r % 1000003
  | 0 => rfl
  | r + 1 => by
    show (smC G r + G r) % 1000003 = (sumTo G r + G r) % 1000003
    rw [smC_eq G r, Nat.mod_add_mod]
theorem smC_lt (G : Nat → Nat) (r : Nat) : smC G r < 1000003 := by
  rw [smC_eq]
  exact Nat.mod_lt _ (by decide)
theorem smC_congr {G G' : Nat → Nat} : ∀ r, (∀ i, i < r → G i = G' i) → smC G r = smC G' r
  | 0, _ => rfl
  | r + 1, h => by
    show (smC G r + G r) % 1000003 = (smC G' r + G' r) % 1000003
    rw [smC_congr r (fun i hi => h i (by omega)), h r (by omega)]
theorem sumTo_shift (G : Nat → Nat) (a : Nat) : ∀ r, sumTo G (a + r) = sumTo G a + sumTo (fun i => G (a + i)) r
  | 0 => rfl
  | r + 1 => by
    show sumTo G (a + r) + G (a + r) = sumTo G a + (sumTo (fun i => G (a + i)) r + G (a + r))
    rw [sumTo_shift G a r, Nat.add_assoc]
theorem sumTo_zero {G : Nat → Nat} : ∀ n, (∀ i, i < n → G i = 0) → sumTo G n = 0
  | 0, _ => rfl
  | n + 1, h => by
    show sumTo G n + G n = 0
    rw [sumTo_zero n (fun i hi => h i (by omega)), h n (by omega)]
/-- a sum over all, where only a window counts -/
theorem sum_win {G : Nat → Nat} {a r N : Nat} (h1 : ∀ y, y < a → G y = 0) (h2 : ∀ y, a + r ≤ y → G y = 0) (hN : a + r ≤ N) : sumTo G N = sumTo (fun i => G (a + i)) r := by
  have e1 := sumTo_cut h2 (N - (a + r))
  rw [show a + r + (N - (a + r)) = N by omega] at e1
  rw [e1, sumTo_shift, sumTo_zero a h1, Nat.zero_add]
theorem sumTo_up {f g : Nat → Nat} {y c : Nat} (hy : g y = f y + c) (ho : ∀ x, x ≠ y → g x = f x) : ∀ n, y < n → sumTo g n = sumTo f n + c
  | 0, h => absurd h (Nat.not_lt_zero _)
  | n + 1, h => by
    show sumTo g n + g n = sumTo f n + f n + c
    by_cases e : y = n
    · subst e
      rw [sumTo_congr (fun x hx => ho x (by omega)), hy]
      omega
    · rw [sumTo_up hy ho n (by omega), ho n (by omega)]
      omega
def rr (len d p : Nat) : Nat := min len (p % 61 + d) + 1 - p % 61
def cmB (f : Nat → Nat) (n p i : Nat) : Bool := decide (f (61 * (1 - p / 61) + (p % 61 + i)) = n)
def cmS (f w : Nat → Nat) (n p i : Nat) : Nat := if f (61 * (1 - p / 61) + (p % 61 + i)) = n then w (61 * (1 - p / 61) + (p % 61 + i)) else 0
def isC (len d : Nat) (f : Nat → Nat) (n p : Nat) : Bool := anyC (cmB f n p) (rr len d p)
def suC (len d : Nat) (f w : Nat → Nat) (n p : Nat) : Nat := smC (cmS f w n p) (rr len d p)
def chB (B : Nat → Bool) (len d n : Nat) (f : Nat → Nat) (p : Nat) : Bool := decide (f p = 1000000) && B p && isC len d f n p
def stF (B : Nat → Bool) (len d n : Nat) (f : Nat → Nat) (p : Nat) : Nat := if chB B len d n f p = true then n + 1 else f p
def stW (B : Nat → Bool) (len d n : Nat) (f w : Nat → Nat) (p : Nat) : Nat := if f p = 1000000 ∧ B p = true then (if isC len d f n p = true then suC len d f w n p else 0) else w p
theorem chB_iff {B : Nat → Bool} {len d n : Nat} {f : Nat → Nat} {p : Nat} : chB B len d n f p = true ↔ f p = 1000000 ∧ B p = true ∧ isC len d f n p = true := by
  unfold chB
  rw [Bool.and_eq_true, Bool.and_eq_true, decide_eq_true_eq, and_assoc]
theorem stF_far {B : Nat → Bool} {len d n : Nat} {f : Nat → Nat} {p : Nat} (h : f p ≠ 1000000) : stF B len d n f p = f p := if_neg (fun q => h (chB_iff.mp q).1)
theorem stW_far {B : Nat → Bool} {len d n : Nat} {f w : Nat → Nat} {p : Nat} (h : f p ≠ 1000000) : stW B len d n f w p = w p := if_neg (fun q => h q.1)
/-- reckoned as far as n jumps -/
def LvI (B : Nat → Bool) (d e n : Nat) (f w : Nat → Nat) : Prop :=
  (∀ p, p < 122 → f p ≠ 1000000 → B p = true ∧ f p ≤ n) ∧
  (∀ p, p < 122 → (f p = 0 ↔ B p = true ∧ p % 61 = e)) ∧
  (∀ p, p < 122 → f p = 0 → w p = 1) ∧
  (∀ p, p < 122 → ∀ v, f p = v + 1 → f p ≠ 1000000 → ∃ y, y < 61 ∧ p % 61 ≤ y ∧ y ≤ p % 61 + d ∧ f (oth p + y) = v) ∧
  (∀ p, p < 122 → B p = true → ∀ y, y < 61 → p % 61 ≤ y → y ≤ p % 61 + d → f (oth p + y) < n → f p ≤ f (oth p + y) + 1) ∧
  (∀ p, p < 122 → ∀ v, f p = v + 1 → f p ≠ 1000000 → w p = sumTo (fun y => if p % 61 ≤ y ∧ y ≤ p % 61 + d ∧ f (oth p + y) = v then w (oth p + y) else 0) 61 % 1000003) ∧
  (∀ p, p < 122 → w p < 1000003)
/-- reckoned to the end -/
def Lev (B : Nat → Bool) (d e : Nat) (f w : Nat → Nat) : Prop :=
  (∀ p, p < 122 → f p ≠ 1000000 → B p = true ∧ f p ≤ 122) ∧
  (∀ p, p < 122 → (f p = 0 ↔ B p = true ∧ p % 61 = e)) ∧
  (∀ p, p < 122 → f p = 0 → w p = 1) ∧
  (∀ p, p < 122 → ∀ v, f p = v + 1 → f p ≠ 1000000 → ∃ y, y < 61 ∧ p % 61 ≤ y ∧ y ≤ p % 61 + d ∧ f (oth p + y) = v) ∧
  (∀ p, p < 122 → B p = true → ∀ y, y < 61 → p % 61 ≤ y → y ≤ p % 61 + d → f (oth p + y) ≠ 1000000 → f p ≤ f (oth p + y) + 1) ∧
  (∀ p, p < 122 → ∀ v, f p = v + 1 → f p ≠ 1000000 → w p = sumTo (fun y => if p % 61 ≤ y ∧ y ≤ p % 61 + d ∧ f (oth p + y) = v then w (oth p + y) else 0) 61 % 1000003) ∧
  (∀ p, p < 122 → w p < 1000003)
section LEV
variable {B : Nat → Bool} {len d e n : Nat} {f w : Nat → Nat}
theorem isC_iff (hB : ∀ p, p < 122 → B p = true → p % 61 ≤ len) (hl : len ≤ 60) (I : LvI B d e n f w) {p : Nat} (hp : p < 122) (hb : B p = true) (hn : n < 1000) : isC len d f n p = true ↔ ∃ y, y < 61 ∧ p % 61 ≤ y ∧ y ≤ p % 61 + d ∧ f (oth p + y) = n := by
  have hx := hB p hp hb
  unfold isC
  rw [anyC_iff]
  constructor
  · rintro ⟨i, h1, h2⟩
    unfold rr at h1
    exact ⟨p % 61 + i, by omega, by omega, by omega, of_decide_eq_true h2⟩
  · rintro ⟨y, h1, h2, h3, h4⟩
    have h5 := (I.1 (oth p + y) (oth_lt h1) (by omega)).1
    have h6 := hB _ (oth_lt h1) h5
    rw [oth_mod h1] at h6
    refine ⟨y - p % 61, by unfold rr; omega, decide_eq_true ?_⟩
    rw [show p % 61 + (y - p % 61) = y by omega]
    exact h4
theorem suC_eq (hB : ∀ p, p < 122 → B p = true → p % 61 ≤ len) (hl : len ≤ 60) (I : LvI B d e n f w) {p : Nat} (hp : p < 122) (hb : B p = true) (hn : n < 1000) : suC len d f w n p = sumTo (fun y => if p % 61 ≤ y ∧ y ≤ p % 61 + d ∧ f (oth p + y) = n then w (oth p + y) else 0) 61 % 1000003 := by
  have hx := hB p hp hb
  unfold suC
  rw [smC_eq]
  congr 1
  have hz : ∀ y, 61 ≤ y → True := fun _ _ => trivial
  have key : ∀ N, N ≤ 61 → sumTo (fun y => if p % 61 ≤ y ∧ y ≤ p % 61 + d ∧ f (oth p + y) = n then w (oth p + y) else 0) N = sumTo (fun y => if p % 61 ≤ y ∧ y ≤ p % 61 + d ∧ y ≤ len ∧ f (oth p + y) = n then w (oth p + y) else 0) N := by
    intro N hN
    refine sumTo_congr (fun y hy => ?_)
    by_cases c : p % 61 ≤ y ∧ y ≤ p % 61 + d ∧ f (oth p + y) = n
    · have h5 := (I.1 (oth p + y) (oth_lt (by omega)) (by omega)).1
      have h6 := hB _ (oth_lt (by omega)) h5
      rw [oth_mod (by omega)] at h6
      rw [if_pos c, if_pos ⟨c.1, c.2.1, h6, c.2.2⟩]
    · rw [if_neg c, if_neg (fun q => c ⟨q.1, q.2.1, q.2.2.2⟩)]
  rw [key 61 (Nat.le_refl _), sum_win (a := p % 61) (r := rr len d p) (fun y hy => if_neg (by omega)) (fun y hy => if_neg (by unfold rr at hy; omega)) (by unfold rr; omega)]
  refine sumTo_congr (fun i hi => ?_)
  unfold rr at hi
  show (if f (oth p + (p % 61 + i)) = n then w (oth p + (p % 61 + i)) else 0) = _
  by_cases c : f (oth p + (p % 61 + i)) = n
  · rw [if_pos c, if_pos ⟨by omega, by omega, by omega, c⟩]
  · rw [if_neg c, if_neg (fun q => c q.2.2.2)]
theorem LvI.step (hB : ∀ p, p < 122 → B p = true → p % 61 ≤ len) (hl : len ≤ 60) (hn : n < 1000) (I : LvI B d e n f w) : LvI B d e (n + 1) (stF B len d n f) (stW B len d n f w) := by
  have I' := I
  obtain ⟨i1, i2, i3, i4, i5, i6, i7⟩ := I
  have same : ∀ q v, v ≤ n → (stF B len d n f q = v ↔ f q = v) := by
    intro q v hv
    unfold stF
    by_cases c : chB B len d n f q = true
    · rw [if_pos c]
      have := (chB_iff.mp c).1
      constructor <;> intro z <;> omega
    · rw [if_neg c]
  have wsame : ∀ q v, v ≤ n → f q = v → stW B len d n f w q = w q := fun q v hv hq => stW_far (by omega)
  have ssame : ∀ p v, v ≤ n → sumTo (fun y => if p % 61 ≤ y ∧ y ≤ p % 61 + d ∧ stF B len d n f (oth p + y) = v then stW B len d n f w (oth p + y) else 0) 61 = sumTo (fun y => if p % 61 ≤ y ∧ y ≤ p % 61 + d ∧ f (oth p + y) = v then w (oth p + y) else 0) 61 := by
    intro p v hv
    refine sumTo_congr (fun y _ => ?_)
    by_cases c : p % 61 ≤ y ∧ y ≤ p % 61 + d ∧ f (oth p + y) = v
    · rw [if_pos c, if_pos ⟨c.1, c.2.1, (same _ v hv).mpr c.2.2⟩, wsame _ v hv c.2.2]
    · rw [if_neg c, if_neg (fun q => c ⟨q.1, q.2.1, (same _ v hv).mp q.2.2⟩)]
  refine ⟨fun p hp hf => ?_, fun p hp => ?_, fun p hp h0 => ?_, fun p hp v hv hf => ?_, fun p hp hb y hy h1 h2 h3 => ?_, fun p hp v hv hf => ?_, fun p hp => ?_⟩
  · by_cases c : chB B len d n f p = true
    · have c' := chB_iff.mp c
      refine ⟨c'.2.1, ?_⟩
      unfold stF
      rw [if_pos c]
      omega
    · have e1 : stF B len d n f p = f p := if_neg c
      rw [e1] at hf ⊢
      have := i1 p hp hf
      exact ⟨this.1, by omega⟩
  · rw [same p 0 (by omega)]
    exact i2 p hp
  · have h0' := (same p 0 (by omega)).mp h0
    rw [wsame p 0 (by omega) h0']
    exact i3 p hp h0'
  · by_cases c : chB B len d n f p = true
    · have c' := chB_iff.mp c
      have e1 : stF B len d n f p = n + 1 := if_pos c
      have ev : v = n := by omega
      subst ev
      obtain ⟨y, y1, y2, y3, y4⟩ := (isC_iff hB hl I' hp c'.2.1 hn).mp c'.2.2
      exact ⟨y, y1, y2, y3, (same _ v (by omega)).mpr y4⟩
    · have e1 : stF B len d n f p = f p := if_neg c
      rw [e1] at hv hf
      have := (i1 p hp hf).2
      obtain ⟨y, y1, y2, y3, y4⟩ := i4 p hp v hv hf
      exact ⟨y, y1, y2, y3, (same _ v (by omega)).mpr y4⟩
  · have hle : stF B len d n f (oth p + y) ≤ n := by omega
    have e2 : f (oth p + y) = stF B len d n f (oth p + y) := (same _ _ hle).mp rfl
    by_cases c : f p = 1000000
    · by_cases c2 : f (oth p + y) < n
      · have := i5 p hp hb y hy h1 h2 c2
        omega
      · have c3 : f (oth p + y) = n := by omega
        have ch : chB B len d n f p = true := chB_iff.mpr ⟨c, hb, (isC_iff hB hl I' hp hb hn).mpr ⟨y, hy, h1, h2, c3⟩⟩
        have e1 : stF B len d n f p = n + 1 := if_pos ch
        omega
    · have e1 : stF B len d n f p = f p := stF_far c
      by_cases c2 : f (oth p + y) < n
      · have := i5 p hp hb y hy h1 h2 c2
        omega
      · have := (i1 p hp c).2
        omega
  · by_cases c : chB B len d n f p = true
    · have c' := chB_iff.mp c
      have e1 : stF B len d n f p = n + 1 := if_pos c
      have ev : v = n := by omega
      subst ev
      rw [ssame p v (by omega), ← suC_eq hB hl I' hp c'.2.1 hn]
      unfold stW
      rw [if_pos ⟨c'.1, c'.2.1⟩, if_pos c'.2.2]
    · have e1 : stF B len d n f p = f p := if_neg c
      rw [e1] at hv hf
      have := (i1 p hp hf).2
      rw [ssame p v (by omega), stW_far hf]
      exact i6 p hp v hv hf
  · unfold stW
    split
    · split
      · exact smC_lt _ _
      · decide
    · exact i7 p hp
/-- nothing more comes -/
theorem LvI.done (hn : n ≤ 122) (hno : ∀ p, p < 122 → chB B len d n f p = false) (I : LvI B d e (n + 1) (stF B len d n f) (stW B len d n f w)) (I0 : LvI B d e n f w) : Lev B d e (stF B len d n f) (stW B len d n f w) := by
  have ef : ∀ p, p < 122 → stF B len d n f p = f p := fun p hp => if_neg (by rw [hno p hp]; decide)
  obtain ⟨i1, i2, i3, i4, i5, i6, i7⟩ := I
  refine ⟨fun p hp hf => ?_, i2, i3, i4, fun p hp hb y hy h1 h2 h3 => ?_, i6, i7⟩
  · have := i1 p hp hf
    rw [ef p hp] at hf ⊢
    have := I0.1 p hp hf
    exact ⟨this.1, by omega⟩
  · refine i5 p hp hb y hy h1 h2 ?_
    have e1 := ef (oth p + y) (oth_lt hy)
    rw [e1] at h3 ⊢
    have := (I0.1 _ (oth_lt hy) h3).2
    omega
def f0 (B : Nat → Bool) (e p : Nat) : Nat := if p % 61 = e ∧ B p = true then 0 else 1000000
def w0 (B : Nat → Bool) (e p : Nat) : Nat := if p % 61 = e ∧ B p = true then 1 else 0
theorem LvI.start : LvI B d e 0 (f0 B e) (w0 B e) := by
  have hc : ∀ p, f0 B e p = 0 ∨ f0 B e p = 1000000 := fun p => by unfold f0; split <;> simp
  refine ⟨fun p hp hf => ?_, fun p hp => ?_, fun p hp h0 => ?_, fun p hp v hv hf => ?_, fun p hp hb y hy h1 h2 h3 => absurd h3 (Nat.not_lt_zero _), fun p hp v hv hf => ?_, fun p hp => ?_⟩
  · unfold f0 at hf ⊢
    by_cases c : p % 61 = e ∧ B p = true
    · rw [if_pos c]; exact ⟨c.2, Nat.le_refl _⟩
    · rw [if_neg c] at hf; exact absurd rfl hf
  · unfold f0
    by_cases c : p % 61 = e ∧ B p = true
    · rw [if_pos c]; exact ⟨fun _ => ⟨c.2, c.1⟩, fun _ => rfl⟩
    · rw [if_neg c]; exact ⟨fun z => absurd z (by decide), fun z => absurd ⟨z.2, z.1⟩ c⟩
  · unfold f0 at h0
    unfold w0
    by_cases c : p % 61 = e ∧ B p = true
    · rw [if_pos c]
    · rw [if_neg c] at h0; exact absurd h0 (by decide)
  · rcases hc p with z | z <;> omega
  · rcases hc p with z | z <;> omega
  · unfold w0
    split <;> decide
/-- each further pass finds a print more -/
theorem far_less {n : Nat} {f : Nat → Nat} (hn : n < 1000) {p : Nat} (hp : p < 122) (hc : chB B len d n f p = true) : cnt (fun q => decide (stF B len d n f q = 1000000)) 122 + 1 ≤ cnt (fun q => decide (f q = 1000000)) 122 := by
  have h1 : cnt (fun q => decide (f q = 1000000)) 122 = cnt (fun q => decide (f q = 1000000) && decide (q ≠ p)) 122 + 1 := by
    refine cnt_up (a := p) ?_ ?_ (fun x hx => ?_) 122 hp
    · show (decide (f p = 1000000) && decide (p ≠ p)) = false
      rw [decide_eq_false (p := p ≠ p) (fun z => z rfl), Bool.and_false]
    · exact decide_eq_true (chB_iff.mp hc).1
    · show decide (f x = 1000000) = (decide (f x = 1000000) && decide (x ≠ p))
      rw [decide_eq_true hx, Bool.and_true]
  have h2 : ∀ N, cnt (fun q => decide (stF B len d n f q = 1000000)) N ≤ cnt (fun q => decide (f q = 1000000) && decide (q ≠ p)) N := by
    intro N
    induction N with
    | zero => exact Nat.le_refl _
    | succ N ih =>
      show cnt _ N + (if decide (stF B len d n f N = 1000000) = true then 1 else 0) ≤ cnt _ N + (if (decide (f N = 1000000) && decide (N ≠ p)) = true then 1 else 0)
      by_cases c : stF B len d n f N = 1000000
      · have c2 : ¬ chB B len d n f N = true := fun z => by
          unfold stF at c
          rw [if_pos z] at c
          omega
        have c3 : f N = 1000000 := by
          unfold stF at c
          rw [if_neg c2] at c
          exact c
        have c4 : N ≠ p := fun z => by rw [z] at c2; exact c2 hc
        rw [decide_eq_true c, decide_eq_true c3, decide_eq_true c4]
        exact Nat.add_le_add_right ih 1
      · rw [decide_eq_false c]
        have : (if false = true then 1 else 0) = 0 := rfl
        rw [this]
        omega
  have := h2 122
  omega
/-- pass behind pass, to the end -/
def lv (B : Nat → Bool) (len d : Nat) : Nat → Nat → (Nat → Nat) → (Nat → Nat) → (Nat → Nat) × (Nat → Nat)
  | 0, _, f, w => (f, w)
  | c + 1, n, f, w => if anyC (chB B len d n f) 122 = true then lv B len d c (n + 1) (stF B len d n f) (stW B len d n f w) else (stF B len d n f, stW B len d n f w)
theorem lv_lev (hB : ∀ p, p < 122 → B p = true → p % 61 ≤ len) (hl : len ≤ 60) : ∀ c n f w, cnt (fun q => decide (f q = 1000000)) 122 ≤ c → n + c ≤ 122 → LvI B d e n f w → Lev B d e (lv B len d (c + 1) n f w).1 (lv B len d (c + 1) n f w).2 := by
  intro c
  induction c with
  | zero =>
    intro n f w h1 h2 I
    have hno : anyC (chB B len d n f) 122 = false := by
      cases z : anyC (chB B len d n f) 122
      · rfl
      · obtain ⟨p, hp, hc⟩ := (anyC_iff 122).mp z
        have := far_less (by omega) hp hc
        omega
    have e1 : lv B len d (0 + 1) n f w = (stF B len d n f, stW B len d n f w) := if_neg (by rw [hno]; decide)
    rw [e1]
    exact LvI.done (by omega) (anyC_no hno) (I.step hB hl (by omega)) I
  | succ c ih =>
    intro n f w h1 h2 I
    cases z : anyC (chB B len d n f) 122 with
    | false =>
      have e1 : lv B len d (c + 1 + 1) n f w = (stF B len d n f, stW B len d n f w) := if_neg (by rw [z]; decide)
      rw [e1]
      exact LvI.done (by omega) (anyC_no z) (I.step hB hl (by omega)) I
    | true =>
      have e1 : lv B len d (c + 1 + 1) n f w = lv B len d (c + 1) (n + 1) (stF B len d n f) (stW B len d n f w) := if_pos z
      rw [e1]
      obtain ⟨p, hp, hc⟩ := (anyC_iff 122).mp z
      have := far_less (by omega) hp hc
      exact ih (n + 1) _ _ (by omega) (by omega) (I.step hB hl (by omega))
theorem lev_ex (hB : ∀ p, p < 122 → B p = true → p % 61 ≤ len) (hl : len ≤ 60) : Lev B d e (lv B len d 123 0 (f0 B e) (w0 B e)).1 (lv B len d 123 0 (f0 B e) (w0 B e)).2 := lv_lev hB hl 122 0 _ _ (cnt_le _ _) (by omega) LvI.start
end LEV
/-! what the child is told -/
def lfN (f : Nat → Nat) (lo : Nat) : Nat := min (f lo) (f (61 + lo))
def a0N (f : Nat → Nat) (lo : Nat) : Nat := if f lo = lfN f lo then lo else 61 + lo
def nxY (f : Nat → Nat) (p : Nat) : Nat := match firstF (fun y => decide (f (oth p + y) + 1 = f p)) (p % 61) (61 - p % 61) with
  | some y => y
  | none => 0
def atK (f : Nat → Nat) (p : Nat) : Nat → Nat
  | 0 => p
  | k + 1 => oth (atK f p k) + nxY f (atK f p k)
def chA (f w : Nat → Nat) (lo : Nat) (u : Int32) : Int32 :=
  if lfN f lo = 1000000 then (if u = -2 then nI 0 else -9)
  else if u = -1 then nI (lfN f lo)
  else if u = -2 then nI (((if f lo = lfN f lo then w lo else 0) + (if f (61 + lo) = lfN f lo then w (61 + lo) else 0)) % 1000003)
  else if u ≤ nI (lfN f lo) then nI (100 * (atK f (a0N f lo) u.toNatClampNeg / 61) + atK f (a0N f lo) u.toNatClampNeg % 61)
  else -5
section CHA
variable {B : Nat → Bool} {d e lo : Nat} {f w : Nat → Nat}
/-- from a print that gets there the next one is found -/
theorem nxY_spec (V : Lev B d e f w) {p : Nat} (hp : p < 122) {v : Nat} (hv : f p = v + 1) (hf : f p ≠ 1000000) : p % 61 ≤ nxY f p ∧ nxY f p < 61 ∧ nxY f p ≤ p % 61 + d ∧ f (oth p + nxY f p) = v ∧ ∀ z, p % 61 ≤ z → z < nxY f p → f (oth p + z) ≠ v := by
  obtain ⟨y, y1, y2, y3, y4⟩ := V.2.2.2.1 p hp v hv hf
  unfold nxY
  cases q : firstF (fun y => decide (f (oth p + y) + 1 = f p)) (p % 61) (61 - p % 61) with
  | none =>
    have := firstF_none _ _ _ q y y2 (by omega)
    exact absurd (of_decide_eq_false this) (fun z => z (by rw [y4, hv]))
  | some z =>
    obtain ⟨c1, c2, c3, c4⟩ := firstF_lt _ _ _ _ q
    have c5 := of_decide_eq_true c3
    refine ⟨c1, by show z < 61; omega, ?_, by show f (oth p + z) = v; omega, fun t t1 t2 t3 => ?_⟩
    · show z ≤ p % 61 + d
      rcases Nat.lt_or_ge y z with q2 | q2
      · have := c4 y y2 q2
        exact absurd (of_decide_eq_false this) (fun z => z (by rw [y4, hv]))
      · omega
    · have := c4 t t1 t2
      exact absurd (of_decide_eq_false this) (fun z => z (by rw [t3, hv]))
theorem a0_lt (hlo : lo ≤ 60) : a0N f lo < 122 := by unfold a0N; split <;> omega
theorem a0_f : f (a0N f lo) = lfN f lo := by
  unfold a0N
  by_cases c : f lo = lfN f lo
  · rw [if_pos c, c]
  · rw [if_neg c]
    unfold lfN at c ⊢
    omega
theorem lf_le (V : Lev B d e f w) (hlo : lo ≤ 60) (hf : lfN f lo ≠ 1000000) : lfN f lo ≤ 122 := by
  have ea : f (a0N f lo) = lfN f lo := a0_f
  have h1 := V.1 (a0N f lo) (a0_lt hlo) (by rw [ea]; exact hf)
  rw [ea] at h1
  exact h1.2
/-- step by step: one jump less each time -/
theorem atK_f (V : Lev B d e f w) (hlo : lo ≤ 60) (hf : lfN f lo ≠ 1000000) : ∀ k, k ≤ lfN f lo → atK f (a0N f lo) k < 122 ∧ f (atK f (a0N f lo) k) = lfN f lo - k
  | 0, _ => ⟨a0_lt hlo, a0_f⟩
  | k + 1, hk => by
    obtain ⟨h1, h2⟩ := atK_f V hlo hf k (by omega)
    have hle := lf_le V hlo hf
    obtain ⟨c1, c2, c3, c4, -⟩ := nxY_spec V h1 (v := lfN f lo - (k + 1)) (by omega) (by omega)
    exact ⟨oth_lt c2, c4⟩
end CHA
