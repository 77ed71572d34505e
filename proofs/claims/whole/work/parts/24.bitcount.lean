/-! bitCount: how many bits are set -/
theorem nat_and256 {x u M c : Nat} (hu : u < 256) (hc : c < 256) : (256 * x + u) &&& (256 * M + c) = 256 * (x &&& M) + (u &&& c) := by
  have h1 : u &&& c < 2 ^ 8 := Nat.lt_of_le_of_lt Nat.and_le_left (by omega)
  apply Nat.eq_of_testBit_eq
  intro i
  rw [show (256 : Nat) = 2 ^ 8 from rfl, Nat.testBit_and, Nat.testBit_two_pow_mul_add _ (by omega), Nat.testBit_two_pow_mul_add _ (by omega), Nat.testBit_two_pow_mul_add _ h1]
  split
  · rw [Nat.testBit_and]
  · rw [Nat.testBit_and]
def mk8 (c : Nat) : Nat → Nat
  | 0 => 0
  | k + 1 => 256 * mk8 c k + c
def bc1 (k n : Nat) : Nat := n - (n / 2 &&& mk8 85 k)
def bc2 (k n : Nat) : Nat := (n &&& mk8 51 k) + (n / 4 &&& mk8 51 k)
def bc3 (k n : Nat) : Nat := (n + n / 16) &&& mk8 15 k
def b1 (r : Nat) : Nat := r - (r / 2 &&& 85)
def b2 (s : Nat) : Nat := (s &&& 51) + (s / 4 &&& 51)
def b3 (s : Nat) : Nat := (s + s / 16) &&& 15
theorem bc1_step {k a r : Nat} (hr : r < 256) : bc1 (k + 1) (256 * a + r) = 256 * bc1 k a + b1 r := by
  unfold bc1 b1
  show 256 * a + r - ((256 * a + r) / 2 &&& (256 * mk8 85 k + 85)) = 256 * (a - (a / 2 &&& mk8 85 k)) + (r - (r / 2 &&& 85))
  have e1 : (256 * a + r) / 2 = 256 * (a / 2) + (128 * (a % 2) + r / 2) := by omega
  have key : ∀ b, b < 2 → ∀ r, r < 256 → (128 * b + r / 2) &&& 85 = r / 2 &&& 85 := by decide +kernel
  have e2 := key (a % 2) (by omega) r hr
  have h1 : a / 2 &&& mk8 85 k ≤ a := Nat.le_trans Nat.and_le_left (Nat.div_le_self _ _)
  have h2 : r / 2 &&& 85 ≤ r := Nat.le_trans Nat.and_le_left (Nat.div_le_self _ _)
  rw [e1, nat_and256 (by omega) (by omega), e2]
  omega
theorem bc2_step {k a r : Nat} (hr : r < 256) : bc2 (k + 1) (256 * a + r) = 256 * bc2 k a + b2 r := by
  unfold bc2 b2
  show ((256 * a + r) &&& (256 * mk8 51 k + 51)) + ((256 * a + r) / 4 &&& (256 * mk8 51 k + 51)) = _
  have e1 : (256 * a + r) / 4 = 256 * (a / 4) + (64 * (a % 4) + r / 4) := by omega
  have key : ∀ b, b < 4 → ∀ r, r < 256 → (64 * b + r / 4) &&& 51 = r / 4 &&& 51 := by decide +kernel
  have e2 := key (a % 4) (by omega) r hr
  rw [e1, nat_and256 hr (by omega), nat_and256 (by omega) (by omega), e2]
  omega
theorem bc3_step {k a s : Nat} (hs : s < 69) (hs2 : s % 16 ≤ 4) (ha : a % 16 ≤ 4) : bc3 (k + 1) (256 * a + s) = 256 * bc3 k a + b3 s := by
  unfold bc3 b3
  show (256 * a + s + (256 * a + s) / 16) &&& (256 * mk8 15 k + 15) = _
  have e1 : 256 * a + s + (256 * a + s) / 16 = 256 * (a + a / 16) + (s + s / 16 + 16 * (a % 16)) := by omega
  have key : ∀ b, b < 5 → ∀ s, s < 69 → (s + s / 16 + 16 * b) &&& 15 = (s + s / 16) &&& 15 := by decide +kernel
  have e2 := key (a % 16) (by omega) s hs
  rw [e1, nat_and256 (by omega) (by omega), e2]
theorem b_small : ∀ r, r < 256 → b1 r < 256 ∧ b2 (b1 r) < 69 ∧ b2 (b1 r) % 16 ≤ 4 ∧ b3 (b2 (b1 r)) = cnt (fun i => r.testBit i) 8 := by decide +kernel
def bc (k n : Nat) : Nat := bc3 k (bc2 k (bc1 k n))
theorem bc2_low (k n : Nat) : bc2 k (bc1 k n) % 16 ≤ 4 := by
  match k with
  | 0 => simp [bc2, mk8]
  | k + 1 =>
    have e : n = 256 * (n / 256) + n % 256 := by omega
    have hb := b_small (n % 256) (by omega)
    rw [e, bc1_step (by omega), bc2_step hb.1]
    omega
theorem bc_step {k a r : Nat} (hr : r < 256) : bc (k + 1) (256 * a + r) = 256 * bc k a + cnt (fun i => r.testBit i) 8 := by
  unfold bc
  have hb := b_small r hr
  rw [bc1_step hr, bc2_step hb.1, bc3_step hb.2.1 hb.2.2.1 (bc2_low k a), hb.2.2.2]
theorem bc_0 (n : Nat) : bc 0 n = 0 := by simp [bc, bc3, mk8]
theorem cnt_shift (P : Nat → Bool) (m : Nat) : ∀ n, cnt P (m + n) = cnt P m + cnt (fun i => P (m + i)) n
  | 0 => rfl
  | n + 1 => by
    show cnt P (m + n) + (if P (m + n) = true then 1 else 0) = cnt P m + (cnt (fun i => P (m + i)) n + (if P (m + n) = true then 1 else 0))
    rw [cnt_shift P m n, Nat.add_assoc]
/-- the eight bytes' counts, one behind another -/
theorem bc_8 (n : Nat) (hn : n < 18446744073709551616) : ∃ c0 c1 c2 c3 c4 c5 c6 c7 : Nat, c0 ≤ 8 ∧ c1 ≤ 8 ∧ c2 ≤ 8 ∧ c3 ≤ 8 ∧ c4 ≤ 8 ∧ c5 ≤ 8 ∧ c6 ≤ 8 ∧ c7 ≤ 8 ∧
    bc 8 n = c0 + 256 * (c1 + 256 * (c2 + 256 * (c3 + 256 * (c4 + 256 * (c5 + 256 * (c6 + 256 * c7)))))) ∧ cnt (fun i => n.testBit i) 64 = c0 + (c1 + (c2 + (c3 + (c4 + (c5 + (c6 + c7)))))) := by
  have key : ∀ (k n : Nat), bc (k + 1) n = cnt (fun i => (n % 256).testBit i) 8 + 256 * bc k (n / 256) ∧ ∀ m, cnt (fun i => n.testBit i) (8 + m) = cnt (fun i => (n % 256).testBit i) 8 + cnt (fun i => (n / 256).testBit i) m := by
    intro k n
    refine ⟨?_, fun m => ?_⟩
    · have e : n = 256 * (n / 256) + n % 256 := by omega
      have h1 := bc_step (k := k) (a := n / 256) (r := n % 256) (by omega)
      rw [← e] at h1
      omega
    · rw [cnt_shift]
      congr 1
      · refine cnt_congr (fun x hx => ?_)
        rw [show (256 : Nat) = 2 ^ 8 from rfl, Nat.testBit_mod_two_pow]
        simp [hx]
      · refine cnt_congr (fun x hx => ?_)
        rw [show (256 : Nat) = 2 ^ 8 from rfl, Nat.testBit_div_two_pow, Nat.add_comm]
  have hle : ∀ n : Nat, cnt (fun i => (n % 256).testBit i) 8 ≤ 8 := fun n => cnt_le _ 8
  refine ⟨_, _, _, _, _, _, _, _, hle n, hle (n / 256), hle (n / 256 / 256), hle (n / 256 / 256 / 256), hle (n / 256 / 256 / 256 / 256), hle (n / 256 / 256 / 256 / 256 / 256), hle (n / 256 / 256 / 256 / 256 / 256 / 256), hle (n / 256 / 256 / 256 / 256 / 256 / 256 / 256), ?_, ?_⟩
  · rw [(key 7 n).1, (key 6 _).1, (key 5 _).1, (key 4 _).1, (key 3 _).1, (key 2 _).1, (key 1 _).1, (key 0 _).1, bc_0, Nat.mul_zero, Nat.add_zero]
  · have e0 : ∀ n : Nat, cnt (fun i => (n / 256).testBit i) 0 = 0 := fun _ => rfl
    rw [show (64 : Nat) = 8 + 56 from rfl, (key 0 n).2, show (56 : Nat) = 8 + 48 from rfl, (key 0 _).2, show (48 : Nat) = 8 + 40 from rfl, (key 0 _).2, show (40 : Nat) = 8 + 32 from rfl, (key 0 _).2, show (32 : Nat) = 8 + 24 from rfl, (key 0 _).2, show (24 : Nat) = 8 + 16 from rfl, (key 0 _).2, show (16 : Nat) = 8 + 8 from rfl, (key 0 _).2]
    have h8 := (key 0 (n / 256 / 256 / 256 / 256 / 256 / 256 / 256)).2 0
    rw [Nat.add_zero, e0, Nat.add_zero] at h8
    rw [h8]
theorem bs_1 {x y : Nat} (h : x < 256) : (x + 256 * y) / 256 = y := by omega
theorem bs_2 {x y z : Nat} (h : x < 256) (h2 : y < 256) : (x + 256 * (y + 256 * z)) / 65536 = z := by omega
theorem bs_4 {x y z u v : Nat} (h : x < 256) (h2 : y < 256) (h3 : z < 256) (h4 : u < 256) : (x + 256 * (y + 256 * (z + 256 * (u + 256 * v)))) / 4294967296 = v := by
  have e : (4294967296 : Nat) = 65536 * 65536 := by decide
  rw [e, ← Nat.div_div_eq_div_mul, bs_2 h h2, bs_2 h3 h4]
theorem bs_a (a b x y : Nat) : (a + 256 * x) + (b + 256 * y) = (a + b) + 256 * (x + y) := by omega
theorem bs_m {s u t v : Nat} (h : s + t ≤ 64) : ((s + t) + 256 * (u + v)) % 128 = s + t := by omega
theorem bc_sum (n : Nat) (hn : n < 18446744073709551616) : (bc 8 n + bc 8 n / 256 + (bc 8 n + bc 8 n / 256) / 65536 + (bc 8 n + bc 8 n / 256 + (bc 8 n + bc 8 n / 256) / 65536) / 4294967296) % 128 = cnt (fun i => n.testBit i) 64 := by
  obtain ⟨c0, c1, c2, c3, c4, c5, c6, c7, g0, g1, g2, g3, g4, g5, g6, g7, e1, e2⟩ := bc_8 n hn
  rw [e1, e2]
  have l7 : c6 + 256 * c7 + c7 = (c6 + c7) + 256 * c7 := by omega
  have hA : c0 + 256 * (c1 + 256 * (c2 + 256 * (c3 + 256 * (c4 + 256 * (c5 + 256 * (c6 + 256 * c7)))))) + (c0 + 256 * (c1 + 256 * (c2 + 256 * (c3 + 256 * (c4 + 256 * (c5 + 256 * (c6 + 256 * c7))))))) / 256 = (c0 + c1) + 256 * ((c1 + c2) + 256 * ((c2 + c3) + 256 * ((c3 + c4) + 256 * ((c4 + c5) + 256 * ((c5 + c6) + 256 * ((c6 + c7) + 256 * c7)))))) := by
    rw [bs_1 (by omega), bs_a, bs_a, bs_a, bs_a, bs_a, bs_a, l7]
  rw [hA]
  have l6 : (c4 + c5) + 256 * ((c5 + c6) + 256 * ((c6 + c7) + 256 * c7)) + ((c6 + c7) + 256 * c7) = (c4 + c5 + (c6 + c7)) + 256 * ((c5 + c6 + c7) + 256 * ((c6 + c7) + 256 * c7)) := by omega
  have hB : (c0 + c1) + 256 * ((c1 + c2) + 256 * ((c2 + c3) + 256 * ((c3 + c4) + 256 * ((c4 + c5) + 256 * ((c5 + c6) + 256 * ((c6 + c7) + 256 * c7)))))) + ((c0 + c1) + 256 * ((c1 + c2) + 256 * ((c2 + c3) + 256 * ((c3 + c4) + 256 * ((c4 + c5) + 256 * ((c5 + c6) + 256 * ((c6 + c7) + 256 * c7))))))) / 65536 = (c0 + c1 + (c2 + c3)) + 256 * ((c1 + c2 + (c3 + c4)) + 256 * ((c2 + c3 + (c4 + c5)) + 256 * ((c3 + c4 + (c5 + c6)) + 256 * ((c4 + c5 + (c6 + c7)) + 256 * ((c5 + c6 + c7) + 256 * ((c6 + c7) + 256 * c7)))))) := by
    rw [bs_2 (by omega) (by omega), bs_a, bs_a, bs_a, bs_a, l6]
  rw [hB, bs_4 (by omega) (by omega) (by omega) (by omega), bs_a, bs_m (by omega)]
  omega
