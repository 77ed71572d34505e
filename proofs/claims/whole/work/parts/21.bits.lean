/-! sets of feet as bits of a long -/
theorem bl_and (a b : Nat) : lN a &&& lN b = lN (a &&& b) := by
  apply Int64.toBitVec_inj.mp
  apply BitVec.eq_of_toNat_eq
  simp [lN, Nat.and_mod_two_pow]
theorem bl_or (a b : Nat) : lN a ||| lN b = lN (a ||| b) := by
  apply Int64.toBitVec_inj.mp
  apply BitVec.eq_of_toNat_eq
  simp [lN, Nat.or_mod_two_pow]
theorem bl_xor (a b : Nat) : lN a ^^^ lN b = lN (a ^^^ b) := by
  apply Int64.toBitVec_inj.mp
  apply BitVec.eq_of_toNat_eq
  simp [lN, Nat.xor_mod_two_pow]
theorem bl_sh : ∀ x, x < 64 → (((nI x).toInt64 &&& 63).toBitVec.smod 64).toNat = x := by decide +kernel
theorem bl_shr {g x : Nat} (hg : g < 9223372036854775808) (hx : x < 64) : lN g >>> ((nI x).toInt64 &&& 63) = lN (g / 2 ^ x) := by
  apply Int64.toInt_inj.mp
  have h1 : g / 2 ^ x ≤ g := Nat.div_le_self _ _
  rw [Jvm.Kit.i64_shr _ _ (bl_sh x hx), pk_lT (by omega), pk_lT (by omega)]
  simp
theorem bl_shl {x : Nat} (hx : x < 62) : (1 : Int64) <<< ((nI x).toInt64 &&& 63) = lN (2 ^ x) := by
  have h2 : 2 ^ x ≤ 2 ^ 61 := Nat.pow_le_pow_right (by decide) (by omega)
  have h3 : (2 : Nat) ^ 61 = 2305843009213693952 := by decide
  apply Int64.toInt_inj.mp
  have h1 : (1 : Int64).toInt = 1 := by decide
  have h4 : ((2 : Int) ^ x) = ((2 ^ x : Nat) : Int) := by simp
  have hp : 0 < 2 ^ x := Nat.two_pow_pos x
  rw [Jvm.Kit.i64_shl _ _ (bl_sh x (by omega)) (by rw [h1, h4]; omega) (by rw [h1, h4]; omega), pk_lT (by omega), h1, h4]
  omega
def bitI (g x : Nat) : Nat := if g.testBit x = true then 1 else 0
theorem bitI_le (g x : Nat) : bitI g x ≤ 1 := by unfold bitI; split <;> omega
theorem bl_one : (1 : Int64) = lN 1 := rfl
theorem bl_zero : (0 : Int64) = lN 0 := rfl
theorem bl_cmp0 {a : Nat} (ha : a < 9223372036854775808) : lg_cmp (lN a) 0 = nI (if a = 0 then 0 else 1) := by
  unfold lg_cmp
  rw [bl_zero]
  by_cases h0 : a = 0
  · subst h0
    simp
    rfl
  · have h1 : lN a > lN 0 := (pk_lLT (by omega) ha).mpr (by omega)
    rw [if_pos h1, if_neg h0]
    rfl
theorem bl_test {g x : Nat} (hg : g < 9223372036854775808) (hx : x < 64) : lg_cmp ((lN g >>> ((nI x).toInt64 &&& 63)) &&& 1) 0 = nI (bitI g x) := by
  rw [bl_shr hg hx, bl_one, bl_and]
  have h1 : g / 2 ^ x &&& 1 = g / 2 ^ x % 2 := Nat.and_one_is_mod _
  rw [h1, bl_cmp0 (by omega)]
  congr 1
  unfold bitI
  rw [Nat.testBit_eq_decide_div_mod_eq]
  rcases Nat.mod_two_eq_zero_or_one (g / 2 ^ x) with e | e <;> simp [e]
/-- a without what is in t -/
def andn (a t : Nat) : Nat := a ^^^ (a &&& t)
theorem andn_bit (a t i : Nat) : (andn a t).testBit i = (a.testBit i && !t.testBit i) := by
  unfold andn
  rw [Nat.testBit_xor, Nat.testBit_and]
  cases a.testBit i <;> cases t.testBit i <;> rfl
theorem bl_andn (a t : Nat) : lN a &&& (lN t ^^^ (-1)) = lN (andn a t) := by
  have e : (-1 : Int64) = lN 18446744073709551615 := by decide
  rw [e, bl_xor, bl_and]
  apply Int64.toBitVec_inj.mp
  apply BitVec.eq_of_toNat_eq
  show (BitVec.ofNat 64 _).toNat = (BitVec.ofNat 64 _).toNat
  rw [BitVec.toNat_ofNat, BitVec.toNat_ofNat]
  apply Nat.eq_of_testBit_eq
  intro i
  rw [Nat.testBit_mod_two_pow, Nat.testBit_mod_two_pow, Nat.testBit_and, Nat.testBit_xor, andn_bit]
  by_cases hi : i < 64
  · have h1 : Nat.testBit 18446744073709551615 i = true := by
      have : (18446744073709551615 : Nat) = 2 ^ 64 - 1 := by decide
      rw [this, Nat.testBit_two_pow_sub_one]
      simp [hi]
    rw [h1]
    cases a.testBit i <;> cases t.testBit i <;> simp
  · simp [hi]
theorem bits_lt {n : Nat} {m : Nat} (h : ∀ i, m ≤ i → n.testBit i = false) : n < 2 ^ m := Nat.lt_pow_two_of_testBit n (fun i hi => h i hi)
theorem bits_ge {n m i : Nat} (h : n < 2 ^ m) (hi : m ≤ i) : n.testBit i = false := Nat.testBit_lt_two_pow (Nat.lt_of_lt_of_le h (Nat.pow_le_pow_right (by decide) hi))
theorem andn_lt {a t m : Nat} (h : a < 2 ^ m) : andn a t < 2 ^ m := bits_lt (fun i hi => by rw [andn_bit, bits_ge h hi]; rfl)
theorem or_lt {a t m : Nat} (h : a < 2 ^ m) (h2 : t < 2 ^ m) : a ||| t < 2 ^ m := Nat.or_lt_two_pow h h2
theorem and_lt {a t m : Nat} (h : a < 2 ^ m) : a &&& t < 2 ^ m := bits_lt (fun i hi => by rw [Nat.testBit_and, bits_ge h hi]; rfl)
theorem pk_andW {n k : Nat} : nI n &&& nI (2 ^ k - 1) = nI (n % 2 ^ k) := by
  apply Int32.toBitVec_inj.mp
  apply BitVec.eq_of_toNat_eq
  simp only [nI, Int32.toBitVec_and, BitVec.toNat_and]
  show n % 2 ^ 32 &&& (2 ^ k - 1) % 2 ^ 32 = n % 2 ^ k % 2 ^ 32
  rw [← Nat.and_mod_two_pow, Nat.and_two_pow_sub_one_eq_mod]
