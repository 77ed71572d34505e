/-! bitCount; snow, rain, steps on prints; the past -/
theorem bl_us : ∀ k, k < 64 → ((nI k).toInt64.toUInt64 &&& Int64.toUInt64 63).toNat = k := by decide +kernel
theorem bl_ushr {a k : Nat} (ha : a < 9223372036854775808) (hk : k < 64) : ((lN a).toUInt64 >>> ((nI k).toInt64.toUInt64 &&& Int64.toUInt64 63)).toInt64 = lN (a / 2 ^ k) := by
  apply Int64.toInt_inj.mp
  have h1 : a / 2 ^ k ≤ a := Nat.div_le_self _ _
  have h0 : 0 ≤ lN a := by
    have : lN 0 ≤ lN a := (pk_lLE (by omega) ha).mpr (by omega)
    exact this
  rw [Jvm.Kit.i64_lushr h0 (bl_us k hk) hk, pk_lT (by omega), pk_lT (by omega)]
  simp
section BCE
variable {xs : List Int32} {h : sm_Hp} {K : Option Value → sm_Hp → Prop} {g : Nat}
theorem e_bitCount (hg : g < 2 ^ 61) : Wp xs m_Long_bitCount 0 [.long (lN g), .null] [] h 0 0 K = K (some (.int (nI (cnt (fun i => g.testBit i) 64)))) h := by
  have p61 : (2 : Nat) ^ 61 = 2305843009213693952 := by decide
  have k1 : (6148914691236517205 : Int64) = lN (mk8 85 8) := by decide
  have k2 : (3689348814741910323 : Int64) = lN (mk8 51 8) := by decide
  have k3 : (1085102592571150095 : Int64) = lN (mk8 15 8) := by decide
  have m2 : mk8 51 8 = 3689348814741910323 := by decide
  have m3 : mk8 15 8 = 1085102592571150095 := by decide
  simp only [w_Long_bitCount_0, w_Long_bitCount_1, w_Long_bitCount_2, w_Long_bitCount_3, w_Long_bitCount_4, w_Long_bitCount_7, w_Long_bitCount_8, w_Long_bitCount_9, w_Long_bitCount_10, w_Long_bitCount_11, w_Long_bitCount_14, w_Long_bitCount_15, w_Long_bitCount_16, w_Long_bitCount_17, w_Long_bitCount_18, w_Long_bitCount_21, w_Long_bitCount_22, w_Long_bitCount_23, w_Long_bitCount_24, w_Long_bitCount_25, w_Long_bitCount_26, w_Long_bitCount_27, w_Long_bitCount_28, w_Long_bitCount_29, w_Long_bitCount_32, w_Long_bitCount_33, w_Long_bitCount_34, w_Long_bitCount_35, w_Long_bitCount_36, w_Long_bitCount_38, w_Long_bitCount_39, w_Long_bitCount_40, w_Long_bitCount_41, w_Long_bitCount_42, w_Long_bitCount_43, w_Long_bitCount_45, w_Long_bitCount_46, w_Long_bitCount_47, w_Long_bitCount_48, w_Long_bitCount_49, w_Long_bitCount_50, w_Long_bitCount_52, w_Long_bitCount_53, w_Long_bitCount_54, w_Long_bitCount_55, w_Long_bitCount_56, w_Long_bitCount_57, w_Long_bitCount_59, w_Long_bitCount_60, k1, k2, k3]
  have a1 : g / 2 ^ 1 &&& mk8 85 8 ≤ g := Nat.le_trans Nat.and_le_left (Nat.div_le_self _ _)
  rw [bl_ushr (by omega) (by omega), bl_and, lN_sub a1]
  have e1 : g - (g / 2 ^ 1 &&& mk8 85 8) = bc1 8 g := rfl
  rw [e1]
  have b1' : bc1 8 g ≤ g := Nat.sub_le _ _
  rw [bl_ushr (by omega) (by omega), bl_and, bl_and, lN_add]
  have e2 : (bc1 8 g &&& mk8 51 8) + (bc1 8 g / 2 ^ 2 &&& mk8 51 8) = bc2 8 (bc1 8 g) := rfl
  rw [e2]
  have b2' : bc2 8 (bc1 8 g) ≤ 3689348814741910323 + 3689348814741910323 := by
    have h1 : bc1 8 g &&& mk8 51 8 ≤ mk8 51 8 := Nat.and_le_right
    have h2 : bc1 8 g / 4 &&& mk8 51 8 ≤ mk8 51 8 := Nat.and_le_right
    show (bc1 8 g &&& mk8 51 8) + (bc1 8 g / 4 &&& mk8 51 8) ≤ _
    omega
  rw [bl_ushr (by omega) (by omega), lN_add, bl_and]
  have e3 : (bc2 8 (bc1 8 g) + bc2 8 (bc1 8 g) / 2 ^ 4) &&& mk8 15 8 = bc 8 g := rfl
  rw [e3]
  have b3' : bc 8 g ≤ 1085102592571150095 := by
    have h1 : bc 8 g ≤ mk8 15 8 := Nat.and_le_right
    omega
  rw [bl_ushr (by omega) (by omega), lN_add]
  have b4 : bc 8 g / 2 ^ 8 ≤ bc 8 g := Nat.div_le_self _ _
  rw [bl_ushr (by omega) (by omega), lN_add]
  have b5 : (bc 8 g + bc 8 g / 2 ^ 8) / 2 ^ 16 ≤ bc 8 g + bc 8 g / 2 ^ 8 := Nat.div_le_self _ _
  rw [bl_ushr (by omega) (by omega), lN_add, lN_i]
  have e7 : nI 127 = nI (2 ^ 7 - 1) := rfl
  rw [e7, pk_andW]
  have hs := bc_sum g (by omega)
  rw [← hs]
end BCE
