/-! Long.bitCount -/
def U (y : Int64) : Nat := y.toBitVec.toNat
theorem U_lt (y : Int64) : U y < 2 ^ 64 := y.toBitVec.isLt
theorem u_and (a b : Int64) : U (a &&& b) = U a &&& U b := by
  unfold U
  rw [Int64.toBitVec_and, BitVec.toNat_and]
theorem u_sub {a b : Int64} (h : U b ≤ U a) : U (a - b) = U a - U b := by
  unfold U at *
  rw [Int64.toBitVec_sub, BitVec.toNat_sub_of_le h]
theorem u_add {a b : Int64} (h : U a + U b < 2 ^ 64) : U (a + b) = U a + U b := by
  unfold U at *
  rw [Int64.toBitVec_add, BitVec.toNat_add_of_lt h]
theorem u_shr (y : Int64) (s : UInt64) {c : Nat} (h : s.toNat % 64 = c) : U ((y.toUInt64 >>> s).toInt64) = U y / 2 ^ c := by
  show (y.toUInt64 >>> s).toNat = _
  rw [UInt64.toNat_shiftRight, h, Nat.shiftRight_eq_div_pow]
  rfl
theorem u_fin (w : Int64) : (w.toInt32 &&& 127) = nI (U w % 128) := by
  apply Int32.toBitVec_inj.mp
  rw [Int32.toBitVec_and, Int64.toBitVec_toInt32, BitVec.signExtend_eq_setWidth_of_le _ (by decide)]
  apply BitVec.eq_of_toNat_eq
  rw [BitVec.toNat_and, BitVec.toNat_setWidth]
  show (U w % 2 ^ 32) &&& 127 = (BitVec.ofNat 32 (U w % 128)).toNat
  rw [BitVec.toNat_ofNat, show (127 : Nat) = 2 ^ 7 - 1 from rfl, Nat.and_two_pow_sub_one_eq_mod]
  omega
theorem tp8 (Y : Nat) : tp 8 Y = 256 * (256 * (256 * (256 * (256 * (256 * (256 * (256 * 0 + pop (Y / 256 / 256 / 256 / 256 / 256 / 256 / 256 % 256)) + pop (Y / 256 / 256 / 256 / 256 / 256 / 256 % 256)) + pop (Y / 256 / 256 / 256 / 256 / 256 % 256)) + pop (Y / 256 / 256 / 256 / 256 % 256)) + pop (Y / 256 / 256 / 256 % 256)) + pop (Y / 256 / 256 % 256)) + pop (Y / 256 % 256)) + pop (Y % 256) := rfl
theorem sp8 (Y : Nat) : sp 8 Y = 0 + pop (Y / 256 / 256 / 256 / 256 / 256 / 256 / 256 % 256) + pop (Y / 256 / 256 / 256 / 256 / 256 / 256 % 256) + pop (Y / 256 / 256 / 256 / 256 / 256 % 256) + pop (Y / 256 / 256 / 256 / 256 % 256) + pop (Y / 256 / 256 / 256 % 256) + pop (Y / 256 / 256 % 256) + pop (Y / 256 % 256) + pop (Y % 256) := rfl
theorem s1_t : ((1 : Int32).toInt64.toUInt64 &&& Int64.toUInt64 63).toNat % 64 = 1 := by decide +kernel
theorem s2_t : ((2 : Int32).toInt64.toUInt64 &&& Int64.toUInt64 63).toNat % 64 = 2 := by decide +kernel
theorem s4_t : ((4 : Int32).toInt64.toUInt64 &&& Int64.toUInt64 63).toNat % 64 = 4 := by decide +kernel
theorem s8_t : ((8 : Int32).toInt64.toUInt64 &&& Int64.toUInt64 63).toNat % 64 = 8 := by decide +kernel
theorem s16_t : ((16 : Int32).toInt64.toUInt64 &&& Int64.toUInt64 63).toNat % 64 = 16 := by decide +kernel
theorem s32_t : ((32 : Int32).toInt64.toUInt64 &&& Int64.toUInt64 63).toNat % 64 = 32 := by decide +kernel
theorem m1_t : U 6148914691236517205 = mm 85 8 := by decide +kernel
theorem m2_t : U 3689348814741910323 = mm 51 8 := by decide +kernel
theorem m3_t : U 1085102592571150095 = mm 15 8 := by decide +kernel
theorem m51 : mm 51 8 = 3689348814741910323 := by decide +kernel
theorem nmf {α β : Type} (a : α) (f : α → Option β) : nm a f = f a := rfl
theorem bc64 (y : Int64) : F_J13_bitCount_95d88 y = some (nI (sp 8 (U y))) := by
  unfold F_J13_bitCount_95d88
  generalize e9 : (y - (((y.toUInt64 >>> ((1 : Int32).toInt64.toUInt64 &&& Int64.toUInt64 63)).toInt64) &&& 6148914691236517205) : Int64) = w9
  have h9 : U w9 = w1 8 (U y) := by
    rw [← e9]
    have q : U (((y.toUInt64 >>> ((1 : Int32).toInt64.toUInt64 &&& Int64.toUInt64 63)).toInt64) &&& 6148914691236517205) = (U y / 2) &&& mm 85 8 := by rw [u_and, u_shr y _ s1_t, m1_t]
    rw [u_sub (by rw [q]; exact le1 8 (U y)), q]
    rfl
  rw [nmf]
  generalize e23 : (((w9 &&& 3689348814741910323) + (((w9.toUInt64 >>> ((2 : Int32).toInt64.toUInt64 &&& Int64.toUInt64 63)).toInt64) &&& 3689348814741910323)) : Int64) = w23
  have h23 : U w23 = w2 8 (w1 8 (U y)) ∧ U w23 ≤ 2 * 3689348814741910323 := by
    have q1 : U (w9 &&& 3689348814741910323) = U w9 &&& mm 51 8 := by rw [u_and, m2_t]
    have q2 : U (((w9.toUInt64 >>> ((2 : Int32).toInt64.toUInt64 &&& Int64.toUInt64 63)).toInt64) &&& 3689348814741910323) = (U w9 / 4) &&& mm 51 8 := by rw [u_and, u_shr w9 _ s2_t, m2_t]
    have b1 : (U w9 &&& mm 51 8) ≤ 3689348814741910323 := by rw [← m51]; exact Nat.and_le_right
    have b2 : ((U w9 / 4) &&& mm 51 8) ≤ 3689348814741910323 := by rw [← m51]; exact Nat.and_le_right
    have q3 : U w23 = (U w9 &&& mm 51 8) + ((U w9 / 4) &&& mm 51 8) := by rw [← e23, u_add (by rw [q1, q2]; omega), q1, q2]
    refine ⟨?_, by omega⟩
    rw [q3, h9]
    rfl
  rw [nmf]
  generalize e33 : (((w23 + ((w23.toUInt64 >>> ((4 : Int32).toInt64.toUInt64 &&& Int64.toUInt64 63)).toInt64)) &&& 1085102592571150095) : Int64) = w33
  have h33 : U w33 = tp 8 (U y) := by
    have q1 : U ((w23.toUInt64 >>> ((4 : Int32).toInt64.toUInt64 &&& Int64.toUInt64 63)).toInt64) = U w23 / 16 := by rw [u_shr w23 _ s4_t]
    have hb := h23.2
    rw [← e33, u_and, m3_t, u_add (by rw [q1]; omega), q1, h23.1, ← w_all 8 (U y) (U_lt y)]
    rfl
  obtain ⟨f1, f2, f3⟩ := fold8 (pop_b _) (pop_b _) (pop_b _) (pop_b _) (pop_b _) (pop_b _) (pop_b _) (pop_b _) (tp8 (U y))
  rw [← h33] at f1 f2 f3
  have g8 : U ((w33.toUInt64 >>> ((8 : Int32).toInt64.toUInt64 &&& Int64.toUInt64 63)).toInt64) = U w33 / 256 := by rw [u_shr w33 _ s8_t]
  rw [nmf]
  generalize eA : (w33 + ((w33.toUInt64 >>> ((8 : Int32).toInt64.toUInt64 &&& Int64.toUInt64 63)).toInt64) : Int64) = wA
  have hA : U wA = U w33 + U w33 / 256 := by rw [← eA, u_add (by rw [g8]; omega), g8]
  have g16 : U ((wA.toUInt64 >>> ((16 : Int32).toInt64.toUInt64 &&& Int64.toUInt64 63)).toInt64) = U wA / 65536 := by rw [u_shr wA _ s16_t]
  generalize eB : ((wA + ((wA.toUInt64 >>> ((16 : Int32).toInt64.toUInt64 &&& Int64.toUInt64 63)).toInt64)) : Int64) = wB
  have hB : U wB = U wA + U wA / 65536 := by rw [← eB, u_add (by rw [g16, hA]; omega), g16]
  have g32 : U ((wB.toUInt64 >>> ((32 : Int32).toInt64.toUInt64 &&& Int64.toUInt64 63)).toInt64) = U wB / 4294967296 := by rw [u_shr wB _ s32_t]
  rw [nmf]
  rw [u_fin, u_add (by rw [g32, hB, hA]; omega), g32, hB, hA, f3, sp8]
  congr 2
  omega
