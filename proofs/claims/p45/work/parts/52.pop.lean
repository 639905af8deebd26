/-! bitCount, of a long -/
theorem dig_le (d : Nat → Nat) (c : Nat) (h : ∀ i, d i ≤ c) (n : Nat) : dig d n ≤ c * dig (fun _ => 1) n := by
  induction n generalizing d with
  | zero => exact Nat.zero_le _
  | succ n ih =>
    have h0 := h 0
    have h1 := ih (fun i => d (i + 1)) (fun i => h (i + 1))
    rw [dig_s, dig_s, Nat.mul_add, Nat.mul_left_comm, Nat.mul_one]
    omega
def pu1 (u : UInt64) : UInt64 := u - ((u >>> 1) &&& (6148914691236517205 : UInt64))
def pu2 (u : UInt64) : UInt64 := (u &&& (3689348814741910323 : UInt64)) + ((u >>> 2) &&& (3689348814741910323 : UInt64))
def pu3 (u : UInt64) : UInt64 := (u + (u >>> 4)) &&& (1085102592571150095 : UInt64)
def pu4 (u : UInt64) : UInt64 := u + (u >>> 8)
def pu5 (u : UInt64) : UInt64 := u + (u >>> 16)
def pu6 (u : UInt64) : UInt64 := u + (u >>> 32)
theorem pL1 (x : Int64) (k c : UInt64) : x - ((x.toUInt64 >>> k).toInt64 &&& c.toInt64) = (x.toUInt64 - ((x.toUInt64 >>> k) &&& c)).toInt64 := rfl
theorem pL2 (x : Int64) (k c : UInt64) : (x &&& c.toInt64) + ((x.toUInt64 >>> k).toInt64 &&& c.toInt64) = ((x.toUInt64 &&& c) + ((x.toUInt64 >>> k) &&& c)).toInt64 := rfl
theorem pL3 (x : Int64) (k c : UInt64) : ((x + (x.toUInt64 >>> k).toInt64) &&& c.toInt64) = ((x.toUInt64 + (x.toUInt64 >>> k)) &&& c).toInt64 := rfl
theorem pL4 (x : Int64) (k : UInt64) : x + (x.toUInt64 >>> k).toInt64 = (x.toUInt64 + (x.toUInt64 >>> k)).toInt64 := rfl
theorem pL0 (u : UInt64) : u.toInt64.toUInt64 = u := rfl
theorem ps1 : ((1 : Int32).toInt64.toUInt64 &&& Int64.toUInt64 63) = 1 := by decide
theorem ps2 : ((2 : Int32).toInt64.toUInt64 &&& Int64.toUInt64 63) = 2 := by decide
theorem ps4 : ((4 : Int32).toInt64.toUInt64 &&& Int64.toUInt64 63) = 4 := by decide
theorem ps8 : ((8 : Int32).toInt64.toUInt64 &&& Int64.toUInt64 63) = 8 := by decide
theorem ps16 : ((16 : Int32).toInt64.toUInt64 &&& Int64.toUInt64 63) = 16 := by decide
theorem ps32 : ((32 : Int32).toInt64.toUInt64 &&& Int64.toUInt64 63) = 32 := by decide
theorem pc1 : (6148914691236517205 : Int64) = (6148914691236517205 : UInt64).toInt64 := by decide
theorem pc2 : (3689348814741910323 : Int64) = (3689348814741910323 : UInt64).toInt64 := by decide
theorem pc3 : (1085102592571150095 : Int64) = (1085102592571150095 : UInt64).toInt64 := by decide
theorem bitCount_pu (x : Int64) : f_J13_bitCount_95d88 x = some ((pu6 (pu5 (pu4 (pu3 (pu2 (pu1 x.toUInt64)))))).toInt64.toInt32 &&& 127) := by
  unfold f_J13_bitCount_95d88 pu1 pu2 pu3 pu4 pu5 pu6
  simp only [Option.bind_some, ps1, ps2, ps4, ps8, ps16, ps32]
  rw [pc1, pL1]
  rw [pc2, pL2, pL0]
  rw [pc3, pL3, pL0]
  rw [pL4, pL0]
  rw [pL4, pL0]
  all_goals rfl
theorem shr_nat (u : UInt64) (k : UInt64) (h : k.toNat < 64) : (u >>> k).toNat = u.toNat / 2 ^ k.toNat := by
  rw [UInt64.toNat_shiftRight, Nat.mod_eq_of_lt h, Nat.shiftRight_eq_div_pow]
theorem add_nat {u v : UInt64} (h : u.toNat + v.toNat < 2 ^ 64) : (u + v).toNat = u.toNat + v.toNat := by
  rw [UInt64.toNat_add, Nat.mod_eq_of_lt h]
theorem pu_nat (u : UInt64) : (pu6 (pu5 (pu4 (pu3 (pu2 (pu1 u)))))).toNat = pop64 u.toNat := by
  have hu : u.toNat < 2 ^ 64 := u.toNat_lt
  obtain ⟨h1, h2, h3, h4⟩ := pop_steps u.toNat hu
  have hb : ∀ i, u.toNat / 256 ^ i % 256 < 256 := fun i => Nat.mod_lt _ (by omega)
  have hS : ∀ i, (fun i => s2 (u.toNat / 256 ^ i % 256)) i ≤ 68 := fun i => by
    have q := by4 ⟨u.toNat / 256 ^ i % 256, hb i⟩
    have q1 := q.2.2.1
    have q2 := q.2.2.2.1
    show s2 (u.toNat / 256 ^ i % 256) ≤ 68
    simp only at q1 q2
    omega
  have e1 : dig (fun _ => 1) 8 = 72340172838076673 := by decide
  have b2 := dig_le _ 68 hS 8
  have b3 := dig_le (fun i => bits8 (u.toNat / 256 ^ i % 256)) 8 (fun i => bits8_le _) 8
  rw [e1] at b2 b3
  have n1 : (pu1 u).toNat = u.toNat - (u.toNat / 2 &&& 6148914691236517205) := by
    have e : ((u >>> 1) &&& (6148914691236517205 : UInt64)).toNat = (u.toNat / 2 &&& 6148914691236517205) := by
      rw [UInt64.toNat_and, shr_nat u 1 (by decide)]
      rfl
    unfold pu1
    rw [UInt64.toNat_sub_of_le _ _ (by rw [UInt64.le_iff_toNat_le, e]; exact h1), e]
  have n2 : (pu2 (pu1 u)).toNat = dig (fun i => s2 (u.toNat / 256 ^ i % 256)) 8 := by
    have ea : ((pu1 u) &&& (3689348814741910323 : UInt64)).toNat = ((pu1 u).toNat &&& 3689348814741910323) := UInt64.toNat_and _ _
    have eb : (((pu1 u) >>> 2) &&& (3689348814741910323 : UInt64)).toNat = ((pu1 u).toNat / 4 &&& 3689348814741910323) := by
      rw [UInt64.toNat_and, shr_nat _ 2 (by decide)]
      rfl
    unfold pu2
    rw [add_nat (by rw [ea, eb, n1, h3]; omega), ea, eb, n1, h3]
  have n3 : (pu3 (pu2 (pu1 u))).toNat = dig (fun i => bits8 (u.toNat / 256 ^ i % 256)) 8 := by
    have ea : ((pu2 (pu1 u)) >>> 4).toNat = (pu2 (pu1 u)).toNat / 16 := shr_nat _ 4 (by decide)
    unfold pu3
    rw [UInt64.toNat_and, add_nat (by rw [ea, n2]; omega), ea, n2, ← h4]
    rfl
  have n4 : (pu4 (pu3 (pu2 (pu1 u)))).toNat = dig (fun i => bits8 (u.toNat / 256 ^ i % 256)) 8 + dig (fun i => bits8 (u.toNat / 256 ^ i % 256)) 8 / 256 := by
    have ea : ((pu3 (pu2 (pu1 u))) >>> 8).toNat = (pu3 (pu2 (pu1 u))).toNat / 256 := shr_nat _ 8 (by decide)
    unfold pu4
    rw [add_nat (by rw [ea, n3]; omega), ea, n3]
  have n5 : (pu5 (pu4 (pu3 (pu2 (pu1 u))))).toNat = (pu4 (pu3 (pu2 (pu1 u)))).toNat + (pu4 (pu3 (pu2 (pu1 u)))).toNat / 65536 := by
    have ea : ((pu4 (pu3 (pu2 (pu1 u)))) >>> 16).toNat = (pu4 (pu3 (pu2 (pu1 u)))).toNat / 65536 := shr_nat _ 16 (by decide)
    generalize pu4 (pu3 (pu2 (pu1 u))) = v at *
    unfold pu5
    rw [add_nat (by rw [ea]; omega), ea]
  have n6 : (pu6 (pu5 (pu4 (pu3 (pu2 (pu1 u)))))).toNat = (pu5 (pu4 (pu3 (pu2 (pu1 u))))).toNat + (pu5 (pu4 (pu3 (pu2 (pu1 u))))).toNat / 4294967296 := by
    have ea : ((pu5 (pu4 (pu3 (pu2 (pu1 u))))) >>> 32).toNat = (pu5 (pu4 (pu3 (pu2 (pu1 u))))).toNat / 4294967296 := shr_nat _ 32 (by decide)
    generalize pu4 (pu3 (pu2 (pu1 u))) = v at *
    generalize pu5 v = w at *
    unfold pu6
    rw [add_nat (by rw [ea]; omega), ea]
  rw [n6, n5, n4]
  unfold pop64
  dsimp only
  rw [h3, h4]
theorem and127 (y : Int64) (k : Nat) (h : y.toUInt64.toNat % 128 = k) : (y.toInt32 &&& 127) = nI k := by
  have hk : k < 128 := by omega
  apply Int32.toBitVec.inj
  apply BitVec.eq_of_toNat_eq
  rw [Int32.toBitVec_and]
  have e1 : y.toInt32.toBitVec = y.toBitVec.setWidth 32 := by
    show y.toBitVec.signExtend 32 = y.toBitVec.setWidth 32
    first | exact BitVec.signExtend_eq_setWidth_of_le _ (by decide) | exact BitVec.signExtend_eq_setWidth_of_lt _ (by decide)
  have e2 : (127 : Int32).toBitVec.toNat = 2 ^ 7 - 1 := rfl
  have e3 : (nI k).toBitVec.toNat = k := by
    show (BitVec.ofNat 32 k).toNat = k
    rw [BitVec.toNat_ofNat, Nat.mod_eq_of_lt (by omega)]
  rw [e1, BitVec.toNat_and, e2, e3, BitVec.toNat_setWidth, Nat.and_two_pow_sub_one_eq_mod]
  have e4 : y.toBitVec.toNat = y.toUInt64.toNat := rfl
  rw [e4]
  omega
theorem bitCount_ok (x : Int64) : f_J13_bitCount_95d88 x = some (nI (cn (fun b => x.toUInt64.toNat.testBit b) 64)) := by
  rw [bitCount_pu, and127 _ _ ?_]
  show (pu6 (pu5 (pu4 (pu3 (pu2 (pu1 x.toUInt64)))))).toNat % 128 = _
  rw [pu_nat, pop_ok _ x.toUInt64.toNat_lt]
