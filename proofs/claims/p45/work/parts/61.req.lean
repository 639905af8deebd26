/-! WHAT THE CALLS ASK FIRST; SMALL NUMBERS OF THE LAW -/
theorem ne_m1 {i : Nat} (h : i < 2 ^ 31) : ¬ nI i = -1 := fun q => by
  have q2 := congrArg Int32.toInt q
  rw [nI_toInt h] at q2
  have q3 : (-1 : Int32).toInt = -1 := rfl
  omega
theorem C_within_in {a q b : Nat} (h1 : a ≤ q) (h2 : q ≤ b) (hb : b < 2 ^ 30) : f_C_requireWithin (nI q) (nI a) (nI b) = some (.ok ()) := by
  unfold f_C_requireWithin
  rw [if_neg (fun z => absurd ((nI_ltI (by omega) (by omega)).mp z) (by omega)), if_pos ((nI_leI (by omega) (by omega)).mpr h2)]
theorem C_within_no {a q b : Nat} (h1 : q < a ∨ b < q) (ha : a < 2 ^ 30) (hb : b < 2 ^ 30) (hq : q < 2 ^ 30) : f_C_requireWithin (nI q) (nI a) (nI b) = some (.error 1) := by
  unfold f_C_requireWithin
  rcases h1 with h1 | h1
  · rw [if_pos ((nI_ltI (by omega) (by omega)).mpr h1)]
  · by_cases z : nI q < nI a
    · rw [if_pos z]
    · rw [if_neg z, if_neg (fun z => absurd ((nI_leI (by omega) (by omega)).mp z) (by omega))]
/-- the law's low(v, n): a number below n -/
theorem and_pos (v : Int32) : ¬ (v &&& 2147483647) < 0 := by
  intro h
  have h1 := Int32.lt_iff_toBitVec_slt.mp h
  have h2 : (v &&& 2147483647).toBitVec.msb = true := by
    rw [← BitVec.slt_zero_eq_msb]
    exact h1
  have h3 : (v &&& 2147483647).toBitVec = v.toBitVec &&& (2147483647 : Int32).toBitVec := rfl
  rw [h3, BitVec.msb_and] at h2
  have h4 : (2147483647 : Int32).toBitVec.msb = false := by decide
  rw [h4, Bool.and_false] at h2
  cases h2
theorem low_ok (v : Int32) {n : Nat} (h0 : 0 < n) (hn : n < 2 ^ 31) : ∃ r, r < n ∧ f_low v (nI n) = some (nI r) := by
  obtain ⟨a, ha, e⟩ := nI_of (and_pos v)
  refine ⟨a % n, Nat.mod_lt _ h0, ?_⟩
  unfold f_low
  rw [if_neg (nI_ne0 h0 hn), e, pk_rem ha h0 hn]
theorem cell_ok (LL : Nat) (hL : LL ≤ 260) (xs : Nat → Int32) {j : Nat} (hj : j < 2 ^ 30) : ∃ g, f_cell LL xs (nI j) = some g := by
  unfold f_cell
  have e : Int32.ofNat LL = nI LL := rfl
  rw [e]
  by_cases h : LL ≤ j
  · rw [if_pos ((nI_leI (by omega) (by omega)).mpr h : nI LL ≤ nI j)]
    exact ⟨_, rfl⟩
  · rw [if_neg (fun z => h ((nI_leI (by omega) (by omega)).mp (z : nI LL ≤ nI j))), if_neg (nI_in (by omega) (by omega))]
    exact ⟨_, rfl⟩
/-- sort = g & 31 -/
theorem and31 (v : Int32) : ∃ r, r < 32 ∧ (v &&& 31) = nI r := by
  refine ⟨(v &&& 31).toBitVec.toNat, ?_, ?_⟩
  · have h3 : (v &&& 31).toBitVec = v.toBitVec &&& (31 : Int32).toBitVec := rfl
    rw [h3, BitVec.toNat_and]
    exact Nat.lt_of_le_of_lt Nat.and_le_right (by decide)
  · apply Int32.toBitVec_inj.mp
    show (v &&& 31).toBitVec = BitVec.ofNat 32 (v &&& 31).toBitVec.toNat
    rw [BitVec.ofNat_toNat, BitVec.setWidth_eq]
