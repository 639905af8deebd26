/-! CASES THAT WRITE -/
theorem C_within_in {a q b : Nat} (h1 : a ≤ q) (h2 : q ≤ b) (hb : b < 2 ^ 30) : f_C_requireWithin (nI q) (nI a) (nI b) = some (.ok ()) := by
  unfold f_C_requireWithin
  rw [if_neg (fun z => absurd ((nI_ltI (by omega) (by omega)).mp z) (by omega)), if_pos ((nI_leI (by omega) (by omega)).mpr h2)]
theorem M_within_in {a q b : Nat} (h1 : a ≤ q) (h2 : q ≤ b) (hb : b < 2 ^ 30) : f_M_in (nI q) (nI a) (nI b) = some 1 := by
  unfold f_M_in
  rw [if_neg (fun z => absurd ((nI_ltI (by omega) (by omega)).mp z) (by omega)), if_neg (fun z => absurd ((nI_ltI (by omega) (by omega)).mp z) (by omega))]
/-- a number is within two bounds, or outside of them on both sides alike -/
theorem wthn (p : Int32) {a b : Nat} (ha : a < 2 ^ 30) (hb : b < 2 ^ 30) : (∃ q : Nat, a ≤ q ∧ q ≤ b ∧ p = nI q) ∨ (f_C_requireWithin p (nI a) (nI b) = some (.error 1) ∧ f_M_in p (nI a) (nI b) = some 0) := by
  by_cases h1 : p < nI a
  · right
    unfold f_C_requireWithin f_M_in
    rw [if_pos h1, if_pos h1]
    exact ⟨rfl, rfl⟩
  · by_cases h2 : p ≤ nI b
    · left
      have q1 := Int32.le_iff_toInt_le.mp (Int32.not_lt.mp h1)
      have q2 := Int32.le_iff_toInt_le.mp h2
      rw [nI_toInt (by omega)] at q1 q2
      rcases i_cases p (b + 1) (by omega) with h | ⟨-, h⟩ | ⟨q, hq, rfl⟩
      · have q3 := Int32.lt_iff_toInt_lt.mp h
        have q4 : (0 : Int32).toInt = 0 := rfl
        omega
      · have q3 := Int32.le_iff_toInt_le.mp h
        rw [nI_toInt (by omega)] at q3
        omega
      · rw [nI_toInt (by omega)] at q1
        exact ⟨q, by omega, by omega, rfl⟩
    · right
      unfold f_C_requireWithin f_M_in
      rw [if_neg h1, if_neg h1, if_neg h2, if_pos (Int32.not_le.mp h2)]
      exact ⟨rfl, rfl⟩
