/-! CASES THAT WRITE -/
theorem C_within_in {a q b : Nat} (h1 : a ≤ q) (h2 : q ≤ b) (hb : b < 2 ^ 30) : f_C_requireWithin (nI q) (nI a) (nI b) = some (.ok ()) := by
  unfold f_C_requireWithin
  rw [if_neg (fun z => absurd ((nI_ltI (by omega) (by omega)).mp z) (by omega)), if_pos ((nI_leI (by omega) (by omega)).mpr h2)]
theorem M_within_in {a q b : Nat} (h1 : a ≤ q) (h2 : q ≤ b) (hb : b < 2 ^ 30) : f_M_in (nI q) (nI a) (nI b) = some 1 := by
  unfold f_M_in
  rw [if_neg (fun z => absurd ((nI_ltI (by omega) (by omega)).mp z) (by omega)), if_neg (fun z => absurd ((nI_ltI (by omega) (by omega)).mp z) (by omega))]
/-- a number is within two bounds, or outside of them on both sides alike -/
theorem wthn (p : Int32) {a b : Nat} (ha : a < 2 ^ 30) (hb : b < 2 ^ 30) : (∃ q : Nat, a ≤ q ∧ q ≤ b ∧ p = nI q) ∨ (f_C_requireWithin p (nI a) (nI b) = some (.error 1) ∧ f_M_in p (nI a) (nI b) = some 0) := by
  by_cases h1 : p < nI a
  · right
    unfold f_C_requireWithin f_M_in
    rw [if_pos h1, if_pos h1]
    exact ⟨rfl, rfl⟩
  · by_cases h2 : p ≤ nI b
    · left
      have q1 := Int32.le_iff_toInt_le.mp (Int32.not_lt.mp h1)
      have q2 := Int32.le_iff_toInt_le.mp h2
      rw [nI_toInt (by omega)] at q1 q2
      rcases i_cases p (b + 1) (by omega) with h | ⟨-, h⟩ | ⟨q, hq, rfl⟩
      · have q3 := Int32.lt_iff_toInt_lt.mp h
        have q4 : (0 : Int32).toInt = 0 := rfl
        omega
      · have q3 := Int32.le_iff_toInt_le.mp h
        rw [nI_toInt (by omega)] at q3
        omega
      · rw [nI_toInt (by omega)] at q1
        exact ⟨q, by omega, by omega, rfl⟩
    · right
      unfold f_C_requireWithin f_M_in
      rw [if_neg h1, if_neg h1, if_neg h2, if_pos (Int32.not_le.mp h2)]
      exact ⟨rfl, rfl⟩
/-- CASE 0: addOwner -/
theorem c0 {k tr : Nat} {Qo : Nat → Nat} {p1 cT cO mown misop : Int32} {cQ mquot : Nat → Int32} {oL : Nat → Int64} (h : OWN k Qo cO cQ mown mquot) (ht : tr ≤ 1) (g1 : cT = nI tr) (g2 : misop = nI tr) : ∃ cO' cQ' oL' mc mown' mquot', f_case0 p1 cT cO cQ oL mown mquot misop = some (cO', cQ', oL', mc, mown', mquot') ∧ ∃ k' Qo', k ≤ k' ∧ OWN k' Qo' cO' cQ' mown' mquot' := by
  subst g1
  subst g2
  have h0 := h
  obtain ⟨hk, rfl, rfl, hQ⟩ := h
  unfold f_case0 f_L_addOwner f_C_addOwner f_M_addOwner f_M_thrown f_M_fails f_C_requireNoTransaction
  have e1 : ¬ ((1 : Int32) = 0) := by decide
  have e2 : ¬ ((2 : Int32) = 0) := by decide
  rcases wthn p1 (a := 0) (b := 64) (by omega) (by omega) with ⟨q, -, hq, rfl⟩ | ⟨w1, w2⟩
  · have w1 : f_C_requireWithin (nI q) 0 64 = some (.ok ()) := C_within_in (a := 0) (b := 64) (by omega) hq (by omega)
    have w2 : f_M_in (nI q) 0 64 = some 1 := M_within_in (a := 0) (b := 64) (by omega) hq (by omega)
    rw [w1, w2]
    rcases (show tr = 0 ∨ tr = 1 by omega) with rfl | rfl
    · by_cases hk4 : k = 4
      · subst hk4
        exact ⟨_, _, _, _, _, _, rfl, 4, Qo, Nat.le_refl _, h0⟩
      · have a1 : nI k < 4 := (nI_ltI (a := k) (b := 4) (by omega) (by omega)).mpr (by omega)
        have a2 : ¬ (nI k < 0 ∨ 4 ≤ (nI k).toNatClampNeg) := by
          rw [nI_clamp (by omega)]
          intro z
          rcases z with z | z
          · exact nI_pos (by omega) z
          · omega
        have a3 : ¬ nI k = 4 := fun z => hk4 ((nI_eq (a := k) (b := 4) (by omega) (by omega)).mp z)
        have a4 : nI (k + 1) - 1 = nI k := nI_pred k
        have a5 : nI 0 = (0 : Int32) := rfl
        simp only [Option.bind_some, a1, a2, a3, a5, e1, if_true, if_false, nI_1, a4, out_same, cmp_same]
        refine ⟨_, _, _, _, _, _, rfl, k + 1, un Qo k q, by omega, by omega, rfl, rfl, fun o ho => ?_⟩
        rw [nI_clamp (by omega)]
        by_cases e : o = k
        · subst e
          exact ⟨by rw [upd_at, un_at], by rw [upd_at, un_at], by rw [un_at]; exact hq⟩
        · obtain ⟨b1, b2, b3⟩ := hQ o (by omega)
          exact ⟨by rw [upd_ne e, un_ne e]; exact b1, by rw [upd_ne e, un_ne e]; exact b2, by rw [un_ne e]; exact b3⟩
    · exact ⟨_, _, _, _, _, _, rfl, k, Qo, Nat.le_refl _, h0⟩
  · have w1 : f_C_requireWithin p1 0 64 = some (.error 1) := w1
    have w2 : f_M_in p1 0 64 = some 0 := w2
    rw [w1, w2]
    exact ⟨_, _, _, _, _, _, rfl, k, Qo, Nat.le_refl _, h0⟩
