/-! ONE ROUND OF THE LAW, IN PURE FUNCTIONS (printed by program, genR.py) -/
section ROUND
variable {j k t f e h i x b s mn : Nat} {K S W V WI O L A B P Qo HF HE HO : Nat → Nat} {x4 x5 x6 x7 x9 x10 x11 x12 x16 nF nE bF bE cT cO cD pT pK uO : Int32} {x8 : Int32} {x14 : Int64} {nO nL nA nC nV nU nP bO bL bA bC bV bU bP cK cQ pR pW pU pI uF uE uN oQ oS : Nat → Int32} {pC : Nat → Nat → Int32}
variable {LL : Nat} {xs wK : Nat → Int32}
theorem INV_mono (hI : INV j x4 x5 x6 x7 nF nO nL nA nC nV nU nP nE bF bO bL bA bC bV bU bP bE cT cO cQ cD pT pK pR pW pU pI pC uO uF uE uN oQ oS) : INV (j + 1) x4 x5 x6 x7 nF nO nL nA nC nV nU nP nE bF bO bL bA bC bV bU bP bE cT cO cQ cD pT pK pR pW pU pI pC uO uF uE uN oQ oS := by
  obtain ⟨k, Qo, t, K, S, W, V, WI, O, f, L, A, B, P, e, h, HF, HE, HO, tr, d, mn, i1, i2, i3, i4, i5, i6, i7, hW, hT, hS, hH, hC, hV, hSE, hSV⟩ := hI
  exact ⟨k, Qo, t, K, S, W, V, WI, O, f, L, A, B, P, e, h, HF, HE, HO, tr, d, mn, i1, i2, i3, i4, i5, by omega, i7, hW, hT, hS, hH, hC, hV, hSE, hSV⟩
theorem rA_ok (hLL : LL ≤ 260) (hj : j ≤ 500) (hI : INV j x4 x5 x6 x7 nF nO nL nA nC nV nU nP nE bF bO bL bA bC bV bU bP bE cT cO cQ cD pT pK pR pW pU pI pC uO uF uE uN oQ oS) : ∃ y9 y10 y11 y12, f_rA LL xs x5 (nI j) nF = some (y9, y10, y11, y12) := by
  obtain ⟨k, Qo, t, K, S, W, V, WI, O, f, L, A, B, P, e, h, HF, HE, HO, tr, d, mn, rfl, i2, rfl, rfl, rfl, i6, i7, hW, hT, hS, hH, hC, hV, hSE, hSV⟩ := hI
  have hk := hW.1
  obtain ⟨hf, rfl, -⟩ := hC
  obtain ⟨g, e0⟩ := cell_ok LL hLL xs (j := j) (by omega)
  obtain ⟨r1, -, e1⟩ := low_ok (g >>> (5 &&& 31)) (n := f + 1) (by omega) (by omega)
  obtain ⟨r2, -, e2⟩ := low_ok (g >>> (5 &&& 31)) (n := k + 1) (by omega) (by omega)
  obtain ⟨r3, -, e3⟩ := low_ok g (n := 29) (by omega) (by omega)
  obtain ⟨r4, -, e4⟩ := low_ok (g >>> (10 &&& 31)) (n := 17) (by omega) (by omega)
  obtain ⟨r5, -, e5⟩ := low_ok (g >>> (10 &&& 31)) (n := 16) (by omega) (by omega)
  have e3 : f_low g 29 = some (nI r3) := e3
  have e4 : f_low (g >>> (10 &&& 31)) (16 + 1) = some (nI r4) := e4
  have e5 : f_low (g >>> (10 &&& 31)) (16 + 0) = some (nI r5) := e5
  unfold f_rA
  rw [e0, fileCount_ok]
  simp only [Option.bind_some, nI_1]
  rw [e1, e2, e3]
  simp only [Option.bind_some]
  by_cases z : nI r3 = 0
  · rw [if_pos z, e4]
    exact ⟨_, _, _, _, rfl⟩
  · rw [if_neg z, e5]
    exact ⟨_, _, _, _, rfl⟩
theorem rS_ok (hj : j ≤ 500) (hI : INV j x4 x5 x6 x7 nF nO nL nA nC nV nU nP nE bF bO bL bA bC bV bU bP bE cT cO cQ cD pT pK pR pW pU pI pC uO uF uE uN oQ oS) : ∃ r y14, r < 32 ∧ f_rS x5 x6 x7 (nI j) x9 nF nO nL nC nV nU nP nE cO cD pT pW uO uF uN = some (nI r, y14) ∧ f_state x5 x6 x7 nF nO nL nC nV nU nP nE cO cD pT pW uO uF uN = some y14 := by
  obtain ⟨k, Qo, t, K, S, W, V, WI, O, f, L, A, B, P, e, h, HF, HE, HO, tr, d, mn, rfl, i2, rfl, rfl, rfl, i6, i7, hW, hT, hS, hH, hC, hV, hSE, hSV⟩ := hI
  have hk := hW.1
  have hcO := hW.2.1
  subst hcO
  obtain ⟨v, hv⟩ := state_ok (cD := cD) hk hS hH hC
  obtain ⟨r, hr, er⟩ := and31 x9
  unfold f_rS
  rw [hv]
  simp only [Option.bind_some]
  by_cases z2 : (2 : Int32) ≤ nI j
  · rw [if_pos z2]
    by_cases z4 : (4 : Int32) ≤ nI j
    · rw [if_pos z4, er]
      exact ⟨r, v, hr, rfl, rfl⟩
    · rw [if_neg z4]
      exact ⟨1, v, by omega, rfl, rfl⟩
  · rw [if_neg z2]
    exact ⟨0, v, by omega, rfl, rfl⟩
theorem rB_op0 {r : Nat} (hr32 : r < 32) (hr : r = 0) (hj : j ≤ 500) (hI : INV j x4 x5 x6 x7 nF nO nL nA nC nV nU nP nE bF bO bL bA bC bV bU bP bE cT cO cQ cD pT pK pR pW pU pI pC uO uF uE uN oQ oS) : ∃ y4 y5 y6 y7 y16 nF' nO' nL' nA' nC' nV' nU' nP' nE' bF' bO' bL' bA' bC' bV' bU' bP' bE' cT' cK' cO' cQ' cD' pT' pK' pR' pW' pU' pI' pC' uO' uF' uE' uN' oQ' oS', f_rB x4 x5 x6 x7 x8 x9 x10 x11 x12 (nI r) x14 0 nF nO nL nA nC nV nU nP nE bF bO bL bA bC bV bU bP bE cT cK cO cQ cD pT pK pR pW pU pI pC uO uF uE uN oQ oS = some (y4, y5, y6, y7, y16, nF', nO', nL', nA', nC', nV', nU', nP', nE', bF', bO', bL', bA', bC', bV', bU', bP', bE', cT', cK', cO', cQ', cD', pT', pK', pR', pW', pU', pI', pC', uO', uF', uE', uN', oQ', oS') ∧ INV (j + 1) y4 y5 y6 y7 nF' nO' nL' nA' nC' nV' nU' nP' nE' bF' bO' bL' bA' bC' bV' bU' bP' bE' cT' cO' cQ' cD' pT' pK' pR' pW' pU' pI' pC' uO' uF' uE' uN' oQ' oS' ∧ (y16 < 0 → (y5, y6, y7, nF', nO', nL', nC', nV', nU', nP', nE', cO', cD', pT', pW', uO', uF', uN') = (x5, x6, x7, nF, nO, nL, nC, nV, nU, nP, nE, cO, cD, pT, pW, uO, uF, uN)) := by
  obtain ⟨a4, a5, a6, a7, a16, acO, acQ, aoQ, he, h⟩ := op0_ok (x9 := x9) hI
  unfold f_rB
  rw [if_pos (show nI r = (0 : Int32) from by rw [hr]; rfl), he]
  simp only [Option.bind_some]
  rcases h with ⟨hneg, heq⟩ | ⟨hpos, hI2⟩
  · simp only [Prod.mk.injEq] at heq
    obtain ⟨rfl, rfl, rfl, rfl, rfl, rfl, rfl⟩ := heq
    exact ⟨_, _, _, _, _, _, _, _, _, _, _, _, _, _, _, _, _, _, _, _, _, _, _, _, _, _, _, _, _, _, _, _, _, _, _, _, _, _, _, _, _, rfl, INV_mono hI, fun _ => rfl⟩
  · exact ⟨_, _, _, _, _, _, _, _, _, _, _, _, _, _, _, _, _, _, _, _, _, _, _, _, _, _, _, _, _, _, _, _, _, _, _, _, _, _, _, _, _, rfl, hI2, fun w => absurd w hpos⟩
theorem rB_op1 {r : Nat} (hr32 : r < 32) (hr : 1 ≤ r ∧ r < 4) (hj : j ≤ 500) (hI : INV j x4 x5 x6 x7 nF nO nL nA nC nV nU nP nE bF bO bL bA bC bV bU bP bE cT cO cQ cD pT pK pR pW pU pI pC uO uF uE uN oQ oS) : ∃ y4 y5 y6 y7 y16 nF' nO' nL' nA' nC' nV' nU' nP' nE' bF' bO' bL' bA' bC' bV' bU' bP' bE' cT' cK' cO' cQ' cD' pT' pK' pR' pW' pU' pI' pC' uO' uF' uE' uN' oQ' oS', f_rB x4 x5 x6 x7 x8 x9 x10 x11 x12 (nI r) x14 0 nF nO nL nA nC nV nU nP nE bF bO bL bA bC bV bU bP bE cT cK cO cQ cD pT pK pR pW pU pI pC uO uF uE uN oQ oS = some (y4, y5, y6, y7, y16, nF', nO', nL', nA', nC', nV', nU', nP', nE', bF', bO', bL', bA', bC', bV', bU', bP', bE', cT', cK', cO', cQ', cD', pT', pK', pR', pW', pU', pI', pC', uO', uF', uE', uN', oQ', oS') ∧ INV (j + 1) y4 y5 y6 y7 nF' nO' nL' nA' nC' nV' nU' nP' nE' bF' bO' bL' bA' bC' bV' bU' bP' bE' cT' cO' cQ' cD' pT' pK' pR' pW' pU' pI' pC' uO' uF' uE' uN' oQ' oS' ∧ (y16 < 0 → (y5, y6, y7, nF', nO', nL', nC', nV', nU', nP', nE', cO', cD', pT', pW', uO', uF', uN') = (x5, x6, x7, nF, nO, nL, nC, nV, nU, nP, nE, cO, cD, pT, pW, uO, uF, uN)) := by
  obtain ⟨a4, a5, a6, a7, a16, anF, anO, anL, anA, anE, acK, he, h⟩ := op1_ok (x11 := x11) (cK := cK) hj hI
  unfold f_rB
  rw [if_neg (show ¬ nI r = (0 : Int32) from fun z => absurd ((nI_eq (a := r) (b := 0) (by omega) (by omega)).mp z) (by omega)), if_neg (show ¬ (4 : Int32) ≤ nI r from fun z => absurd ((nI_leI (a := 4) (b := r) (by omega) (by omega)).mp z) (by omega)), he]
  simp only [Option.bind_some]
  rcases h with ⟨hneg, heq⟩ | ⟨hpos, hI2⟩
  · simp only [Prod.mk.injEq] at heq
    obtain ⟨rfl, rfl, rfl, rfl, rfl, rfl, rfl, rfl, rfl⟩ := heq
    exact ⟨_, _, _, _, _, _, _, _, _, _, _, _, _, _, _, _, _, _, _, _, _, _, _, _, _, _, _, _, _, _, _, _, _, _, _, _, _, _, _, _, _, rfl, INV_mono hI, fun _ => rfl⟩
  · exact ⟨_, _, _, _, _, _, _, _, _, _, _, _, _, _, _, _, _, _, _, _, _, _, _, _, _, _, _, _, _, _, _, _, _, _, _, _, _, _, _, _, _, rfl, hI2, fun w => absurd w hpos⟩
theorem rB_op6 {r : Nat} (hr32 : r < 32) (hr : 4 ≤ r ∧ r < 13) (hj : j ≤ 500) (hI : INV j x4 x5 x6 x7 nF nO nL nA nC nV nU nP nE bF bO bL bA bC bV bU bP bE cT cO cQ cD pT pK pR pW pU pI pC uO uF uE uN oQ oS) : ∃ y4 y5 y6 y7 y16 nF' nO' nL' nA' nC' nV' nU' nP' nE' bF' bO' bL' bA' bC' bV' bU' bP' bE' cT' cK' cO' cQ' cD' pT' pK' pR' pW' pU' pI' pC' uO' uF' uE' uN' oQ' oS', f_rB x4 x5 x6 x7 x8 x9 x10 x11 x12 (nI r) x14 0 nF nO nL nA nC nV nU nP nE bF bO bL bA bC bV bU bP bE cT cK cO cQ cD pT pK pR pW pU pI pC uO uF uE uN oQ oS = some (y4, y5, y6, y7, y16, nF', nO', nL', nA', nC', nV', nU', nP', nE', bF', bO', bL', bA', bC', bV', bU', bP', bE', cT', cK', cO', cQ', cD', pT', pK', pR', pW', pU', pI', pC', uO', uF', uE', uN', oQ', oS') ∧ INV (j + 1) y4 y5 y6 y7 nF' nO' nL' nA' nC' nV' nU' nP' nE' bF' bO' bL' bA' bC' bV' bU' bP' bE' cT' cO' cQ' cD' pT' pK' pR' pW' pU' pI' pC' uO' uF' uE' uN' oQ' oS' ∧ (y16 < 0 → (y5, y6, y7, nF', nO', nL', nC', nV', nU', nP', nE', cO', cD', pT', pW', uO', uF', uN') = (x5, x6, x7, nF, nO, nL, nC, nV, nU, nP, nE, cO, cD, pT, pW, uO, uF, uN)) := by
  obtain ⟨a4, a5, a6, a7, a16, anC, anV, anU, anP, anE, acK, he, h⟩ := op6_ok (x9 := x9) (x10 := x10) (x12 := x12) (cK := cK) hj hI
  unfold f_rB
  rw [if_neg (show ¬ nI r = (0 : Int32) from fun z => absurd ((nI_eq (a := r) (b := 0) (by omega) (by omega)).mp z) (by omega)), if_pos (show (4 : Int32) ≤ nI r from (nI_leI (a := 4) (b := r) (by omega) (by omega)).mpr (by omega)), if_neg (show ¬ (13 : Int32) ≤ nI r from fun z => absurd ((nI_leI (a := 13) (b := r) (by omega) (by omega)).mp z) (by omega)), he]
  simp only [Option.bind_some]
  rcases h with ⟨hneg, heq⟩ | ⟨hpos, hI2⟩
  · simp only [Prod.mk.injEq] at heq
    obtain ⟨rfl, rfl, rfl, rfl, rfl, rfl, rfl, rfl, rfl⟩ := heq
    exact ⟨_, _, _, _, _, _, _, _, _, _, _, _, _, _, _, _, _, _, _, _, _, _, _, _, _, _, _, _, _, _, _, _, _, _, _, _, _, _, _, _, _, rfl, INV_mono hI, fun _ => rfl⟩
  · exact ⟨_, _, _, _, _, _, _, _, _, _, _, _, _, _, _, _, _, _, _, _, _, _, _, _, _, _, _, _, _, _, _, _, _, _, _, _, _, _, _, _, _, rfl, hI2, fun w => absurd w hpos⟩
theorem rB_op7 {r : Nat} (hr32 : r < 32) (hr : r = 13) (hj : j ≤ 500) (hI : INV j x4 x5 x6 x7 nF nO nL nA nC nV nU nP nE bF bO bL bA bC bV bU bP bE cT cO cQ cD pT pK pR pW pU pI pC uO uF uE uN oQ oS) : ∃ y4 y5 y6 y7 y16 nF' nO' nL' nA' nC' nV' nU' nP' nE' bF' bO' bL' bA' bC' bV' bU' bP' bE' cT' cK' cO' cQ' cD' pT' pK' pR' pW' pU' pI' pC' uO' uF' uE' uN' oQ' oS', f_rB x4 x5 x6 x7 x8 x9 x10 x11 x12 (nI r) x14 0 nF nO nL nA nC nV nU nP nE bF bO bL bA bC bV bU bP bE cT cK cO cQ cD pT pK pR pW pU pI pC uO uF uE uN oQ oS = some (y4, y5, y6, y7, y16, nF', nO', nL', nA', nC', nV', nU', nP', nE', bF', bO', bL', bA', bC', bV', bU', bP', bE', cT', cK', cO', cQ', cD', pT', pK', pR', pW', pU', pI', pC', uO', uF', uE', uN', oQ', oS') ∧ INV (j + 1) y4 y5 y6 y7 nF' nO' nL' nA' nC' nV' nU' nP' nE' bF' bO' bL' bA' bC' bV' bU' bP' bE' cT' cO' cQ' cD' pT' pK' pR' pW' pU' pI' pC' uO' uF' uE' uN' oQ' oS' ∧ (y16 < 0 → (y5, y6, y7, nF', nO', nL', nC', nV', nU', nP', nE', cO', cD', pT', pW', uO', uF', uN') = (x5, x6, x7, nF, nO, nL, nC, nV, nU, nP, nE, cO, cD, pT, pW, uO, uF, uN)) := by
  obtain ⟨a4, a5, a6, a7, a16, anC, anU, anE, acK, he, h⟩ := op7_ok (x10 := x10) (x12 := x12) (cK := cK) hj hI
  unfold f_rB
  rw [if_neg (show ¬ nI r = (0 : Int32) from fun z => absurd ((nI_eq (a := r) (b := 0) (by omega) (by omega)).mp z) (by omega)), if_pos (show (4 : Int32) ≤ nI r from (nI_leI (a := 4) (b := r) (by omega) (by omega)).mpr (by omega)), if_pos (show (13 : Int32) ≤ nI r from (nI_leI (a := 13) (b := r) (by omega) (by omega)).mpr (by omega)), if_pos (show nI r = (13 : Int32) from by rw [hr]; rfl), he]
  simp only [Option.bind_some]
  rcases h with ⟨hneg, heq⟩ | ⟨hpos, hI2⟩
  · simp only [Prod.mk.injEq] at heq
    obtain ⟨rfl, rfl, rfl, rfl, rfl, rfl, rfl⟩ := heq
    exact ⟨_, _, _, _, _, _, _, _, _, _, _, _, _, _, _, _, _, _, _, _, _, _, _, _, _, _, _, _, _, _, _, _, _, _, _, _, _, _, _, _, _, rfl, INV_mono hI, fun _ => rfl⟩
  · exact ⟨_, _, _, _, _, _, _, _, _, _, _, _, _, _, _, _, _, _, _, _, _, _, _, _, _, _, _, _, _, _, _, _, _, _, _, _, _, _, _, _, _, rfl, hI2, fun w => absurd w hpos⟩
theorem rB_op4 {r : Nat} (hr32 : r < 32) (hr : r = 14) (hj : j ≤ 500) (hI : INV j x4 x5 x6 x7 nF nO nL nA nC nV nU nP nE bF bO bL bA bC bV bU bP bE cT cO cQ cD pT pK pR pW pU pI pC uO uF uE uN oQ oS) : ∃ y4 y5 y6 y7 y16 nF' nO' nL' nA' nC' nV' nU' nP' nE' bF' bO' bL' bA' bC' bV' bU' bP' bE' cT' cK' cO' cQ' cD' pT' pK' pR' pW' pU' pI' pC' uO' uF' uE' uN' oQ' oS', f_rB x4 x5 x6 x7 x8 x9 x10 x11 x12 (nI r) x14 0 nF nO nL nA nC nV nU nP nE bF bO bL bA bC bV bU bP bE cT cK cO cQ cD pT pK pR pW pU pI pC uO uF uE uN oQ oS = some (y4, y5, y6, y7, y16, nF', nO', nL', nA', nC', nV', nU', nP', nE', bF', bO', bL', bA', bC', bV', bU', bP', bE', cT', cK', cO', cQ', cD', pT', pK', pR', pW', pU', pI', pC', uO', uF', uE', uN', oQ', oS') ∧ INV (j + 1) y4 y5 y6 y7 nF' nO' nL' nA' nC' nV' nU' nP' nE' bF' bO' bL' bA' bC' bV' bU' bP' bE' cT' cO' cQ' cD' pT' pK' pR' pW' pU' pI' pC' uO' uF' uE' uN' oQ' oS' ∧ (y16 < 0 → (y5, y6, y7, nF', nO', nL', nC', nV', nU', nP', nE', cO', cD', pT', pW', uO', uF', uN') = (x5, x6, x7, nF, nO, nL, nC, nV, nU, nP, nE, cO, cD, pT, pW, uO, uF, uN)) := by
  obtain ⟨a4, a5, a6, a7, a16, anL, anE, acK, he, h⟩ := op4_ok (x10 := x10) (cK := cK) hj hI
  unfold f_rB
  rw [if_neg (show ¬ nI r = (0 : Int32) from fun z => absurd ((nI_eq (a := r) (b := 0) (by omega) (by omega)).mp z) (by omega)), if_pos (show (4 : Int32) ≤ nI r from (nI_leI (a := 4) (b := r) (by omega) (by omega)).mpr (by omega)), if_pos (show (13 : Int32) ≤ nI r from (nI_leI (a := 13) (b := r) (by omega) (by omega)).mpr (by omega)), if_neg (show ¬ nI r = (13 : Int32) from fun z => absurd ((nI_eq (a := r) (b := 13) (by omega) (by omega)).mp z) (by omega)), if_pos (show nI r = (14 : Int32) from by rw [hr]; rfl), he]
  simp only [Option.bind_some]
  rcases h with ⟨hneg, heq⟩ | ⟨hpos, hI2⟩
  · simp only [Prod.mk.injEq] at heq
    obtain ⟨rfl, rfl, rfl, rfl, rfl, rfl⟩ := heq
    exact ⟨_, _, _, _, _, _, _, _, _, _, _, _, _, _, _, _, _, _, _, _, _, _, _, _, _, _, _, _, _, _, _, _, _, _, _, _, _, _, _, _, _, rfl, INV_mono hI, fun _ => rfl⟩
  · exact ⟨_, _, _, _, _, _, _, _, _, _, _, _, _, _, _, _, _, _, _, _, _, _, _, _, _, _, _, _, _, _, _, _, _, _, _, _, _, _, _, _, _, rfl, hI2, fun w => absurd w hpos⟩
theorem rB_op5 {r : Nat} (hr32 : r < 32) (hr : 15 ≤ r ∧ r < 17) (hj : j ≤ 500) (hI : INV j x4 x5 x6 x7 nF nO nL nA nC nV nU nP nE bF bO bL bA bC bV bU bP bE cT cO cQ cD pT pK pR pW pU pI pC uO uF uE uN oQ oS) : ∃ y4 y5 y6 y7 y16 nF' nO' nL' nA' nC' nV' nU' nP' nE' bF' bO' bL' bA' bC' bV' bU' bP' bE' cT' cK' cO' cQ' cD' pT' pK' pR' pW' pU' pI' pC' uO' uF' uE' uN' oQ' oS', f_rB x4 x5 x6 x7 x8 x9 x10 x11 x12 (nI r) x14 0 nF nO nL nA nC nV nU nP nE bF bO bL bA bC bV bU bP bE cT cK cO cQ cD pT pK pR pW pU pI pC uO uF uE uN oQ oS = some (y4, y5, y6, y7, y16, nF', nO', nL', nA', nC', nV', nU', nP', nE', bF', bO', bL', bA', bC', bV', bU', bP', bE', cT', cK', cO', cQ', cD', pT', pK', pR', pW', pU', pI', pC', uO', uF', uE', uN', oQ', oS') ∧ INV (j + 1) y4 y5 y6 y7 nF' nO' nL' nA' nC' nV' nU' nP' nE' bF' bO' bL' bA' bC' bV' bU' bP' bE' cT' cO' cQ' cD' pT' pK' pR' pW' pU' pI' pC' uO' uF' uE' uN' oQ' oS' ∧ (y16 < 0 → (y5, y6, y7, nF', nO', nL', nC', nV', nU', nP', nE', cO', cD', pT', pW', uO', uF', uN') = (x5, x6, x7, nF, nO, nL, nC, nV, nU, nP, nE, cO, cD, pT, pW, uO, uF, uN)) := by
  obtain ⟨a4, a5, a6, a7, a16, anL, anA, anC, anU, anE, acK, he, h⟩ := op5_ok (x10 := x10) (cK := cK) hj hI
  unfold f_rB
  rw [if_neg (show ¬ nI r = (0 : Int32) from fun z => absurd ((nI_eq (a := r) (b := 0) (by omega) (by omega)).mp z) (by omega)), if_pos (show (4 : Int32) ≤ nI r from (nI_leI (a := 4) (b := r) (by omega) (by omega)).mpr (by omega)), if_pos (show (13 : Int32) ≤ nI r from (nI_leI (a := 13) (b := r) (by omega) (by omega)).mpr (by omega)), if_neg (show ¬ nI r = (13 : Int32) from fun z => absurd ((nI_eq (a := r) (b := 13) (by omega) (by omega)).mp z) (by omega)), if_neg (show ¬ nI r = (14 : Int32) from fun z => absurd ((nI_eq (a := r) (b := 14) (by omega) (by omega)).mp z) (by omega)), if_neg (show ¬ (17 : Int32) ≤ nI r from fun z => absurd ((nI_leI (a := 17) (b := r) (by omega) (by omega)).mp z) (by omega)), he]
  simp only [Option.bind_some]
  rcases h with ⟨hneg, heq⟩ | ⟨hpos, hI2⟩
  · simp only [Prod.mk.injEq] at heq
    obtain ⟨rfl, rfl, rfl, rfl, rfl, rfl, rfl, rfl, rfl⟩ := heq
    exact ⟨_, _, _, _, _, _, _, _, _, _, _, _, _, _, _, _, _, _, _, _, _, _, _, _, _, _, _, _, _, _, _, _, _, _, _, _, _, _, _, _, _, rfl, INV_mono hI, fun _ => rfl⟩
  · exact ⟨_, _, _, _, _, _, _, _, _, _, _, _, _, _, _, _, _, _, _, _, _, _, _, _, _, _, _, _, _, _, _, _, _, _, _, _, _, _, _, _, _, rfl, hI2, fun w => absurd w hpos⟩
theorem rB_op14 {r : Nat} (hr32 : r < 32) (hr : r = 17) (hj : j ≤ 500) (hI : INV j x4 x5 x6 x7 nF nO nL nA nC nV nU nP nE bF bO bL bA bC bV bU bP bE cT cO cQ cD pT pK pR pW pU pI pC uO uF uE uN oQ oS) : ∃ y4 y5 y6 y7 y16 nF' nO' nL' nA' nC' nV' nU' nP' nE' bF' bO' bL' bA' bC' bV' bU' bP' bE' cT' cK' cO' cQ' cD' pT' pK' pR' pW' pU' pI' pC' uO' uF' uE' uN' oQ' oS', f_rB x4 x5 x6 x7 x8 x9 x10 x11 x12 (nI r) x14 0 nF nO nL nA nC nV nU nP nE bF bO bL bA bC bV bU bP bE cT cK cO cQ cD pT pK pR pW pU pI pC uO uF uE uN oQ oS = some (y4, y5, y6, y7, y16, nF', nO', nL', nA', nC', nV', nU', nP', nE', bF', bO', bL', bA', bC', bV', bU', bP', bE', cT', cK', cO', cQ', cD', pT', pK', pR', pW', pU', pI', pC', uO', uF', uE', uN', oQ', oS') ∧ INV (j + 1) y4 y5 y6 y7 nF' nO' nL' nA' nC' nV' nU' nP' nE' bF' bO' bL' bA' bC' bV' bU' bP' bE' cT' cO' cQ' cD' pT' pK' pR' pW' pU' pI' pC' uO' uF' uE' uN' oQ' oS' ∧ (y16 < 0 → (y5, y6, y7, nF', nO', nL', nC', nV', nU', nP', nE', cO', cD', pT', pW', uO', uF', uN') = (x5, x6, x7, nF, nO, nL, nC, nV, nU, nP, nE, cO, cD, pT, pW, uO, uF, uN)) := by
  obtain ⟨a4, a5, a6, a7, a16, anP, anE, acK, he, h⟩ := op14_ok (x9 := x9) (x11 := x11) (cK := cK) hj hI
  unfold f_rB
  rw [if_neg (show ¬ nI r = (0 : Int32) from fun z => absurd ((nI_eq (a := r) (b := 0) (by omega) (by omega)).mp z) (by omega)), if_pos (show (4 : Int32) ≤ nI r from (nI_leI (a := 4) (b := r) (by omega) (by omega)).mpr (by omega)), if_pos (show (13 : Int32) ≤ nI r from (nI_leI (a := 13) (b := r) (by omega) (by omega)).mpr (by omega)), if_neg (show ¬ nI r = (13 : Int32) from fun z => absurd ((nI_eq (a := r) (b := 13) (by omega) (by omega)).mp z) (by omega)), if_neg (show ¬ nI r = (14 : Int32) from fun z => absurd ((nI_eq (a := r) (b := 14) (by omega) (by omega)).mp z) (by omega)), if_pos (show (17 : Int32) ≤ nI r from (nI_leI (a := 17) (b := r) (by omega) (by omega)).mpr (by omega)), if_pos (show nI r = (17 : Int32) from by rw [hr]; rfl), he]
  simp only [Option.bind_some]
  rcases h with ⟨hneg, heq⟩ | ⟨hpos, hI2⟩
  · simp only [Prod.mk.injEq] at heq
    obtain ⟨rfl, rfl, rfl, rfl, rfl, rfl⟩ := heq
    exact ⟨_, _, _, _, _, _, _, _, _, _, _, _, _, _, _, _, _, _, _, _, _, _, _, _, _, _, _, _, _, _, _, _, _, _, _, _, _, _, _, _, _, rfl, INV_mono hI, fun _ => rfl⟩
  · exact ⟨_, _, _, _, _, _, _, _, _, _, _, _, _, _, _, _, _, _, _, _, _, _, _, _, _, _, _, _, _, _, _, _, _, _, _, _, _, _, _, _, _, rfl, hI2, fun w => absurd w hpos⟩
theorem rB_op16 {r : Nat} (hr32 : r < 32) (hr : r = 18) (hj : j ≤ 500) (hI : INV j x4 x5 x6 x7 nF nO nL nA nC nV nU nP nE bF bO bL bA bC bV bU bP bE cT cO cQ cD pT pK pR pW pU pI pC uO uF uE uN oQ oS) : ∃ y4 y5 y6 y7 y16 nF' nO' nL' nA' nC' nV' nU' nP' nE' bF' bO' bL' bA' bC' bV' bU' bP' bE' cT' cK' cO' cQ' cD' pT' pK' pR' pW' pU' pI' pC' uO' uF' uE' uN' oQ' oS', f_rB x4 x5 x6 x7 x8 x9 x10 x11 x12 (nI r) x14 0 nF nO nL nA nC nV nU nP nE bF bO bL bA bC bV bU bP bE cT cK cO cQ cD pT pK pR pW pU pI pC uO uF uE uN oQ oS = some (y4, y5, y6, y7, y16, nF', nO', nL', nA', nC', nV', nU', nP', nE', bF', bO', bL', bA', bC', bV', bU', bP', bE', cT', cK', cO', cQ', cD', pT', pK', pR', pW', pU', pI', pC', uO', uF', uE', uN', oQ', oS') ∧ INV (j + 1) y4 y5 y6 y7 nF' nO' nL' nA' nC' nV' nU' nP' nE' bF' bO' bL' bA' bC' bV' bU' bP' bE' cT' cO' cQ' cD' pT' pK' pR' pW' pU' pI' pC' uO' uF' uE' uN' oQ' oS' ∧ (y16 < 0 → (y5, y6, y7, nF', nO', nL', nC', nV', nU', nP', nE', cO', cD', pT', pW', uO', uF', uN') = (x5, x6, x7, nF, nO, nL, nC, nV, nU, nP, nE, cO, cD, pT, pW, uO, uF, uN)) := by
  obtain ⟨a4, a5, a6, a7, a16, anP, anE, acK, he, h⟩ := op16_ok (x11 := x11) (cK := cK) hj hI
  unfold f_rB
  rw [if_neg (show ¬ nI r = (0 : Int32) from fun z => absurd ((nI_eq (a := r) (b := 0) (by omega) (by omega)).mp z) (by omega)), if_pos (show (4 : Int32) ≤ nI r from (nI_leI (a := 4) (b := r) (by omega) (by omega)).mpr (by omega)), if_pos (show (13 : Int32) ≤ nI r from (nI_leI (a := 13) (b := r) (by omega) (by omega)).mpr (by omega)), if_neg (show ¬ nI r = (13 : Int32) from fun z => absurd ((nI_eq (a := r) (b := 13) (by omega) (by omega)).mp z) (by omega)), if_neg (show ¬ nI r = (14 : Int32) from fun z => absurd ((nI_eq (a := r) (b := 14) (by omega) (by omega)).mp z) (by omega)), if_pos (show (17 : Int32) ≤ nI r from (nI_leI (a := 17) (b := r) (by omega) (by omega)).mpr (by omega)), if_neg (show ¬ nI r = (17 : Int32) from fun z => absurd ((nI_eq (a := r) (b := 17) (by omega) (by omega)).mp z) (by omega)), if_pos (show nI r = (18 : Int32) from by rw [hr]; rfl), he]
  simp only [Option.bind_some]
  rcases h with ⟨hneg, heq⟩ | ⟨hpos, hI2⟩
  · simp only [Prod.mk.injEq] at heq
    obtain ⟨rfl, rfl, rfl, rfl, rfl, rfl⟩ := heq
    exact ⟨_, _, _, _, _, _, _, _, _, _, _, _, _, _, _, _, _, _, _, _, _, _, _, _, _, _, _, _, _, _, _, _, _, _, _, _, _, _, _, _, _, rfl, INV_mono hI, fun _ => rfl⟩
  · exact ⟨_, _, _, _, _, _, _, _, _, _, _, _, _, _, _, _, _, _, _, _, _, _, _, _, _, _, _, _, _, _, _, _, _, _, _, _, _, _, _, _, _, rfl, hI2, fun w => absurd w hpos⟩
theorem rB_op17 {r : Nat} (hr32 : r < 32) (hr : 19 ≤ r ∧ r < 22) (hj : j ≤ 500) (hI : INV j x4 x5 x6 x7 nF nO nL nA nC nV nU nP nE bF bO bL bA bC bV bU bP bE cT cO cQ cD pT pK pR pW pU pI pC uO uF uE uN oQ oS) : ∃ y4 y5 y6 y7 y16 nF' nO' nL' nA' nC' nV' nU' nP' nE' bF' bO' bL' bA' bC' bV' bU' bP' bE' cT' cK' cO' cQ' cD' pT' pK' pR' pW' pU' pI' pC' uO' uF' uE' uN' oQ' oS', f_rB x4 x5 x6 x7 x8 x9 x10 x11 x12 (nI r) x14 0 nF nO nL nA nC nV nU nP nE bF bO bL bA bC bV bU bP bE cT cK cO cQ cD pT pK pR pW pU pI pC uO uF uE uN oQ oS = some (y4, y5, y6, y7, y16, nF', nO', nL', nA', nC', nV', nU', nP', nE', bF', bO', bL', bA', bC', bV', bU', bP', bE', cT', cK', cO', cQ', cD', pT', pK', pR', pW', pU', pI', pC', uO', uF', uE', uN', oQ', oS') ∧ INV (j + 1) y4 y5 y6 y7 nF' nO' nL' nA' nC' nV' nU' nP' nE' bF' bO' bL' bA' bC' bV' bU' bP' bE' cT' cO' cQ' cD' pT' pK' pR' pW' pU' pI' pC' uO' uF' uE' uN' oQ' oS' ∧ (y16 < 0 → (y5, y6, y7, nF', nO', nL', nC', nV', nU', nP', nE', cO', cD', pT', pW', uO', uF', uN') = (x5, x6, x7, nF, nO, nL, nC, nV, nU, nP, nE, cO, cD, pT, pW, uO, uF, uN)) := by
  obtain ⟨a4, a5, a6, a7, a16, anU, apT, apK, apR, apW, apU, apI, apC, aoS, he, h⟩ := op17_ok (x8 := x8) (x9 := x9) (x14 := x14) hI
  unfold f_rB
  rw [if_neg (show ¬ nI r = (0 : Int32) from fun z => absurd ((nI_eq (a := r) (b := 0) (by omega) (by omega)).mp z) (by omega)), if_pos (show (4 : Int32) ≤ nI r from (nI_leI (a := 4) (b := r) (by omega) (by omega)).mpr (by omega)), if_pos (show (13 : Int32) ≤ nI r from (nI_leI (a := 13) (b := r) (by omega) (by omega)).mpr (by omega)), if_neg (show ¬ nI r = (13 : Int32) from fun z => absurd ((nI_eq (a := r) (b := 13) (by omega) (by omega)).mp z) (by omega)), if_neg (show ¬ nI r = (14 : Int32) from fun z => absurd ((nI_eq (a := r) (b := 14) (by omega) (by omega)).mp z) (by omega)), if_pos (show (17 : Int32) ≤ nI r from (nI_leI (a := 17) (b := r) (by omega) (by omega)).mpr (by omega)), if_neg (show ¬ nI r = (17 : Int32) from fun z => absurd ((nI_eq (a := r) (b := 17) (by omega) (by omega)).mp z) (by omega)), if_neg (show ¬ nI r = (18 : Int32) from fun z => absurd ((nI_eq (a := r) (b := 18) (by omega) (by omega)).mp z) (by omega)), if_neg (show ¬ (22 : Int32) ≤ nI r from fun z => absurd ((nI_leI (a := 22) (b := r) (by omega) (by omega)).mp z) (by omega)), he]
  simp only [Option.bind_some]
  rcases h with ⟨hneg, heq⟩ | ⟨hpos, hI2⟩
  · simp only [Prod.mk.injEq] at heq
    obtain ⟨rfl, rfl, rfl, rfl, rfl, rfl, rfl, rfl, rfl, rfl, rfl, rfl, rfl⟩ := heq
    exact ⟨_, _, _, _, _, _, _, _, _, _, _, _, _, _, _, _, _, _, _, _, _, _, _, _, _, _, _, _, _, _, _, _, _, _, _, _, _, _, _, _, _, rfl, INV_mono hI, fun _ => rfl⟩
  · exact ⟨_, _, _, _, _, _, _, _, _, _, _, _, _, _, _, _, _, _, _, _, _, _, _, _, _, _, _, _, _, _, _, _, _, _, _, _, _, _, _, _, _, rfl, hI2, fun w => absurd w hpos⟩
theorem rB_op20 {r : Nat} (hr32 : r < 32) (hr : r = 22) (hj : j ≤ 500) (hI : INV j x4 x5 x6 x7 nF nO nL nA nC nV nU nP nE bF bO bL bA bC bV bU bP bE cT cO cQ cD pT pK pR pW pU pI pC uO uF uE uN oQ oS) : ∃ y4 y5 y6 y7 y16 nF' nO' nL' nA' nC' nV' nU' nP' nE' bF' bO' bL' bA' bC' bV' bU' bP' bE' cT' cK' cO' cQ' cD' pT' pK' pR' pW' pU' pI' pC' uO' uF' uE' uN' oQ' oS', f_rB x4 x5 x6 x7 x8 x9 x10 x11 x12 (nI r) x14 0 nF nO nL nA nC nV nU nP nE bF bO bL bA bC bV bU bP bE cT cK cO cQ cD pT pK pR pW pU pI pC uO uF uE uN oQ oS = some (y4, y5, y6, y7, y16, nF', nO', nL', nA', nC', nV', nU', nP', nE', bF', bO', bL', bA', bC', bV', bU', bP', bE', cT', cK', cO', cQ', cD', pT', pK', pR', pW', pU', pI', pC', uO', uF', uE', uN', oQ', oS') ∧ INV (j + 1) y4 y5 y6 y7 nF' nO' nL' nA' nC' nV' nU' nP' nE' bF' bO' bL' bA' bC' bV' bU' bP' bE' cT' cO' cQ' cD' pT' pK' pR' pW' pU' pI' pC' uO' uF' uE' uN' oQ' oS' ∧ (y16 < 0 → (y5, y6, y7, nF', nO', nL', nC', nV', nU', nP', nE', cO', cD', pT', pW', uO', uF', uN') = (x5, x6, x7, nF, nO, nL, nC, nV, nU, nP, nE, cO, cD, pT, pW, uO, uF, uN)) := by
  obtain ⟨a4, a5, a6, a7, a16, anU, apK, apW, apU, he, h⟩ := op20_ok (x9 := x9) hI
  unfold f_rB
  rw [if_neg (show ¬ nI r = (0 : Int32) from fun z => absurd ((nI_eq (a := r) (b := 0) (by omega) (by omega)).mp z) (by omega)), if_pos (show (4 : Int32) ≤ nI r from (nI_leI (a := 4) (b := r) (by omega) (by omega)).mpr (by omega)), if_pos (show (13 : Int32) ≤ nI r from (nI_leI (a := 13) (b := r) (by omega) (by omega)).mpr (by omega)), if_neg (show ¬ nI r = (13 : Int32) from fun z => absurd ((nI_eq (a := r) (b := 13) (by omega) (by omega)).mp z) (by omega)), if_neg (show ¬ nI r = (14 : Int32) from fun z => absurd ((nI_eq (a := r) (b := 14) (by omega) (by omega)).mp z) (by omega)), if_pos (show (17 : Int32) ≤ nI r from (nI_leI (a := 17) (b := r) (by omega) (by omega)).mpr (by omega)), if_neg (show ¬ nI r = (17 : Int32) from fun z => absurd ((nI_eq (a := r) (b := 17) (by omega) (by omega)).mp z) (by omega)), if_neg (show ¬ nI r = (18 : Int32) from fun z => absurd ((nI_eq (a := r) (b := 18) (by omega) (by omega)).mp z) (by omega)), if_pos (show (22 : Int32) ≤ nI r from (nI_leI (a := 22) (b := r) (by omega) (by omega)).mpr (by omega)), if_pos (show nI r = (22 : Int32) from by rw [hr]; rfl), he]
  simp only [Option.bind_some]
  rcases h with ⟨hneg, heq⟩ | ⟨hpos, hI2⟩
  · simp only [Prod.mk.injEq] at heq
    obtain ⟨rfl, rfl, rfl, rfl, rfl, rfl, rfl, rfl⟩ := heq
    exact ⟨_, _, _, _, _, _, _, _, _, _, _, _, _, _, _, _, _, _, _, _, _, _, _, _, _, _, _, _, _, _, _, _, _, _, _, _, _, _, _, _, _, rfl, INV_mono hI, fun _ => rfl⟩
  · exact ⟨_, _, _, _, _, _, _, _, _, _, _, _, _, _, _, _, _, _, _, _, _, _, _, _, _, _, _, _, _, _, _, _, _, _, _, _, _, _, _, _, _, rfl, hI2, fun w => absurd w hpos⟩
theorem rB_op22 {r : Nat} (hr32 : r < 32) (hr : 23 ≤ r ∧ r < 25) (hj : j ≤ 500) (hI : INV j x4 x5 x6 x7 nF nO nL nA nC nV nU nP nE bF bO bL bA bC bV bU bP bE cT cO cQ cD pT pK pR pW pU pI pC uO uF uE uN oQ oS) : ∃ y4 y5 y6 y7 y16 nF' nO' nL' nA' nC' nV' nU' nP' nE' bF' bO' bL' bA' bC' bV' bU' bP' bE' cT' cK' cO' cQ' cD' pT' pK' pR' pW' pU' pI' pC' uO' uF' uE' uN' oQ' oS', f_rB x4 x5 x6 x7 x8 x9 x10 x11 x12 (nI r) x14 0 nF nO nL nA nC nV nU nP nE bF bO bL bA bC bV bU bP bE cT cK cO cQ cD pT pK pR pW pU pI pC uO uF uE uN oQ oS = some (y4, y5, y6, y7, y16, nF', nO', nL', nA', nC', nV', nU', nP', nE', bF', bO', bL', bA', bC', bV', bU', bP', bE', cT', cK', cO', cQ', cD', pT', pK', pR', pW', pU', pI', pC', uO', uF', uE', uN', oQ', oS') ∧ INV (j + 1) y4 y5 y6 y7 nF' nO' nL' nA' nC' nV' nU' nP' nE' bF' bO' bL' bA' bC' bV' bU' bP' bE' cT' cO' cQ' cD' pT' pK' pR' pW' pU' pI' pC' uO' uF' uE' uN' oQ' oS' ∧ (y16 < 0 → (y5, y6, y7, nF', nO', nL', nC', nV', nU', nP', nE', cO', cD', pT', pW', uO', uF', uN') = (x5, x6, x7, nF, nO, nL, nC, nV, nU, nP, nE, cO, cD, pT, pW, uO, uF, uN)) := by
  obtain ⟨a4, a5, a6, a7, a16, anC, anU, he, h⟩ := op22_ok (x8 := x8) (x9 := x9) (x10 := x10) (x14 := x14) hI
  unfold f_rB
  rw [if_neg (show ¬ nI r = (0 : Int32) from fun z => absurd ((nI_eq (a := r) (b := 0) (by omega) (by omega)).mp z) (by omega)), if_pos (show (4 : Int32) ≤ nI r from (nI_leI (a := 4) (b := r) (by omega) (by omega)).mpr (by omega)), if_pos (show (13 : Int32) ≤ nI r from (nI_leI (a := 13) (b := r) (by omega) (by omega)).mpr (by omega)), if_neg (show ¬ nI r = (13 : Int32) from fun z => absurd ((nI_eq (a := r) (b := 13) (by omega) (by omega)).mp z) (by omega)), if_neg (show ¬ nI r = (14 : Int32) from fun z => absurd ((nI_eq (a := r) (b := 14) (by omega) (by omega)).mp z) (by omega)), if_pos (show (17 : Int32) ≤ nI r from (nI_leI (a := 17) (b := r) (by omega) (by omega)).mpr (by omega)), if_neg (show ¬ nI r = (17 : Int32) from fun z => absurd ((nI_eq (a := r) (b := 17) (by omega) (by omega)).mp z) (by omega)), if_neg (show ¬ nI r = (18 : Int32) from fun z => absurd ((nI_eq (a := r) (b := 18) (by omega) (by omega)).mp z) (by omega)), if_pos (show (22 : Int32) ≤ nI r from (nI_leI (a := 22) (b := r) (by omega) (by omega)).mpr (by omega)), if_neg (show ¬ nI r = (22 : Int32) from fun z => absurd ((nI_eq (a := r) (b := 22) (by omega) (by omega)).mp z) (by omega)), if_neg (show ¬ (25 : Int32) ≤ nI r from fun z => absurd ((nI_leI (a := 25) (b := r) (by omega) (by omega)).mp z) (by omega)), he]
  simp only [Option.bind_some]
  rcases h with ⟨hneg, heq⟩ | ⟨hpos, hI2⟩
  · simp only [Prod.mk.injEq] at heq
    obtain ⟨rfl, rfl, rfl, rfl, rfl, rfl⟩ := heq
    exact ⟨_, _, _, _, _, _, _, _, _, _, _, _, _, _, _, _, _, _, _, _, _, _, _, _, _, _, _, _, _, _, _, _, _, _, _, _, _, _, _, _, _, rfl, INV_mono hI, fun _ => rfl⟩
  · exact ⟨_, _, _, _, _, _, _, _, _, _, _, _, _, _, _, _, _, _, _, _, _, _, _, _, _, _, _, _, _, _, _, _, _, _, _, _, _, _, _, _, _, rfl, hI2, fun w => absurd w hpos⟩
theorem rB_op23 {r : Nat} (hr32 : r < 32) (hr : r = 25) (hj : j ≤ 500) (hI : INV j x4 x5 x6 x7 nF nO nL nA nC nV nU nP nE bF bO bL bA bC bV bU bP bE cT cO cQ cD pT pK pR pW pU pI pC uO uF uE uN oQ oS) : ∃ y4 y5 y6 y7 y16 nF' nO' nL' nA' nC' nV' nU' nP' nE' bF' bO' bL' bA' bC' bV' bU' bP' bE' cT' cK' cO' cQ' cD' pT' pK' pR' pW' pU' pI' pC' uO' uF' uE' uN' oQ' oS', f_rB x4 x5 x6 x7 x8 x9 x10 x11 x12 (nI r) x14 0 nF nO nL nA nC nV nU nP nE bF bO bL bA bC bV bU bP bE cT cK cO cQ cD pT pK pR pW pU pI pC uO uF uE uN oQ oS = some (y4, y5, y6, y7, y16, nF', nO', nL', nA', nC', nV', nU', nP', nE', bF', bO', bL', bA', bC', bV', bU', bP', bE', cT', cK', cO', cQ', cD', pT', pK', pR', pW', pU', pI', pC', uO', uF', uE', uN', oQ', oS') ∧ INV (j + 1) y4 y5 y6 y7 nF' nO' nL' nA' nC' nV' nU' nP' nE' bF' bO' bL' bA' bC' bV' bU' bP' bE' cT' cO' cQ' cD' pT' pK' pR' pW' pU' pI' pC' uO' uF' uE' uN' oQ' oS' ∧ (y16 < 0 → (y5, y6, y7, nF', nO', nL', nC', nV', nU', nP', nE', cO', cD', pT', pW', uO', uF', uN') = (x5, x6, x7, nF, nO, nL, nC, nV, nU, nP, nE, cO, cD, pT, pW, uO, uF, uN)) := by
  obtain ⟨a4, a5, a6, a7, a16, auO, auF, auE, auN, he, h⟩ := op23_ok (x9 := x9) (x10 := x10) hI
  unfold f_rB
  rw [if_neg (show ¬ nI r = (0 : Int32) from fun z => absurd ((nI_eq (a := r) (b := 0) (by omega) (by omega)).mp z) (by omega)), if_pos (show (4 : Int32) ≤ nI r from (nI_leI (a := 4) (b := r) (by omega) (by omega)).mpr (by omega)), if_pos (show (13 : Int32) ≤ nI r from (nI_leI (a := 13) (b := r) (by omega) (by omega)).mpr (by omega)), if_neg (show ¬ nI r = (13 : Int32) from fun z => absurd ((nI_eq (a := r) (b := 13) (by omega) (by omega)).mp z) (by omega)), if_neg (show ¬ nI r = (14 : Int32) from fun z => absurd ((nI_eq (a := r) (b := 14) (by omega) (by omega)).mp z) (by omega)), if_pos (show (17 : Int32) ≤ nI r from (nI_leI (a := 17) (b := r) (by omega) (by omega)).mpr (by omega)), if_neg (show ¬ nI r = (17 : Int32) from fun z => absurd ((nI_eq (a := r) (b := 17) (by omega) (by omega)).mp z) (by omega)), if_neg (show ¬ nI r = (18 : Int32) from fun z => absurd ((nI_eq (a := r) (b := 18) (by omega) (by omega)).mp z) (by omega)), if_pos (show (22 : Int32) ≤ nI r from (nI_leI (a := 22) (b := r) (by omega) (by omega)).mpr (by omega)), if_neg (show ¬ nI r = (22 : Int32) from fun z => absurd ((nI_eq (a := r) (b := 22) (by omega) (by omega)).mp z) (by omega)), if_pos (show (25 : Int32) ≤ nI r from (nI_leI (a := 25) (b := r) (by omega) (by omega)).mpr (by omega)), if_pos (show nI r = (25 : Int32) from by rw [hr]; rfl), he]
  simp only [Option.bind_some]
  rcases h with ⟨hneg, heq⟩ | ⟨hpos, hI2⟩
  · simp only [Prod.mk.injEq] at heq
    obtain ⟨rfl, rfl, rfl, rfl, rfl, rfl, rfl, rfl⟩ := heq
    exact ⟨_, _, _, _, _, _, _, _, _, _, _, _, _, _, _, _, _, _, _, _, _, _, _, _, _, _, _, _, _, _, _, _, _, _, _, _, _, _, _, _, _, rfl, INV_mono hI, fun _ => rfl⟩
  · exact ⟨_, _, _, _, _, _, _, _, _, _, _, _, _, _, _, _, _, _, _, _, _, _, _, _, _, _, _, _, _, _, _, _, _, _, _, _, _, _, _, _, _, rfl, hI2, fun w => absurd w hpos⟩
theorem rB_op24 {r : Nat} (hr32 : r < 32) (hr : r = 26) (hj : j ≤ 500) (hI : INV j x4 x5 x6 x7 nF nO nL nA nC nV nU nP nE bF bO bL bA bC bV bU bP bE cT cO cQ cD pT pK pR pW pU pI pC uO uF uE uN oQ oS) : ∃ y4 y5 y6 y7 y16 nF' nO' nL' nA' nC' nV' nU' nP' nE' bF' bO' bL' bA' bC' bV' bU' bP' bE' cT' cK' cO' cQ' cD' pT' pK' pR' pW' pU' pI' pC' uO' uF' uE' uN' oQ' oS', f_rB x4 x5 x6 x7 x8 x9 x10 x11 x12 (nI r) x14 0 nF nO nL nA nC nV nU nP nE bF bO bL bA bC bV bU bP bE cT cK cO cQ cD pT pK pR pW pU pI pC uO uF uE uN oQ oS = some (y4, y5, y6, y7, y16, nF', nO', nL', nA', nC', nV', nU', nP', nE', bF', bO', bL', bA', bC', bV', bU', bP', bE', cT', cK', cO', cQ', cD', pT', pK', pR', pW', pU', pI', pC', uO', uF', uE', uN', oQ', oS') ∧ INV (j + 1) y4 y5 y6 y7 nF' nO' nL' nA' nC' nV' nU' nP' nE' bF' bO' bL' bA' bC' bV' bU' bP' bE' cT' cO' cQ' cD' pT' pK' pR' pW' pU' pI' pC' uO' uF' uE' uN' oQ' oS' ∧ (y16 < 0 → (y5, y6, y7, nF', nO', nL', nC', nV', nU', nP', nE', cO', cD', pT', pW', uO', uF', uN') = (x5, x6, x7, nF, nO, nL, nC, nV, nU, nP, nE, cO, cD, pT, pW, uO, uF, uN)) := by
  obtain ⟨a4, a5, a6, a7, a16, anA, anC, anU, auN, he, h⟩ := op24_ok (x9 := x9) hI
  unfold f_rB
  rw [if_neg (show ¬ nI r = (0 : Int32) from fun z => absurd ((nI_eq (a := r) (b := 0) (by omega) (by omega)).mp z) (by omega)), if_pos (show (4 : Int32) ≤ nI r from (nI_leI (a := 4) (b := r) (by omega) (by omega)).mpr (by omega)), if_pos (show (13 : Int32) ≤ nI r from (nI_leI (a := 13) (b := r) (by omega) (by omega)).mpr (by omega)), if_neg (show ¬ nI r = (13 : Int32) from fun z => absurd ((nI_eq (a := r) (b := 13) (by omega) (by omega)).mp z) (by omega)), if_neg (show ¬ nI r = (14 : Int32) from fun z => absurd ((nI_eq (a := r) (b := 14) (by omega) (by omega)).mp z) (by omega)), if_pos (show (17 : Int32) ≤ nI r from (nI_leI (a := 17) (b := r) (by omega) (by omega)).mpr (by omega)), if_neg (show ¬ nI r = (17 : Int32) from fun z => absurd ((nI_eq (a := r) (b := 17) (by omega) (by omega)).mp z) (by omega)), if_neg (show ¬ nI r = (18 : Int32) from fun z => absurd ((nI_eq (a := r) (b := 18) (by omega) (by omega)).mp z) (by omega)), if_pos (show (22 : Int32) ≤ nI r from (nI_leI (a := 22) (b := r) (by omega) (by omega)).mpr (by omega)), if_neg (show ¬ nI r = (22 : Int32) from fun z => absurd ((nI_eq (a := r) (b := 22) (by omega) (by omega)).mp z) (by omega)), if_pos (show (25 : Int32) ≤ nI r from (nI_leI (a := 25) (b := r) (by omega) (by omega)).mpr (by omega)), if_neg (show ¬ nI r = (25 : Int32) from fun z => absurd ((nI_eq (a := r) (b := 25) (by omega) (by omega)).mp z) (by omega)), if_pos (show nI r = (26 : Int32) from by rw [hr]; rfl), he]
  simp only [Option.bind_some]
  rcases h with ⟨hneg, heq⟩ | ⟨hpos, hI2⟩
  · simp only [Prod.mk.injEq] at heq
    obtain ⟨rfl, rfl, rfl, rfl, rfl, rfl, rfl, rfl⟩ := heq
    exact ⟨_, _, _, _, _, _, _, _, _, _, _, _, _, _, _, _, _, _, _, _, _, _, _, _, _, _, _, _, _, _, _, _, _, _, _, _, _, _, _, _, _, rfl, INV_mono hI, fun _ => rfl⟩
  · exact ⟨_, _, _, _, _, _, _, _, _, _, _, _, _, _, _, _, _, _, _, _, _, _, _, _, _, _, _, _, _, _, _, _, _, _, _, _, _, _, _, _, _, rfl, hI2, fun w => absurd w hpos⟩
theorem rB_op28 {r : Nat} (hr32 : r < 32) (hr : r = 27) (hj : j ≤ 500) (hI : INV j x4 x5 x6 x7 nF nO nL nA nC nV nU nP nE bF bO bL bA bC bV bU bP bE cT cO cQ cD pT pK pR pW pU pI pC uO uF uE uN oQ oS) : ∃ y4 y5 y6 y7 y16 nF' nO' nL' nA' nC' nV' nU' nP' nE' bF' bO' bL' bA' bC' bV' bU' bP' bE' cT' cK' cO' cQ' cD' pT' pK' pR' pW' pU' pI' pC' uO' uF' uE' uN' oQ' oS', f_rB x4 x5 x6 x7 x8 x9 x10 x11 x12 (nI r) x14 0 nF nO nL nA nC nV nU nP nE bF bO bL bA bC bV bU bP bE cT cK cO cQ cD pT pK pR pW pU pI pC uO uF uE uN oQ oS = some (y4, y5, y6, y7, y16, nF', nO', nL', nA', nC', nV', nU', nP', nE', bF', bO', bL', bA', bC', bV', bU', bP', bE', cT', cK', cO', cQ', cD', pT', pK', pR', pW', pU', pI', pC', uO', uF', uE', uN', oQ', oS') ∧ INV (j + 1) y4 y5 y6 y7 nF' nO' nL' nA' nC' nV' nU' nP' nE' bF' bO' bL' bA' bC' bV' bU' bP' bE' cT' cO' cQ' cD' pT' pK' pR' pW' pU' pI' pC' uO' uF' uE' uN' oQ' oS' ∧ (y16 < 0 → (y5, y6, y7, nF', nO', nL', nC', nV', nU', nP', nE', cO', cD', pT', pW', uO', uF', uN') = (x5, x6, x7, nF, nO, nL, nC, nV, nU, nP, nE, cO, cD, pT, pW, uO, uF, uN)) := by
  obtain ⟨a4, a5, a6, a7, a16, anA, anC, anU, acD, auN, he, h⟩ := op28_ok (x9 := x9) hI
  unfold f_rB
  rw [if_neg (show ¬ nI r = (0 : Int32) from fun z => absurd ((nI_eq (a := r) (b := 0) (by omega) (by omega)).mp z) (by omega)), if_pos (show (4 : Int32) ≤ nI r from (nI_leI (a := 4) (b := r) (by omega) (by omega)).mpr (by omega)), if_pos (show (13 : Int32) ≤ nI r from (nI_leI (a := 13) (b := r) (by omega) (by omega)).mpr (by omega)), if_neg (show ¬ nI r = (13 : Int32) from fun z => absurd ((nI_eq (a := r) (b := 13) (by omega) (by omega)).mp z) (by omega)), if_neg (show ¬ nI r = (14 : Int32) from fun z => absurd ((nI_eq (a := r) (b := 14) (by omega) (by omega)).mp z) (by omega)), if_pos (show (17 : Int32) ≤ nI r from (nI_leI (a := 17) (b := r) (by omega) (by omega)).mpr (by omega)), if_neg (show ¬ nI r = (17 : Int32) from fun z => absurd ((nI_eq (a := r) (b := 17) (by omega) (by omega)).mp z) (by omega)), if_neg (show ¬ nI r = (18 : Int32) from fun z => absurd ((nI_eq (a := r) (b := 18) (by omega) (by omega)).mp z) (by omega)), if_pos (show (22 : Int32) ≤ nI r from (nI_leI (a := 22) (b := r) (by omega) (by omega)).mpr (by omega)), if_neg (show ¬ nI r = (22 : Int32) from fun z => absurd ((nI_eq (a := r) (b := 22) (by omega) (by omega)).mp z) (by omega)), if_pos (show (25 : Int32) ≤ nI r from (nI_leI (a := 25) (b := r) (by omega) (by omega)).mpr (by omega)), if_neg (show ¬ nI r = (25 : Int32) from fun z => absurd ((nI_eq (a := r) (b := 25) (by omega) (by omega)).mp z) (by omega)), if_neg (show ¬ nI r = (26 : Int32) from fun z => absurd ((nI_eq (a := r) (b := 26) (by omega) (by omega)).mp z) (by omega)), if_pos (show nI r = (27 : Int32) from by rw [hr]; rfl), he]
  simp only [Option.bind_some]
  rcases h with ⟨hneg, heq⟩ | ⟨hpos, hI2⟩
  · simp only [Prod.mk.injEq] at heq
    obtain ⟨rfl, rfl, rfl, rfl, rfl, rfl, rfl, rfl, rfl⟩ := heq
    exact ⟨_, _, _, _, _, _, _, _, _, _, _, _, _, _, _, _, _, _, _, _, _, _, _, _, _, _, _, _, _, _, _, _, _, _, _, _, _, _, _, _, _, rfl, INV_mono hI, fun _ => rfl⟩
  · exact ⟨_, _, _, _, _, _, _, _, _, _, _, _, _, _, _, _, _, _, _, _, _, _, _, _, _, _, _, _, _, _, _, _, _, _, _, _, _, _, _, _, _, rfl, hI2, fun w => absurd w hpos⟩
theorem rB_op29 {r : Nat} (hr32 : r < 32) (hr : r = 28) (hj : j ≤ 500) (hI : INV j x4 x5 x6 x7 nF nO nL nA nC nV nU nP nE bF bO bL bA bC bV bU bP bE cT cO cQ cD pT pK pR pW pU pI pC uO uF uE uN oQ oS) : ∃ y4 y5 y6 y7 y16 nF' nO' nL' nA' nC' nV' nU' nP' nE' bF' bO' bL' bA' bC' bV' bU' bP' bE' cT' cK' cO' cQ' cD' pT' pK' pR' pW' pU' pI' pC' uO' uF' uE' uN' oQ' oS', f_rB x4 x5 x6 x7 x8 x9 x10 x11 x12 (nI r) x14 0 nF nO nL nA nC nV nU nP nE bF bO bL bA bC bV bU bP bE cT cK cO cQ cD pT pK pR pW pU pI pC uO uF uE uN oQ oS = some (y4, y5, y6, y7, y16, nF', nO', nL', nA', nC', nV', nU', nP', nE', bF', bO', bL', bA', bC', bV', bU', bP', bE', cT', cK', cO', cQ', cD', pT', pK', pR', pW', pU', pI', pC', uO', uF', uE', uN', oQ', oS') ∧ INV (j + 1) y4 y5 y6 y7 nF' nO' nL' nA' nC' nV' nU' nP' nE' bF' bO' bL' bA' bC' bV' bU' bP' bE' cT' cO' cQ' cD' pT' pK' pR' pW' pU' pI' pC' uO' uF' uE' uN' oQ' oS' ∧ (y16 < 0 → (y5, y6, y7, nF', nO', nL', nC', nV', nU', nP', nE', cO', cD', pT', pW', uO', uF', uN') = (x5, x6, x7, nF, nO, nL, nC, nV, nU, nP, nE, cO, cD, pT, pW, uO, uF, uN)) := by
  obtain ⟨a4, a5, a6, a7, a16, abF, abO, abL, abA, abC, abV, abU, abP, abE, acT, he, h⟩ := op29_ok hj hI
  unfold f_rB
  rw [if_neg (show ¬ nI r = (0 : Int32) from fun z => absurd ((nI_eq (a := r) (b := 0) (by omega) (by omega)).mp z) (by omega)), if_pos (show (4 : Int32) ≤ nI r from (nI_leI (a := 4) (b := r) (by omega) (by omega)).mpr (by omega)), if_pos (show (13 : Int32) ≤ nI r from (nI_leI (a := 13) (b := r) (by omega) (by omega)).mpr (by omega)), if_neg (show ¬ nI r = (13 : Int32) from fun z => absurd ((nI_eq (a := r) (b := 13) (by omega) (by omega)).mp z) (by omega)), if_neg (show ¬ nI r = (14 : Int32) from fun z => absurd ((nI_eq (a := r) (b := 14) (by omega) (by omega)).mp z) (by omega)), if_pos (show (17 : Int32) ≤ nI r from (nI_leI (a := 17) (b := r) (by omega) (by omega)).mpr (by omega)), if_neg (show ¬ nI r = (17 : Int32) from fun z => absurd ((nI_eq (a := r) (b := 17) (by omega) (by omega)).mp z) (by omega)), if_neg (show ¬ nI r = (18 : Int32) from fun z => absurd ((nI_eq (a := r) (b := 18) (by omega) (by omega)).mp z) (by omega)), if_pos (show (22 : Int32) ≤ nI r from (nI_leI (a := 22) (b := r) (by omega) (by omega)).mpr (by omega)), if_neg (show ¬ nI r = (22 : Int32) from fun z => absurd ((nI_eq (a := r) (b := 22) (by omega) (by omega)).mp z) (by omega)), if_pos (show (25 : Int32) ≤ nI r from (nI_leI (a := 25) (b := r) (by omega) (by omega)).mpr (by omega)), if_neg (show ¬ nI r = (25 : Int32) from fun z => absurd ((nI_eq (a := r) (b := 25) (by omega) (by omega)).mp z) (by omega)), if_neg (show ¬ nI r = (26 : Int32) from fun z => absurd ((nI_eq (a := r) (b := 26) (by omega) (by omega)).mp z) (by omega)), if_neg (show ¬ nI r = (27 : Int32) from fun z => absurd ((nI_eq (a := r) (b := 27) (by omega) (by omega)).mp z) (by omega)), if_pos (show nI r = (28 : Int32) from by rw [hr]; rfl), he]
  simp only [Option.bind_some]
  rcases h with ⟨hneg, heq⟩ | ⟨hpos, hI2⟩
  · simp only [Prod.mk.injEq] at heq
    obtain ⟨rfl, rfl, rfl, rfl, rfl, rfl, rfl, rfl, rfl, rfl, rfl, rfl, rfl, rfl⟩ := heq
    exact ⟨_, _, _, _, _, _, _, _, _, _, _, _, _, _, _, _, _, _, _, _, _, _, _, _, _, _, _, _, _, _, _, _, _, _, _, _, _, _, _, _, _, rfl, INV_mono hI, fun _ => rfl⟩
  · exact ⟨_, _, _, _, _, _, _, _, _, _, _, _, _, _, _, _, _, _, _, _, _, _, _, _, _, _, _, _, _, _, _, _, _, _, _, _, _, _, _, _, _, rfl, hI2, fun w => absurd w hpos⟩
theorem rB_op30 {r : Nat} (hr32 : r < 32) (hr : r = 29) (hj : j ≤ 500) (hI : INV j x4 x5 x6 x7 nF nO nL nA nC nV nU nP nE bF bO bL bA bC bV bU bP bE cT cO cQ cD pT pK pR pW pU pI pC uO uF uE uN oQ oS) : ∃ y4 y5 y6 y7 y16 nF' nO' nL' nA' nC' nV' nU' nP' nE' bF' bO' bL' bA' bC' bV' bU' bP' bE' cT' cK' cO' cQ' cD' pT' pK' pR' pW' pU' pI' pC' uO' uF' uE' uN' oQ' oS', f_rB x4 x5 x6 x7 x8 x9 x10 x11 x12 (nI r) x14 0 nF nO nL nA nC nV nU nP nE bF bO bL bA bC bV bU bP bE cT cK cO cQ cD pT pK pR pW pU pI pC uO uF uE uN oQ oS = some (y4, y5, y6, y7, y16, nF', nO', nL', nA', nC', nV', nU', nP', nE', bF', bO', bL', bA', bC', bV', bU', bP', bE', cT', cK', cO', cQ', cD', pT', pK', pR', pW', pU', pI', pC', uO', uF', uE', uN', oQ', oS') ∧ INV (j + 1) y4 y5 y6 y7 nF' nO' nL' nA' nC' nV' nU' nP' nE' bF' bO' bL' bA' bC' bV' bU' bP' bE' cT' cO' cQ' cD' pT' pK' pR' pW' pU' pI' pC' uO' uF' uE' uN' oQ' oS' ∧ (y16 < 0 → (y5, y6, y7, nF', nO', nL', nC', nV', nU', nP', nE', cO', cD', pT', pW', uO', uF', uN') = (x5, x6, x7, nF, nO, nL, nC, nV, nU, nP, nE, cO, cD, pT, pW, uO, uF, uN)) := by
  obtain ⟨a4, a5, a6, a7, a16, acT, he, h⟩ := op30_ok hj hI
  unfold f_rB
  rw [if_neg (show ¬ nI r = (0 : Int32) from fun z => absurd ((nI_eq (a := r) (b := 0) (by omega) (by omega)).mp z) (by omega)), if_pos (show (4 : Int32) ≤ nI r from (nI_leI (a := 4) (b := r) (by omega) (by omega)).mpr (by omega)), if_pos (show (13 : Int32) ≤ nI r from (nI_leI (a := 13) (b := r) (by omega) (by omega)).mpr (by omega)), if_neg (show ¬ nI r = (13 : Int32) from fun z => absurd ((nI_eq (a := r) (b := 13) (by omega) (by omega)).mp z) (by omega)), if_neg (show ¬ nI r = (14 : Int32) from fun z => absurd ((nI_eq (a := r) (b := 14) (by omega) (by omega)).mp z) (by omega)), if_pos (show (17 : Int32) ≤ nI r from (nI_leI (a := 17) (b := r) (by omega) (by omega)).mpr (by omega)), if_neg (show ¬ nI r = (17 : Int32) from fun z => absurd ((nI_eq (a := r) (b := 17) (by omega) (by omega)).mp z) (by omega)), if_neg (show ¬ nI r = (18 : Int32) from fun z => absurd ((nI_eq (a := r) (b := 18) (by omega) (by omega)).mp z) (by omega)), if_pos (show (22 : Int32) ≤ nI r from (nI_leI (a := 22) (b := r) (by omega) (by omega)).mpr (by omega)), if_neg (show ¬ nI r = (22 : Int32) from fun z => absurd ((nI_eq (a := r) (b := 22) (by omega) (by omega)).mp z) (by omega)), if_pos (show (25 : Int32) ≤ nI r from (nI_leI (a := 25) (b := r) (by omega) (by omega)).mpr (by omega)), if_neg (show ¬ nI r = (25 : Int32) from fun z => absurd ((nI_eq (a := r) (b := 25) (by omega) (by omega)).mp z) (by omega)), if_neg (show ¬ nI r = (26 : Int32) from fun z => absurd ((nI_eq (a := r) (b := 26) (by omega) (by omega)).mp z) (by omega)), if_neg (show ¬ nI r = (27 : Int32) from fun z => absurd ((nI_eq (a := r) (b := 27) (by omega) (by omega)).mp z) (by omega)), if_neg (show ¬ nI r = (28 : Int32) from fun z => absurd ((nI_eq (a := r) (b := 28) (by omega) (by omega)).mp z) (by omega)), if_pos (show nI r = (29 : Int32) from by rw [hr]; rfl), he]
  simp only [Option.bind_some]
  rcases h with ⟨hneg, heq⟩ | ⟨hpos, hI2⟩
  · simp only [Prod.mk.injEq] at heq
    obtain ⟨rfl, rfl, rfl, rfl, rfl⟩ := heq
    exact ⟨_, _, _, _, _, _, _, _, _, _, _, _, _, _, _, _, _, _, _, _, _, _, _, _, _, _, _, _, _, _, _, _, _, _, _, _, _, _, _, _, _, rfl, INV_mono hI, fun _ => rfl⟩
  · exact ⟨_, _, _, _, _, _, _, _, _, _, _, _, _, _, _, _, _, _, _, _, _, _, _, _, _, _, _, _, _, _, _, _, _, _, _, _, _, _, _, _, _, rfl, hI2, fun w => absurd w hpos⟩
theorem rB_opC {r : Nat} (hr32 : r < 32) (hr : 30 ≤ r ∧ r < 32) (hj : j ≤ 500) (hI : INV j x4 x5 x6 x7 nF nO nL nA nC nV nU nP nE bF bO bL bA bC bV bU bP bE cT cO cQ cD pT pK pR pW pU pI pC uO uF uE uN oQ oS) : ∃ y4 y5 y6 y7 y16 nF' nO' nL' nA' nC' nV' nU' nP' nE' bF' bO' bL' bA' bC' bV' bU' bP' bE' cT' cK' cO' cQ' cD' pT' pK' pR' pW' pU' pI' pC' uO' uF' uE' uN' oQ' oS', f_rB x4 x5 x6 x7 x8 x9 x10 x11 x12 (nI r) x14 0 nF nO nL nA nC nV nU nP nE bF bO bL bA bC bV bU bP bE cT cK cO cQ cD pT pK pR pW pU pI pC uO uF uE uN oQ oS = some (y4, y5, y6, y7, y16, nF', nO', nL', nA', nC', nV', nU', nP', nE', bF', bO', bL', bA', bC', bV', bU', bP', bE', cT', cK', cO', cQ', cD', pT', pK', pR', pW', pU', pI', pC', uO', uF', uE', uN', oQ', oS') ∧ INV (j + 1) y4 y5 y6 y7 nF' nO' nL' nA' nC' nV' nU' nP' nE' bF' bO' bL' bA' bC' bV' bU' bP' bE' cT' cO' cQ' cD' pT' pK' pR' pW' pU' pI' pC' uO' uF' uE' uN' oQ' oS' ∧ (y16 < 0 → (y5, y6, y7, nF', nO', nL', nC', nV', nU', nP', nE', cO', cD', pT', pW', uO', uF', uN') = (x5, x6, x7, nF, nO, nL, nC, nV, nU, nP, nE, cO, cD, pT, pW, uO, uF, uN)) := by
  obtain ⟨a4, a5, a6, a7, a16, anF, anO, anL, anA, anC, anV, anU, anP, anE, acT, he, hpos, hI2⟩ := opC_ok hj hI
  unfold f_rB
  rw [if_neg (show ¬ nI r = (0 : Int32) from fun z => absurd ((nI_eq (a := r) (b := 0) (by omega) (by omega)).mp z) (by omega)), if_pos (show (4 : Int32) ≤ nI r from (nI_leI (a := 4) (b := r) (by omega) (by omega)).mpr (by omega)), if_pos (show (13 : Int32) ≤ nI r from (nI_leI (a := 13) (b := r) (by omega) (by omega)).mpr (by omega)), if_neg (show ¬ nI r = (13 : Int32) from fun z => absurd ((nI_eq (a := r) (b := 13) (by omega) (by omega)).mp z) (by omega)), if_neg (show ¬ nI r = (14 : Int32) from fun z => absurd ((nI_eq (a := r) (b := 14) (by omega) (by omega)).mp z) (by omega)), if_pos (show (17 : Int32) ≤ nI r from (nI_leI (a := 17) (b := r) (by omega) (by omega)).mpr (by omega)), if_neg (show ¬ nI r = (17 : Int32) from fun z => absurd ((nI_eq (a := r) (b := 17) (by omega) (by omega)).mp z) (by omega)), if_neg (show ¬ nI r = (18 : Int32) from fun z => absurd ((nI_eq (a := r) (b := 18) (by omega) (by omega)).mp z) (by omega)), if_pos (show (22 : Int32) ≤ nI r from (nI_leI (a := 22) (b := r) (by omega) (by omega)).mpr (by omega)), if_neg (show ¬ nI r = (22 : Int32) from fun z => absurd ((nI_eq (a := r) (b := 22) (by omega) (by omega)).mp z) (by omega)), if_pos (show (25 : Int32) ≤ nI r from (nI_leI (a := 25) (b := r) (by omega) (by omega)).mpr (by omega)), if_neg (show ¬ nI r = (25 : Int32) from fun z => absurd ((nI_eq (a := r) (b := 25) (by omega) (by omega)).mp z) (by omega)), if_neg (show ¬ nI r = (26 : Int32) from fun z => absurd ((nI_eq (a := r) (b := 26) (by omega) (by omega)).mp z) (by omega)), if_neg (show ¬ nI r = (27 : Int32) from fun z => absurd ((nI_eq (a := r) (b := 27) (by omega) (by omega)).mp z) (by omega)), if_neg (show ¬ nI r = (28 : Int32) from fun z => absurd ((nI_eq (a := r) (b := 28) (by omega) (by omega)).mp z) (by omega)), if_neg (show ¬ nI r = (29 : Int32) from fun z => absurd ((nI_eq (a := r) (b := 29) (by omega) (by omega)).mp z) (by omega)), he]
  simp only [Option.bind_some]
  exact ⟨_, _, _, _, _, _, _, _, _, _, _, _, _, _, _, _, _, _, _, _, _, _, _, _, _, _, _, _, _, _, _, _, _, _, _, _, _, _, _, _, _, rfl, hI2, fun w => absurd w hpos⟩
theorem rB_ok {r : Nat} (hr32 : r < 32) (hj : j ≤ 500) (hI : INV j x4 x5 x6 x7 nF nO nL nA nC nV nU nP nE bF bO bL bA bC bV bU bP bE cT cO cQ cD pT pK pR pW pU pI pC uO uF uE uN oQ oS) : ∃ y4 y5 y6 y7 y16 nF' nO' nL' nA' nC' nV' nU' nP' nE' bF' bO' bL' bA' bC' bV' bU' bP' bE' cT' cK' cO' cQ' cD' pT' pK' pR' pW' pU' pI' pC' uO' uF' uE' uN' oQ' oS', f_rB x4 x5 x6 x7 x8 x9 x10 x11 x12 (nI r) x14 0 nF nO nL nA nC nV nU nP nE bF bO bL bA bC bV bU bP bE cT cK cO cQ cD pT pK pR pW pU pI pC uO uF uE uN oQ oS = some (y4, y5, y6, y7, y16, nF', nO', nL', nA', nC', nV', nU', nP', nE', bF', bO', bL', bA', bC', bV', bU', bP', bE', cT', cK', cO', cQ', cD', pT', pK', pR', pW', pU', pI', pC', uO', uF', uE', uN', oQ', oS') ∧ INV (j + 1) y4 y5 y6 y7 nF' nO' nL' nA' nC' nV' nU' nP' nE' bF' bO' bL' bA' bC' bV' bU' bP' bE' cT' cO' cQ' cD' pT' pK' pR' pW' pU' pI' pC' uO' uF' uE' uN' oQ' oS' ∧ (y16 < 0 → (y5, y6, y7, nF', nO', nL', nC', nV', nU', nP', nE', cO', cD', pT', pW', uO', uF', uN') = (x5, x6, x7, nF, nO, nL, nC, nV, nU, nP, nE, cO, cD, pT, pW, uO, uF, uN)) := by
  by_cases h_op0 : r = 0
  · exact rB_op0 hr32 h_op0 hj hI
  by_cases h_op1 : 1 ≤ r ∧ r < 4
  · exact rB_op1 hr32 h_op1 hj hI
  by_cases h_op6 : 4 ≤ r ∧ r < 13
  · exact rB_op6 hr32 h_op6 hj hI
  by_cases h_op7 : r = 13
  · exact rB_op7 hr32 h_op7 hj hI
  by_cases h_op4 : r = 14
  · exact rB_op4 hr32 h_op4 hj hI
  by_cases h_op5 : 15 ≤ r ∧ r < 17
  · exact rB_op5 hr32 h_op5 hj hI
  by_cases h_op14 : r = 17
  · exact rB_op14 hr32 h_op14 hj hI
  by_cases h_op16 : r = 18
  · exact rB_op16 hr32 h_op16 hj hI
  by_cases h_op17 : 19 ≤ r ∧ r < 22
  · exact rB_op17 hr32 h_op17 hj hI
  by_cases h_op20 : r = 22
  · exact rB_op20 hr32 h_op20 hj hI
  by_cases h_op22 : 23 ≤ r ∧ r < 25
  · exact rB_op22 hr32 h_op22 hj hI
  by_cases h_op23 : r = 25
  · exact rB_op23 hr32 h_op23 hj hI
  by_cases h_op24 : r = 26
  · exact rB_op24 hr32 h_op24 hj hI
  by_cases h_op28 : r = 27
  · exact rB_op28 hr32 h_op28 hj hI
  by_cases h_op29 : r = 28
  · exact rB_op29 hr32 h_op29 hj hI
  by_cases h_op30 : r = 29
  · exact rB_op30 hr32 h_op30 hj hI
  exact rB_opC hr32 (by omega) hj hI
theorem rC_ok {y5 y6 y7 y16 : Int32} {y14 : Int64} {nF' : Int32} {nO' : Nat → Int32} {nL' : Nat → Int32} {nC' : Nat → Int32} {nV' : Nat → Int32} {nU' : Nat → Int32} {nP' : Nat → Int32} {nE' : Int32} {cO' : Int32} {cD' : Int32} {pT' : Int32} {pW' : Nat → Int32} {uO' : Int32} {uF' : Nat → Int32} {uN' : Nat → Int32} (hs : f_state x5 x6 x7 nF nO nL nC nV nU nP nE cO cD pT pW uO uF uN = some y14) (h : y16 < 0 → (y5, y6, y7, nF', nO', nL', nC', nV', nU', nP', nE', cO', cD', pT', pW', uO', uF', uN') = (x5, x6, x7, nF, nO, nL, nC, nV, nU, nP, nE, cO, cD, pT, pW, uO, uF, uN)) : f_rC y5 y6 y7 y14 y16 nF' nO' nL' nC' nV' nU' nP' nE' cO' cD' pT' pW' uO' uF' uN' = some () := by
  unfold f_rC
  by_cases z : y16 < 0
  · have heq := h z
    simp only [Prod.mk.injEq] at heq
    obtain ⟨rfl, rfl, rfl, rfl, rfl, rfl, rfl, rfl, rfl, rfl, rfl, rfl, rfl, rfl, rfl, rfl, rfl, rfl⟩ := heq
    rw [if_neg (Int32.not_le.mpr z), hs]
    simp only [Option.bind_some]
    rw [if_pos (cmp_same _)]
  · rw [if_pos (Int32.not_lt.mp z)]
theorem rE_loop {h : Nat} (hmn : mn ≤ 4 * t) (hf : f ≤ 40) (hS : SN t K S W V WI pT pK pR pW pU pI pC) (hSE : SE mn t K S WI nV oS) : f_rE_L1020 121 (nI mn) x5 x6 x7 x8 0 (nI f) nV pT pW pI pC oS = some () := by
  have ht := SN_t hS
  have hL := loop_up (fun fu q => f_rE_L1020 fu (nI mn) x5 x6 x7 x8 (nI q) (nI f) nV pT pW pI pC oS) mn (some ()) (fun fu q hq => by
    have a1 : ¬ nI mn ≤ nI q := fun z => absurd ((nI_leI (a := mn) (b := q) (by omega) (by omega)).mp z) (by omega)
    obtain ⟨s, i, x, g1, g2, g3, hs, hi, hx, hv⟩ := hSE q hq
    have hk := SN_K hS hs
    have m4 : (4 : Int32) * nI q = nI (4 * q) := pk_mul 4 q
    have c1 : nI (4 * q) + 1 = nI (4 * q + 1) := nI_add _ 1
    have c2 : nI (4 * q) + 2 = nI (4 * q + 2) := nI_add _ 2
    have c3 : nI (4 * q) + 3 = nI (4 * q + 3) := nI_add _ 3
    have b0 := in_l2 (j := 4 * q) (n := 520) (by omega) (by omega)
    have b1 := in_l2 (j := 4 * q + 1) (n := 520) (by omega) (by omega)
    have b2 := in_l2 (j := 4 * q + 2) (n := 520) (by omega) (by omega)
    have b3 := in_l2 (j := 4 * q + 3) (n := 520) (by omega) (by omega)
    show f_rE_L1020 (fu + 1) _ _ _ _ _ _ _ _ _ _ _ _ _ = _
    have e19 : ∃ v, f_K19 (nI s) (nI i) (nI x) (nI f) nV pT pW pI pC = some v ∧ (v = -1001 ∨ (K s = 1 → v = oS (4 * q + 3))) := by
      rcases Nat.lt_or_ge i f with z | z
      · refine ⟨_, K19_in hS hs hf z hx, Or.inr (fun hk1 => ?_)⟩
        rw [if_pos hk1, hv hk1]
      · exact ⟨_, K19_fout hS hs (Or.inr ⟨nI_pos (by omega), nI_le z (by omega)⟩), Or.inl rfl⟩
    obtain ⟨v, e19, hvv⟩ := e19
    rw [f_rE_L1020, if_neg a1, m4, c1, c2, c3, nI_clamp (show 4 * q < 2 ^ 31 by omega), nI_clamp (show 4 * q + 1 < 2 ^ 31 by omega), nI_clamp (show 4 * q + 2 < 2 ^ 31 by omega), nI_clamp (show 4 * q + 3 < 2 ^ 31 by omega), if_neg b0, if_neg b1, if_neg b2, g1, g2, g3, e19]
    simp only [Option.bind_some]
    rw [if_neg b0, K18_in hS hs]
    simp only [Option.bind_some]
    rw [nI_1]
    rcases (show K s = 0 ∨ K s = 1 by omega) with z | z
    · rw [z, if_neg (show ¬ nI 0 = (1 : Int32) by decide)]
    · rw [z, if_pos (show nI 1 = (1 : Int32) from rfl), if_neg b3]
      by_cases y : v = oS (4 * q + 3)
      · rw [if_pos y]
      · have y2 : v = -1001 := by
          rcases hvv with w | w
          · exact w
          · exact absurd (w z) y
        rw [if_neg y, if_pos y2]) (fun fu => by
    show f_rE_L1020 (fu + 1) _ _ _ _ _ _ _ _ _ _ _ _ _ = _
    rw [f_rE_L1020, if_pos (nI_le (Nat.le_refl mn) (by omega))]) 121 (by omega)
  exact hL
theorem rE_ok (hI : INV j x4 x5 x6 x7 nF nO nL nA nC nV nU nP nE bF bO bL bA bC bV bU bP bE cT cO cQ cD pT pK pR pW pU pI pC uO uF uE uN oQ oS) : ∃ wK', f_rE x4 x5 x6 x7 x8 nF nO nL nA nC nV nU nP cO pT pW pU pI pC uO uF uN wK oQ oS = some (x8 + 1, wK') := by
  obtain ⟨k, Qo, t, K, S, W, V, WI, O, f, L, A, B, P, e, h, HF, HE, HO, tr, d, mn, rfl, i2, rfl, rfl, rfl, i6, i7, hW, hT, hS, hH, hC, hV, hSE, hSV⟩ := hI
  obtain ⟨hk, rfl, hQ⟩ := hW
  have hC0 := hC
  obtain ⟨hf, rfl, -⟩ := hC
  obtain ⟨w', e1⟩ := sound_ok (wK := wK) (oQ := oQ) hk hS hH hC0 hV (fun o ho => ⟨i7 o ho, (hQ o ho).2⟩)
  refine ⟨w', ?_⟩
  unfold f_rE
  rw [e1]
  simp only [Option.bind_some]
  rw [rE_loop (h := h) i2 hf hS hSE]
  rfl
theorem rD_ok (hI : INV j x4 x5 x6 x7 nF nO nL nA nC nV nU nP nE bF bO bL bA bC bV bU bP bE cT cO cQ cD pT pK pR pW pU pI pC uO uF uE uN oQ oS) : ∃ nU' pK' pW' pU', f_rD x5 nF nC nV nU nP cT cO pT pK pR pW pU pI pC = some (nU', pK', pW', pU') := by
  obtain ⟨k, Qo, t, K, S, W, V, WI, O, f, L, A, B, P, e, h, HF, HE, HO, tr, d, mn, rfl, i2, rfl, rfl, rfl, i6, i7, hW, hT, hS, hH, hC, hV, hSE, hSV⟩ := hI
  obtain ⟨hk, rfl, hQ⟩ := hW
  obtain ⟨hf, rfl, -⟩ := hC
  have e8 : f_K8 (nI f) 0 (nI f) nC nV = some (-1001) := K8_fout (x := 0) (Or.inr ⟨nI_pos (by omega), nI_le (Nat.le_refl f) (by omega)⟩)
  have e15 : f_K15 (nI k) nP (nI k) = some (-1001) := K15_out hk (Or.inr ⟨nI_pos (by omega), nI_le (Nat.le_refl k) (by omega)⟩)
  have w1 : f_C_requireWithin 9 0 8 = some (.error 1) := C_within_no (a := 0) (b := 8) (q := 9) (by omega) (by omega) (by omega) (by omega)
  have e20 : f_K20 9 nU cT pT pK pR pW pU pI pC = some (-1002, nU, pK, pW, pU) := by
    unfold f_K20 f_C_thin
    rw [w1]
    rfl
  unfold f_rD
  rw [fileCount_ok]
  simp only [Option.bind_some]
  rw [e8]
  simp only [Option.bind_some, if_true]
  rw [e15]
  simp only [Option.bind_some, if_true]
  rw [e20]
  simp only [Option.bind_some, if_true]
  exact ⟨_, _, _, _, rfl⟩
end ROUND
