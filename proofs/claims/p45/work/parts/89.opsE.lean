/-! EACH SORT OF CALL, V: holds and days -/
section OPSE
variable {j k t f e h i x b s mn : Nat} {K S W V WI O L A B P Qo HF HE HO : Nat → Nat} {x4 x5 x6 x7 x9 x10 x11 x12 x16 nF nE bF bE cT cO cD pT pK uO : Int32} {x8 : Int32} {x14 : Int64} {nO nL nA nC nV nU nP bO bL bA bC bV bU bP cK cQ pR pW pU pI uF uE uN oQ oS : Nat → Int32} {pC : Nat → Nat → Int32}
theorem op23_ok (hI : INV j x4 x5 x6 x7 nF nO nL nA nC nV nU nP nE bF bO bL bA bC bV bU bP bE cT cO cQ cD pT pK pR pW pU pI pC uO uF uE uN oQ oS) : ∃ y4 y5 y6 y7 y16 uO' uF' uE' uN', f_op23 x4 x5 x6 x7 x9 x10 nF nA cT cD uO uF uE uN = some (y4, y5, y6, y7, y16, uO', uF', uE', uN') ∧ (y16 < 0 ∧ (y4, y5, y6, y7, uO', uF', uE', uN') = (x4, x5, x6, x7, uO, uF, uE, uN) ∨ ¬ y16 < 0 ∧ INV (j + 1) y4 y5 y6 y7 nF nO nL nA nC nV nU nP nE bF bO bL bA bC bV bU bP bE cT cO cQ cD pT pK pR pW pU pI pC uO' uF' uE' uN' oQ oS) := by
  obtain ⟨k, Qo, t, K, S, W, V, WI, O, f, L, A, B, P, e, h, HF, HE, HO, tr, d, mn, rfl, i2, rfl, rfl, rfl, i6, i7, hW, hT, hS, hH, hC, hV, hSE, hSV⟩ := hI
  have hC0 := hC
  obtain ⟨t1, t2, rfl, rfl⟩ := hT
  obtain ⟨hf, rfl, rfl, hF, hB, hU, hVv, hP, hPs, hA, hQc⟩ := hC
  obtain ⟨hh, rfl, hH⟩ := hH
  obtain ⟨q, hq, e1⟩ := low_ok (x9 >>> (12 &&& 31)) (n := 8) (by omega) (by omega)
  have e1 : f_low (x9 >>> (12 &&& 31)) 8 = some (nI q) := e1
  have ez : nI h + 0 = nI h := nI_add h 0
  unfold f_op23
  rw [e1]
  simp only [Option.bind_some]
  unfold f_K23 f_C_openHold f_C_requireNoTransaction f_H_openedTotal
  rcases out_or x10 (n := f) (by omega) with ho | ⟨i, hi, rfl⟩
  · rw [C_requireFile_out ho]
    exact ⟨_, _, _, _, _, _, _, _, _, rfl, Or.inl ⟨by first | exact ng1 | exact ng2 | exact ng3 | exact ng4 | exact ng5, by rw [ez]⟩⟩
  rw [C_requireFile_in hf hi]
  by_cases hq1 : 1 ≤ q
  · have w1 : f_C_requireWithin (nI q) 1 99 = some (.ok ()) := C_within_in (a := 1) (b := 99) hq1 (by omega) (by omega)
    rw [w1]
    rcases (show tr = 0 ∨ tr = 1 by omega) with rfl | rfl
    · obtain ⟨a1, a2⟩ := hA i (by omega)
      have a5 := hV i hi
      rw [S_isAlive_in hi hf a1 a2]
      rcases (show A i = 0 ∨ A i = 1 by omega) with z | z
      · rw [z]
        exact ⟨_, _, _, _, _, _, _, _, _, rfl, Or.inl ⟨by first | exact ng1 | exact ng2 | exact ng3 | exact ng4 | exact ng5, by rw [ez]⟩⟩
      · rw [z]
        by_cases h30 : h = 30
        · subst h30
          exact ⟨_, _, _, _, _, _, _, _, _, rfl, Or.inl ⟨by first | exact ng1 | exact ng2 | exact ng3 | exact ng4 | exact ng5, by rw [ez]⟩⟩
        · have c1 : nI h < (30 : Int32) := (nI_ltI (a := h) (b := 30) (by omega) (by omega)).mpr (by omega)
          have c3 := in_lim (j := h) (n := 30) (by omega) (by omega)
          have w3 : f_H_add (nI i) (nI (d + q)) (nI h) uF uE uN = some (nI h, nI (h + 1), upd uF h (nI i), upd uE h (nI (d + q)), upd uN h 1) := by
            unfold f_H_add
            rw [if_pos c1, if_neg c3, if_neg c3, if_neg c3, nI_clamp (by omega), nI_1, vz1]
          have e2 : ¬ ((nI 1 : Int32) = 0) := by decide
          have e0 : (nI 0 : Int32) = 0 := rfl
          have a9 : ¬ nI h < 0 := nI_pos (by omega)
          have eq1 : nI d + nI q = nI (d + q) := nI_add d q
          simp only [Option.bind_some, e0, e2, if_true, if_false, c1, eq1, w3, a9]
          refine ⟨_, _, _, _, _, _, _, _, _, rfl, Or.inr ⟨a9, k, Qo, t, K, S, W, V, WI, O, f, L, A, B, P, e, h + 1, un HF h i, un HE h (d + q), un HO h 1, 0, d, mn, rfl, i2, rfl, rfl, nI_1 h, by omega, i7, hW, ⟨by omega, t2, rfl, rfl⟩, hS, ⟨by omega, rfl, fun x hx => ?_⟩, hC0, fun y hy => ?_, hSE, SV_0⟩⟩
          · by_cases y : x = h
            · subst y
              simp only [upd_at, un_at]
              exact ⟨(by first | exact trivial | exact rfl), (by first | exact trivial | exact rfl), (by first | exact trivial | exact rfl), by omega, hi, by omega⟩
            · simp only [upd_ne y, un_ne y]
              exact hH x (by omega)
          · rw [hdN_open, hV y hy]
            by_cases w : i = y
            · subst w
              rw [if_pos rfl, ← a5, z, if_neg (by omega)]
            · rw [if_neg w, Nat.add_zero]
    · exact ⟨_, _, _, _, _, _, _, _, _, rfl, Or.inl ⟨by first | exact ng1 | exact ng2 | exact ng3 | exact ng4 | exact ng5, by rw [ez]⟩⟩
  · have w1 : f_C_requireWithin (nI q) 1 99 = some (.error 1) := C_within_no (a := 1) (b := 99) (by omega) (by omega) (by omega) (by omega)
    rw [w1]
    exact ⟨_, _, _, _, _, _, _, _, _, rfl, Or.inl ⟨by first | exact ng1 | exact ng2 | exact ng3 | exact ng4 | exact ng5, by rw [ez]⟩⟩
/-- an open hold ends -/
theorem ENDH (hx : x < h) (h1 : HO x = 1) (hC : CO k t K S O f L A B P e Qo (nI f) nO nL nA nC nV nU nP nE) (hV : ALV f L (hdN h HF HO) A) (hH : HD h f HF HE HO (nI h) uF uE uN) :
    ∃ r nA' nC' nU' A' B', r ≤ 1 ∧ f_C_endHold (nI x) (nI f) nL nA nC nU (nI h) uF uN = some (nI r, nA', nC', nU', upd uN x (nI 0)) ∧ CO k t K S O f L A' B' P e Qo (nI f) nO nL nA' nC' nV nU' nP nE ∧ ALV f L (hdN h HF (un HO x 0)) A' ∧ HD h f HF HE (un HO x 0) (nI h) uF uE (upd uN x (nI 0)) := by
  have hf := hC.1
  obtain ⟨hh, -, hH⟩ := hH
  obtain ⟨b1, b2, b3, b4, b5, b6⟩ := hH x hx
  obtain ⟨l1, l2, l3, l4⟩ := hC.2.2.2.1 (HF x) b5
  have hH2 : HD h f HF HE (un HO x 0) (nI h) uF uE (upd uN x (nI 0)) := by
    refine ⟨hh, rfl, fun y hy => ?_⟩
    obtain ⟨c1, c2, c3, c4, c5, c6⟩ := hH y hy
    refine ⟨c1, c2, upd_un (fun _ => c3), ?_, c5, c6⟩
    by_cases z : y = x
    · rw [z, un_at]
      omega
    · rw [un_ne z]
      exact c4
  obtain ⟨r, nA', nC', nU', A', B', g0, g1, g2, g3, g4⟩ := ABAND (i := HF x) (l := L (HF x)) (uF := uF) (uN := upd uN x (nI 0)) (HF := HF) (HO := un HO x 0) b5 hC hh l3 l4 (HD_h hH2 hf)
  refine ⟨r, nA', nC', nU', A', B', g0, ?_, g2, fun y hy => ?_, hH2⟩
  · unfold f_C_endHold
    rw [H_close_in hx hh, Option.bind_some, H_fileOf_in hx hh, Option.bind_some, b1, g1]
    rfl
  · by_cases z : y = HF x
    · subst z
      have hAx : A (HF x) = 1 := by
        rw [hV _ hy, if_neg]
        rintro ⟨-, w⟩
        have := hdN_close (HF := HF) (y := HF x) hx h1
        rw [if_pos rfl] at this
        omega
      rw [g4, hAx]
    · rw [g3 y z, hV y hy]
      have := hdN_close (HF := HF) (y := y) hx h1
      rw [if_neg (fun w => z w.symm), Nat.add_zero] at this
      rw [this]
theorem op24_ok (hI : INV j x4 x5 x6 x7 nF nO nL nA nC nV nU nP nE bF bO bL bA bC bV bU bP bE cT cO cQ cD pT pK pR pW pU pI pC uO uF uE uN oQ oS) : ∃ y4 y5 y6 y7 y16 nA' nC' nU' uN', f_op24 x4 x5 x6 x7 x9 nF nL nA nC nU cT uO uF uN = some (y4, y5, y6, y7, y16, nA', nC', nU', uN') ∧ (y16 < 0 ∧ (y4, y5, y6, y7, nA', nC', nU', uN') = (x4, x5, x6, x7, nA, nC, nU, uN) ∨ ¬ y16 < 0 ∧ INV (j + 1) y4 y5 y6 y7 nF nO nL nA' nC' nV nU' nP nE bF bO bL bA bC bV bU bP bE cT cO cQ cD pT pK pR pW pU pI pC uO uF uE uN' oQ oS) := by
  obtain ⟨k, Qo, t, K, S, W, V, WI, O, f, L, A, B, P, e, h, HF, HE, HO, tr, d, mn, rfl, i2, rfl, rfl, rfl, i6, i7, hW, hT, hS, hH, hC, hV, hSE, hSV⟩ := hI
  have hC0 := hC
  have hH0 := hH
  obtain ⟨t1, t2, rfl, rfl⟩ := hT
  obtain ⟨hf, rfl, rfl, -⟩ := hC
  obtain ⟨hh, rfl, hH⟩ := hH
  obtain ⟨x, hx, e1⟩ := low_ok (x9 >>> (5 &&& 31)) (n := h + 1) (by omega) (by omega)
  have e1 : f_low (x9 >>> (5 &&& 31)) (nI h + 1) = some (nI x) := by rw [nI_1]; exact e1
  unfold f_op24
  rw [e1]
  simp only [Option.bind_some]
  unfold f_K24 f_C_release f_C_requireNoTransaction
  by_cases hxh : x = h
  · subst hxh
    rw [C_requireHold_out (Or.inr ⟨nI_pos (by omega), nI_le (Nat.le_refl _) (by omega)⟩)]
    exact ⟨_, _, _, _, _, _, _, _, _, rfl, Or.inl ⟨by first | exact ng1 | exact ng2 | exact ng3 | exact ng4 | exact ng5, rfl⟩⟩
  have hx : x < h := by omega
  rw [C_requireHold_in hh hx]
  rcases (show tr = 0 ∨ tr = 1 by omega) with rfl | rfl
  · obtain ⟨b1, b2, b3, b4, b5, b6⟩ := hH x hx
    have e0 : (nI 0 : Int32) = 0 := rfl
    rw [H_isStillOpen_in hh hx b3 b4]
    rcases (show HO x = 0 ∨ HO x = 1 by omega) with z | z
    · rw [z]
      exact ⟨_, _, _, _, _, _, _, _, _, rfl, Or.inl ⟨by first | exact ng1 | exact ng2 | exact ng3 | exact ng4 | exact ng5, rfl⟩⟩
    · have e2 : ¬ ((nI 1 : Int32) = 0) := by decide
      obtain ⟨r, nA', nC', nU', A', B', g0, g1, g2, g3, g4⟩ := ENDH hx z hC0 hV hH0
      have a9 : ¬ nI r < 0 := nI_pos (by omega)
      rw [z]
      simp only [e0, e2, if_true, if_false, g1, Option.bind_some]
      exact ⟨_, _, _, _, _, _, _, _, _, rfl, Or.inr ⟨a9, k, Qo, t, K, S, W, V, WI, O, f, L, A', B', P, e, h, HF, HE, un HO x 0, 0, d, mn, rfl, i2, rfl, rfl, rfl, by omega, i7, hW, ⟨by omega, t2, rfl, rfl⟩, hS, g4, g2, g3, hSE, SV_0⟩⟩
  · exact ⟨_, _, _, _, _, _, _, _, _, rfl, Or.inl ⟨by first | exact ng1 | exact ng2 | exact ng3 | exact ng4 | exact ng5, rfl⟩⟩
theorem PASS {d' : Nat} (hh : h ≤ 30) : ∀ (m i n fu : Nat) (A B HO : Nat → Nat) (nA nC nU uN : Nat → Int32), h - i = m → i ≤ h → 31 + m < fu → CO k t K S O f L A B P e Qo (nI f) nO nL nA nC nV nU nP nE → ALV f L (hdN h HF HO) A → HD h f HF HE HO (nI h) uF uE uN → n ≤ i →
    ∃ n' nA' nC' nU' uN' A' B' HO', f_C_pass_L49 fu (nI n) (nI i) (nI f) nL nA nC nU (nI d') (nI h) uF uE uN = some (nI n', nA', nC', nU', uN') ∧ n' ≤ h ∧ CO k t K S O f L A' B' P e Qo (nI f) nO nL nA' nC' nV nU' nP nE ∧ ALV f L (hdN h HF HO') A' ∧ HD h f HF HE HO' (nI h) uF uE uN' := by
  intro m
  induction m with
  | zero =>
    intro i n fu A B HO nA nC nU uN hm hi hfu hC hV hH hn
    have e : i = h := by omega
    subst e
    exact ⟨n, nA, nC, nU, uN, A, B, HO, C_pass_end hh (Nat.le_refl _) hh fu (by omega), hn, hC, hV, hH⟩
  | succ m ih =>
    intro i n fu A B HO nA nC nU uN hm hi hfu hC hV hH hn
    obtain ⟨b1, b2, b3, b4, b5, b6⟩ := hH.2.2 i (by omega)
    obtain ⟨v, rfl⟩ : ∃ v, fu = v + 1 := ⟨fu - 1, by omega⟩
    have h30 : ¬ (30 : Int32) ≤ nI i := fun q => absurd ((nI_leI (a := 30) (b := i) (by omega) (by omega)).mp q) (by omega)
    rw [f_C_pass_L49, if_neg h30, H_isStillOpen_in hh (by omega) b3 b4, Option.bind_some, H_endOf_in (by omega) hh, b2]
    rcases (show HO i = 0 ∨ HO i = 1 by omega) with z | z
    · have e0 : (nI 0 : Int32) = 0 := rfl
      rw [z, if_pos e0, nI_1]
      exact ih (i + 1) n v A B HO nA nC nU uN (by omega) (by omega) (by omega) hC hV hH (by omega)
    · have e2 : ¬ ((nI 1 : Int32) = 0) := by decide
      rw [z, if_neg e2, Option.bind_some, nI_1]
      by_cases y : nI d' < nI (HE i)
      · rw [if_pos y]
        exact ih (i + 1) n v A B HO nA nC nU uN (by omega) (by omega) (by omega) hC hV hH (by omega)
      · rw [if_neg y]
        obtain ⟨r, nA', nC', nU', A', B', g0, g1, g2, g3, g4⟩ := ENDH (show i < h by omega) z hC hV hH
        rw [g1, Option.bind_some]
        show ∃ n' nA'' nC'' nU'' uN'' A'' B'' HO', f_C_pass_L49 v (nI n + 1) (nI (i + 1)) (nI f) nL nA' nC' nU' (nI d') (nI h) uF uE (upd uN i (nI 0)) = some (nI n', nA'', nC'', nU'', uN'') ∧ _ ∧ _ ∧ _ ∧ _
        rw [nI_1]
        exact ih (i + 1) (n + 1) v A' B' (un HO i 0) nA' nC' nU' (upd uN i (nI 0)) (by omega) (by omega) (by omega) g2 g3 g4 (by omega)
theorem op28_ok (hI : INV j x4 x5 x6 x7 nF nO nL nA nC nV nU nP nE bF bO bL bA bC bV bU bP bE cT cO cQ cD pT pK pR pW pU pI pC uO uF uE uN oQ oS) : ∃ y4 y5 y6 y7 y16 nA' nC' nU' cD' uN', f_op28 x4 x5 x6 x7 x9 nF nL nA nC nU cT cD uO uF uE uN = some (y4, y5, y6, y7, y16, nA', nC', nU', cD', uN') ∧ (y16 < 0 ∧ (y4, y5, y6, y7, nA', nC', nU', cD', uN') = (x4, x5, x6, x7, nA, nC, nU, cD, uN) ∨ ¬ y16 < 0 ∧ INV (j + 1) y4 y5 y6 y7 nF nO nL nA' nC' nV nU' nP nE bF bO bL bA bC bV bU bP bE cT cO cQ cD' pT pK pR pW pU pI pC uO uF uE uN' oQ oS) := by
  obtain ⟨k, Qo, t, K, S, W, V, WI, O, f, L, A, B, P, e, h, HF, HE, HO, tr, d, mn, rfl, i2, rfl, rfl, rfl, i6, i7, hW, hT, hS, hH, hC, hV, hSE, hSV⟩ := hI
  have hC0 := hC
  have hH0 := hH
  obtain ⟨t1, t2, rfl, rfl⟩ := hT
  obtain ⟨hf, rfl, rfl, -⟩ := hC
  obtain ⟨hh, rfl, hH⟩ := hH
  obtain ⟨q, hq, e1⟩ := low_ok (x9 >>> (5 &&& 31)) (n := 6) (by omega) (by omega)
  have e1 : f_low (x9 >>> (5 &&& 31)) 6 = some (nI q) := e1
  unfold f_op28
  rw [e1]
  simp only [Option.bind_some]
  unfold f_K28 f_C_pass f_C_requireNoTransaction
  by_cases hq1 : 1 ≤ q
  · have w1 : f_C_requireWithin (nI q) 1 99 = some (.ok ()) := C_within_in (a := 1) (b := 99) hq1 (by omega) (by omega)
    rw [w1]
    rcases (show tr = 0 ∨ tr = 1 by omega) with rfl | rfl
    · have e0 : (nI 0 : Int32) = 0 := rfl
      simp only [Option.bind_some, e0, if_true, nI_add]
      by_cases z : d + q ≤ 9999
      · obtain ⟨n', nA', nC', nU', uN', A', B', HO', g1, g0, g3, g4, g5⟩ := PASS (d' := d + q) hh h 0 0 FU A B HO nA nC nU uN rfl (Nat.zero_le _) (show 31 + h < 100000 by omega) hC0 hV hH0 (Nat.le_refl _)
        have z2 : nI (d + q) ≤ (9999 : Int32) := (nI_leI (a := d + q) (b := 9999) (by omega) (by omega)).mpr z
        have g1 : f_C_pass_L49 FU 0 0 (nI f) nL nA nC nU (nI (d + q)) (nI h) uF uE uN = some (nI n', nA', nC', nU', uN') := g1
        have a9 : ¬ nI n' < 0 := nI_pos (by omega)
        simp only [z2, if_true, g1, Option.bind_some]
        exact ⟨_, _, _, _, _, _, _, _, _, _, rfl, Or.inr ⟨a9, k, Qo, t, K, S, W, V, WI, O, f, L, A', B', P, e, h, HF, HE, HO', 0, d + q, mn, rfl, i2, rfl, rfl, rfl, by omega, i7, hW, ⟨by omega, z, rfl, rfl⟩, hS, g5, g3, g4, hSE, SV_0⟩⟩
      · have z2 : ¬ nI (d + q) ≤ (9999 : Int32) := fun w => z ((nI_leI (a := d + q) (b := 9999) (by omega) (by omega)).mp w)
        simp only [z2, if_false]
        exact ⟨_, _, _, _, _, _, _, _, _, _, rfl, Or.inl ⟨by first | exact ng1 | exact ng2 | exact ng3 | exact ng4 | exact ng5, rfl⟩⟩
    · exact ⟨_, _, _, _, _, _, _, _, _, _, rfl, Or.inl ⟨by first | exact ng1 | exact ng2 | exact ng3 | exact ng4 | exact ng5, rfl⟩⟩
  · have w1 : f_C_requireWithin (nI q) 1 99 = some (.error 1) := C_within_no (a := 1) (b := 99) (by omega) (by omega) (by omega) (by omega)
    rw [w1]
    exact ⟨_, _, _, _, _, _, _, _, _, _, rfl, Or.inl ⟨by first | exact ng1 | exact ng2 | exact ng3 | exact ng4 | exact ng5, rfl⟩⟩
end OPSE
