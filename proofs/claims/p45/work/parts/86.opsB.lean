/-! EACH SORT OF CALL, II: holes, links, promises -/
section OPSB
variable {j k t f e h i x b s mn : Nat} {K S W V WI O L A B P Qo HF HE HO : Nat → Nat} {x4 x5 x6 x7 x9 x10 x11 x12 x16 nF nE bF bE cT cO cD pT pK uO : Int32} {x8 : Int32} {x14 : Int64} {nO nL nA nC nV nU nP bO bL bA bC bV bU bP cK cQ pR pW pU pI uF uE uN oQ oS : Nat → Int32} {pC : Nat → Nat → Int32}
theorem op7_ok (hj : j ≤ 500) (hI : INV j x4 x5 x6 x7 nF nO nL nA nC nV nU nP nE bF bO bL bA bC bV bU bP bE cT cO cQ cD pT pK pR pW pU pI pC uO uF uE uN oQ oS) : ∃ y4 y5 y6 y7 y16 nC' nU' nE' cK', f_op7 x4 x5 x6 x7 x10 x12 nF nL nC nV nU nE cK = some (y4, y5, y6, y7, y16, nC', nU', nE', cK') ∧ (y16 < 0 ∧ (y4, y5, y6, y7, nC', nU', nE') = (x4, x5, x6, x7, nC, nU, nE) ∨ ¬ y16 < 0 ∧ INV (j + 1) y4 y5 y6 y7 nF nO nL nA nC' nV nU' nP nE' bF bO bL bA bC bV bU bP bE cT cO cQ cD pT pK pR pW pU pI pC uO uF uE uN oQ oS) := by
  obtain ⟨k, Qo, t, K, S, W, V, WI, O, f, L, A, B, P, e, h, HF, HE, HO, tr, d, mn, rfl, i2, rfl, rfl, rfl, i6, i7, hW, hT, hS, hH, hC, hV, hSE, hSV⟩ := hI
  have hC0 := hC
  have hBL := CO_BL hC
  have ht := SN_t hS
  obtain ⟨hf, rfl, rfl, hF, hB, hU, hVv, hP, hPs, hA, hQc⟩ := hC
  unfold f_op7 f_K7 f_C_punch
  rcases out_or x10 (n := f) (by omega) with ho | ⟨i, hi, rfl⟩
  · rw [C_requireFile_out ho]
    exact ⟨_, _, _, _, _, _, _, _, _, rfl, Or.inl ⟨by first | exact ng1 | exact ng2 | exact ng3 | exact ng4 | exact ng5, rfl⟩⟩
  rcases out_or x12 (n := 16) (by omega) with ho | ⟨x, hx, rfl⟩
  · rw [C_requireFile_in hf hi, C_requirePlace_out ho]
    exact ⟨_, _, _, _, _, _, _, _, _, rfl, Or.inl ⟨by first | exact ng1 | exact ng2 | exact ng3 | exact ng4 | exact ng5, rfl⟩⟩
  obtain ⟨a1, a2, a3, a5⟩ := hF i hi
  obtain ⟨b1, b3, b4⟩ := hB (i * 16 + x) (by omega)
  rw [C_requireFile_in hf hi, C_requirePlace_in hx, C_requireLinks_ok hf hi a3 a5, S_blockIn_in hi hf hx, b1]
  by_cases q0 : L i = 0
  · rw [q0]
    exact ⟨_, _, _, _, _, _, _, _, _, rfl, Or.inl ⟨by first | exact ng1 | exact ng2 | exact ng3 | exact ng4 | exact ng5, rfl⟩⟩
  rw [if_neg q0]
  by_cases qb : B (i * 16 + x) = 0
  · rw [qb]
    exact ⟨_, _, _, _, _, _, _, _, _, rfl, Or.inl ⟨by first | exact ng1 | exact ng2 | exact ng3 | exact ng4 | exact ng5, rfl⟩⟩
  obtain ⟨b, hb⟩ : ∃ b, B (i * 16 + x) = b + 1 := ⟨B (i * 16 + x) - 1, by omega⟩
  have e6 : ¬ nI b = -1 := ne_m1 (by omega)
  have a9 : ¬ nI b < 0 := nI_pos (by omega)
  have w1 : f_C_note 104 (nI e) cK = some (nI (e + 1), upd cK e (nI 104)) := C_note_ok (c := 104) (by omega) (by omega)
  obtain ⟨u', g1, g2, g3⟩ := setB (q := x) (v := 0) (B := B) (K := K) (S := S) (t := t) (nU := nU) hi hf hx hBL hU (by omega)
  have g1 : f_S_setBlock (nI i) (nI x) (-1) (nI f) nC nU = some (upd nC (i * 16 + x) (nI 0 - 1), u') := g1
  have v8 : f_K8 (nI i) (nI x) (nI f) (upd nC (i * 16 + x) (nI 0 - 1)) nV = some (-1005) := by
    rw [K8_in hf hi hx g2]
    unfold vlN
    rw [un_at, if_pos rfl]
  have hsub : ∀ y, y < 640 → un B (i * 16 + x) 0 y = B y ∨ un B (i * 16 + x) 0 y = 0 := fun y _ => by
    by_cases z : y = i * 16 + x
    · rw [z, un_at]
      exact Or.inr rfl
    · rw [un_ne z]
      exact Or.inl rfl
  have hC1 := CO_e (CO_sub hC0 hsub g2 g3 (fun y hy hne => by
    rcases hsub y hy with z | z
    · rw [z] at hne
      exact (hB y hy).2.2 hne
    · exact absurd z hne) hA (fun b _ => usr_sub hsub b)) (e + 1)
  rw [hb, nI_pred]
  simp only [Option.bind_some, e6, if_false, if_true, g1, w1, a9, v8]
  exact ⟨_, _, _, _, _, _, _, _, _, rfl, Or.inr ⟨a9, k, Qo, t, K, S, W, V, WI, O, f, L, A, un B (i * 16 + x) 0, P, e + 1, h, HF, HE, HO, tr, d, mn, rfl, i2, rfl, rfl, rfl, by omega, i7, hW, hT, hS, hH, hC1, hV, hSE, SV_weak hSV (by omega) (by omega)⟩⟩
theorem op4_ok (hj : j ≤ 500) (hI : INV j x4 x5 x6 x7 nF nO nL nA nC nV nU nP nE bF bO bL bA bC bV bU bP bE cT cO cQ cD pT pK pR pW pU pI pC uO uF uE uN oQ oS) : ∃ y4 y5 y6 y7 y16 nL' nE' cK', f_op4 x4 x5 x6 x7 x10 nF nL nE cK = some (y4, y5, y6, y7, y16, nL', nE', cK') ∧ (y16 < 0 ∧ (y4, y5, y6, y7, nL', nE') = (x4, x5, x6, x7, nL, nE) ∨ ¬ y16 < 0 ∧ INV (j + 1) y4 y5 y6 y7 nF nO nL' nA nC nV nU nP nE' bF bO bL bA bC bV bU bP bE cT cO cQ cD pT pK pR pW pU pI pC uO uF uE uN oQ oS) := by
  obtain ⟨k, Qo, t, K, S, W, V, WI, O, f, L, A, B, P, e, h, HF, HE, HO, tr, d, mn, rfl, i2, rfl, rfl, rfl, i6, i7, hW, hT, hS, hH, hC, hV, hSE, hSV⟩ := hI
  have hC0 := hC
  obtain ⟨hf, rfl, rfl, hF, -⟩ := hC
  unfold f_op4 f_K4 f_C_link
  rcases out_or x10 (n := f) (by omega) with ho | ⟨i, hi, rfl⟩
  · rw [C_requireFile_out ho]
    exact ⟨_, _, _, _, _, _, _, _, rfl, Or.inl ⟨by first | exact ng1 | exact ng2 | exact ng3 | exact ng4 | exact ng5, rfl⟩⟩
  obtain ⟨a1, a2, a3, a5⟩ := hF i hi
  rw [C_requireFile_in hf hi, C_requireLinks_ok hf hi a3 a5, S_linkTotal_in hi hf, a3]
  by_cases q0 : L i = 0
  · rw [q0]
    exact ⟨_, _, _, _, _, _, _, _, rfl, Or.inl ⟨by first | exact ng1 | exact ng2 | exact ng3 | exact ng4 | exact ng5, rfl⟩⟩
  rw [if_neg q0]
  by_cases q9 : L i = 9
  · rw [q9]
    exact ⟨_, _, _, _, _, _, _, _, rfl, Or.inl ⟨by first | exact ng1 | exact ng2 | exact ng3 | exact ng4 | exact ng5, rfl⟩⟩
  have e4 : nI (L i) < 9 := (nI_ltI (a := L i) (b := 9) (by omega) (by omega)).mpr (by omega)
  have w1 : f_C_note 108 (nI e) cK = some (nI (e + 1), upd cK e (nI 108)) := C_note_ok (c := 108) (by omega) (by omega)
  have a9 : ¬ nI (L i + 1) < 0 := nI_pos (by omega)
  simp only [Option.bind_some, e4, if_true, if_false, nI_1, S_setLinks_in hi hf, w1]
  refine ⟨_, _, _, _, _, _, _, _, rfl, Or.inr ⟨a9, k, Qo, t, K, S, W, V, WI, O, f, un L i (L i + 1), A, B, P, e + 1, h, HF, HE, HO, tr, d, mn, rfl, i2, rfl, rfl, rfl, by omega, i7, hW, hT, hS, hH, CO_e (CO_links hC0 (by omega)) (e + 1), fun x hx => ?_, hSE, SV_weak hSV (by omega) (by omega)⟩⟩
  by_cases q : x = i
  · subst q
    rw [un_at, hV x hx, if_neg (by omega), if_neg (by omega)]
  · rw [un_ne q]
    exact hV x hx
theorem op5_ok (hj : j ≤ 500) (hI : INV j x4 x5 x6 x7 nF nO nL nA nC nV nU nP nE bF bO bL bA bC bV bU bP bE cT cO cQ cD pT pK pR pW pU pI pC uO uF uE uN oQ oS) : ∃ y4 y5 y6 y7 y16 nL' nA' nC' nU' nE' cK', f_op5 x4 x5 x6 x7 x10 nF nL nA nC nU nE cK uO uF uN = some (y4, y5, y6, y7, y16, nL', nA', nC', nU', nE', cK') ∧ (y16 < 0 ∧ (y4, y5, y6, y7, nL', nA', nC', nU', nE') = (x4, x5, x6, x7, nL, nA, nC, nU, nE) ∨ ¬ y16 < 0 ∧ INV (j + 1) y4 y5 y6 y7 nF nO nL' nA' nC' nV nU' nP nE' bF bO bL bA bC bV bU bP bE cT cO cQ cD pT pK pR pW pU pI pC uO uF uE uN oQ oS) := by
  obtain ⟨k, Qo, t, K, S, W, V, WI, O, f, L, A, B, P, e, h, HF, HE, HO, tr, d, mn, rfl, i2, rfl, rfl, rfl, i6, i7, hW, hT, hS, hH, hC, hV, hSE, hSV⟩ := hI
  have hC0 := hC
  have hH0 := hH
  obtain ⟨hf, rfl, rfl, hF, -⟩ := hC
  have hH1 := HD_h hH hf
  obtain ⟨hh, rfl, hH⟩ := hH
  unfold f_op5 f_K5 f_C_unlink
  rcases out_or x10 (n := f) (by omega) with ho | ⟨i, hi, rfl⟩
  · rw [C_requireFile_out ho]
    exact ⟨_, _, _, _, _, _, _, _, _, _, _, rfl, Or.inl ⟨by first | exact ng1 | exact ng2 | exact ng3 | exact ng4 | exact ng5, rfl⟩⟩
  obtain ⟨a1, a2, a3, a5⟩ := hF i hi
  rw [C_requireFile_in hf hi, C_requireLinks_ok hf hi a3 a5, S_linkTotal_in hi hf, a3]
  by_cases q0 : L i = 0
  · rw [q0]
    exact ⟨_, _, _, _, _, _, _, _, _, _, _, rfl, Or.inl ⟨by first | exact ng1 | exact ng2 | exact ng3 | exact ng4 | exact ng5, rfl⟩⟩
  rw [if_neg q0]
  have e4 : nI (L i) - 1 = nI (L i - 1) := pk_sub (a := L i) (b := 1) (by omega)
  have w1 : f_C_note 117 (nI e) cK = some (nI (e + 1), upd cK e (nI 117)) := C_note_ok (c := 117) (by omega) (by omega)
  have a9 : ¬ nI (L i - 1) < 0 := nI_pos (by omega)
  obtain ⟨r, nA', nC', nU', A', B', hr, g1, g2, g3, g4⟩ := ABAND (l := L i - 1) hi (CO_links (i := i) (l := L i - 1) hC0 (by omega)) hh upd_at (by omega) hH1
  simp only [Option.bind_some, e4, S_setLinks_in hi hf, g1, w1]
  refine ⟨_, _, _, _, _, _, _, _, _, _, _, rfl, Or.inr ⟨a9, k, Qo, t, K, S, W, V, WI, O, f, un L i (L i - 1), A', B', P, e + 1, h, HF, HE, HO, tr, d, mn, rfl, i2, rfl, rfl, rfl, by omega, i7, hW, hT, hS, hH0, CO_e g2 (e + 1), fun x hx => ?_, hSE, SV_weak hSV (by omega) (by omega)⟩⟩
  by_cases q : x = i
  · subst q
    rw [un_at, g4, show A x = 1 by rw [hV x hx, if_neg (fun z => q0 z.1)]]
  · rw [un_ne q, g3 x q]
    exact hV x hx
theorem op16_ok (hj : j ≤ 500) (hI : INV j x4 x5 x6 x7 nF nO nL nA nC nV nU nP nE bF bO bL bA bC bV bU bP bE cT cO cQ cD pT pK pR pW pU pI pC uO uF uE uN oQ oS) : ∃ y4 y5 y6 y7 y16 nP' nE' cK', f_op16 x4 x5 x6 x7 x11 nP nE cK cO = some (y4, y5, y6, y7, y16, nP', nE', cK') ∧ (y16 < 0 ∧ (y4, y5, y6, y7, nP', nE') = (x4, x5, x6, x7, nP, nE) ∨ ¬ y16 < 0 ∧ INV (j + 1) y4 y5 y6 y7 nF nO nL nA nC nV nU nP' nE' bF bO bL bA bC bV bU bP bE cT cO cQ cD pT pK pR pW pU pI pC uO uF uE uN oQ oS) := by
  obtain ⟨k, Qo, t, K, S, W, V, WI, O, f, L, A, B, P, e, h, HF, HE, HO, tr, d, mn, rfl, i2, rfl, rfl, rfl, i6, i7, hW, hT, hS, hH, hC, hV, hSE, hSV⟩ := hI
  have hW0 := hW
  obtain ⟨hk, rfl, hQ⟩ := hW
  have hC0 := hC
  obtain ⟨hf, rfl, rfl, hF, hB, hU, hVv, hP, hPs, hA, hQc⟩ := hC
  unfold f_op16 f_K16 f_C_giveBack
  rcases out_or x11 (n := k) (by omega) with ho | ⟨o, ho, rfl⟩
  · rw [C_requireOwner_out hk ho]
    exact ⟨_, _, _, _, _, _, _, _, rfl, Or.inl ⟨by first | exact ng1 | exact ng2 | exact ng3 | exact ng4 | exact ng5, rfl⟩⟩
  obtain ⟨a1, a2⟩ := hP o (by omega)
  rw [C_requireOwner_in hk ho, S_promisedFor_in (by omega), a1]
  by_cases q0 : P o = 0
  · rw [q0]
    exact ⟨_, _, _, _, _, _, _, _, rfl, Or.inl ⟨by first | exact ng1 | exact ng2 | exact ng3 | exact ng4 | exact ng5, rfl⟩⟩
  have e3 : ¬ nI (P o) = 0 := nI_ne0 (by omega) (by omega)
  have a9 : ¬ nI (P o) < 0 := nI_pos (by omega)
  have w1 : f_C_note 103 (nI e) cK = some (nI (e + 1), upd cK e (nI 103)) := C_note_ok (c := 103) (by omega) (by omega)
  simp only [Option.bind_some, e3, if_false, S_setPromised_in (show o < 4 by omega), w1]
  have hs := sm4_un (P := P) (o := o) (q := 0) (by omega)
  exact ⟨_, _, _, _, _, _, _, _, rfl, Or.inr ⟨a9, k, Qo, t, K, S, W, V, WI, O, f, L, A, B, un P o 0, e + 1, h, HF, HE, HO, tr, d, mn, rfl, i2, rfl, rfl, rfl, by omega, i7, hW0, hT, hS, hH, CO_e (CO_prom (o := o) (q := 0) hC0 (by omega) (by omega)) (e + 1), hV, hSE, SV_weak hSV (by omega) (by omega)⟩⟩
theorem op14_ok (hj : j ≤ 500) (hI : INV j x4 x5 x6 x7 nF nO nL nA nC nV nU nP nE bF bO bL bA bC bV bU bP bE cT cO cQ cD pT pK pR pW pU pI pC uO uF uE uN oQ oS) : ∃ y4 y5 y6 y7 y16 nP' nE' cK', f_op14 x4 x5 x6 x7 x9 x11 nU nP nE cK cO = some (y4, y5, y6, y7, y16, nP', nE', cK') ∧ (y16 < 0 ∧ (y4, y5, y6, y7, nP', nE') = (x4, x5, x6, x7, nP, nE) ∨ ¬ y16 < 0 ∧ INV (j + 1) y4 y5 y6 y7 nF nO nL nA nC nV nU nP' nE' bF bO bL bA bC bV bU bP bE cT cO cQ cD pT pK pR pW pU pI pC uO uF uE uN oQ oS) := by
  obtain ⟨k, Qo, t, K, S, W, V, WI, O, f, L, A, B, P, e, h, HF, HE, HO, tr, d, mn, rfl, i2, rfl, rfl, rfl, i6, i7, hW, hT, hS, hH, hC, hV, hSE, hSV⟩ := hI
  have hW0 := hW
  obtain ⟨hk, rfl, hQ⟩ := hW
  have hC0 := hC
  have ht := SN_t hS
  obtain ⟨hf, rfl, rfl, hF, hB, hU, hVv, hP, hPs, hA, hQc⟩ := hC
  obtain ⟨q, hq, e1⟩ := low_ok (x9 >>> (8 &&& 31)) (n := 9) (by omega) (by omega)
  have e1 : f_low (x9 >>> (8 &&& 31)) 9 = some (nI q) := e1
  unfold f_op14
  rw [e1]
  simp only [Option.bind_some]
  unfold f_K14 f_C_promise
  rcases out_or x11 (n := k) (by omega) with ho | ⟨o, ho, rfl⟩
  · rw [C_requireOwner_out hk ho]
    exact ⟨_, _, _, _, _, _, _, _, rfl, Or.inl ⟨by first | exact ng1 | exact ng2 | exact ng3 | exact ng4 | exact ng5, rfl⟩⟩
  obtain ⟨a1, a2⟩ := hP o (by omega)
  rw [C_requireOwner_in hk ho]
  by_cases q1 : 1 ≤ q
  · have w1 : f_C_requireWithin (nI q) 1 64 = some (.ok ()) := C_within_in (a := 1) (b := 64) q1 (by omega) (by omega)
    have hfr := frN_le t B K S
    rw [w1, C_freeN ht hU, S_promisedInAll_ok (fun o ho => ⟨(hP o ho).1, (hP o ho).2⟩)]
    simp only [Option.bind_some]
    by_cases hle : nI q ≤ nI (frN t B K S) - nI (sm P 4)
    · have hle2 : q + sm P 4 ≤ frN t B K S := by
        have z := Int32.le_iff_toInt_le.mp hle
        rw [nI_toInt (by omega), pk_sub_toInt (by omega) (by omega)] at z
        omega
      have hs := sm4_un (P := P) (o := o) (q := P o + q) (by omega)
      have w3 : f_C_note 112 (nI e) cK = some (nI (e + 1), upd cK e (nI 112)) := C_note_ok (c := 112) (by omega) (by omega)
      have hPo : P o + q ≤ 64 := by
        have z := sm_upd (f := un P o 0) (g := P) (n := 4) (k := o) (by omega) (fun i _ hne => un_ne hne)
        rw [un_at] at z
        omega
      have a9 : ¬ nI (P o + q) < 0 := nI_pos (by omega)
      simp only [hle, if_true, S_promisedFor_in (show o < 4 by omega), a1, nI_add, S_setPromised_in (show o < 4 by omega), w3, Option.bind_some]
      exact ⟨_, _, _, _, _, _, _, _, rfl, Or.inr ⟨a9, k, Qo, t, K, S, W, V, WI, O, f, L, A, B, un P o (P o + q), e + 1, h, HF, HE, HO, tr, d, mn, rfl, i2, rfl, rfl, rfl, by omega, i7, hW0, hT, hS, hH, CO_e (CO_prom (o := o) (q := P o + q) hC0 hPo (by omega)) (e + 1), hV, hSE, SV_weak hSV (by omega) (by omega)⟩⟩
    · rw [if_neg hle]
      exact ⟨_, _, _, _, _, _, _, _, rfl, Or.inl ⟨by first | exact ng1 | exact ng2 | exact ng3 | exact ng4 | exact ng5, rfl⟩⟩
  · have w1 : f_C_requireWithin (nI q) 1 64 = some (.error 1) := C_within_no (a := 1) (b := 64) (by omega) (by omega) (by omega) (by omega)
    rw [w1]
    exact ⟨_, _, _, _, _, _, _, _, rfl, Or.inl ⟨by first | exact ng1 | exact ng2 | exact ng3 | exact ng4 | exact ng5, rfl⟩⟩
end OPSB
