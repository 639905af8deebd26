/-! EACH SORT OF CALL, III: snapshots taken and dropped -/
section OPSC
variable {j k t f e h i x b s mn : Nat} {K S W V WI O L A B P Qo HF HE HO : Nat → Nat} {x4 x5 x6 x7 x9 x10 x11 x12 x16 nF nE bF bE cT cO cD pT pK uO : Int32} {x8 : Int32} {x14 : Int64} {nO nL nA nC nV nU nP bO bL bA bC bV bU bP cK cQ pR pW pU pI uF uE uN oQ oS : Nat → Int32} {pC : Nat → Nat → Int32}
/-- what was noted stays true when a snapshot is added -/
theorem SE_add (hSE : SE mn t K S WI nV oS) : SE mn (t + 1) (un K t 1) (shN t B S) (waN t f A WI) nV oS := fun q hq => by
  obtain ⟨s, i, x, g1, g2, g3, hs, hi, hx, hv⟩ := hSE q hq
  refine ⟨s, i, x, g1, g2, g3, by omega, hi, hx, fun hk => ?_⟩
  rw [un_ne (by omega)] at hk
  rw [hv hk]
  have e1 : shN t B S (640 * s + (i * 16 + x)) = S (640 * s + (i * 16 + x)) := if_neg (by omega)
  have e2 : waN t f A WI (40 * s + i) = WI (40 * s + i) := if_neg (by omega)
  unfold rdN
  rw [e1, e2]
/-- a snapshot tells what the files tell -/
theorem rd_new (hi : i < f) (hi4 : f ≤ 40) (hx : x < 16) (hB : ∀ x, x < 640 → B x ≠ 0 → A (x / 16) = 1) : rdN (shN t B S) (waN t f A WI) nV t i x = vlN B nV i x := by
  have e1 : shN t B S (640 * t + (i * 16 + x)) = B (i * 16 + x) := by
    unfold shN
    rw [if_pos (by omega), show 640 * t + (i * 16 + x) - 640 * t = i * 16 + x by omega]
  have e2 : waN t f A WI (40 * t + i) = A i := by
    unfold waN
    rw [if_pos (by omega), show 40 * t + i - 40 * t = i by omega]
  unfold rdN vlN
  rw [e1, e2]
  by_cases z : B (i * 16 + x) = 0
  · rw [if_pos z]
    by_cases y : A i = 1
    · rw [if_pos y]
    · rw [if_neg y]
  · have h := hB (i * 16 + x) (by omega) z
    rw [blk_div hi hx] at h
    rw [if_pos h]
theorem upd4 {m a : Nat} {v0 v1 v2 v3 : Int32} (ha : a + 3 < m) : upd (upd (upd (upd oS m v0) (m + 1) v1) (m + 2) v2) (m + 3) v3 a = oS a ∧ upd (upd (upd (upd oS m v0) (m + 1) v1) (m + 2) v2) (m + 3) v3 (a + 1) = oS (a + 1) ∧ upd (upd (upd (upd oS m v0) (m + 1) v1) (m + 2) v2) (m + 3) v3 (a + 2) = oS (a + 2) ∧ upd (upd (upd (upd oS m v0) (m + 1) v1) (m + 2) v2) (m + 3) v3 (a + 3) = oS (a + 3) := by
  refine ⟨?_, ?_, ?_, ?_⟩
  · rw [upd_ne (by omega), upd_ne (by omega), upd_ne (by omega), upd_ne (by omega)]
  · rw [upd_ne (by omega), upd_ne (by omega), upd_ne (by omega), upd_ne (by omega)]
  · rw [upd_ne (by omega), upd_ne (by omega), upd_ne (by omega), upd_ne (by omega)]
  · rw [upd_ne (by omega), upd_ne (by omega), upd_ne (by omega), upd_ne (by omega)]
theorem SE_note (hSE : SE mn t K S WI nV oS) (hs : s < t) (hi : i < 40) (hx : x < 16) : SE (mn + 1) t K S WI nV (upd (upd (upd (upd oS (4 * mn) (nI s)) (4 * mn + 1) (nI i)) (4 * mn + 2) (nI x)) (4 * mn + 3) (rdN S WI nV s i x)) := fun q hq => by
  by_cases z : q = mn
  · rw [z]
    refine ⟨s, i, x, ?_, ?_, ?_, hs, hi, hx, fun _ => upd_at⟩
    · rw [upd_ne (by omega), upd_ne (by omega), upd_ne (by omega), upd_at]
    · rw [upd_ne (by omega), upd_ne (by omega), upd_at]
    · rw [upd_ne (by omega), upd_at]
  · obtain ⟨s', i', x', g1, g2, g3, g⟩ := hSE q (by omega)
    obtain ⟨u1, u2, u3, u4⟩ := upd4 (oS := oS) (m := 4 * mn) (a := 4 * q) (v0 := nI s) (v1 := nI i) (v2 := nI x) (v3 := rdN S WI nV s i x) (by omega)
    rw [u1, u2, u3, u4]
    exact ⟨s', i', x', g1, g2, g3, g⟩
theorem op17_none {fu : Nat} (hf0 : f = 0) : f_op17_L506 (fu + 1) x4 x5 x6 x7 x8 x9 x14 (nI t) 0 (nI f) nC nV pT pW pI pC oS = some (x4, oS) := by
  have a1 : ¬ (4 : Int32) ≤ 0 := by decide
  have a2 : nI f ≤ (0 : Int32) := by rw [hf0]; decide
  rw [f_op17_L506, if_neg a1, fileCount_ok]
  simp only [Option.bind_some]
  rw [if_pos a2]
theorem op17_step {fu q n : Nat} (hn : n < 120) (hq : q < 4) (hf0 : f ≠ 0) (hS' : SN (t + 1) (un K t 1) (shN t B S) W V (waN t f A WI) pT pK pR pW pU pI pC) (hf : f ≤ 40) (hBL : BL B nC) (hB : ∀ x, x < 640 → B x ≠ 0 → A (x / 16) = 1) : ∃ i x, i < f ∧ x < 16 ∧ f_op17_L506 (fu + 1) (nI n) x5 x6 x7 x8 x9 x14 (nI t) (nI q) (nI f) nC nV pT pW pI pC oS = f_op17_L506 fu (nI (n + 1)) x5 x6 x7 x8 x9 x14 (nI t) (nI (q + 1)) (nI f) nC nV pT pW pI pC (upd (upd (upd (upd oS (4 * n) (nI t)) (4 * n + 1) (nI i)) (4 * n + 2) (nI x)) (4 * n + 3) (vlN B nV i x)) := by
  have a1 : ¬ (4 : Int32) ≤ nI q := fun z => absurd ((nI_leI (a := 4) (b := q) (by omega) (by omega)).mp z) (by omega)
  have a2 : ¬ nI f ≤ (0 : Int32) := nI_nle (by omega) (by omega)
  obtain ⟨i, hi, ei⟩ := low_ok (x9 >>> ((3 * nI q) &&& 31)) (n := f) (by omega) (by omega)
  obtain ⟨x, hx, ex⟩ := low_ok (x9 >>> ((5 + nI q) &&& 31)) (n := 16) (by omega) (by omega)
  have ex : f_low (x9 >>> ((5 + nI q) &&& 31)) 16 = some (nI x) := ex
  have e19 := K19_in (nV := nV) (i := i) (x := x) hS' (show t < t + 1 by omega) hf hi hx
  rw [un_at, if_pos rfl, rd_new hi hf hx hB] at e19
  have m4 : (4 : Int32) * nI n = nI (4 * n) := pk_mul 4 n
  have b0 := in_l2 (j := 4 * n) (n := 520) (by omega) (by omega)
  have b1 := in_l2 (j := 4 * n + 1) (n := 520) (by omega) (by omega)
  have b2 := in_l2 (j := 4 * n + 2) (n := 520) (by omega) (by omega)
  have b3 := in_l2 (j := 4 * n + 3) (n := 520) (by omega) (by omega)
  have c1 : nI (4 * n) + 1 = nI (4 * n + 1) := nI_add _ 1
  have c2 : nI (4 * n) + 2 = nI (4 * n + 2) := nI_add _ 2
  have c3 : nI (4 * n) + 3 = nI (4 * n + 3) := nI_add _ 3
  have d0 := nI_clamp (show 4 * n < 2 ^ 31 by omega)
  have d1 := nI_clamp (show 4 * n + 1 < 2 ^ 31 by omega)
  have d2 := nI_clamp (show 4 * n + 2 < 2 ^ 31 by omega)
  have d3 := nI_clamp (show 4 * n + 3 < 2 ^ 31 by omega)
  refine ⟨i, x, hi, hx, ?_⟩
  rw [f_op17_L506, if_neg a1, fileCount_ok]
  simp only [Option.bind_some]
  rw [if_neg a2, ei, ex]
  simp only [Option.bind_some]
  rw [K8_in hf hi hx hBL]
  simp only [Option.bind_some]
  rw [e19]
  simp only [Option.bind_some, if_true]
  rw [m4, c1, c2, c3, d0, d1, d2, d3, if_neg b0, if_neg b1, if_neg b2, if_neg b3, nI_1, nI_1]
theorem op17_loop {n5 : Nat} (h5 : n5 = 5) (ht : t < 30) (hmn : mn ≤ 4 * t) (hS' : SN (t + 1) (un K t 1) (shN t B S) W V (waN t f A WI) pT pK pR pW pU pI pC) (hf : f ≤ 40) (hBL : BL B nC) (hB : ∀ x, x < 640 → B x ≠ 0 → A (x / 16) = 1) (hSE : SE mn (t + 1) (un K t 1) (shN t B S) (waN t f A WI) nV oS) : ∃ mn' oS', f_op17_L506 n5 (nI mn) x5 x6 x7 x8 x9 x14 (nI t) 0 (nI f) nC nV pT pW pI pC oS = some (nI mn', oS') ∧ mn' ≤ 4 * (t + 1) ∧ SE mn' (t + 1) (un K t 1) (shN t B S) (waN t f A WI) nV oS' := by
  obtain ⟨v1, rfl⟩ : ∃ v, n5 = v + 1 := ⟨n5 - 1, by omega⟩
  by_cases hf0 : f = 0
  · exact ⟨mn, oS, op17_none hf0, by omega, hSE⟩
  · have hstep : ∀ (fu n q : Nat) (oS : Nat → Int32), n = mn + q → q < 4 → SE n (t + 1) (un K t 1) (shN t B S) (waN t f A WI) nV oS → ∃ oS', f_op17_L506 (fu + 1) (nI n) x5 x6 x7 x8 x9 x14 (nI t) (nI q) (nI f) nC nV pT pW pI pC oS = f_op17_L506 fu (nI (n + 1)) x5 x6 x7 x8 x9 x14 (nI t) (nI (q + 1)) (nI f) nC nV pT pW pI pC oS' ∧ SE (n + 1) (t + 1) (un K t 1) (shN t B S) (waN t f A WI) nV oS' := by
      intro fu n q oS hn hq hSE
      obtain ⟨i, x, hi, hx, e⟩ := op17_step (x5 := x5) (x6 := x6) (x7 := x7) (x8 := x8) (x9 := x9) (x14 := x14) (oS := oS) (nV := nV) (fu := fu) (show n < 120 by omega) hq hf0 hS' hf hBL hB
      have hN := SE_note (s := t) (i := i) (x := x) hSE (by omega) (by omega) hx
      rw [rd_new hi hf hx hB] at hN
      exact ⟨_, e, hN⟩
    obtain ⟨v2, rfl⟩ : ∃ v, v1 = v + 1 := ⟨v1 - 1, by omega⟩
    obtain ⟨v3, rfl⟩ : ∃ v, v2 = v + 1 := ⟨v2 - 1, by omega⟩
    obtain ⟨v4, rfl⟩ : ∃ v, v3 = v + 1 := ⟨v3 - 1, by omega⟩
    obtain ⟨v5, rfl⟩ : ∃ v, v4 = v + 1 := ⟨v4 - 1, by omega⟩
    obtain ⟨s1, e1, h1⟩ := hstep (v5 + 1 + 1 + 1 + 1) mn 0 oS rfl (by omega) hSE
    obtain ⟨s2, e2, h2⟩ := hstep (v5 + 1 + 1 + 1) (mn + 1) 1 s1 rfl (by omega) h1
    obtain ⟨s3, e3, h3⟩ := hstep (v5 + 1 + 1) (mn + 1 + 1) 2 s2 rfl (by omega) h2
    obtain ⟨s4, e4, h4⟩ := hstep (v5 + 1) (mn + 1 + 1 + 1) 3 s3 rfl (by omega) h3
    refine ⟨mn + 1 + 1 + 1 + 1, s4, ?_, by omega, h4⟩
    have e0 : (0 : Int32) = nI 0 := rfl
    have e5 : f_op17_L506 (v5 + 1) (nI (mn + 1 + 1 + 1 + 1)) x5 x6 x7 x8 x9 x14 (nI t) (nI (3 + 1)) (nI f) nC nV pT pW pI pC s4 = some (nI (mn + 1 + 1 + 1 + 1), s4) := by
      rw [f_op17_L506, if_pos (show (4 : Int32) ≤ nI (3 + 1) by decide)]
    rw [e0, e1, e2, e3, e4, e5]
theorem op17_ok (hI : INV j x4 x5 x6 x7 nF nO nL nA nC nV nU nP nE bF bO bL bA bC bV bU bP bE cT cO cQ cD pT pK pR pW pU pI pC uO uF uE uN oQ oS) : ∃ y4 y5 y6 y7 y16 nU' pT' pK' pR' pW' pU' pI' pC' oS', f_op17 x4 x5 x6 x7 x8 x9 x14 nF nA nC nV nU cT pT pK pR pW pU pI pC oS = some (y4, y5, y6, y7, y16, nU', pT', pK', pR', pW', pU', pI', pC', oS') ∧ (y16 < 0 ∧ (y4, y5, y6, y7, nU', pT', pK', pR', pW', pU', pI', pC', oS') = (x4, x5, x6, x7, nU, pT, pK, pR, pW, pU, pI, pC, oS) ∨ ¬ y16 < 0 ∧ INV (j + 1) y4 y5 y6 y7 nF nO nL nA nC nV nU' nP nE bF bO bL bA bC bV bU bP bE cT cO cQ cD pT' pK' pR' pW' pU' pI' pC' uO uF uE uN oQ oS') := by
  obtain ⟨k, Qo, t, K, S, W, V, WI, O, f, L, A, B, P, e, h, HF, HE, HO, tr, d, mn, rfl, i2, rfl, rfl, rfl, i6, i7, hW, hT, hS, hH, hC, hV, hSE, hSV⟩ := hI
  have hC0 := hC
  have hS0 := hS
  have hBL := CO_BL hC
  obtain ⟨t1, t2, rfl, rfl⟩ := hT
  obtain ⟨hf, rfl, rfl, hF, hB, hU, hVv, hP, hPs, hA, hQc⟩ := hC
  obtain ⟨rfl, -, ⟨ht, hk⟩, rfl, hc8, -, hWr, hVr, hWV, hVc, hsum, hwi, hrow⟩ := hS
  obtain ⟨q, hq, e1⟩ := low_ok (x9 >>> (5 &&& 31)) (n := 11) (by omega) (by omega)
  have e1 : f_low (x9 >>> (5 &&& 31)) 11 = some (nI q) := e1
  unfold f_op17
  rw [e1]
  simp only [Option.bind_some]
  unfold f_K17 f_C_takeSnapshot f_C_requireNoTransaction f_P_keptTotal f_P_takenTotal
  by_cases hq9 : q ≤ 9
  · have w1 : f_C_requireWithin (nI q) 0 9 = some (.ok ()) := C_within_in (a := 0) (b := 9) (by omega) hq9 (by omega)
    rw [w1]
    rcases (show tr = 0 ∨ tr = 1 by omega) with rfl | rfl
    · by_cases z8 : cn (fun s => K s == 1) t = 8
      · rw [z8]
        exact ⟨_, _, _, _, _, _, _, _, _, _, _, _, _, _, rfl, Or.inl ⟨by first | exact ng1 | exact ng2 | exact ng3 | exact ng4 | exact ng5, rfl⟩⟩
      · have a1 : nI (cn (fun s => K s == 1) t) < (8 : Int32) := (nI_ltI (b := 8) (by omega) (by omega)).mpr (by omega)
        have e1 : ¬ ((1 : Int32) = 0) := by decide
        have e0 : (nI 0 : Int32) = 0 := rfl
        by_cases z30 : t = 30
        · subst z30
          have a3 : ¬ nI 30 < (30 : Int32) := by decide
          have m3 : ((-1003) : Int32) < 0 := by decide
          simp only [Option.bind_some, a1, a3, e0, if_true, if_false]
          exact ⟨_, _, _, _, _, _, _, _, _, _, _, _, _, _, rfl, Or.inl ⟨by first | exact ng1 | exact ng2 | exact ng3 | exact ng4 | exact ng5, rfl⟩⟩
        · have a3 : nI t < (30 : Int32) := (nI_ltI (b := 30) (by omega) (by omega)).mpr (by omega)
          have a5 : ¬ (30 : Int32) ≤ nI t := fun y => absurd ((nI_leI (a := 30) (by omega) (by omega)).mp y) (by omega)
          obtain ⟨r1, r2⟩ := fst_spec (fun r => V r == 0) 8
          have hr : fst (fun r => V r == 0) 8 < 8 := by
            rcases Nat.lt_or_ge (fst (fun r => V r == 0) 8) 8 with y | y
            · exact y
            · have h1 := cn_not (fun r => V r != 0) 8
              rw [hVc, cn_zero (p := fun i => !(V i != 0)) (fun i hi => by
                have := r1 i (by omega)
                simpa using this)] at h1
              omega
          have hV0 : V (fst (fun r => V r == 0) 8) = 0 := by simpa using r2 hr
          have hun := P_unusedRow_ok (pU := pU) (fun r hr => (hVr r hr).1) hr
          generalize fst (fun r => V r == 0) 8 = r at hr hV0 hun
          obtain ⟨u', c', g1, g2, g3, g4⟩ := P_fillRow_ok (r := r) (pI := pI) (pC := pC) (U := usr t B K S) (nU := nU) (A := A) (B := B) (nA := nA) (nC := nC) hf hr hA hB hU
          have hadd : f_P_add (nI q) (nI f) nA nC nU (nI t) (nI (cn (fun s => K s == 1) t)) pR pW pU pI pC = some (nI t, u', nI (t + 1), nI (cn (fun s => K s == 1) t + 1), upd pR t (nI q), upd pW t (nI r), upd pU r 1, mrkN r f A pI 40, c') := by
            unfold f_P_add
            rw [hun, Option.bind_some, if_neg a5, P_isRow_in hr, Option.bind_some, if_neg e1, if_neg (in_lim (by omega) (by omega)), if_neg (in_lim (by omega) (by omega)), if_neg (in_lim (by omega) (by omega)), g1, Option.bind_some, nI_clamp (by omega), nI_clamp (by omega), nI_1, nI_1, vz1]
          have hSn := SN_of (SNAP_add (p := nI q) (mblocks := fun x => nI (B x)) (nC := nC) (pC' := c') hS0 (by omega) (by omega) hf hr hV0 (fun i hi => (hA i hi).2) (fun x hx => ⟨(hB x hx).1, rfl, (hB x hx).2⟩) g3 g4)
          obtain ⟨mn', oS', l1, l2, l3⟩ := op17_loop (n5 := 5) (x5 := nI k) (x6 := nI t + 1) (x7 := nI h) (x8 := x8) (x9 := x9) (x14 := x14) (nV := nV) rfl (show t < 30 by omega) i2 hSn hf hBL (fun x hx hne => ((hB x hx).2.2 hne).2) (SE_add hSE)
          have a9 : ¬ nI t < 0 := nI_pos (by omega)
          have l1 : f_op17_L506 5 (nI mn) (nI k) (nI t + 1) (nI h) x8 x9 x14 (nI t) 0 (nI f) nC nV (nI (t + 1)) (upd pW t (nI r)) (mrkN r f A pI 40) c' oS = some (nI mn', oS') := l1
          simp only [Option.bind_some, a1, a3, a9, e0, if_true, if_false, hadd, l1]
          have hz : ∀ b, b < 64 → (usr (t + 1) B (un K t 1) (shN t B S) b = 0 ↔ usr t B K S b = 0) := fun b hb => by
            unfold usr
            rw [snU_sh]
            omega
          refine ⟨_, _, _, _, _, _, _, _, _, _, _, _, _, _, rfl, Or.inr ⟨a9, k, Qo, t + 1, un K t 1, shN t B S, un W t (r + 1), un V r (t + 1), waN t f A WI, O, f, L, A, B, P, e, h, HF, HE, HO, 0, d, mn', rfl, l2, rfl, nI_1 t, rfl, by omega, i7, hW, ⟨by omega, t2, rfl, rfl⟩, hSn, hH, ⟨hf, rfl, rfl, hF, hB, fun b hb => ?_, hVv, hP, by rw [frN_same hz]; exact hPs, hA, hQc⟩, hV, l3, SV_0⟩⟩
          rw [g2 b hb]
          unfold usr
          rw [snU_sh, Nat.add_assoc]
    · exact ⟨_, _, _, _, _, _, _, _, _, _, _, _, _, _, rfl, Or.inl ⟨by first | exact ng1 | exact ng2 | exact ng3 | exact ng4 | exact ng5, rfl⟩⟩
  · have w1 : f_C_requireWithin (nI q) 0 9 = some (.error 1) := C_within_no (a := 0) (b := 9) (by omega) (by omega) (by omega) (by omega)
    rw [w1]
    exact ⟨_, _, _, _, _, _, _, _, _, _, _, _, _, _, rfl, Or.inl ⟨by first | exact ng1 | exact ng2 | exact ng3 | exact ng4 | exact ng5, rfl⟩⟩
/-- fewer snapshots are kept -/
theorem snU_less {K' : Nat → Nat} (h : ∀ s, s < t → K' s = 1 → K s = 1) (b : Nat) : snU t K' S b ≤ snU t K S b := sm_mono2 (fun s hs => by
  by_cases z : K' s = 1
  · rw [if_pos z, if_pos (h s hs z)]
    exact Nat.le_refl _
  · rw [if_neg z]
    exact Nat.zero_le _)
theorem CO_less {K' : Nat → Nat} {nU' : Nat → Int32} (hC : CO k t K S O f L A B P e Qo nF nO nL nA nC nV nU nP nE) (h : ∀ s, s < t → K' s = 1 → K s = 1) (hU : US t B K' S nU') : CO k t K' S O f L A B P e Qo nF nO nL nA nC nV nU' nP nE := by
  obtain ⟨c1, c2, c3, c4, c5, c6, c7, c8, c9, c10, c11⟩ := hC
  refine ⟨c1, c2, c3, c4, c5, hU, c7, c8, Nat.le_trans c9 (frN_mono fun b _ => ?_), c10, c11⟩
  have := snU_less (S := S) h b
  unfold usr
  omega
theorem SE_less {K' : Nat → Nat} (hSE : SE mn t K S WI nV oS) (h : ∀ s, s < t → K' s = 1 → K s = 1) : SE mn t K' S WI nV oS := fun q hq => by
  obtain ⟨s, i, x, g1, g2, g3, hs, hi, hx, hv⟩ := hSE q hq
  exact ⟨s, i, x, g1, g2, g3, hs, hi, hx, fun hk => hv (h s hs hk)⟩
theorem THIN {c : Nat} (hc : c ≤ 8) : ∀ (m i fu : Nat) (K W V : Nat → Nat) (pK : Int32) (nU pW pU : Nat → Int32), cn (fun s => K s == 1) t - c = m → m < fu → i + m ≤ 100 → SN t K S W V WI (nI t) pK pR pW pU pI pC → US t B K S nU →
    ∃ nU' pK' pW' pU' K' W' V', f_C_thin_L28 fu (nI (i + m)) (nI i) nU (nI t) pK pR pW pU pI pC = some (nU', pK', pW', pU') ∧ SN t K' S W' V' WI (nI t) pK' pR pW' pU' pI pC ∧ US t B K' S nU' ∧ (∀ s, s < t → K' s = 1 → K s = 1) ∧ (m ≠ 0 → K' (lstN K pR t - 1) = 0 ∧ lstN K pR t ≠ 0) := by
  intro m
  induction m with
  | zero =>
    intro i fu K W V pK nU pW pU hm hfu hi hS hU
    obtain ⟨v, rfl⟩ : ∃ v, fu = v + 1 := ⟨fu - 1, by omega⟩
    refine ⟨nU, pK, pW, pU, K, W, V, ?_, hS, hU, fun _ _ h => h, fun h => absurd rfl h⟩
    rw [f_C_thin_L28, Nat.add_zero, if_pos (nI_le (Nat.le_refl i) (by omega))]
  | succ m ih =>
    intro i fu K W V pK nU pW pU hm hfu hi hS hU
    obtain ⟨v, rfl⟩ : ∃ v, fu = v + 1 := ⟨fu - 1, by omega⟩
    have ht := SN_t hS
    obtain ⟨l1, l3, l4⟩ := snap_least hS
    have hne : lstN K pR t ≠ 0 := by
      intro z
      have z2 := (bst_0 pR (fun s => K s == 1) t).mp z
      have := cn_zero z2
      omega
    obtain ⟨s, hs⟩ : ∃ s, lstN K pR t = s + 1 := ⟨lstN K pR t - 1, by omega⟩
    have hks := l4 hne
    rw [hs, Nat.add_sub_cancel] at hks
    rw [hs, nI_pred] at l1
    obtain ⟨nU', pK', pW', pU', K', W', V', d1, d2, d3, d4⟩ := DROP hS (show s < t by omega) hks hU
    have hK' : ∀ s', s' < t → K' s' = if s' = s then 0 else K s' := fun s' hs' => by
      obtain ⟨k1, k2, -⟩ := d2.2.2.1.2 s' hs'
      have k3 := SN_K hS hs'
      by_cases z : s' = s
      · rw [z, upd_at] at k1
        rw [if_pos z, z]
        exact ((nI_eq (by omega) (by rw [← z]; omega)).mp k1).symm
      · rw [upd_ne z] at k1
        rw [if_neg z]
        exact ((nI_eq (by omega) (by omega)).mp k1).symm
    obtain ⟨nU2, pK2, pW2, pU2, K2, W2, V2, e1, e3, e4, e5, e6⟩ := ih (i + 1) v K' W' V' pK' nU' pW' pU' (by omega) (by omega) (by omega) (SN_of d2) d3
    rw [show i + 1 + m = i + (m + 1) by omega] at e1
    refine ⟨nU2, pK2, pW2, pU2, K2, W2, V2, ?_, e3, e4, fun s' hs' h2 => ?_, fun _ => ⟨?_, hne⟩⟩
    · have h1 : ¬ nI (i + (m + 1)) ≤ nI i := fun q => absurd ((nI_leI (by omega) (by omega)).mp q) (by omega)
      rw [f_C_thin_L28, if_neg h1, l1, Option.bind_some, d1, Option.bind_some]
      show f_C_thin_L28 v (nI (i + (m + 1))) (nI i + 1) nU' (nI t) pK' pR pW' pU' pI pC = _
      rw [nI_1]
      exact e1
    · have z := e5 s' hs' h2
      rw [hK' s' hs'] at z
      by_cases y : s' = s
      · rw [if_pos y] at z
        omega
      · rw [if_neg y] at z
        exact z
    · rw [hs, Nat.add_sub_cancel]
      have z := hK' s (by omega)
      rw [if_pos rfl] at z
      have z2 := SN_K e3 (show s < t by omega)
      rcases (show K2 s = 0 ∨ K2 s = 1 by omega) with y | y
      · exact y
      · have := e5 s (by omega) y
        omega
theorem op20_ok (hI : INV j x4 x5 x6 x7 nF nO nL nA nC nV nU nP nE bF bO bL bA bC bV bU bP bE cT cO cQ cD pT pK pR pW pU pI pC uO uF uE uN oQ oS) : ∃ y4 y5 y6 y7 y16 nU' pK' pW' pU', f_op20 x4 x5 x6 x7 x9 nU cT pT pK pR pW pU pI pC = some (y4, y5, y6, y7, y16, nU', pK', pW', pU') ∧ (y16 < 0 ∧ (y4, y5, y6, y7, nU', pK', pW', pU') = (x4, x5, x6, x7, nU, pK, pW, pU) ∨ ¬ y16 < 0 ∧ INV (j + 1) y4 y5 y6 y7 nF nO nL nA nC nV nU' nP nE bF bO bL bA bC bV bU bP bE cT cO cQ cD pT pK' pR pW' pU' pI pC uO uF uE uN oQ oS) := by
  obtain ⟨k, Qo, t, K, S, W, V, WI, O, f, L, A, B, P, e, h, HF, HE, HO, tr, d, mn, rfl, i2, rfl, rfl, rfl, i6, i7, hW, hT, hS, hH, hC, hV, hSE, hSV⟩ := hI
  have hC0 := hC
  have hS0 := hS
  have hU := CO_U hC
  have ht := SN_t hS
  obtain ⟨t1, t2, rfl, rfl⟩ := hT
  obtain ⟨rfl, -, -, rfl, hc8, -⟩ := hS
  obtain ⟨q, hq, e1⟩ := low_ok (x9 >>> (5 &&& 31)) (n := 10) (by omega) (by omega)
  have e1 : f_low (x9 >>> (5 &&& 31)) 10 = some (nI q) := e1
  unfold f_op20
  rw [K21_ok hS0, e1]
  simp only [Option.bind_some]
  unfold f_K20 f_C_thin f_C_requireNoTransaction f_P_keptTotal
  by_cases hq8 : q ≤ 8
  · have w1 : f_C_requireWithin (nI q) 0 8 = some (.ok ()) := C_within_in (a := 0) (b := 8) (by omega) hq8 (by omega)
    rw [w1]
    rcases (show tr = 0 ∨ tr = 1 by omega) with rfl | rfl
    · have e0 : (nI 0 : Int32) = 0 := rfl
      have ex : (if (0 : Int32) < nI (cn (fun s => K s == 1) t) - nI q then nI (cn (fun s => K s == 1) t) - nI q else 0) = nI (cn (fun s => K s == 1) t - q) := by
        by_cases z : q < cn (fun s => K s == 1) t
        · rw [pk_sub (by omega), if_pos (show (0 : Int32) < nI (cn (fun s => K s == 1) t - q) from (nI_ltI (a := 0) (by omega) (by omega)).mpr (by omega))]
        · have z2 : ¬ (0 : Int32) < nI (cn (fun s => K s == 1) t) - nI q := by
            intro y
            have y2 := Int32.lt_iff_toInt_lt.mp y
            rw [pk_sub_toInt (by omega) (by omega)] at y2
            have y3 : (0 : Int32).toInt = 0 := rfl
            omega
          rw [if_neg z2, show cn (fun s => K s == 1) t - q = 0 by omega]
          rfl
      obtain ⟨nU2, pK2, pW2, pU2, K2, W2, V2, d1, d3, d4, d5, d6⟩ := THIN (t := t) (c := q) (B := B) hq8 (cn (fun s => K s == 1) t - q) 0 FU K W V _ nU pW pU rfl (FU_gt (by omega)) (by omega) hS0 hU
      rw [Nat.zero_add] at d1
      have d1 : f_C_thin_L28 FU (nI (cn (fun s => K s == 1) t - q)) 0 nU (nI t) (nI (cn (fun s => K s == 1) t)) pR pW pU pI pC = some (nU2, pK2, pW2, pU2) := d1
      have a9 : ¬ nI (cn (fun s => K s == 1) t - q) < 0 := nI_pos (by omega)
      simp only [Option.bind_some, e0, if_true, ex, d1]
      have hI' : INV (j + 1) (nI mn) (nI k) (nI t) (nI h) nF nO nL nA nC nV nU2 nP nE bF bO bL bA bC bV bU bP bE (nI 0) cO cQ (nI d) (nI t) pK2 pR pW2 pU2 pI pC uO uF uE uN oQ oS := ⟨k, Qo, t, K2, S, W2, V2, WI, O, f, L, A, B, P, e, h, HF, HE, HO, 0, d, mn, rfl, i2, rfl, rfl, rfl, by omega, i7, hW, ⟨by omega, t2, rfl, rfl⟩, d3, hH, CO_less hC0 d5 d4, hV, SE_less hSE d5, SV_0⟩
      by_cases z : cn (fun s => K s == 1) t - q = 0
      · have z1 : nI (cn (fun s => K s == 1) t - q) ≤ 0 := by rw [z]; decide
        rw [if_pos z1]
        exact ⟨_, _, _, _, _, _, _, _, _, rfl, Or.inr ⟨a9, hI'⟩⟩
      · have z1 : ¬ nI (cn (fun s => K s == 1) t - q) ≤ 0 := nI_nle (by omega) (by omega)
        obtain ⟨d7, d8⟩ := d6 z
        obtain ⟨-, l3, -⟩ := snap_least hS0
        have k18 : f_K18 (nI (lstN K pR t - 1)) (nI t) pW2 = some 0 := by
          rw [K18_in d3 (show lstN K pR t - 1 < t by omega), d7]
          rfl
        rw [if_neg z1, if_neg d8, k18]
        simp only [Option.bind_some, if_true]
        exact ⟨_, _, _, _, _, _, _, _, _, rfl, Or.inr ⟨a9, hI'⟩⟩
    · exact ⟨_, _, _, _, _, _, _, _, _, rfl, Or.inl ⟨by first | exact ng1 | exact ng2 | exact ng3 | exact ng4 | exact ng5, rfl⟩⟩
  · have w1 : f_C_requireWithin (nI q) 0 8 = some (.error 1) := C_within_no (a := 0) (b := 8) (by omega) (by omega) (by omega) (by omega)
    rw [w1]
    exact ⟨_, _, _, _, _, _, _, _, _, rfl, Or.inl ⟨by first | exact ng1 | exact ng2 | exact ng3 | exact ng4 | exact ng5, rfl⟩⟩
end OPSC
