/-! EACH SORT OF CALL, VI: transactions -/
section OPSF
variable {j k t f e h i x b s mn : Nat} {K S W V WI O L A B P Qo HF HE HO : Nat → Nat} {x4 x5 x6 x7 x9 x10 x11 x12 x16 nF nE bF bE cT cO cD pT pK uO : Int32} {x8 : Int32} {x14 : Int64} {nO nL nA nC nV nU nP bO bL bA bC bV bU bP cK cQ pR pW pU pI uF uE uN oQ oS : Nat → Int32} {pC : Nat → Nat → Int32}
theorem CO_cong {nO' nL' nA' nC' nV' nU' nP' : Nat → Int32} (hC : CO k t K S O f L A B P e Qo nF nO nL nA nC nV nU nP nE) (c40 : ∀ i, i < 40 → nO' i = nO i ∧ nL' i = nL i ∧ nA' i = nA i) (c640 : ∀ x, x < 640 → nC' x = nC x) (c64 : ∀ b, b < 64 → nV' b = nV b ∧ nU' b = nU b) (c4 : ∀ o, o < 4 → nP' o = nP o) : CO k t K S O f L A B P e Qo nF nO' nL' nA' nC' nV' nU' nP' nE := by
  obtain ⟨hf, g1, g2, hF, hB, hU, hV, hP, hPs, hA, hQ⟩ := hC
  refine ⟨hf, g1, g2, fun i hi => ?_, fun x hx => ?_, fun b hb => ?_, fun b hb => ?_, fun o ho => ?_, hPs, fun i hi => ?_, hQ⟩
  · obtain ⟨a1, a2, a3⟩ := c40 i (by omega)
    rw [a1, a2]
    exact hF i hi
  · rw [c640 x hx]
    exact hB x hx
  · rw [(c64 b hb).2]
    exact hU b hb
  · rw [(c64 b hb).1]
    exact hV b hb
  · rw [c4 o ho]
    exact hP o ho
  · rw [(c40 i hi).2.2]
    exact hA i hi
theorem SE_cong {nV' : Nat → Int32} (hS : SN t K S W V WI pT pK pR pW pU pI pC) (hSE : SE mn t K S WI nV oS) (h : ∀ b, b < 64 → nV' b = nV b) : SE mn t K S WI nV' oS := fun q hq => by
  obtain ⟨s, i, x, g1, g2, g3, hs, hi, hx, hv⟩ := hSE q hq
  refine ⟨s, i, x, g1, g2, g3, hs, hi, hx, fun hk => ?_⟩
  have h64 := SN_S hS hs hk (show i * 16 + x < 640 by omega)
  rw [hv hk]
  unfold rdN
  by_cases w : WI (40 * s + i) = 1
  · rw [if_pos w, if_pos w]
    by_cases z : S (640 * s + (i * 16 + x)) = 0
    · rw [if_pos z, if_pos z]
    · rw [if_neg z, if_neg z, h _ (by omega)]
  · rw [if_neg w, if_neg w]
theorem op29_ok (hj0 : j ≤ 500) (hI : INV j x4 x5 x6 x7 nF nO nL nA nC nV nU nP nE bF bO bL bA bC bV bU bP bE cT cO cQ cD pT pK pR pW pU pI pC uO uF uE uN oQ oS) : ∃ y4 y5 y6 y7 y16 bF' bO' bL' bA' bC' bV' bU' bP' bE' cT', f_op29 x4 x5 x6 x7 nF nO nL nA nC nV nU nP nE bF bO bL bA bC bV bU bP bE cT = some (y4, y5, y6, y7, y16, bF', bO', bL', bA', bC', bV', bU', bP', bE', cT') ∧ (y16 < 0 ∧ (y4, y5, y6, y7, bF', bO', bL', bA', bC', bV', bU', bP', bE', cT') = (x4, x5, x6, x7, bF, bO, bL, bA, bC, bV, bU, bP, bE, cT) ∨ ¬ y16 < 0 ∧ INV (j + 1) y4 y5 y6 y7 nF nO nL nA nC nV nU nP nE bF' bO' bL' bA' bC' bV' bU' bP' bE' cT' cO cQ cD pT pK pR pW pU pI pC uO uF uE uN oQ oS) := by
  obtain ⟨k, Qo, t, K, S, W, V, WI, O, f, L, A, B, P, e, h, HF, HE, HO, tr, d, mn, rfl, i2, rfl, rfl, rfl, i6, i7, hW, hT, hS, hH, hC, hV, hSE, hSV⟩ := hI
  have hC0 := hC
  have hHF : ∀ x, x < h → HF x < f := fun x hx => (hH.2.2 x hx).2.2.2.2.1
  obtain ⟨t1, t2, rfl, rfl⟩ := hT
  obtain ⟨hf, rfl, rfl, hF, hB, hU, hVv, hP, hPs, hA, hQc⟩ := hC
  unfold f_op29 f_K29 f_C_begin f_C_requireNoTransaction
  rcases (show tr = 0 ∨ tr = 1 by omega) with rfl | rfl
  · have e0 : (nI 0 : Int32) = 0 := rfl
    unfold f_S_copyFrom_b f_S_entryTotal
    rw [cp_copyb_L40]
    simp only [Option.bind_some, e0, if_true]
    have a9 : ¬ nI e < 0 := nI_pos (by omega)
    refine ⟨_, _, _, _, _, _, _, _, _, _, _, _, _, _, _, rfl, Or.inr ⟨a9, k, Qo, t, K, S, W, V, WI, O, f, L, A, B, P, e, h, HF, HE, HO, 1, d, mn, rfl, i2, rfl, rfl, rfl, by omega, i7, hW, ⟨by omega, t2, rfl, rfl⟩, hS, hH, hC0, hV, hSE, fun _ => ⟨O, L, A, B, P, f, e, Nat.le_refl _, Nat.le_refl _, CO_cong hC0 (fun i hi => ⟨sb_cpy0 (n := 40) hi, sb_cpy0 (n := 40) hi, (cpyM_in hi).trans (narB_at hA hi)⟩) (fun x hx => sb_cpy0 (n := 640) hx) (fun b hb => ⟨sb_cpy0 (n := 64) hb, sb_cpy0 (n := 64) hb⟩) (fun o ho => sb_cpy0 (n := 4) ho), hV, hHF, SE_cong hS hSE (fun b hb => sb_cpy0 (n := 64) hb)⟩⟩⟩
  · exact ⟨_, _, _, _, _, _, _, _, _, _, _, _, _, _, _, rfl, Or.inl ⟨by first | exact ng1 | exact ng2 | exact ng3 | exact ng4 | exact ng5, rfl⟩⟩
theorem op30_ok (hj0 : j ≤ 500) (hI : INV j x4 x5 x6 x7 nF nO nL nA nC nV nU nP nE bF bO bL bA bC bV bU bP bE cT cO cQ cD pT pK pR pW pU pI pC uO uF uE uN oQ oS) : ∃ y4 y5 y6 y7 y16 cT', f_op30 x4 x5 x6 x7 nE bE cT = some (y4, y5, y6, y7, y16, cT') ∧ (y16 < 0 ∧ (y4, y5, y6, y7, cT') = (x4, x5, x6, x7, cT) ∨ ¬ y16 < 0 ∧ INV (j + 1) y4 y5 y6 y7 nF nO nL nA nC nV nU nP nE bF bO bL bA bC bV bU bP bE cT' cO cQ cD pT pK pR pW pU pI pC uO uF uE uN oQ oS) := by
  obtain ⟨k, Qo, t, K, S, W, V, WI, O, f, L, A, B, P, e, h, HF, HE, HO, tr, d, mn, rfl, i2, rfl, rfl, rfl, i6, i7, hW, hT, hS, hH, hC, hV, hSE, hSV⟩ := hI
  obtain ⟨t1, t2, rfl, rfl⟩ := hT
  unfold f_op30 f_K30 f_C_commit f_S_entryTotal f_S_entryTotal_b
  rcases (show tr = 0 ∨ tr = 1 by omega) with rfl | rfl
  · exact ⟨_, _, _, _, _, _, rfl, Or.inl ⟨by first | exact ng1 | exact ng2 | exact ng3 | exact ng4 | exact ng5, rfl⟩⟩
  · obtain ⟨O', L', A', B', P', f', e', s1, s2, s3, s4⟩ := hSV rfl
    have e1 : ¬ ((nI 1 : Int32) = 0) := by decide
    have g1 := CO_e1 hC
    have g2 := CO_e1 s3
    subst g1
    subst g2
    have a9 : ¬ nI (e - e') < 0 := nI_pos (by omega)
    simp only [Option.bind_some, e1, if_false, pk_sub s2]
    exact ⟨_, _, _, _, _, _, rfl, Or.inr ⟨a9, k, Qo, t, K, S, W, V, WI, O, f, L, A, B, P, e, h, HF, HE, HO, 0, d, mn, rfl, i2, rfl, rfl, rfl, by omega, i7, hW, ⟨by omega, t2, rfl, rfl⟩, hS, hH, hC, hV, hSE, SV_0⟩⟩
theorem opC_ok (hj0 : j ≤ 500) (hI : INV j x4 x5 x6 x7 nF nO nL nA nC nV nU nP nE bF bO bL bA bC bV bU bP bE cT cO cQ cD pT pK pR pW pU pI pC uO uF uE uN oQ oS) : ∃ y4 y5 y6 y7 y16 nF' nO' nL' nA' nC' nV' nU' nP' nE' cT', f_opC x4 x5 x6 x7 0 nF nO nL nA nC nV nU nP nE bF bO bL bA bC bV bU bP bE cT = some (y4, y5, y6, y7, y16, nF', nO', nL', nA', nC', nV', nU', nP', nE', cT') ∧ ¬ y16 < 0 ∧ INV (j + 1) y4 y5 y6 y7 nF' nO' nL' nA' nC' nV' nU' nP' nE' bF bO bL bA bC bV bU bP bE cT' cO cQ cD pT pK pR pW pU pI pC uO uF uE uN oQ oS := by
  obtain ⟨k, Qo, t, K, S, W, V, WI, O, f, L, A, B, P, e, h, HF, HE, HO, tr, d, mn, rfl, i2, rfl, rfl, rfl, i6, i7, hW, hT, hS, hH, hC, hV, hSE, hSV⟩ := hI
  have hC0 := hC
  obtain ⟨t1, t2, rfl, rfl⟩ := hT
  have g1 := CO_e1 hC
  subst g1
  have z0 : ¬ (0 : Int32) < 0 := by decide
  unfold f_opC
  rw [journal_ok]
  simp only [Option.bind_some]
  rcases (show tr = 0 ∨ tr = 1 by omega) with rfl | rfl
  · have e0 : (nI 0 : Int32) = 0 := rfl
    have cr : f_C_crash nF nO nL nA nC nV nU nP (nI e) bF bO bL bA bC bV bU bP bE (nI 0) = some (0, nF, nO, nL, nA, nC, nV, nU, nP, nI e, nI 0) := by
      unfold f_C_crash
      rw [if_pos e0]
    have es : nI e = nI e - 0 := (pk_sub (a := e) (b := 0) (Nat.zero_le _)).symm
    rw [cr]
    simp only [Option.bind_some, z0, if_false, journal_ok]
    rw [if_pos es, cr]
    simp only [Option.bind_some, if_true]
    exact ⟨_, _, _, _, _, _, _, _, _, _, _, _, _, _, _, rfl, z0, k, Qo, t, K, S, W, V, WI, O, f, L, A, B, P, e, h, HF, HE, HO, 0, d, mn, rfl, i2, rfl, rfl, rfl, by omega, i7, hW, ⟨by omega, t2, rfl, rfl⟩, hS, hH, hC0, hV, hSE, SV_0⟩
  · obtain ⟨O', L', A', B', P', f', e', s1, s2, s3, s4, s5, s6⟩ := hSV rfl
    have s30 := s3
    obtain ⟨hf', rfl, rfl, hF', hB', hU', hV', hP', hPs', hA', hQ'⟩ := s3
    have e1 : ¬ ((nI 1 : Int32) = 0) := by decide
    have e0 : (0 : Int32) = nI 0 := rfl
    have a9 : ¬ nI (e - e') < 0 := nI_pos (by omega)
    have es : nI e' = nI e - nI (e - e') := by rw [pk_sub (by omega), show e - (e - e') = e' by omega]
    unfold f_C_crash
    rw [if_neg e1]
    unfold f_S_copyFrom f_S_entryTotal f_S_entryTotal_b
    rw [cp_copy_L40]
    simp only [Option.bind_some, pk_sub s2, a9, if_false, journal_ok]
    rw [if_pos es]
    simp only [if_true, Option.bind_some]
    refine ⟨_, _, _, _, _, _, _, _, _, _, _, _, _, _, _, rfl, z0, k, Qo, t, K, S, W, V, WI, O', f', L', A', B', P', e', h, HF, HE, HO, 0, d, mn, rfl, i2, rfl, rfl, rfl, by omega, i7, hW, ⟨by omega, t2, rfl, rfl⟩, hS, ⟨hH.1, hH.2.1, fun x hx => ?_⟩, CO_cong s30 (fun i hi => ⟨sb_cpy0 (n := 40) hi, sb_cpy0 (n := 40) hi, (cpyM_in hi).trans (narB_at hA' hi)⟩) (fun x hx => sb_cpy0 (n := 640) hx) (fun b hb => ⟨sb_cpy0 (n := 64) hb, sb_cpy0 (n := 64) hb⟩) (fun o ho => sb_cpy0 (n := 4) ho), s4, SE_cong hS s6 (fun b hb => sb_cpy0 (n := 64) hb), SV_0⟩
    obtain ⟨b1, b2, b3, b4, b5, b6⟩ := hH.2.2 x hx
    exact ⟨b1, b2, b3, b4, s5 x hx, b6⟩
end OPSF
