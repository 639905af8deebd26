/-! EACH SORT OF CALL: owners, files, places, links, promises -/
section OPSA
variable {j k t f e h i x b s mn : Nat} {K S W V WI O L A B P Qo HF HE HO : Nat → Nat} {x4 x5 x6 x7 x9 x10 x11 x12 x16 nF nE bF bE cT cO cD pT pK uO : Int32} {x8 : Int32} {x14 : Int64} {nO nL nA nC nV nU nP bO bL bA bC bV bU bP cK cQ pR pW pU pI uF uE uN oQ oS : Nat → Int32} {pC : Nat → Nat → Int32}
theorem CO_owner {q : Nat} (hC : CO k t K S O f L A B P e Qo nF nO nL nA nC nV nU nP nE) : CO (k + 1) t K S O f L A B P e (un Qo k q) nF nO nL nA nC nV nU nP nE := by
  obtain ⟨c1, c2, c3, c4, c5, c6, c7, c8, c9, c10, c11⟩ := hC
  refine ⟨c1, c2, c3, fun i hi => ?_, c5, c6, c7, c8, c9, c10, fun o ho => ?_⟩
  · obtain ⟨a1, a2, a3, a4⟩ := c4 i hi
    exact ⟨a1, by omega, a3, a4⟩
  · by_cases z : o = k
    · have z2 : cn (fun b => isU O B k b) 64 = 0 := cn_zero (fun b _ => by
        cases hh : isU O B k b with
        | false => rfl
        | true =>
          obtain ⟨x, x1, x2, x3⟩ := (isU_iff O B k b).mp hh
          have q1 := (c5 x x1).2.2 (by omega)
          have q2 := (c4 _ q1.1).2.1
          omega)
      rw [z, un_at, z2]
      omega
    · rw [un_ne z]
      exact c11 o (by omega)
theorem op0_ok (hI : INV j x4 x5 x6 x7 nF nO nL nA nC nV nU nP nE bF bO bL bA bC bV bU bP bE cT cO cQ cD pT pK pR pW pU pI pC uO uF uE uN oQ oS) : ∃ y4 y5 y6 y7 y16 cO' cQ' oQ', f_op0 x4 x5 x6 x7 x9 cT cO cQ oQ = some (y4, y5, y6, y7, y16, cO', cQ', oQ') ∧ (y16 < 0 ∧ (y4, y5, y6, y7, cO', cQ', oQ') = (x4, x5, x6, x7, cO, cQ, oQ) ∨ ¬ y16 < 0 ∧ INV (j + 1) y4 y5 y6 y7 nF nO nL nA nC nV nU nP nE bF bO bL bA bC bV bU bP bE cT cO' cQ' cD pT pK pR pW pU pI pC uO uF uE uN oQ' oS) := by
  obtain ⟨k, Qo, t, K, S, W, V, WI, O, f, L, A, B, P, e, h, HF, HE, HO, tr, d, mn, rfl, i2, rfl, rfl, rfl, i6, i7, hW, hT, hS, hH, hC, hV, hSE, hSV⟩ := hI
  obtain ⟨hk, rfl, hQ⟩ := hW
  obtain ⟨t1, t2, rfl, rfl⟩ := hT
  obtain ⟨q, hq, e1⟩ := low_ok (x9 >>> (5 &&& 31)) (n := 70) (by omega) (by omega)
  have e1 : f_low (x9 >>> (5 &&& 31)) 70 = some (nI q) := e1
  unfold f_op0
  rw [e1]
  simp only [Option.bind_some]
  unfold f_K0 f_C_addOwner f_C_requireNoTransaction
  by_cases hq64 : q ≤ 64
  · have w1 : f_C_requireWithin (nI q) 0 64 = some (.ok ()) := C_within_in (a := 0) (b := 64) (by omega) hq64 (by omega)
    rw [w1]
    rcases (show tr = 0 ∨ tr = 1 by omega) with rfl | rfl
    · by_cases hk4 : k = 4
      · subst hk4
        exact ⟨_, _, _, _, _, _, _, _, rfl, Or.inl ⟨by first | exact ng1 | exact ng2 | exact ng3 | exact ng4 | exact ng5, rfl⟩⟩
      · have a1 : nI k < 4 := (nI_ltI (a := k) (b := 4) (by omega) (by omega)).mpr (by omega)
        have a2 := in_l2 (j := k) (n := 4) (by omega) (by omega)
        have a3 : ¬ nI k < 0 := nI_pos (by omega)
        have a5 : nI 0 = (0 : Int32) := rfl
        have a6 : ¬ 4 ≤ k := by omega
        simp only [Option.bind_some, nI_clamp (show k < 2 ^ 31 by omega), a1, a3, a5, a6, or_self, if_true, if_false, nI_1]
        refine ⟨_, _, _, _, _, _, _, _, rfl, Or.inr ⟨a3, k + 1, un Qo k q, t, K, S, W, V, WI, O, f, L, A, B, P, e, h, HF, HE, HO, 0, d, mn, rfl, i2, rfl, rfl, rfl, by omega, fun o ho => ?_, ⟨by omega, rfl, fun o ho => ?_⟩, ⟨by omega, t2, rfl, rfl⟩, hS, hH, CO_owner hC, hV, hSE, SV_0⟩⟩
        · by_cases z : o = k
          · rw [z, upd_at, un_at]
          · rw [upd_ne z, un_ne z]
            exact i7 o (by omega)
        · by_cases z : o = k
          · rw [z, upd_at, un_at]
            exact ⟨rfl, hq64⟩
          · rw [upd_ne z, un_ne z]
            exact hQ o (by omega)
    · exact ⟨_, _, _, _, _, _, _, _, rfl, Or.inl ⟨by first | exact ng1 | exact ng2 | exact ng3 | exact ng4 | exact ng5, rfl⟩⟩
  · have w1 : f_C_requireWithin (nI q) 0 64 = some (.error 1) := C_within_no (a := 0) (b := 64) (by omega) (by omega) (by omega) (by omega)
    rw [w1]
    exact ⟨_, _, _, _, _, _, _, _, rfl, Or.inl ⟨by first | exact ng1 | exact ng2 | exact ng3 | exact ng4 | exact ng5, rfl⟩⟩
theorem op1_ok (hj : j ≤ 500) (hI : INV j x4 x5 x6 x7 nF nO nL nA nC nV nU nP nE bF bO bL bA bC bV bU bP bE cT cO cQ cD pT pK pR pW pU pI pC uO uF uE uN oQ oS) : ∃ y4 y5 y6 y7 y16 nF' nO' nL' nA' nE' cK', f_op1 x4 x5 x6 x7 x11 nF nO nL nA nC nE cK cO = some (y4, y5, y6, y7, y16, nF', nO', nL', nA', nE', cK') ∧ (y16 < 0 ∧ (y4, y5, y6, y7, nF', nO', nL', nA', nE') = (x4, x5, x6, x7, nF, nO, nL, nA, nE) ∨ ¬ y16 < 0 ∧ INV (j + 1) y4 y5 y6 y7 nF' nO' nL' nA' nC nV nU nP nE' bF bO bL bA bC bV bU bP bE cT cO cQ cD pT pK pR pW pU pI pC uO uF uE uN oQ oS) := by
  obtain ⟨k, Qo, t, K, S, W, V, WI, O, f, L, A, B, P, e, h, HF, HE, HO, tr, d, mn, rfl, i2, rfl, rfl, rfl, i6, i7, hW, hT, hS, hH, hC, hV, hSE, hSV⟩ := hI
  obtain ⟨hk, rfl, hQ⟩ := hW
  have hC0 := hC
  obtain ⟨hf, rfl, rfl, hF, hB, hU, hVv, hP, hPs, hA, hQc⟩ := hC
  unfold f_op1 f_K1 f_C_createFile f_S_fileTotal
  rcases out_or x11 (n := k) (by omega) with ho | ⟨o, ho, rfl⟩
  · rw [C_requireOwner_out hk ho]
    exact ⟨_, _, _, _, _, _, _, _, _, _, _, rfl, Or.inl ⟨by first | exact ng1 | exact ng2 | exact ng3 | exact ng4 | exact ng5, rfl⟩⟩
  · rw [C_requireOwner_in hk ho]
    by_cases hq : f = 40
    · subst hq
      exact ⟨_, _, _, _, _, _, _, _, _, _, _, rfl, Or.inl ⟨by first | exact ng1 | exact ng2 | exact ng3 | exact ng4 | exact ng5, rfl⟩⟩
    · have w1 : f_C_note 99 (nI e) cK = some (nI (e + 1), upd cK e (nI 99)) := C_note_ok (c := 99) (by omega) (by omega)
      have a1 : nI f < (40 : Int32) := (nI_ltI (a := f) (b := 40) (by omega) (by omega)).mpr (by omega)
      have a2 := in_lim (j := f) (n := 40) (by omega) (by omega)
      have w3 : f_S_addFile (nI o) (nI f) nO nL nA = some (nI f, nI (f + 1), upd nO f (nI o), upd nL f 1, upd nA f 1) := by
        unfold f_S_addFile
        rw [if_pos a1, if_neg a2, if_neg a2, if_neg a2, nI_clamp (by omega), nI_1, vz1]
      have a3 : ¬ nI f < 0 := nI_pos (by omega)
      have w4 : f_K3 (nI f) (nI (f + 1)) (upd nL f 1) = some 1 := by
        rw [K3_in (f := f + 1) (i := f) (by omega) (by omega), upd_at]
      have w5 : f_K10 (nI f) (nI (f + 1)) nC = some 0 := by
        rw [K10_in (f := f + 1) (i := f) (by omega) (by omega) (CO_BL hC0), cn_zero (fun x hx => by
          show (B (f * 16 + x) != 0) = false
          rw [bne_eq_false_iff_eq]
          rcases Nat.eq_zero_or_pos (B (f * 16 + x)) with z | z
          · exact z
          · have := ((hB (f * 16 + x) (by omega)).2.2 (by omega)).1
            omega)]
        rfl
      simp only [Option.bind_some, w1, w3, a1, a3, if_true, if_false, w4, w5]
      refine ⟨_, _, _, _, _, _, _, _, _, _, _, rfl, Or.inr ⟨a3, k, Qo, t, K, S, W, V, WI, un O f o, f + 1, un L f 1, un A f 1, B, P, e + 1, h, HF, HE, HO, tr, d, mn, rfl, i2, rfl, rfl, rfl, by omega, i7, ⟨hk, rfl, hQ⟩, hT, hS, ⟨hH.1, hH.2.1, fun x hx => ?_⟩, ⟨by omega, rfl, rfl, fun i hi => ?_, fun x hx => ?_, hU, hVv, hP, hPs, fun i hi => ?_, fun o' ho' => ?_⟩, fun i hi => ?_, hSE, SV_weak hSV (by omega) (by omega)⟩⟩
      · obtain ⟨b1, b2, b3, b4, b5, b6⟩ := hH.2.2 x hx
        exact ⟨b1, b2, b3, b4, by omega, b6⟩
      · by_cases q : i = f
        · subst q
          simp only [upd_at, un_at]
          exact ⟨(by first | exact trivial | exact rfl), ho, (by first | exact trivial | exact rfl), by omega⟩
        · simp only [upd_ne q, un_ne q]
          exact hF i (by omega)
      · obtain ⟨b1, b3, b4⟩ := hB x hx
        refine ⟨b1, b3, fun hne => ?_⟩
        obtain ⟨b5, b6⟩ := b4 hne
        exact ⟨by omega, by rw [un_ne (by omega)]; exact b6⟩
      · by_cases q : i = f
        · subst q
          rw [upd_at, un_at]
          exact ⟨rfl, by omega⟩
        · rw [upd_ne q, un_ne q]
          exact hA i hi
      · refine Nat.le_trans (own_mono fun x b hx hb hO => ?_) (hQc o' ho')
        have z := ((hB x hx).2.2 (by omega)).1
        rw [un_ne (by omega)] at hO
        exact ⟨x, hx, hb, hO⟩
      · by_cases q : i = f
        · subst q
          rw [un_at, un_at]
          rfl
        · rw [un_ne q, un_ne q]
          exact hV i (by omega)
theorem sm_at {g : Nat → Nat} {n s : Nat} (hs : s < n) : g s ≤ sm g n := by
  have h1 := sm_mono g (show s + 1 ≤ n by omega)
  rw [sm_s] at h1
  omega
/-- a value changes in a block that no snapshot has -/
theorem SE_val {v : Int32} (hsn : snU t K S b = 0) (hSE : SE mn t K S WI nV oS) : SE mn t K S WI (upd nV b v) oS := fun q hq => by
  obtain ⟨s, i, x, g1, g2, g3, hs, hi, hx, hv⟩ := hSE q hq
  refine ⟨s, i, x, g1, g2, g3, hs, hi, hx, fun hk => ?_⟩
  rw [hv hk]
  unfold rdN
  by_cases w : WI (40 * s + i) = 1
  · rw [if_pos w, if_pos w]
    by_cases z : S (640 * s + (i * 16 + x)) = 0
    · rw [if_pos z, if_pos z]
    · rw [if_neg z, if_neg z, upd_ne]
      intro zb
      have h1 := sm_at (g := fun s => if K s = 1 then snB S s b else 0) hs
      have h1 : (if K s = 1 then snB S s b else 0) ≤ snU t K S b := h1
      rw [if_pos hk] at h1
      have h2 := cn_at (p := fun y => S (640 * s + y) == b + 1) (n := 640) (k := i * 16 + x) (by omega) (beq_iff_eq.mpr (by omega))
      unfold snB at h1
      omega
  · rw [if_neg w, if_neg w]
theorem VAL_upd {q : Nat} (hq : q ≤ 999) (h : ∀ b, b < 64 → ∃ v, v ≤ 999 ∧ nV b = nI v) : ∀ c, c < 64 → ∃ v, v ≤ 999 ∧ upd nV b (nI q) c = nI v := fun c hc => by
  by_cases z : c = b
  · rw [z, upd_at]
    exact ⟨q, hq, rfl⟩
  · rw [upd_ne z]
    exact h c hc
theorem op6_ok (hj : j ≤ 500) (hI : INV j x4 x5 x6 x7 nF nO nL nA nC nV nU nP nE bF bO bL bA bC bV bU bP bE cT cO cQ cD pT pK pR pW pU pI pC uO uF uE uN oQ oS) : ∃ y4 y5 y6 y7 y16 nC' nV' nU' nP' nE' cK', f_op6 x4 x5 x6 x7 x9 x10 x12 nF nO nL nC nV nU nP nE cK cO cQ = some (y4, y5, y6, y7, y16, nC', nV', nU', nP', nE', cK') ∧ (y16 < 0 ∧ (y4, y5, y6, y7, nC', nV', nU', nP', nE') = (x4, x5, x6, x7, nC, nV, nU, nP, nE) ∨ ¬ y16 < 0 ∧ INV (j + 1) y4 y5 y6 y7 nF nO nL nA nC' nV' nU' nP' nE' bF bO bL bA bC bV bU bP bE cT cO cQ cD pT pK pR pW pU pI pC uO uF uE uN oQ oS) := by
  obtain ⟨k, Qo, t, K, S, W, V, WI, O, f, L, A, B, P, e, h, HF, HE, HO, tr, d, mn, rfl, i2, rfl, rfl, rfl, i6, i7, hW, hT, hS, hH, hC, hV, hSE, hSV⟩ := hI
  obtain ⟨hk, rfl, hQ⟩ := hW
  have hC0 := hC
  have ht := SN_t hS
  obtain ⟨hf, rfl, rfl, hF, hB, hU, hVv, hP, hPs, hA, hQc⟩ := hC
  obtain ⟨q, hq, e1⟩ := low_ok (x9 >>> (14 &&& 31)) (n := 1010) (by omega) (by omega)
  have e1 : f_low (x9 >>> (14 &&& 31)) 1010 = some (nI q) := e1
  unfold f_op6
  rw [e1]
  simp only [Option.bind_some]
  unfold f_K6
  rcases out_or x10 (n := f) (by omega) with ho | ⟨i, hi, rfl⟩
  · unfold f_C_write
    rw [C_requireFile_out ho]
    exact ⟨_, _, _, _, _, _, _, _, _, _, _, rfl, Or.inl ⟨by first | exact ng1 | exact ng2 | exact ng3 | exact ng4 | exact ng5, rfl⟩⟩
  rcases out_or x12 (n := 16) (by omega) with ho | ⟨x, hx, rfl⟩
  · unfold f_C_write
    rw [C_requireFile_in hf hi, C_requirePlace_out ho]
    exact ⟨_, _, _, _, _, _, _, _, _, _, _, rfl, Or.inl ⟨by first | exact ng1 | exact ng2 | exact ng3 | exact ng4 | exact ng5, rfl⟩⟩
  by_cases hq9 : q ≤ 999
  · have w1 : f_C_requireWithin (nI q) 0 999 = some (.ok ()) := C_within_in (a := 0) (b := 999) (by omega) hq9 (by omega)
    obtain ⟨a1, a2, a3, a5⟩ := hF i hi
    obtain ⟨q1, q3⟩ := hQ (O i) a2
    by_cases q0 : L i = 0
    · unfold f_C_write
      rw [C_requireFile_in hf hi, C_requirePlace_in hx, w1, C_requireLinks_ok hf hi a3 a5, q0]
      exact ⟨_, _, _, _, _, _, _, _, _, _, _, rfl, Or.inl ⟨by first | exact ng1 | exact ng2 | exact ng3 | exact ng4 | exact ng5, rfl⟩⟩
    obtain ⟨b1, b3, b4⟩ := hB (i * 16 + x) (by omega)
    have hA1 : A i = 1 := by rw [hV i hi, if_neg (fun w => q0 w.1)]
    have hfr := frN_le t B K S
    by_cases hn : B (i * 16 + x) = 0 ∨ usr t B K S (B (i * 16 + x) - 1) ≠ 1
    · obtain ⟨hCw1, hCw2⟩ := C_write_new (t := t) (L := L) (Qo := Qo) (O := O) (B := B) (P := P) (K := K) (S := S) (cQ := cQ) (nP := nP) (nO := nO) (nL := nL) (nC := nC) (nV := nV) (nU := nU) (cK := cK) hf hi hx hq9 (show e ≤ 511 by omega) ht hk a3 q0 a5 (fun y hy => ⟨(hB y hy).1, (hB y hy).2.1, fun hne => ((hB y hy).2.2 hne).1⟩) hU (fun y hy => ⟨(hF y hy).1, (hF y hy).2.1⟩) (fun o ho => ⟨(hP o ho).1, (hP o ho).2⟩) (by omega) q1 q3 hn
      by_cases c : sm P 4 < frN t B K S + P (O i) ∧ cn (fun b => isU O (un B (i * 16 + x) (lowF t B K S + 1)) (O i) b) 64 ≤ Qo (O i)
      · obtain ⟨u', g1, g2, g3⟩ := hCw1 c
        have hPo : P (O i) ≤ sm P 4 := by
          have z := sm4_un (P := P) (o := O i) (q := 0) (by omega)
          omega
        obtain ⟨l1, l2⟩ := lowF_lt (t := t) (B := B) (K := K) (S := S) (by omega)
        have hs := sm4_un (P := P) (o := O i) (q := P (O i) - 1) (by omega)
        rw [g1]
        generalize hlow : lowF t B K S = low at g1 g2 g3 c l1 l2 ⊢
        have hBx : B (i * 16 + x) ≠ low + 1 := fun z => by
          have := usr_pos (t := t) (K := K) (S := S) (B := B) (b := low) (y := i * 16 + x) (by omega) z
          omega
        have husr : usr t (un B (i * 16 + x) (low + 1)) K S low = 1 := by
          have z := usr_un (t := t) (B := B) (K := K) (S := S) (x := i * 16 + x) (v := low + 1) (b := low) (by omega)
          rw [if_neg hBx, if_pos rfl] at z
          omega
        have hsn : snU t K S low = 0 := by
          unfold usr at l2
          omega
        have a9 : ¬ nI low < 0 := nI_pos (by omega)
        have v8 : f_K8 (nI i) (nI x) (nI f) (upd nC (i * 16 + x) (nI (low + 1) - 1)) (upd nV low (nI q)) = some (nI q) := by
          rw [K8_in hf hi hx g2]
          unfold vlN
          rw [un_at, if_neg (by omega), Nat.add_sub_cancel, upd_at]
        have v9 : f_K9 (nI i) (nI x) (nI f) (upd nC (i * 16 + x) (nI (low + 1) - 1)) = some (nI low) := by
          rw [K9_in hf hi hx g2]
          unfold bkN
          rw [un_at, if_neg (by omega), Nat.add_sub_cancel]
        have v12 : f_K12 (nI low) u' = some 1 := by
          rw [K12_in l1, g3 low l1, husr]
          rfl
        simp only [Option.bind_some, a9, if_false, if_true, v8, v9, v12]
        have hother : ∀ b, b < 64 → b ≠ low → (usr t (un B (i * 16 + x) (low + 1)) K S b = 0 ↔ usr t B K S b = 0) := fun b hb hbl => by
          have z := usr_un (t := t) (B := B) (K := K) (S := S) (x := i * 16 + x) (v := low + 1) (b := b) (by omega)
          rw [if_neg (show ¬ low + 1 = b + 1 by omega)] at z
          by_cases zb : B (i * 16 + x) = b + 1
          · rw [if_pos zb] at z
            have z1 := usr_pos (t := t) (K := K) (S := S) (B := B) (b := b) (y := i * 16 + x) (by omega) zb
            rcases hn with hn | hn
            · omega
            · rw [zb, Nat.add_sub_cancel] at hn
              omega
          · rw [if_neg zb] at z
            omega
        have hfree : frN t (un B (i * 16 + x) (low + 1)) K S + 1 = frN t B K S := by
          have z := cn_upd (p := fun b => usr t B K S b == 0) (q := fun b => usr t (un B (i * 16 + x) (low + 1)) K S b == 0) (n := 64) (k := low) l1 (fun b hb hbl => by
            show (usr t B K S b == 0) = (usr t (un B (i * 16 + x) (low + 1)) K S b == 0)
            rw [Bool.eq_iff_iff, beq_iff_eq, beq_iff_eq]
            exact (hother b hb hbl).symm)
          have z1 : (usr t B K S low == 0) = true := beq_iff_eq.mpr l2
          have z2 : ¬ (usr t (un B (i * 16 + x) (low + 1)) K S low == 0) = true := fun w => by
            have := beq_iff_eq.mp w
            omega
          have z3 : (fun b => usr t B K S b == 0) low = true := z1
          have z4 : ¬ (fun b => usr t (un B (i * 16 + x) (low + 1)) K S b == 0) low = true := z2
          rw [if_pos z3, if_neg z4] at z
          exact z
        refine ⟨_, _, _, _, _, _, _, _, _, _, _, rfl, Or.inr ⟨a9, k, Qo, t, K, S, W, V, WI, O, f, L, A, un B (i * 16 + x) (low + 1), un P (O i) (P (O i) - 1), e + 1, h, HF, HE, HO, tr, d, mn, rfl, i2, rfl, rfl, rfl, by omega, i7, ⟨hk, rfl, hQ⟩, hT, hS, hH, ⟨hf, rfl, rfl, hF, fun y hy => ⟨(g2 y hy).1, (g2 y hy).2, fun hne => ?_⟩, g3, VAL_upd hq9 hVv, fun o ho => ⟨upd_un (fun _ => (hP o ho).1), ?_⟩, by omega, hA, fun o ho => ?_⟩, hV, SE_val hsn hSE, SV_weak hSV (by omega) (by omega)⟩⟩
        · by_cases z : y = i * 16 + x
          · rw [z, show (i * 16 + x) / 16 = i by omega]
            exact ⟨hi, hA1⟩
          · rw [un_ne z] at hne
            exact (hB y hy).2.2 hne
        · by_cases z : o = O i
          · rw [z, un_at]
            omega
          · rw [un_ne z]
            exact (hP o ho).2
        · by_cases z : o = O i
          · rw [z]
            exact c.2
          · refine Nat.le_trans (own_mono fun y b hy hb hO => ?_) (hQc o ho)
            by_cases zy : y = i * 16 + x
            · rw [zy, show (i * 16 + x) / 16 = i by omega] at hO
              exact absurd hO.symm z
            · rw [un_ne zy] at hb
              exact ⟨y, hy, hb, hO⟩
      · rw [hCw2 c]
        exact ⟨_, _, _, _, _, _, _, _, _, _, _, rfl, Or.inl ⟨by first | exact ng1 | exact ng2 | exact ng3 | exact ng4 | exact ng5, rfl⟩⟩
    · have hb0 : B (i * 16 + x) ≠ 0 := fun z => hn (Or.inl z)
      have one : usr t B K S (B (i * 16 + x) - 1) = 1 := by
        rcases Nat.lt_trichotomy (usr t B K S (B (i * 16 + x) - 1)) 1 with z | z | z
        · exact absurd (Or.inr (by omega)) hn
        · exact z
        · exact absurd (Or.inr (by omega)) hn
      obtain ⟨b, hb⟩ : ∃ b, B (i * 16 + x) = b + 1 := ⟨B (i * 16 + x) - 1, by omega⟩
      rw [hb, Nat.add_sub_cancel] at one
      have w3 : f_C_note 119 (nI e) cK = some (nI (e + 1), upd cK e (nI 119)) := C_note_ok (c := 119) (by omega) (by omega)
      have e8 : (nI 1 : Int32) = 1 := rfl
      have a9 : ¬ nI b < 0 := nI_pos (by omega)
      have hBL := CO_BL hC0
      have hsn : snU t K S b = 0 := by
        have z := cn_at (p := fun y => B y == b + 1) (n := 640) (k := i * 16 + x) (by omega) (by rw [hb]; exact beq_self_eq_true _)
        unfold usr cntB at one
        omega
      have v8 : f_K8 (nI i) (nI x) (nI f) nC (upd nV b (nI q)) = some (nI q) := by
        rw [K8_in hf hi hx hBL]
        unfold vlN
        rw [hb, if_neg (by omega), Nat.add_sub_cancel, upd_at]
      have v9 : f_K9 (nI i) (nI x) (nI f) nC = some (nI b) := by
        rw [K9_in hf hi hx hBL]
        unfold bkN
        rw [hb, if_neg (by omega), Nat.add_sub_cancel]
      have v12 : f_K12 (nI b) nU = some 1 := by
        rw [K12_in (by omega), hU b (by omega), one]
        rfl
      unfold f_C_write
      rw [C_requireFile_in hf hi, C_requirePlace_in hx, w1, C_requireLinks_ok hf hi a3 a5, if_neg q0, S_blockIn_in hi hf hx, b1, hb, nI_pred]
      simp only [Option.bind_some, S_userTotal_in (show b < 64 by omega), hU b (by omega), one, e8, if_true, S_setValue_in (show b < 64 by omega), w3, a9, if_false, v8, v9, v12]
      exact ⟨_, _, _, _, _, _, _, _, _, _, _, rfl, Or.inr ⟨a9, k, Qo, t, K, S, W, V, WI, O, f, L, A, B, P, e + 1, h, HF, HE, HO, tr, d, mn, rfl, i2, rfl, rfl, rfl, by omega, i7, ⟨hk, rfl, hQ⟩, hT, hS, hH, ⟨hf, rfl, rfl, hF, hB, hU, VAL_upd hq9 hVv, hP, hPs, hA, hQc⟩, hV, SE_val hsn hSE, SV_weak hSV (by omega) (by omega)⟩⟩
  · have w1 : f_C_requireWithin (nI q) 0 999 = some (.error 1) := C_within_no (a := 0) (b := 999) (by omega) (by omega) (by omega) (by omega)
    unfold f_C_write
    rw [C_requireFile_in hf hi, C_requirePlace_in hx, w1]
    exact ⟨_, _, _, _, _, _, _, _, _, _, _, rfl, Or.inl ⟨by first | exact ng1 | exact ng2 | exact ng3 | exact ng4 | exact ng5, rfl⟩⟩
end OPSA
