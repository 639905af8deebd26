/-! EACH SORT OF CALL, IV: a file is given back its places -/
section OPSD
variable {j k t f e h i x b s mn : Nat} {K S W V WI O L A B P Qo HF HE HO : Nat → Nat} {x4 x5 x6 x7 x9 x10 x11 x12 x16 nF nE bF bE cT cO cD pT pK uO : Int32} {x8 : Int32} {x14 : Int64} {nO nL nA nC nV nU nP bO bL bA bC bV bU bP cK cQ pR pW pU pI uF uE uN oQ oS : Nat → Int32} {pC : Nat → Nat → Int32}
theorem op22_neg {v16 v17 : Int32} {n17 : Nat} (h17 : n17 = 17) (h : v16 < 0) : f_op22_L728 n17 x4 x5 x6 x7 x8 x10 x14 v16 v17 0 nF nC nV pT pW pI pC = some () := by
  obtain ⟨v, rfl⟩ : ∃ v, n17 = v + 1 := ⟨n17 - 1, by omega⟩
  have a1 : ¬ (16 : Int32) ≤ 0 := by decide
  rw [f_op22_L728, if_neg a1, if_pos h]
theorem resN_in (hx : x < 16) : resN i s S B 16 (i * 16 + x) = S (640 * s + (i * 16 + x)) := if_pos (by omega)
theorem op22_same (hS : SN t K S W V WI pT pK pR pW pU pI pC) (hs : s < t) (hks : K s = 1) (hw : WI (40 * s + i) = 1) (hf : f ≤ 40) (hi : i < f) (hBL : BL (resN i s S B 16) nC) {n : Nat} (hn : n < 2 ^ 31) : f_op22_L728 17 x4 x5 x6 x7 x8 (nI i) x14 (nI n) (nI s) 0 (nI f) nC nV pT pW pI pC = some () := by
  have hL := loop_up (fun fu x => f_op22_L728 fu x4 x5 x6 x7 x8 (nI i) x14 (nI n) (nI s) (nI x) (nI f) nC nV pT pW pI pC) 16 (some ()) (fun fu x hx => by
    have a1 : ¬ (16 : Int32) ≤ nI x := fun z => absurd ((nI_leI (a := 16) (b := x) (by omega) (by omega)).mp z) (by omega)
    have e19 := K19_in (nV := nV) (i := i) (x := x) hS hs hf hi hx
    have e2 : (if K s = 1 then rdN S WI nV s i x else -1005) = vlN (resN i s S B 16) nV i x := by
      unfold rdN vlN
      rw [if_pos hks, if_pos hw, resN_in hx]
    rw [e2] at e19
    show f_op22_L728 (fu + 1) _ _ _ _ _ _ _ _ _ _ _ _ _ _ _ _ _ = _
    rw [f_op22_L728, if_neg a1, if_neg (nI_pos hn), e19]
    simp only [Option.bind_some]
    rw [K8_in hf hi hx hBL]
    simp only [Option.bind_some, if_true]
    rw [nI_1]) (fun fu => by
    show f_op22_L728 (fu + 1) _ _ _ _ _ _ _ _ _ _ _ _ _ _ _ _ _ = _
    rw [f_op22_L728, if_pos (show (16 : Int32) ≤ nI 16 by decide)]) 17 (by omega)
  exact hL
/-- restore, when it is let -/
theorem RST {nE : Int32} {hd : Nat → Nat} (hk : k ≤ 4) (hQ : ∀ o, o < k → cQ o = nI (Qo o) ∧ Qo o ≤ 64) (hC : CO k t K S O f L A B P e Qo (nI f) nO nL nA nC nV nU nP nE) (hV : ALV f L hd A) (hS : SN t K S W V WI (nI t) pK pR pW pU pI pC) (hs : s < t) (hi : i < f) (hks : K s = 1) (hw : WI (40 * s + i) = 1) (q0 : L i ≠ 0) :
    (cn (fun b => isU O (resN i s S B 16) (O i) b) 64 ≤ Qo (O i) → ∃ nC' nU', f_K22 (nI s) (nI i) (nI f) nO nL nC nU (nI 0) (nI k) cQ (nI t) pW pI pC = some (nI (cn (chg i s S B) 16), nC', nU') ∧ CO k t K S O f L A (resN i s S B 16) P e Qo (nI f) nO nL nA nC' nV nU' nP nE) ∧
    (¬ cn (fun b => isU O (resN i s S B 16) (O i) b) 64 ≤ Qo (O i) → f_K22 (nI s) (nI i) (nI f) nO nL nC nU (nI 0) (nI k) cQ (nI t) pW pI pC = some (-1004, nC, nU)) := by
  have hBL := CO_BL hC
  have hU := CO_U hC
  have ht := SN_t hS
  obtain ⟨hf, -, rfl, hF, hB, -, hVv, hP, hPs, hA, hQc⟩ := hC
  obtain ⟨a1, a2, a3, a5⟩ := hF i hi
  obtain ⟨q1, q3⟩ := hQ (O i) a2
  have e2 : ¬ ((nI 1 : Int32) = 0) := by decide
  have e0 : (nI 0 : Int32) = 0 := rfl
  have hinc := snap_includes hS hs (show i < 40 by omega)
  unfold hasN at hinc
  rw [if_pos hks, hw] at hinc
  have h64 : ∀ x, x < 640 → S (640 * s + x) ≤ 64 := fun x hx => SN_S hS hs hks hx
  have m1 : f_S_blocksOfOwner (nI (O i)) (nI i) (nI f) nO nC = some (mkO O B (O i) i f) := S_blocksOfOwner_ok (by omega) hf (fun y hy => nI_eq (by omega) (by omega)) (fun y hy => ⟨(hF y hy).1, by have := (hF y hy).2.1; omega⟩) hBL
  have m3 := Mk_count (Mk_or (mkO_Mk (O := O) (B := B) (o := O i) (ex := i) f hf (fun y hy => (hB y hy).2.1)) (mkF_Mk (B := fun y => S (640 * s + y)) (i := i) (ex := 99) 16 (fun y hy => h64 (i * 16 + y) (by omega))))
  have m4 : f_C_quotaOf (nI (O i)) (nI k) cQ = some (nI (Qo (O i))) := by
    unfold f_C_quotaOf
    have a1 : ¬ nI (O i) < (0 : Int32) := nI_pos (by omega)
    have a2 : ¬ nI k ≤ nI (O i) := fun z => absurd ((nI_leI (by omega) (by omega)).mp z) (by omega)
    rw [if_neg a1, if_neg a2, if_neg (in_lim (by omega) (by omega)), nI_clamp (by omega), q1]
  have hc64 := cn_le (fun b => inO O B (O i) i b f || inF (fun y => S (640 * s + y)) i 99 b 16) 64
  rw [cnt_res hf hi rfl (fun x hx hne => ((hB x hx).2.2 hne).1)]
  unfold f_K22 f_C_restore f_C_requireInSnapshot f_C_requireNoTransaction
  rw [C_requireSnapshot_in ht hs, C_requireFile_in hf hi, hinc, C_requireLinks_ok hf hi a3 a5, if_neg q0, S_ownerIn_in hi hf, a1]
  simp only [e0, e2, if_true, if_false, Option.bind_some, m1, P_blocksInFile_ok hS hs (show i < 40 by omega) hks, m3, m4]
  refine ⟨fun c => ?_, fun c => ?_⟩
  · obtain ⟨nC', nU', r1, r2, r3⟩ := C_restoreL_ok (nC := nC) (nU := nU) (B := B) hS hs hks hf hi hBL hU
    have c2 : nI (cn (fun b => inO O B (O i) i b f || inF (fun y => S (640 * s + y)) i 99 b 16) 64) ≤ nI (Qo (O i)) := nI_le c (by omega)
    simp only [c2, if_true, r1, Option.bind_some]
    refine ⟨_, _, rfl, hf, rfl, rfl, hF, fun x hx => ⟨(r2 x hx).1, (r2 x hx).2, fun hne => ?_⟩, r3, hVv, hP, Nat.le_trans hPs (cn_imp fun b hb hp => ?_), hA, fun o ho => ?_⟩
    · unfold resN at hne
      by_cases w : i * 16 ≤ x ∧ x < i * 16 + 16
      · rw [show x / 16 = i by omega]
        exact ⟨hi, by rw [hV i hi, if_neg (fun v => q0 v.1)]⟩
      · rw [if_neg w] at hne
        exact (hB x hx).2.2 hne
    · have hp : usr t B K S b = 0 := beq_iff_eq.mp hp
      show (usr t (resN i s S B 16) K S b == 0) = true
      rw [beq_iff_eq]
      have z1 : snU t K S b = 0 := by unfold usr at hp; omega
      have z2 : cntB B b = 0 := by unfold usr at hp; omega
      have z3 : snB S s b = 0 := by
        have y := sm_at (g := fun s => if K s = 1 then snB S s b else 0) hs
        have y : (if K s = 1 then snB S s b else 0) ≤ snU t K S b := y
        rw [if_pos hks] at y
        omega
      have z4 : cntB (resN i s S B 16) b = 0 := cn_zero (fun x hx => by
        show (resN i s S B 16 x == b + 1) = false
        rw [beq_eq_false_iff_ne]
        intro y
        unfold resN at y
        by_cases w : i * 16 ≤ x ∧ x < i * 16 + 16
        · rw [if_pos w] at y
          have y2 := cn_at (p := fun y => S (640 * s + y) == b + 1) (n := 640) (k := x) hx (beq_iff_eq.mpr y)
          unfold snB at z3
          omega
        · rw [if_neg w] at y
          have y2 := cn_at (p := fun y => B y == b + 1) (n := 640) (k := x) hx (beq_iff_eq.mpr y)
          unfold cntB at z2
          omega)
      unfold usr
      omega
    · by_cases z : o = O i
      · rw [z, cnt_res hf hi rfl (fun x hx hne => ((hB x hx).2.2 hne).1)]
        exact c
      · refine Nat.le_trans (own_mono fun y b hy hb hO => ?_) (hQc o ho)
        unfold resN at hb
        by_cases w : i * 16 ≤ y ∧ y < i * 16 + 16
        · rw [show y / 16 = i by omega] at hO
          exact absurd hO.symm z
        · rw [if_neg w] at hb
          exact ⟨y, hy, hb, hO⟩
  · have c2 : ¬ nI (cn (fun b => inO O B (O i) i b f || inF (fun y => S (640 * s + y)) i 99 b 16) 64) ≤ nI (Qo (O i)) := fun z => c ((nI_leI (by omega) (by omega)).mp z)
    simp only [c2, if_false]
    rfl
theorem resN_idem : resN i s S (resN i s S B 16) 16 = resN i s S B 16 := by
  funext y
  unfold resN
  by_cases w : i * 16 ≤ y ∧ y < i * 16 + 16
  · rw [if_pos w, if_pos w]
  · rw [if_neg w, if_neg w]
theorem chg_none : cn (chg i s S (resN i s S B 16)) 16 = 0 := cn_zero (fun x hx => by
  show (S (640 * s + (i * 16 + x)) != resN i s S B 16 (i * 16 + x)) = false
  rw [resN_in hx, bne_eq_false_iff_eq])
theorem op22_err {r1 m : Int32} (hl : f_low (x9 >>> (12 &&& 31)) (x6 + 1) = some r1) (hm : m < 0) (hK : f_K22 r1 x10 nF nO nL nC nU cT cO cQ pT pW pI pC = some (m, nC, nU)) : f_op22 x4 x5 x6 x7 x8 x9 x10 x14 nF nO nL nC nV nU cT cO cQ pT pW pI pC = some (x4, x5, x6, x7, m, nC, nU) := by
  unfold f_op22
  rw [hl]
  simp only [Option.bind_some]
  rw [hK]
  simp only [Option.bind_some]
  rw [op22_neg rfl hm]
  simp only [Option.bind_some]
  rw [if_pos hm]
theorem op22_ok (hI : INV j x4 x5 x6 x7 nF nO nL nA nC nV nU nP nE bF bO bL bA bC bV bU bP bE cT cO cQ cD pT pK pR pW pU pI pC uO uF uE uN oQ oS) : ∃ y4 y5 y6 y7 y16 nC' nU', f_op22 x4 x5 x6 x7 x8 x9 x10 x14 nF nO nL nC nV nU cT cO cQ pT pW pI pC = some (y4, y5, y6, y7, y16, nC', nU') ∧ (y16 < 0 ∧ (y4, y5, y6, y7, nC', nU') = (x4, x5, x6, x7, nC, nU) ∨ ¬ y16 < 0 ∧ INV (j + 1) y4 y5 y6 y7 nF nO nL nA nC' nV nU' nP nE bF bO bL bA bC bV bU bP bE cT cO cQ cD pT pK pR pW pU pI pC uO uF uE uN oQ oS) := by
  obtain ⟨k, Qo, t, K, S, W, V, WI, O, f, L, A, B, P, e, h, HF, HE, HO, tr, d, mn, rfl, i2, rfl, rfl, rfl, i6, i7, hW, hT, hS, hH, hC, hV, hSE, hSV⟩ := hI
  have hC0 := hC
  have hS0 := hS
  have hW0 := hW
  have ht := SN_t hS
  obtain ⟨hk, rfl, hQ⟩ := hW
  obtain ⟨t1, t2, rfl, rfl⟩ := hT
  obtain ⟨hf, rfl, rfl, hF, hB, hU, hVv, hP, hPs, hA, hQc⟩ := hC
  obtain ⟨rfl, -⟩ := hS
  obtain ⟨s, hs, e1⟩ := low_ok (x9 >>> (12 &&& 31)) (n := t + 1) (by omega) (by omega)
  have e1 : f_low (x9 >>> (12 &&& 31)) (nI t + 1) = some (nI s) := by rw [nI_1]; exact e1
  have m1 : (-1001 : Int32) < 0 := by decide
  have m3 : (-1003 : Int32) < 0 := by decide
  have m4 : (-1004 : Int32) < 0 := by decide
  have m5 : (-1005 : Int32) < 0 := by decide
  by_cases hst : s = t
  · subst hst
    have hK : f_K22 (nI s) x10 (nI f) nO nL nC nU (nI tr) (nI k) cQ (nI s) pW pI pC = some (-1001, nC, nU) := by
      unfold f_K22 f_C_restore
      rw [C_requireSnapshot_out (Or.inr ⟨nI_pos (by omega), nI_le (Nat.le_refl _) (by omega)⟩)]
      rfl
    exact ⟨_, _, _, _, _, _, _, op22_err e1 m1 hK, Or.inl ⟨m1, rfl⟩⟩
  have hs : s < t := by omega
  rcases out_or x10 (n := f) (by omega) with ho | ⟨i, hi, rfl⟩
  · have hK : f_K22 (nI s) x10 (nI f) nO nL nC nU (nI tr) (nI k) cQ (nI t) pW pI pC = some (-1001, nC, nU) := by
      unfold f_K22 f_C_restore
      rw [C_requireSnapshot_in ht hs, C_requireFile_out ho]
      rfl
    exact ⟨_, _, _, _, _, _, _, op22_err e1 m1 hK, Or.inl ⟨m1, rfl⟩⟩
  have hks := SN_K hS0 hs
  have hwi := SN_W (i := i) hS0 hs
  have hinc := snap_includes hS0 hs (show i < 40 by omega)
  by_cases hin : K s = 1 ∧ WI (40 * s + i) = 1
  · obtain ⟨hk1, hw1⟩ := hin
    unfold hasN at hinc
    rw [if_pos hk1, hw1] at hinc
    obtain ⟨a1, a2, a3, a5⟩ := hF i hi
    rcases (show tr = 0 ∨ tr = 1 by omega) with rfl | rfl
    · by_cases q0 : L i = 0
      · have hK : f_K22 (nI s) (nI i) (nI f) nO nL nC nU (nI 0) (nI k) cQ (nI t) pW pI pC = some (-1003, nC, nU) := by
          unfold f_K22 f_C_restore f_C_requireInSnapshot f_C_requireNoTransaction
          rw [C_requireSnapshot_in ht hs, C_requireFile_in hf hi, hinc, C_requireLinks_ok hf hi a3 a5, if_pos q0]
          rfl
        exact ⟨_, _, _, _, _, _, _, op22_err e1 m3 hK, Or.inl ⟨m3, rfl⟩⟩
      · obtain ⟨r1, r2⟩ := RST hk hQ hC0 hV hS0 hs hi hk1 hw1 q0
        by_cases c : cn (fun b => isU O (resN i s S B 16) (O i) b) 64 ≤ Qo (O i)
        · obtain ⟨nC1, nU1, d1, d2⟩ := r1 c
          obtain ⟨r3, -⟩ := RST hk hQ d2 hV hS0 hs hi hk1 hw1 q0
          rw [resN_idem, chg_none] at r3
          obtain ⟨nC2, nU2, d3, d4⟩ := r3 c
          have hc16 := cn_le (chg i s S B) 16
          have a9 : ¬ nI (cn (chg i s S B) 16) < 0 := nI_pos (by omega)
          refine ⟨nI mn, nI k, nI t, nI h, nI (cn (chg i s S B) 16), nC2, nU2, ?_, Or.inr ⟨a9, k, Qo, t, K, S, W, V, WI, O, f, L, A, resN i s S B 16, P, e, h, HF, HE, HO, 0, d, mn, rfl, i2, rfl, rfl, rfl, by omega, i7, hW0, ⟨by omega, t2, rfl, rfl⟩, hS0, hH, d4, hV, hSE, SV_0⟩⟩
          unfold f_op22
          rw [e1]
          simp only [Option.bind_some]
          rw [d1]
          simp only [Option.bind_some]
          rw [op22_same hS0 hs hk1 hw1 hf hi (CO_BL d2) (by omega)]
          simp only [Option.bind_some]
          rw [if_neg a9, d3]
          simp only [Option.bind_some]
          rw [if_pos (show nI 0 = (0 : Int32) from rfl)]
        · exact ⟨_, _, _, _, _, _, _, op22_err e1 m4 (r2 c), Or.inl ⟨m4, rfl⟩⟩
    · have hK : f_K22 (nI s) (nI i) (nI f) nO nL nC nU (nI 1) (nI k) cQ (nI t) pW pI pC = some (-1003, nC, nU) := by
        unfold f_K22 f_C_restore f_C_requireInSnapshot f_C_requireNoTransaction
        rw [C_requireSnapshot_in ht hs, C_requireFile_in hf hi, hinc]
        rfl
      exact ⟨_, _, _, _, _, _, _, op22_err e1 m3 hK, Or.inl ⟨m3, rfl⟩⟩
  · have h0 : hasN K WI s i = 0 := by
      unfold hasN
      by_cases z : K s = 1
      · rw [if_pos z]
        have : ¬ WI (40 * s + i) = 1 := fun y => hin ⟨z, y⟩
        omega
      · rw [if_neg z]
    rw [h0] at hinc
    have hK : f_K22 (nI s) (nI i) (nI f) nO nL nC nU (nI tr) (nI k) cQ (nI t) pW pI pC = some (-1005, nC, nU) := by
      unfold f_K22 f_C_restore f_C_requireInSnapshot
      rw [C_requireSnapshot_in ht hs, C_requireFile_in hf hi, hinc]
      rfl
    exact ⟨_, _, _, _, _, _, _, op22_err e1 m5 hK, Or.inl ⟨m5, rfl⟩⟩
end OPSD
