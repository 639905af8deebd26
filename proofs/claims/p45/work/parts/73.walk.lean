/-! CASES 15 AND 39: the users by walking -/
section WALK
variable {j k t f e h tr d r s : Nat} {K S O L A B P W V WI HF HE HO hd : Nat → Nat} {pT pK msnaps nF mfiles nE mentr p1 uO mholds : Int32} {nO nL nA nC nV nU nP mprom mlinks mblocks mvals pR pW pU pI mranks mkept mshot mwas wK uF uE uN mheld mends mopen : Nat → Int32} {pC : Nat → Nat → Int32} {oL : Nat → Int64}
theorem J_fill_ok : ∃ w', f_J7_fill_53178 0 wK = some w' ∧ ∀ b, b < 64 → w' b = nI 0 := by
  obtain ⟨w, g1, g2⟩ := loop_rel (fun fu x (z : Nat → Int32) => f_J7_fill_53178_L5 fu 0 (nI x) 64 z) (fun x z => ∀ b, b < x → z b = nI 0) 64 (fun z => z) (fun fu x z hx b1 => by
      refine ⟨upd z x 0, fun b hb => ?_, ?_⟩
      · by_cases w : b = x
        · rw [w, upd_at]
          rfl
        · rw [upd_ne w]
          exact b1 b (by omega)
      · show f_J7_fill_53178_L5 (fu + 1) _ _ _ _ = _
        have h64 : ¬ (64 : Int32) ≤ nI x := fun h => absurd ((nI_leI (a := 64) (b := x) (by omega) (by omega)).mp h) (by omega)
        rw [f_J7_fill_53178_L5, if_neg h64, if_neg (in_lim (by omega) (by omega)), nI_clamp (by omega), nI_1]) (fun fu z _ => by
      show f_J7_fill_53178_L5 (fu + 1) _ _ _ _ = _
      rw [f_J7_fill_53178_L5]
      simp (disch := omega) only [nI_ltI, nI_leI, nI_eq, nI_add, pk_mul, pk_sub, nI_clamp, l0, l1, l2, l3, l4, l5, l6, l8, l9, l10, l15, l16, l30, l39, l40, l58, l63, l64, l99, l100, l103, l104, l108, l112, l117, l119, l120, l512, l639, l640, l999, l9999, l19200, if_pos, if_neg, Option.bind_some, if_true, if_false]) FU (FU_gt (by omega)) wK (fun b hb => absurd hb (Nat.not_lt_zero b))
  have g2 : f_J7_fill_53178_L5 FU 0 0 64 wK = some w := g2
  refine ⟨w, ?_, g1⟩
  unfold f_J7_fill_53178
  rw [g2]
  rfl
/-- counting the users of one file's places -/
theorem S_walk1 {i : Nat} {U : Nat → Nat} (hf : f ≤ 40) (hi : i < f) (hC : BL B nC) (hU : ∀ b, b < 64 → wK b = nI (U b + cn (fun x => B x == b + 1) (i * 16))) : ∃ w', f_S_walkFiles_L12 FU (nI i) 0 (nI f) nC wK = some w' ∧ ∀ b, b < 64 → w' b = nI (U b + cn (fun x => B x == b + 1) ((i + 1) * 16)) := by
  obtain ⟨w, g1, g2⟩ := loop_rel (fun fu x (z : Nat → Int32) => f_S_walkFiles_L12 fu (nI i) (nI x) (nI f) nC z) (fun x z => ∀ b, b < 64 → z b = nI (U b + cn (fun x => B x == b + 1) (i * 16 + x))) 16 (fun z => z) (fun fu x z hx b1 => by
      obtain ⟨c1, c2⟩ := hC (i * 16 + x) (by omega)
      refine ⟨au (nC (i * 16 + x)) z, fun b hb => ?_, ?_⟩
      · rw [c1, au_val c2 hb, b1 b hb, ← Nat.add_assoc, cn_s]
        by_cases w : B (i * 16 + x) = b + 1
        · rw [if_pos w, if_pos (beq_iff_eq.mpr w), nI_1, Nat.add_assoc]
        · rw [if_neg w, if_neg (fun v => w (beq_iff_eq.mp v)), Int32.add_zero] <;> rfl
      · show f_S_walkFiles_L12 (fu + 1) _ _ _ _ _ = _
        have h16 : ¬ (16 : Int32) ≤ nI x := fun h => absurd ((nI_leI (a := 16) (b := x) (by omega) (by omega)).mp h) (by omega)
        rw [f_S_walkFiles_L12, if_neg h16, S_blockIn_in hi hf hx, Option.bind_some, C_countUser_ok, Option.bind_some, nI_1]) (fun fu z _ => by
      show f_S_walkFiles_L12 (fu + 1) _ _ _ _ _ = _
      rw [f_S_walkFiles_L12]
      simp (disch := omega) only [nI_ltI, nI_leI, nI_eq, nI_add, pk_mul, pk_sub, nI_clamp, l0, l1, l2, l3, l4, l5, l6, l8, l9, l10, l15, l16, l30, l39, l40, l58, l63, l64, l99, l100, l103, l104, l108, l112, l117, l119, l120, l512, l639, l640, l999, l9999, l19200, if_pos, if_neg, Option.bind_some, if_true, if_false]) FU (FU_gt (by omega)) wK hU
  exact ⟨w, g2, fun b hb => by rw [show (i + 1) * 16 = i * 16 + 16 by omega]; exact g1 b hb⟩
theorem S_walk_ok (hf : f ≤ 40) (hC : BL B nC) (hE : ∀ x, x < 640 → B x ≠ 0 → x / 16 < f) (hU : ∀ b, b < 64 → wK b = nI 0) : ∃ w', f_S_walkFiles (nI f) nC wK = some w' ∧ ∀ b, b < 64 → w' b = nI (cntB B b) := by
  obtain ⟨w, g1, g2⟩ := loop_rel (fun fu i (z : Nat → Int32) => f_S_walkFiles_L2 fu (nI i) (nI f) nC z) (fun i z => ∀ b, b < 64 → z b = nI (0 + cn (fun x => B x == b + 1) (i * 16))) f (fun z => z) (fun fu i z hi b1 => by
      obtain ⟨w', c1, c2⟩ := S_walk1 (U := fun _ => 0) hf hi hC b1
      refine ⟨w', c2, ?_⟩
      show f_S_walkFiles_L2 (fu + 1) _ _ _ _ = _
      have h16 : ¬ nI f ≤ nI i := fun h => absurd ((nI_leI (by omega) (by omega)).mp h) (by omega)
      rw [f_S_walkFiles_L2, if_neg h16, c1, Option.bind_some, nI_1]) (fun fu z _ => by
      show f_S_walkFiles_L2 (fu + 1) _ _ _ _ = _
      rw [f_S_walkFiles_L2, if_pos (nI_le (Nat.le_refl f) (by omega))]) FU (FU_gt (by omega)) wK (fun b hb => by rw [Nat.zero_mul]; exact hU b hb)
  have g2 : f_S_walkFiles_L2 FU 0 (nI f) nC wK = some w := g2
  refine ⟨w, ?_, fun b hb => ?_⟩
  · unfold f_S_walkFiles
    rw [g2]
    rfl
  · rw [g1 b hb, Nat.zero_add]
    unfold cntB
    rw [cn_ext (n := f * 16) (m := 640) (by omega) (fun x h1 h2 => by
      rw [beq_eq_false_iff_ne]
      intro w
      have := hE x h2 (by omega)
      omega)]
/-- counting the users of one file's places in a row -/
theorem P_walk1 {i w a : Nat} {U : Nat → Nat} (hi : i < 40) (hw : w < 8) (ha : pI (w * 40 + i) = nI a) (ha1 : a ≤ 1) (h64 : ∀ x, x < 640 → S (640 * s + x) ≤ 64) (hin : a = 1 → ∀ x, x < 16 → pC w (i * 16 + x) = nI (S (640 * s + (i * 16 + x))) - 1) (hout : a = 0 → ∀ x, x < 16 → S (640 * s + (i * 16 + x)) = 0) (hU : ∀ b, b < 64 → wK b = nI (U b + cn (fun x => S (640 * s + x) == b + 1) (i * 16))) :
    ∃ w', f_P_walkKept_L28 FU (nI w) (nI i) 0 pI pC wK = some w' ∧ (∀ b, b < 64 → w' b = nI (U b + cn (fun x => S (640 * s + x) == b + 1) ((i + 1) * 16))) := by
  have hR := P_isInRow_in hw hi ha ha1
  rcases (show a = 0 ∨ a = 1 by omega) with z | z
  · refine ⟨wK, ?_, fun b hb => ?_⟩
    · have h16 : ¬ (16 : Int32) ≤ 0 := by decide
      rw [show FU = 99999 + 1 from rfl, f_P_walkKept_L28, if_neg h16, hR, z]
      rfl
    · rw [hU b hb, cn_ext (n := i * 16) (m := (i + 1) * 16) (by omega) (fun x h1 h2 => by
        have := hout z (x - i * 16) (by omega)
        rw [show i * 16 + (x - i * 16) = x by omega] at this
        rw [this]
        rfl)]
  · obtain ⟨u, g1, g2⟩ := loop_rel (fun fu x (u : Nat → Int32) => f_P_walkKept_L28 fu (nI w) (nI i) (nI x) pI pC u) (fun x u => ∀ b, b < 64 → u b = nI (U b + cn (fun x => S (640 * s + x) == b + 1) (i * 16 + x))) 16 (fun u => u) (fun fu x u hx hu => by
        refine ⟨au (nI (S (640 * s + (i * 16 + x))) - 1) u, fun b hb => ?_, ?_⟩
        · rw [au_val (h64 _ (by omega)) hb, hu b hb]
          show _ = nI (U b + cn (fun x => S (640 * s + x) == b + 1) (i * 16 + x + 1))
          rw [cn_s]
          by_cases y : S (640 * s + (i * 16 + x)) = b + 1
          · rw [if_pos y, if_pos (beq_iff_eq.mpr y), nI_1, Nat.add_assoc]
          · rw [if_neg y, if_neg (fun q => y (beq_iff_eq.mp q)), Int32.add_zero] <;> rfl
        · show f_P_walkKept_L28 (fu + 1) _ _ _ _ _ _ = _
          have h16 : ¬ (16 : Int32) ≤ nI x := fun q => absurd ((nI_leI (a := 16) (b := x) (by omega) (by omega)).mp q) (by omega)
          have mm : nI i * 16 + nI x = nI (i * 16 + x) := by rw [show (16 : Int32) = nI 16 from rfl, pk_mul, nI_add]
          have e1 : ¬ ((nI 1 : Int32) = 0) := by decide
          rw [f_P_walkKept_L28, if_neg h16, hR, z, Option.bind_some, if_neg e1, if_neg (in_lim (by omega) (by omega)), mm, if_neg (in_lim (by omega) (by omega)), nI_clamp (by omega), nI_clamp (by omega), hin z x hx, C_countUser_ok, Option.bind_some, nI_1]) (fun fu u _ => by
        show f_P_walkKept_L28 (fu + 1) _ _ _ _ _ _ = _
        rw [f_P_walkKept_L28]
        simp (disch := omega) only [nI_ltI, nI_leI, nI_eq, nI_add, pk_mul, pk_sub, nI_clamp, l0, l1, l2, l3, l4, l5, l6, l8, l9, l10, l15, l16, l30, l39, l40, l58, l63, l64, l99, l100, l103, l104, l108, l112, l117, l119, l120, l512, l639, l640, l999, l9999, l19200, if_pos, if_neg, Option.bind_some, if_true, if_false]) FU (FU_gt (by omega)) wK hU
    exact ⟨u, g2, fun b hb => by rw [show (i + 1) * 16 = i * 16 + 16 by omega]; exact g1 b hb⟩
theorem P_walk_ok (hS : SNAP t K S W V WI pT pK pR pW pU pI pC msnaps mranks mkept mshot mwas) {U : Nat → Nat} (hU : ∀ b, b < 64 → wK b = nI (U b)) : ∃ w', f_P_walkKept pU pI pC wK = some w' ∧ ∀ b, b < 64 → w' b = nI (U b + snU t K S b) := by
  obtain ⟨-, -, ⟨ht, hkk⟩, -, hc8, hR, hW, hVr, hWV, hVc, hsum, hwi, hrow⟩ := hS
  obtain ⟨w, g1, g2⟩ := loop_rel (fun fu r (z : Nat → Int32) => f_P_walkKept_L2 fu (nI r) pU pI pC z) (fun r z => ∀ b, b < 64 → z b = nI (U b + sm (fun r => if V r = 0 then 0 else snB S (V r - 1) b) r)) 8 (fun z => z) (fun fu r z hr b1 => by
      obtain ⟨v1, v2⟩ := hVr r hr
      have h8 : ¬ (8 : Int32) ≤ nI r := fun h => absurd ((nI_leI (a := 8) (b := r) (by omega) (by omega)).mp h) (by omega)
      by_cases y : V r = 0
      · refine ⟨z, fun b hb => ?_, ?_⟩
        · rw [b1 b hb, sm_s, if_pos y, Nat.add_zero]
        · show f_P_walkKept_L2 (fu + 1) _ _ _ _ _ = _
          have h40 : ¬ (40 : Int32) ≤ 0 := by decide
          have inner : f_P_walkKept_L10 FU (nI r) 0 pU pI pC z = some z := by
            rw [show FU = 99999 + 1 from rfl, f_P_walkKept_L10, if_neg h40, if_neg (in_lim (by omega) (by omega)), nI_clamp (by omega), v1, if_pos y, if_pos (show nI 0 = 0 from rfl)]
          rw [f_P_walkKept_L2, if_neg h8, inner, Option.bind_some, nI_1]
      · obtain ⟨s, hs⟩ : ∃ s, V r = s + 1 := ⟨V r - 1, by omega⟩
        have hWs : W s = r + 1 := (hWV s r (by omega) hr).mpr hs
        obtain ⟨hst, hks⟩ := (hW s (by omega)).2.2.mp (by omega)
        obtain ⟨u, q1, q2⟩ := loop_rel (fun fu i (u : Nat → Int32) => f_P_walkKept_L10 fu (nI r) (nI i) pU pI pC u) (fun i u => ∀ b, b < 64 → u b = nI ((U b + sm (fun r => if V r = 0 then 0 else snB S (V r - 1) b) r) + cn (fun x => S (640 * s + x) == b + 1) (i * 16))) 40 (fun u => u) (fun fu i u hi hu => by
          obtain ⟨d1, d2, d3⟩ := hrow s hst hks i hi
          rw [hWs, Nat.add_sub_cancel] at d1 d2
          obtain ⟨u', x1, x2⟩ := P_walk1 (s := s) (S := S) (pI := pI) (pC := pC) (U := fun b => U b + sm (fun r => if V r = 0 then 0 else snB S (V r - 1) b) r) hi hr d1 (hwi (40 * s + i) (by omega)).2.1 (fun x hx => ((hkk s hst).2.2 hks x hx).2) d2 d3 hu
          refine ⟨u', x2, ?_⟩
          show f_P_walkKept_L10 (fu + 1) _ _ _ _ _ _ = _
          have h16 : ¬ (40 : Int32) ≤ nI i := fun q => absurd ((nI_leI (a := 40) (b := i) (by omega) (by omega)).mp q) (by omega)
          rw [f_P_walkKept_L10, if_neg h16, if_neg (in_lim (by omega) (by omega)), nI_clamp (by omega), v1, if_neg y, if_neg (by decide), x1, Option.bind_some, nI_1]) (fun fu u _ => by
          show f_P_walkKept_L10 (fu + 1) _ _ _ _ _ _ = _
          rw [f_P_walkKept_L10]
          simp (disch := omega) only [nI_ltI, nI_leI, nI_eq, nI_add, pk_mul, pk_sub, nI_clamp, l0, l1, l2, l3, l4, l5, l6, l8, l9, l10, l15, l16, l30, l39, l40, l58, l63, l64, l99, l100, l103, l104, l108, l112, l117, l119, l120, l512, l639, l640, l999, l9999, l19200, if_pos, if_neg, Option.bind_some, if_true, if_false]) FU (FU_gt (by omega)) z (fun b hb => by rw [Nat.zero_mul]; exact b1 b hb)
        refine ⟨u, fun b hb => ?_, ?_⟩
        · rw [q1 b hb, sm_s, if_neg y, hs, Nat.add_sub_cancel]
          have e : cn (fun x => S (640 * s + x) == b + 1) (40 * 16) = snB S s b := rfl
          rw [e, Nat.add_assoc]
        · show f_P_walkKept_L2 (fu + 1) _ _ _ _ _ = _
          have q2 : f_P_walkKept_L10 FU (nI r) 0 pU pI pC z = some u := q2
          rw [f_P_walkKept_L2, if_neg h8, q2, Option.bind_some, nI_1]) (fun fu z _ => by
      show f_P_walkKept_L2 (fu + 1) _ _ _ _ _ = _
      rw [f_P_walkKept_L2]
      simp (disch := omega) only [nI_ltI, nI_leI, nI_eq, nI_add, pk_mul, pk_sub, nI_clamp, l0, l1, l2, l3, l4, l5, l6, l8, l9, l10, l15, l16, l30, l39, l40, l58, l63, l64, l99, l100, l103, l104, l108, l112, l117, l119, l120, l512, l639, l640, l999, l9999, l19200, if_pos, if_neg, Option.bind_some, if_true, if_false]) FU (FU_gt (by omega)) wK (fun b hb => hU b hb)
  have g2 : f_P_walkKept_L2 FU 0 pU pI pC wK = some w := g2
  refine ⟨w, ?_, fun b hb => ?_⟩
  · unfold f_P_walkKept
    rw [g2]
    rfl
  · rw [g1 b hb, hsum b hb]
theorem C_walkUsers_ok (hS : SNAP t K S W V WI pT pK pR pW pU pI pC msnaps mranks mkept mshot mwas) (hf : f ≤ 40) (hC : BL B nC) (hE : ∀ x, x < 640 → B x ≠ 0 → x / 16 < f) : ∃ w', f_C_walkUsers (nI f) nC pU pI pC wK = some w' ∧ ∀ b, b < 64 → w' b = nI (usr t B K S b) := by
  obtain ⟨w1, a1, a2⟩ := J_fill_ok (wK := wK)
  obtain ⟨w2, b1, b2⟩ := S_walk_ok (wK := w1) hf hC hE a2
  obtain ⟨w3, c1, c2⟩ := P_walk_ok (wK := w2) hS b2
  refine ⟨w3, ?_, c2⟩
  unfold f_C_walkUsers
  rw [a1, Option.bind_some, b1, Option.bind_some, c1, Option.bind_some]
/-- CASE 39: isConsistent -/
theorem C_asWalked_ok (hw : ∀ b, b < 64 → wK b = nU b) : f_C_areUsersAsWalked_L6 FU 0 nU wK = some (1, wK) := by
  have hL := loop_up (fun fu i => f_C_areUsersAsWalked_L6 fu (nI i) nU wK) 64 (some (1, wK)) (fun fu i hi => by
      show f_C_areUsersAsWalked_L6 (fu + 1) _ _ _ = _
      have h64 : ¬ (64 : Int32) ≤ nI i := fun h => absurd ((nI_leI (a := 64) (b := i) (by omega) (by omega)).mp h) (by omega)
      rw [f_C_areUsersAsWalked_L6, if_neg h64, if_neg (in_lim (by omega) (by omega)), S_userTotal_in hi, Option.bind_some, nI_clamp (by omega), if_pos (hw i hi), nI_1]) (fun fu => by
      show f_C_areUsersAsWalked_L6 (fu + 1) _ _ _ = _
      rw [f_C_areUsersAsWalked_L6]
      simp (disch := omega) only [nI_ltI, nI_leI, nI_eq, nI_add, pk_mul, pk_sub, nI_clamp, l0, l1, l2, l3, l4, l5, l6, l8, l9, l10, l15, l16, l30, l39, l40, l58, l63, l64, l99, l100, l103, l104, l108, l112, l117, l119, l120, l512, l639, l640, l999, l9999, l19200, if_pos, if_neg, Option.bind_some, if_true, if_false]) FU (FU_gt (by omega))
  exact hL
theorem C_heldAlive_ok (hf : f ≤ 40) (hA : ∀ i, i < 40 → nA i = nI (A i) ∧ A i ≤ 1) (hV : ALV f L (hdN h HF HO) A) (hh : h ≤ 30) (hH : ∀ x, x < h → uF x = nI (HF x) ∧ uN x = nI (HO x) ∧ HF x < f ∧ HO x ≤ 1) : f_C_areHeldFilesAlive (nI f) nA (nI h) uF uN = some 1 := by
  unfold f_C_areHeldFilesAlive
  have hL := loop_up (fun fu i => f_C_areHeldFilesAlive_L2 fu (nI i) (nI f) nA (nI h) uF uN) 30 (some 1) (fun fu i hi => by
      show f_C_areHeldFilesAlive_L2 (fu + 1) _ _ _ _ _ _ = _
      have h30 : ¬ (30 : Int32) ≤ nI i := fun z => absurd ((nI_leI (a := 30) (b := i) (by omega) (by omega)).mp z) (by omega)
      rw [f_C_areHeldFilesAlive_L2, if_neg h30]
      by_cases z : i < h
      · obtain ⟨a1, a2, a3, a4⟩ := hH i z
        rw [H_isStillOpen_in hh z a2 a4, Option.bind_some]
        rcases (show HO i = 0 ∨ HO i = 1 by omega) with y | y
        · rw [y, if_pos (show nI 0 = 0 from rfl), nI_1]
        · have e2 : ¬ ((nI 1 : Int32) = 0) := by decide
          obtain ⟨b1, b2⟩ := hA (HF i) (by omega)
          have hA1 : A (HF i) = 1 := by
            rw [hV _ a3, if_neg]
            rintro ⟨-, w⟩
            have := hdN_close (HF := HF) (y := HF i) z y
            rw [if_pos rfl] at this
            omega
          rw [y, if_neg e2, H_fileOf_in z hh, Option.bind_some, a1, S_isAlive_in a3 hf b1 b2, hA1, Option.bind_some, if_neg e2, nI_1]
      · rw [H_isStillOpen_out (Or.inr ⟨nI_pos (by omega), nI_le (by omega) (by omega)⟩), Option.bind_some, if_pos rfl, nI_1]) (fun fu => by
      show f_C_areHeldFilesAlive_L2 (fu + 1) _ _ _ _ _ _ = _
      rw [f_C_areHeldFilesAlive_L2]
      simp (disch := omega) only [nI_ltI, nI_leI, nI_eq, nI_add, pk_mul, pk_sub, nI_clamp, l0, l1, l2, l3, l4, l5, l6, l8, l9, l10, l15, l16, l30, l39, l40, l58, l63, l64, l99, l100, l103, l104, l108, l112, l117, l119, l120, l512, l639, l640, l999, l9999, l19200, if_pos, if_neg, Option.bind_some, if_true, if_false]) FU (FU_gt (by omega))
  exact hL
end WALK
