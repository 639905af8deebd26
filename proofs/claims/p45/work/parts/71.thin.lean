/-! CASE 22: thin -/
section THIN
variable {j k t f e h tr d r s : Nat} {K S O L A B P W V WI : Nat → Nat} {cT cD misop mday pT pK msnaps nF mfiles nE mentr p1 : Int32} {nO nL nA nC nV nU nP mprom mlinks mblocks mvals pR pW pU pI mranks mkept mshot mwas : Nat → Int32} {pC : Nat → Nat → Int32} {oL : Nat → Int64}
/-- one file's places of a row that is dropped -/
theorem P_drop1 {i w : Nat} {v : Int32} {U : Nat → Nat} (hi : i < 40) (hw : w < 8) {a : Nat} (ha : pI (w * 40 + i) = nI a) (ha1 : a ≤ 1) (h64 : ∀ x, x < 640 → S (640 * s + x) ≤ 64) (hin : a = 1 → ∀ x, x < 16 → pC w (i * 16 + x) = nI (S (640 * s + (i * 16 + x))) - 1) (hout : a = 0 → ∀ x, x < 16 → S (640 * s + (i * 16 + x)) = 0) (hUb : ∀ b, b < 64 → snB S s b ≤ U b) (hU : ∀ b, b < 64 → nU b = nI (U b - cn (fun x => S (640 * s + x) == b + 1) (i * 16))) :
    ∃ nU', f_P_drop_L27 FU v (nI w) (nI i) 0 nU pI pC = some nU' ∧ (∀ b, b < 64 → nU' b = nI (U b - cn (fun x => S (640 * s + x) == b + 1) ((i + 1) * 16))) := by
  have hR := P_isInRow_in hw hi ha ha1
  rcases (show a = 0 ∨ a = 1 by omega) with z | z
  · refine ⟨nU, ?_, fun b hb => ?_⟩
    · have h16 : ¬ (16 : Int32) ≤ 0 := by decide
      rw [show FU = 99999 + 1 from rfl, f_P_drop_L27, if_neg h16, hR, z]
      rfl
    · rw [hU b hb, cn_ext (n := i * 16) (m := (i + 1) * 16) (by omega) (fun x h1 h2 => by
        have := hout z (x - i * 16) (by omega)
        rw [show i * 16 + (x - i * 16) = x by omega] at this
        rw [this]
        rfl)]
  · obtain ⟨u, g1, g2⟩ := loop_rel (fun fu x (u : Nat → Int32) => f_P_drop_L27 fu v (nI w) (nI i) (nI x) u pI pC) (fun x u => ∀ b, b < 64 → u b = nI (U b - cn (fun x => S (640 * s + x) == b + 1) (i * 16 + x))) 16 (fun u => u) (fun fu x u hx hu => by
        refine ⟨ru (nI (S (640 * s + (i * 16 + x))) - 1) u, fun b hb => ?_, ?_⟩
        · have hm := cn_mono (fun x => S (640 * s + x) == b + 1) (n := i * 16 + x + 1) (m := 640) (by omega)
          have hb2 := hUb b hb
          unfold snB at hb2
          rw [ru_val (h64 _ (by omega)) hb, hu b hb]
          show _ = nI (U b - cn (fun x => S (640 * s + x) == b + 1) (i * 16 + x + 1))
          rw [cn_s]
          rw [cn_s] at hm
          by_cases y : S (640 * s + (i * 16 + x)) = b + 1
          · rw [if_pos (beq_iff_eq.mpr y)] at hm
            rw [if_pos y, if_pos (beq_iff_eq.mpr y)]
            rw [show nI (U b - cn (fun x => S (640 * s + x) == b + 1) (i * 16 + x)) - 1 = nI (U b - cn (fun x => S (640 * s + x) == b + 1) (i * 16 + x) - 1) from pk_sub (b := 1) (by omega), Nat.sub_sub]
          · rw [if_neg y, if_neg (fun q => y (beq_iff_eq.mp q)), Int32.sub_zero] <;> rfl
        · show f_P_drop_L27 (fu + 1) _ _ _ _ _ _ _ = _
          have h16 : ¬ (16 : Int32) ≤ nI x := fun q => absurd ((nI_leI (a := 16) (b := x) (by omega) (by omega)).mp q) (by omega)
          have mm : nI i * 16 + nI x = nI (i * 16 + x) := by rw [show (16 : Int32) = nI 16 from rfl, pk_mul, nI_add]
          have e1 : ¬ ((nI 1 : Int32) = 0) := by decide
          rw [f_P_drop_L27, if_neg h16, hR, z, Option.bind_some, if_neg e1, if_neg (in_lim (by omega) (by omega)), mm, if_neg (in_lim (by omega) (by omega)), nI_clamp (by omega), nI_clamp (by omega), hin z x hx, S_removeUser_ok, Option.bind_some, nI_1]) (fun fu u _ => by
        show f_P_drop_L27 (fu + 1) _ _ _ _ _ _ _ = _
        rw [f_P_drop_L27]
        simp (disch := omega) only [nI_ltI, nI_leI, nI_eq, nI_add, pk_mul, pk_sub, nI_clamp, l0, l1, l2, l3, l4, l5, l6, l8, l9, l10, l15, l16, l30, l39, l40, l58, l63, l64, l99, l100, l103, l104, l108, l112, l117, l119, l120, l512, l639, l640, l999, l9999, l19200, if_pos, if_neg, Option.bind_some, if_true, if_false]) FU (FU_gt (by omega)) nU hU
    exact ⟨u, g2, fun b hb => by rw [show (i + 1) * 16 = i * 16 + 16 by omega]; exact g1 b hb⟩
theorem snU_drop {b : Nat} (hs : s < t) (hk : K s = 1) : snU t (un K s 0) S b + snB S s b = snU t K S b := by
  have h := sm_upd (f := fun s => if K s = 1 then snB S s b else 0) (g := fun z => if un K s 0 z = 1 then snB S z b else 0) (n := t) (k := s) hs (fun i _ hne => by rw [un_ne hne])
  rw [un_at, if_neg (show ¬ (0 : Nat) = 1 by omega), if_pos hk] at h
  unfold snU
  omega
/-- a kept snapshot is dropped -/
theorem DROP (hS : SNAP t K S W V WI pT pK pR pW pU pI pC msnaps mranks mkept mshot mwas) (hs : s < t) (hk : K s = 1) (hU : US t B K S nU) :
    ∃ nU' pK' pW' pU' K' W' V', f_P_drop (nI s) nU (nI t) pK pW pU pI pC = some (nU', pK', pW', pU') ∧ SNAP t K' S W' V' WI pT pK' pR pW' pU' pI pC msnaps mranks (upd mkept s (nI 0)) mshot mwas ∧ US t B K' S nU' ∧ cn (fun s => K' s == 1) t + 1 = cn (fun s => K s == 1) t := by
  obtain ⟨g1, g2, ⟨ht, hkk⟩, rfl, hc8, hR, hW, hVr, hWV, hVc, hsum, hwi, hrow⟩ := hS
  obtain ⟨w1, w2, w3⟩ := hW s (by omega)
  have hw0 : W s ≠ 0 := w3.mpr ⟨hs, hk⟩
  obtain ⟨w, hw⟩ : ∃ w, W s = w + 1 := ⟨W s - 1, by omega⟩
  have hw8 : w < 8 := by omega
  have hVw : V w = s + 1 := (hWV s w (by omega) hw8).mp hw
  have hcK : cn (fun z => un K s 0 z == 1) t + 1 = cn (fun s => K s == 1) t := by
    have h := cn_upd (p := fun s => K s == 1) (q := fun z => un K s 0 z == 1) (n := t) (k := s) hs (fun i _ hne => by rw [un_ne hne])
    rw [un_at, hk] at h
    simpa using h
  have hUb : ∀ b, b < 64 → snB S s b ≤ usr t B K S b := fun b hb => by
    have := snU_drop (S := S) (b := b) hs hk
    unfold usr
    omega
  obtain ⟨u, q1, q2⟩ := loop_rel (fun fu i (u : Nat → Int32) => f_P_drop_L17 fu (nI s) (nI w) (nI i) u pI pC) (fun i u => ∀ b, b < 64 → u b = nI (usr t B K S b - cn (fun x => S (640 * s + x) == b + 1) (i * 16))) 40 (fun u => u) (fun fu i u hi hu => by
      obtain ⟨d1, d2, d3⟩ := hrow s hs hk i hi
      rw [hw, Nat.add_sub_cancel] at d1 d2
      obtain ⟨u', v1, v2⟩ := P_drop1 (s := s) (S := S) (pI := pI) (pC := pC) (v := nI s) (U := usr t B K S) hi hw8 d1 (hwi (40 * s + i) (by omega)).2.1 (fun x hx => ((hkk s hs).2.2 hk x hx).2) d2 d3 hUb hu
      refine ⟨u', v2, ?_⟩
      show f_P_drop_L17 (fu + 1) _ _ _ _ _ _ = _
      have h16 : ¬ (40 : Int32) ≤ nI i := fun q => absurd ((nI_leI (a := 40) (b := i) (by omega) (by omega)).mp q) (by omega)
      rw [f_P_drop_L17, if_neg h16, v1, Option.bind_some, nI_1]) (fun fu u _ => by
      show f_P_drop_L17 (fu + 1) _ _ _ _ _ _ = _
      rw [f_P_drop_L17]
      simp (disch := omega) only [nI_ltI, nI_leI, nI_eq, nI_add, pk_mul, pk_sub, nI_clamp, l0, l1, l2, l3, l4, l5, l6, l8, l9, l10, l15, l16, l30, l39, l40, l58, l63, l64, l99, l100, l103, l104, l108, l112, l117, l119, l120, l512, l639, l640, l999, l9999, l19200, if_pos, if_neg, Option.bind_some, if_true, if_false]) FU (FU_gt (by omega)) nU (fun b hb => by rw [Nat.zero_mul]; exact hU b hb)
  have e1 : ¬ ((1 : Int32) = 0) := by decide
  refine ⟨u, nI (cn (fun z => un K s 0 z == 1) t), upd pW s (-1), upd pU w 0, un K s 0, un W s 0, un V w 0, ?_, ?_, fun b hb => ?_, hcK⟩
  · unfold f_P_drop
    have q2 : f_P_drop_L17 FU (nI s) (nI w) 0 nU pI pC = some u := q2
    rw [P_rowOf_in hs ht, Option.bind_some, w1, hw, nI_pred, P_isRow_in hw8, Option.bind_some, if_neg e1, q2, Option.bind_some, if_neg (in_lim (by omega) (by omega)), if_neg (in_lim (by omega) (by omega)), nI_clamp (by omega), nI_clamp (by omega), ← hcK, nI_pred, vz0]
  · refine ⟨g1, g2, ⟨ht, fun z hz => ?_⟩, rfl, by omega, hR, fun z hz => ?_, fun q hq => ?_, fun z q hz hq => ?_, ?_, fun b hb => ?_, hwi, fun z hz hkz i hi => ?_⟩
    · by_cases y : z = s
      · rw [y, upd_at, un_at]
        exact ⟨rfl, by omega, fun w => absurd w (by omega)⟩
      · rw [upd_ne y, un_ne y]
        exact hkk z hz
    · by_cases y : z = s
      · rw [y, upd_at, un_at, un_at]
        exact ⟨rfl, by omega, ⟨fun w => absurd rfl w, fun w => absurd w.2 (by omega)⟩⟩
      · rw [upd_ne y, un_ne y, un_ne y]
        exact hW z hz
    · by_cases y : q = w
      · rw [y, upd_at, un_at]
        exact ⟨rfl, by omega⟩
      · rw [upd_ne y, un_ne y]
        exact hVr q hq
    · have hzq := hWV z q hz hq
      have hsq := hWV s q (by omega) hq
      by_cases y : z = s
      · rw [y, un_at]
        by_cases x : q = w
        · rw [x, un_at]
          exact ⟨fun w => absurd w (by omega), fun w => absurd w (by omega)⟩
        · rw [un_ne x]
          exact ⟨fun w => absurd w (by omega), fun v => by
            have := hsq.mpr v
            omega⟩
      · rw [un_ne y]
        by_cases x : q = w
        · rw [x, un_at]
          rw [x] at hzq
          exact ⟨fun v => by
            have := hzq.mp v
            omega, fun v => absurd v (by omega)⟩
        · rw [un_ne x]
          exact hzq
    · have h := cn_upd (p := fun q => V q != 0) (q := fun q => un V w 0 q != 0) (n := 8) (k := w) hw8 (fun i _ hne => by rw [un_ne hne])
      rw [un_at, hVw, hVc, ← hcK] at h
      simpa using h
    · have h := sm_upd (f := fun q => if V q = 0 then 0 else snB S (V q - 1) b) (g := fun q => if un V w 0 q = 0 then 0 else snB S (un V w 0 q - 1) b) (n := 8) (k := w) hw8 (fun i hi hne => by rw [un_ne hne])
      rw [un_at, if_pos rfl, hVw, if_neg (by omega), Nat.add_sub_cancel, hsum b hb] at h
      have h2 := snU_drop (S := S) (b := b) hs hk
      omega
    · by_cases y : z = s
      · rw [y, un_at] at hkz
        exact absurd hkz (by omega)
      · rw [un_ne y] at hkz ⊢
        exact hrow z hz hkz i hi
  · rw [q1 b hb]
    have h2 := snU_drop (S := S) (b := b) hs hk
    have e : cn (fun x => S (640 * s + x) == b + 1) (40 * 16) = snB S s b := rfl
    rw [e]
    unfold usr
    rw [show cntB B b + snU t K S b - snB S s b = cntB B b + snU t (un K s 0) S b by omega]
end THIN
