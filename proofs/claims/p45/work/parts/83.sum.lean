/-! THE LAW'S sound: it holds -/
theorem sm_addf (g q : Nat → Nat) (n : Nat) : sm (fun b => g b + q b) n = sm g n + sm q n := by
  induction n with
  | zero => rfl
  | succ n ih =>
    rw [sm_s, sm_s, sm_s, ih]
    omega
theorem sm_ind (v N : Nat) : sm (fun b => if v == b + 1 then 1 else 0) N = if 1 ≤ v ∧ v ≤ N then 1 else 0 := by
  induction N with
  | zero => rw [if_neg (by omega)]; rfl
  | succ N ih =>
    rw [sm_s, ih]
    by_cases h : v = N + 1
    · rw [h, if_neg (by omega), if_pos (by rw [beq_self_eq_true]), if_pos (by omega)]
    · have e : (v == N + 1) = false := beq_eq_false_iff_ne.mpr h
      show _ + (if (v == N + 1) = true then 1 else 0) = _
      rw [e]
      by_cases h2 : 1 ≤ v ∧ v ≤ N
      · rw [if_pos h2, if_neg (show ¬ (false = true) by decide), if_pos (show 1 ≤ v ∧ v ≤ N + 1 by omega)]
      · rw [if_neg h2, if_neg (show ¬ (false = true) by decide), if_neg (show ¬ (1 ≤ v ∧ v ≤ N + 1) by omega)]
theorem sm_mono2 {g q : Nat → Nat} {n : Nat} (h : ∀ i, i < n → g i ≤ q i) : sm g n ≤ sm q n := by
  induction n with
  | zero => exact Nat.le_refl _
  | succ n ih =>
    rw [sm_s, sm_s]
    have h1 := ih (fun i hi => h i (by omega))
    have h2 := h n (by omega)
    omega
/-- the places that have blocks, counted by blocks -/
theorem sm_cnt {B : Nat → Nat} (n : Nat) (hB : ∀ x, x < n → B x ≤ 64) : sm (fun b => cn (fun x => B x == b + 1) n) 64 = cn (fun x => B x != 0) n := by
  induction n with
  | zero => exact (sm_cong (g := fun _ => 0) (fun i _ => rfl)).trans rfl
  | succ n ih =>
    have e : sm (fun b => cn (fun x => B x == b + 1) (n + 1)) 64 = sm (fun b => cn (fun x => B x == b + 1) n + (if B n == b + 1 then 1 else 0)) 64 := sm_cong (fun b _ => cn_s _ _)
    rw [e, sm_addf, ih (fun x hx => hB x (by omega)), sm_ind, cn_s]
    have h64 := hB n (by omega)
    by_cases z : B n = 0
    · rw [z, if_neg (by omega)]
      rfl
    · rw [if_pos (by omega), if_pos (bne_iff_ne.mpr z)]
section SOUND
variable {k t f e h : Nat} {K S W V WI O L A B P Qo HF HE HO : Nat → Nat} {pT pK uO nF nE cD a1 a3 a4 a5 a6 : Int32} {nO nL nA nC nV nU nP uF uE uN pR pW pU pI wK oQ : Nat → Int32} {pC : Nat → Nat → Int32}
theorem so14 (hS : SN t K S W V WI pT pK pR pW pU pI pC) (hf : f ≤ 40) (hC : BL B nC) (hE : ∀ x, x < 640 → B x ≠ 0 → x / 16 < f) (hU : US t B K S nU) : ∃ w', f_sound_L14 65 a1 0 a4 a5 0 0 (nI f) nC nU pU pI pC wK = some (nI (frN t B K S), nI (sm (usr t B K S) 64), w') := by
  have ht := SN_t hS
  obtain ⟨⟨v3, v6, w⟩, ⟨h1, h2⟩, h⟩ := loop_rel (fun fu b (s : Int32 × Int32 × (Nat → Int32)) => f_sound_L14 fu a1 s.1 a4 a5 s.2.1 (nI b) (nI f) nC nU pU pI pC s.2.2) (fun b s => s.1 = nI (cn (fun b => usr t B K S b == 0) b) ∧ s.2.1 = nI (sm (usr t B K S) b)) 64 (fun s => s) (fun fu b s hb hs => by
    obtain ⟨v3, v6, w⟩ := s
    obtain ⟨h3, h6⟩ := hs
    have h3 : v3 = nI (cn (fun b => usr t B K S b == 0) b) := h3
    have h6 : v6 = nI (sm (usr t B K S) b) := h6
    have h64 : ¬ (64 : Int32) ≤ nI b := fun z => absurd ((nI_leI (a := 64) (b := b) (by omega) (by omega)).mp z) (by omega)
    have hu := usr_le ht B K S b
    obtain ⟨w', hw'⟩ := K13_in (wK := w) hb hS hf hC hE
    have hpos : ¬ nI (usr t B K S b) < 0 := nI_pos (by omega)
    by_cases z : usr t B K S b = 0
    · refine ⟨(v3 + 1, v6 + nI (usr t B K S b), w'), ⟨?_, ?_⟩, ?_⟩
      · show v3 + 1 = _
        rw [h3, nI_1, cn_s, if_pos (beq_iff_eq.mpr z)]
      · show v6 + _ = _
        rw [h6, nI_add, sm_s]
      · show f_sound_L14 (fu + 1) _ _ _ _ _ _ _ _ _ _ _ _ _ = _
        rw [f_sound_L14, if_neg h64, K12_in hb, hU b hb]
        simp only [Option.bind_some, hw', if_true]
        rw [if_pos (by rw [z]; rfl), if_neg hpos, nI_1]
    · have hne : ¬ nI (usr t B K S b) = 0 := nI_ne0 (by omega) (by omega)
      refine ⟨(v3 + 0, v6 + nI (usr t B K S b), w'), ⟨?_, ?_⟩, ?_⟩
      · show v3 + 0 = _
        rw [h3, cn_s, if_neg (fun q => z (beq_iff_eq.mp q))]
        exact nI_add _ 0
      · show v6 + _ = _
        rw [h6, nI_add, sm_s]
      · show f_sound_L14 (fu + 1) _ _ _ _ _ _ _ _ _ _ _ _ _ = _
        rw [f_sound_L14, if_neg h64, K12_in hb, hU b hb]
        simp only [Option.bind_some, hw', if_true]
        rw [if_neg hne, if_neg hpos, nI_1]) (fun fu s _ => by
    show f_sound_L14 (fu + 1) _ _ _ _ _ _ _ _ _ _ _ _ _ = _
    rw [f_sound_L14, if_pos (show (64 : Int32) ≤ nI 64 by decide)]) 65 (by omega) ((0 : Int32), (0 : Int32), wK) ⟨rfl, rfl⟩
  have h1 : v3 = nI (frN t B K S) := h1
  have h2 : v6 = nI (sm (usr t B K S) 64) := h2
  subst h1
  subst h2
  exact ⟨w, h⟩
theorem so99 {i : Nat} (hf : f ≤ 40) (hi : i < f) (hC : BL B nC) (hU : US t B K S nU) (ht : t ≤ 30) (hV : ∀ b, b < 64 → ∃ v, v ≤ 999 ∧ nV b = nI v) : f_sound_L99 17 a1 a3 a4 a5 a6 (nI i) 0 0 (nI f) nC nV nU = some (nI (cn (fun x => B (i * 16 + x) != 0) 16)) := by
  have hL := loop_up (fun fu x => f_sound_L99 fu a1 a3 a4 a5 a6 (nI i) (nI (cn (fun x => B (i * 16 + x) != 0) x)) (nI x) (nI f) nC nV nU) 16 (some (nI (cn (fun x => B (i * 16 + x) != 0) 16))) (fun fu x hx => by
    have h16 : ¬ (16 : Int32) ≤ nI x := fun z => absurd ((nI_leI (a := 16) (b := x) (by omega) (by omega)).mp z) (by omega)
    show f_sound_L99 (fu + 1) _ _ _ _ _ _ _ _ _ _ _ _ = _
    rw [f_sound_L99, if_neg h16, K9_in hf hi hx hC, K8_in hf hi hx hC]
    simp only [Option.bind_some]
    have hb := (hC (i * 16 + x) (by omega)).2
    have hx2 : i * 16 + x < 640 := by omega
    rcases Nat.eq_zero_or_pos (B (i * 16 + x)) with z | z
    · have m5 : ((-1005) : Int32) < 0 := by decide
      have e0 : nI (cn (fun x => B (i * 16 + x) != 0) x) + 0 = nI (cn (fun x => B (i * 16 + x) != 0) x) := nI_add _ 0
      have e1 : cn (fun x => B (i * 16 + x) != 0) (x + 1) = cn (fun x => B (i * 16 + x) != 0) x := by
        rw [cn_s, if_neg (by rw [z]; decide)]
        rfl
      have ek : bkN B i x = -1005 := if_pos z
      have ev : vlN B nV i x = -1005 := if_pos z
      rw [ek, ev, if_pos m5, if_pos m5, if_pos m5, if_pos m5, e0, e1, nI_1]
    · obtain ⟨b, hb1⟩ : ∃ b, B (i * 16 + x) = b + 1 := ⟨B (i * 16 + x) - 1, by omega⟩
      obtain ⟨v, hv, hv2⟩ := hV b (by omega)
      have hpos : ¬ nI b < 0 := nI_pos (by omega)
      have hup := usr_pos (t := t) (K := K) (S := S) hx2 hb1
      have hul := usr_le ht B K S b
      have e1 : cn (fun x => B (i * 16 + x) != 0) (x + 1) = cn (fun x => B (i * 16 + x) != 0) x + 1 := by
        rw [cn_s, if_pos (bne_iff_ne.mpr (by omega))]
      have e2 : ¬ nI (usr t B K S b) < 1 := fun q => absurd ((nI_ltI (a := usr t B K S b) (b := 1) (by omega) (by omega)).mp q) (by omega)
      have ek : bkN B i x = nI b := by
        unfold bkN
        rw [hb1, if_neg (Nat.succ_ne_zero b), Nat.add_sub_cancel]
      have ev : vlN B nV i x = nV b := by
        unfold vlN
        rw [hb1, if_neg (Nat.succ_ne_zero b), Nat.add_sub_cancel]
      rw [ek, ev, if_neg hpos, if_neg hpos, K12_in (by omega), hU b (by omega)]
      simp only [Option.bind_some]
      rw [if_neg e2, if_neg hpos, hv2, if_neg (nI_pos (by omega)), e1, nI_1, nI_1]) (fun fu => by
    show f_sound_L99 (fu + 1) _ _ _ _ _ _ _ _ _ _ _ _ = _
    rw [f_sound_L99, if_pos (show (16 : Int32) ≤ nI 16 by decide)]) 17 (by omega)
  exact hL
theorem so84 (hf : f ≤ 40) (ht : t ≤ 30) (hh : h ≤ 30) (hC : CO k t K S O f L A B P e Qo (nI f) nO nL nA nC nV nU nP nE) (hV : ALV f L (hdN h HF HO) A) (hH : ∀ x, x < h → uF x = nI (HF x) ∧ uN x = nI (HO x) ∧ HF x < 40 ∧ HO x ≤ 1) : f_sound_L84 41 a1 a3 a4 0 a6 0 (nI f) nL nA nC nV nU (nI h) uF uN = some (nI (cn (fun x => B x != 0) (f * 16))) := by
  have hBL := CO_BL hC
  have hU := CO_U hC
  obtain ⟨-, -, -, hF, hB, -, hVv, -, -, hA, -⟩ := hC
  have hL := loop_up (fun fu i => f_sound_L84 fu a1 a3 a4 (nI (cn (fun x => B x != 0) (i * 16))) a6 (nI i) (nI f) nL nA nC nV nU (nI h) uF uN) f (some (nI (cn (fun x => B x != 0) (f * 16)))) (fun fu i hi => by
    have h1 : ¬ nI f ≤ nI i := fun z => absurd ((nI_leI (a := f) (b := i) (by omega) (by omega)).mp z) (by omega)
    obtain ⟨-, -, l1, l2⟩ := hF i hi
    have ec : cn (fun x => B x != 0) ((i + 1) * 16) = cn (fun x => B x != 0) (i * 16) + cn (fun x => B (i * 16 + x) != 0) 16 := by
      rw [Nat.succ_mul]
      exact cn_add _ _ _
    have hc16 := cn_le (fun x => B (i * 16 + x) != 0) 16
    have hAi := hV i hi
    have hhd := hdN_le h HF HO i
    have e10 : ¬ ((0 : Int32) = 1) := by decide
    show f_sound_L84 (fu + 1) _ _ _ _ _ _ _ _ _ _ _ _ _ _ _ = _
    rw [f_sound_L84, fileCount_ok]
    simp only [Option.bind_some]
    rw [if_neg h1, so99 hf hi hBL hU ht hVv, K10_in hf hi hBL]
    simp only [Option.bind_some, if_true]
    rw [K2_in hf hi hA, K3_in hf hi, l1, K26_in hf hi hh hH]
    simp only [Option.bind_some]
    rw [nI_1, ec, nI_add]
    have big : (if 0 < nI (L i) then if nI (A i) = 1 then f_sound_L84 fu a1 a3 a4 (nI (cn (fun x => B x != 0) (i * 16) + cn (fun x => B (i * 16 + x) != 0) 16)) a6 (nI (i + 1)) (nI f) nL nA nC nV nU (nI h) uF uN else none else if nI (hdN h HF HO i) ≤ 0 then if nI (A i) = 0 then f_sound_L84 fu a1 a3 a4 (nI (cn (fun x => B x != 0) (i * 16) + cn (fun x => B (i * 16 + x) != 0) 16)) a6 (nI (i + 1)) (nI f) nL nA nC nV nU (nI h) uF uN else none else if nI (A i) = 1 then f_sound_L84 fu a1 a3 a4 (nI (cn (fun x => B x != 0) (i * 16) + cn (fun x => B (i * 16 + x) != 0) 16)) a6 (nI (i + 1)) (nI f) nL nA nC nV nU (nI h) uF uN else none) = f_sound_L84 fu a1 a3 a4 (nI (cn (fun x => B x != 0) (i * 16) + cn (fun x => B (i * 16 + x) != 0) 16)) a6 (nI (i + 1)) (nI f) nL nA nC nV nU (nI h) uF uN := by
      by_cases z : L i = 0
      · rw [if_neg (by rw [z]; decide)]
        by_cases y : hdN h HF HO i = 0
        · have a0 : A i = 0 := by rw [hAi, if_pos ⟨z, y⟩]
          rw [if_pos (show nI (hdN h HF HO i) ≤ 0 by rw [y]; decide), if_pos (show nI (A i) = 0 by rw [a0]; rfl)]
        · have a0 : A i = 1 := by rw [hAi, if_neg (fun q => y q.2)]
          rw [if_neg (nI_nle (by omega) (by omega)), if_pos (show nI (A i) = 1 by rw [a0]; rfl)]
      · have a0 : A i = 1 := by rw [hAi, if_neg (fun q => z q.1)]
        rw [if_pos (show (0 : Int32) < nI (L i) from (nI_ltI (a := 0) (b := L i) (by omega) (by omega)).mpr (by omega)), if_pos (show nI (A i) = 1 by rw [a0]; rfl)]
    by_cases z : cn (fun x => B (i * 16 + x) != 0) 16 = 0
    · rw [if_pos (by rw [z]; decide)]
      exact big
    · obtain ⟨x, hx, hx2⟩ := cn_pos (p := fun x => B (i * 16 + x) != 0) (n := 16) (by omega)
      have a1 : A i = 1 := by
        have := ((hB (i * 16 + x) (by omega)).2.2 (bne_iff_ne.mp hx2)).2
        rw [blk_div hi hx] at this
        exact this
      rw [if_neg (nI_nle (by omega) (by omega)), if_pos (by rw [a1]; rfl)]
      exact big) (fun fu => by
    show f_sound_L84 (fu + 1) _ _ _ _ _ _ _ _ _ _ _ _ _ _ _ = _
    rw [f_sound_L84, fileCount_ok]
    simp only [Option.bind_some]
    rw [if_pos (nI_le (Nat.le_refl f) (by omega))]) 41 (by omega)
  have e0 : nI (cn (fun x => B x != 0) (0 * 16)) = 0 := rfl
  rw [e0] at hL
  exact hL
theorem so286 (hk : k ≤ 4) (hf : f ≤ 40) (hC : CO k t K S O f L A B P e Qo (nI f) nO nL nA nC nV nU nP nE) (hQ : ∀ o, o < k → oQ o = nI (Qo o) ∧ Qo o ≤ 64) : f_sound_L286 5 (nI k) a3 0 a5 a6 0 (nI f) nO nC nP (nI k) oQ = some (nI (sm P k)) := by
  have hBL := CO_BL hC
  have hE := CO_E hC
  have hO := CO_O hC
  obtain ⟨-, -, -, -, -, -, -, hP, -, -, hQc⟩ := hC
  have hL := loop_up (fun fu i => f_sound_L286 fu (nI k) a3 (nI (sm P i)) a5 a6 (nI i) (nI f) nO nC nP (nI k) oQ) k (some (nI (sm P k))) (fun fu i hi => by
    have h1 : ¬ nI k ≤ nI i := fun z => absurd ((nI_leI (a := k) (b := i) (by omega) (by omega)).mp z) (by omega)
    obtain ⟨q1, q2⟩ := hQ i hi
    have q3 := hQc i hi
    show f_sound_L286 (fu + 1) _ _ _ _ _ _ _ _ _ _ _ _ = _
    rw [f_sound_L286, if_neg h1, K15_in hk hi, K11_in hk hi hf hBL hO hE]
    simp only [Option.bind_some]
    rw [if_neg (in_lim (j := i) (n := 4) (by omega) (by omega)), nI_clamp (by omega), q1, if_pos (nI_le q3 (by omega)), (hP i (by omega)).1, nI_add, nI_1, sm_s]) (fun fu => by
    show f_sound_L286 (fu + 1) _ _ _ _ _ _ _ _ _ _ _ _ = _
    rw [f_sound_L286, if_pos (nI_le (Nat.le_refl k) (by omega))]) 5 (by omega)
  exact hL
theorem consist_ok (hC : CO k t K S O f L A B P e Qo (nI f) nO nL nA nC nV nU nP nE) (hV : ALV f L (hdN h HF HO) A) (hH : HD h f HF HE HO uO uF uE uN) (hS : SN t K S W V WI pT pK pR pW pU pI pC) : ∃ w', f_C_isConsistent (nI f) nA nC nU nP pU pI pC uO uF uN wK = some (1, w') := by
  have hBL := CO_BL hC
  have hE := CO_E hC
  have hU := CO_U hC
  have ht := SN_t hS
  obtain ⟨hf, -, -, hF, hB, -, -, hP, hPs, hA, -⟩ := hC
  obtain ⟨hh, rfl, hH⟩ := hH
  obtain ⟨w, w1, w2⟩ := C_walkUsers_ok (wK := wK) hS hf hBL hE
  have e1 : ¬ ((1 : Int32) = 0) := by decide
  have hfr := frN_le t B K S
  refine ⟨w, ?_⟩
  unfold f_C_isConsistent f_C_areUsersAsWalked
  rw [w1, Option.bind_some, C_asWalked_ok (fun b hb => by rw [w2 b hb, hU b hb]), Option.bind_some]
  simp only [e1, if_false, C_heldAlive_ok hf hA hV hh (fun x hx => ⟨(hH x hx).1, (hH x hx).2.2.1, (hH x hx).2.2.2.2.1, (hH x hx).2.2.2.1⟩), Option.bind_some, S_promisedInAll_ok (fun o ho => ⟨(hP o ho).1, (hP o ho).2⟩), C_freeN ht hU]
  rw [if_neg (nI_nlt hPs (by omega))]
theorem sound_ok (hk : k ≤ 4) (hS : SN t K S W V WI pT pK pR pW pU pI pC) (hH : HD h f HF HE HO uO uF uE uN) (hC : CO k t K S O f L A B P e Qo nF nO nL nA nC nV nU nP nE) (hV : ALV f L (hdN h HF HO) A) (hQ : ∀ o, o < k → oQ o = nI (Qo o) ∧ Qo o ≤ 64) : ∃ w', f_sound (nI k) nF nO nL nA nC nV nU nP (nI k) pU pI pC uO uF uN wK oQ = some w' := by
  have hC0 := hC
  have hBL := CO_BL hC
  have hE := CO_E hC
  have hU := CO_U hC
  have ht := SN_t hS
  obtain ⟨hf, rfl, rfl, hF, hB, -, -, hP, hPs, hA, -⟩ := hC
  have hH1 := HD_h hH hf
  have hH0 := hH
  obtain ⟨hh, rfl, hH⟩ := hH
  obtain ⟨w1, e1⟩ := so14 (a1 := nI k) (a4 := 0) (a5 := 0) (wK := wK) hS hf hBL hE hU
  have e2 := so84 (a1 := nI k) (a3 := nI (frN t B K S)) (a4 := 0) (a6 := nI (sm (usr t B K S) 64)) hf ht hh hC0 hV hH1
  have e3 := so286 (a3 := nI (frN t B K S)) (a5 := nI (cn (fun x => B x != 0) (f * 16))) (a6 := nI (sm (usr t B K S) 64)) hk hf hC0 hQ
  obtain ⟨w2, e4⟩ := consist_ok (wK := w1) hC0 hV hH0 hS
  have hfr := frN_le t B K S
  have hsk : sm P k ≤ sm P 4 := sm_mono P hk
  have hcf : cn (fun x => B x != 0) (f * 16) ≤ f * 16 := cn_le _ _
  have hus : sm (usr t B K S) 64 ≤ 64 * 20000 := sm_le (fun i _ => usr_le ht B K S i)
  have hpl : cn (fun x => B x != 0) (f * 16) ≤ sm (usr t B K S) 64 := by
    have z1 : cn (fun x => B x != 0) (f * 16) ≤ cn (fun x => B x != 0) 640 := cn_mono _ (by omega)
    rw [← sm_cnt 640 (fun x hx => (hB x hx).2.1)] at z1
    exact Nat.le_trans z1 (sm_mono2 (fun b _ => Nat.le_add_right _ _))
  have d1 : ¬ ((1 : Int32) = 0) := by decide
  refine ⟨w2, ?_⟩
  unfold f_sound
  rw [e1]
  simp only [Option.bind_some]
  rw [e2]
  simp only [Option.bind_some]
  rw [e3, free_ok ht hU]
  simp only [Option.bind_some, if_true]
  rw [if_neg (nI_nlt (by omega) (by omega)), if_neg (nI_nlt hpl (by omega)), e4]
  simp only [Option.bind_some]
  rw [if_neg d1]
end SOUND
