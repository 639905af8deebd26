/-! WHAT THE CALLS THAT ONLY ASK ANSWER -/
section QUERY
variable {k t f e h i x b o s : Nat} {K S W V WI O L A B P Qo HF HE HO : Nat → Nat} {pT pK p : Int32} {nO nL nA nC nV nU nP uF uE uN pR pW pU pI wK : Nat → Int32} {pC : Nat → Nat → Int32}
theorem K2_in (hf : f ≤ 40) (hi : i < f) (hA : ∀ i, i < 40 → nA i = nI (A i) ∧ A i ≤ 1) : f_K2 (nI i) (nI f) nA = some (nI (A i)) := by
  obtain ⟨a1, a2⟩ := hA i (by omega)
  unfold f_K2 f_C_doesExist
  rw [C_requireFile_in hf hi, S_isAlive_in hi hf a1 a2]
  rcases (show A i = 0 ∨ A i = 1 by omega) with q | q
  · rw [q]
    rfl
  · rw [q]
    rfl
theorem K3_in (hf : f ≤ 40) (hi : i < f) : f_K3 (nI i) (nI f) nL = some (nL i) := by
  unfold f_K3 f_C_linksOf
  rw [C_requireFile_in hf hi, S_linkTotal_in hi hf]
  rfl
/-- what a place tells -/
def vlN (B : Nat → Nat) (nV : Nat → Int32) (i x : Nat) : Int32 := if B (i * 16 + x) = 0 then -1005 else nV (B (i * 16 + x) - 1)
def bkN (B : Nat → Nat) (i x : Nat) : Int32 := if B (i * 16 + x) = 0 then -1005 else nI (B (i * 16 + x) - 1)
theorem K8_in (hf : f ≤ 40) (hi : i < f) (hx : x < 16) (hC : BL B nC) : f_K8 (nI i) (nI x) (nI f) nC nV = some (vlN B nV i x) := by
  obtain ⟨a1, a2⟩ := hC (i * 16 + x) (by omega)
  unfold f_K8 f_C_read f_C_blockOrThrow vlN
  rw [C_requireFile_in hf hi, C_requirePlace_in hx, S_blockIn_in hi hf hx, a1]
  generalize B (i * 16 + x) = b at a2 ⊢
  rcases b with _ | b
  · rfl
  · have e6 : ¬ nI b = -1 := ne_m1 (by omega)
    simp only [nI_pred, e6, if_false, Option.bind_some, S_valueIn_in (show b < 64 by omega)]
    rfl
theorem K8_fout (h : Out p f) : f_K8 p (nI x) (nI f) nC nV = some (-1001) := by
  unfold f_K8 f_C_read f_C_blockOrThrow
  rw [C_requireFile_out h]
  rfl
theorem K8_pout (hf : f ≤ 40) (hi : i < f) (h : Out p 16) : f_K8 (nI i) p (nI f) nC nV = some (-1001) := by
  unfold f_K8 f_C_read f_C_blockOrThrow
  rw [C_requireFile_in hf hi, C_requirePlace_out h]
  rfl
theorem K9_in (hf : f ≤ 40) (hi : i < f) (hx : x < 16) (hC : BL B nC) : f_K9 (nI i) (nI x) (nI f) nC = some (bkN B i x) := by
  obtain ⟨a1, a2⟩ := hC (i * 16 + x) (by omega)
  unfold f_K9 f_C_blockAt f_C_blockOrThrow bkN
  rw [C_requireFile_in hf hi, C_requirePlace_in hx, S_blockIn_in hi hf hx, a1]
  generalize B (i * 16 + x) = b at a2 ⊢
  rcases b with _ | b
  · rfl
  · have e6 : ¬ nI b = -1 := ne_m1 (by omega)
    simp only [nI_pred, e6, if_false, Option.bind_some]
    rfl
theorem K10_in (hf : f ≤ 40) (hi : i < f) (hC : BL B nC) : f_K10 (nI i) (nI f) nC = some (nI (cn (fun x => B (i * 16 + x) != 0) 16)) := by
  unfold f_K10 f_C_blocksOf
  rw [C_requireFile_in hf hi, C_blocksOf_ok hf hi hC]
  rfl
theorem K11_in (hk : k ≤ 4) (ho : o < k) (hf : f ≤ 40) (hC : BL B nC) (hO : ∀ i, i < f → nO i = nI (O i) ∧ O i < k) (hE : ∀ x, x < 640 → B x ≠ 0 → x / 16 < f) : f_K11 (nI o) (nI f) nO nC (nI k) = some (nI (cn (fun b => isU O B o b) 64)) := by
  have b1 : f_S_blocksOfOwner (nI o) (-1) (nI f) nO nC = some (mkO O B o 99 f) := S_blocksOfOwner_ok (by omega) hf (fun i hi => ⟨fun q => absurd q (ne_m1 (by omega)), fun q => by omega⟩) (fun i hi => ⟨(hO i hi).1, by have := (hO i hi).2; omega⟩) hC
  have b2 := counts_eq (o := o) (O := O) (B := B) hf (fun x hx => (hC x hx).2) hE
  unfold f_K11 f_C_usedBy
  rw [C_requireOwner_in hk ho, b1]
  simp only [Option.bind_some]
  rw [b2]
  rfl
theorem K12_in (hb : b < 64) : f_K12 (nI b) nU = some (nU b) := by
  unfold f_K12 f_C_usersOf f_C_requireBlock
  rw [C_isBlock_in hb, S_userTotal_in hb]
  rfl
theorem K13_in (hb : b < 64) (hS : SN t K S W V WI pT pK pR pW pU pI pC) (hf : f ≤ 40) (hC : BL B nC) (hE : ∀ x, x < 640 → B x ≠ 0 → x / 16 < f) : ∃ w', f_K13 (nI b) (nI f) nC pU pI pC wK = some (nI (usr t B K S b), w') := by
  obtain ⟨w, w1, w2⟩ := C_walkUsers_ok (wK := wK) hS hf hC hE
  refine ⟨w, ?_⟩
  unfold f_K13 f_C_usersByWalk f_C_requireBlock
  rw [C_isBlock_in hb, w1]
  have e1 : ¬ ((1 : Int32) = 0) := by decide
  simp only [Option.bind_some, e1, in_l2 (show b < 64 by omega) (by omega), nI_clamp (show b < 2 ^ 31 by omega), w2 b hb, if_false]
theorem K15_in (hk : k ≤ 4) (ho : o < k) : f_K15 (nI o) nP (nI k) = some (nP o) := by
  unfold f_K15 f_C_promisedTo
  rw [C_requireOwner_in hk ho, S_promisedFor_in (show o < 4 by omega)]
  rfl
theorem K15_out (hk : k ≤ 4) (h : Out p k) : f_K15 p nP (nI k) = some (-1001) := by
  unfold f_K15 f_C_promisedTo
  rw [C_requireOwner_out hk h]
  rfl
theorem SN_t (hS : SN t K S W V WI pT pK pR pW pU pI pC) : t ≤ 30 := hS.2.2.1.1
theorem SN_K (hS : SN t K S W V WI pT pK pR pW pU pI pC) (hs : s < t) : K s ≤ 1 := (hS.2.2.1.2 s hs).2.1
theorem SN_S (hS : SN t K S W V WI pT pK pR pW pU pI pC) (hs : s < t) (hk : K s = 1) (hx : x < 640) : S (640 * s + x) ≤ 64 := ((hS.2.2.1.2 s hs).2.2 hk x hx).2
theorem SN_W (hS : SN t K S W V WI pT pK pR pW pU pI pC) (hs : s < t) : WI (40 * s + i) ≤ 1 ∨ 40 ≤ i := by
  rcases Nat.lt_or_ge i 40 with q | q
  · exact Or.inl (hS.2.2.2.2.2.2.2.2.2.2.2.1 (40 * s + i) (by have := SN_t hS; omega)).2.1
  · exact Or.inr q
theorem K18_in (hS : SN t K S W V WI pT pK pR pW pU pI pC) (hs : s < t) : f_K18 (nI s) pT pW = some (nI (K s)) := by
  have ht := SN_t hS
  have hk := SN_K hS hs
  obtain ⟨rfl, -, -, -, -, -, hW, -⟩ := hS
  obtain ⟨w1, w2, w3⟩ := hW s (by omega)
  unfold f_K18 f_C_isKept
  rw [C_requireSnapshot_in ht hs, P_rowOf_in hs ht, w1]
  rcases (show K s = 0 ∨ K s = 1 by omega) with q | q
  · have z : W s = 0 := by
      rcases Nat.eq_zero_or_pos (W s) with z | z
      · exact z
      · have := w3.mp (by omega)
        omega
    rw [z, q]
    rfl
  · have z : W s ≠ 0 := w3.mpr ⟨hs, q⟩
    obtain ⟨w, hw⟩ : ∃ w, W s = w + 1 := ⟨W s - 1, by omega⟩
    have e6 : ¬ nI w = -1 := ne_m1 (by omega)
    rw [hw, q, nI_pred]
    simp only [Option.bind_some, e6, if_false]
    rfl
theorem K19_in (hS : SN t K S W V WI pT pK pR pW pU pI pC) (hs : s < t) (hf : f ≤ 40) (hi : i < f) (hx : x < 16) : f_K19 (nI s) (nI i) (nI x) (nI f) nV pT pW pI pC = some (if K s = 1 then rdN S WI nV s i x else -1005) := by
  have hS0 := hS
  have ht := SN_t hS
  have hk := SN_K hS hs
  obtain ⟨rfl, -⟩ := hS
  have hinc := snap_includes hS0 hs (show i < 40 by omega)
  unfold f_K19 f_C_readFrom f_C_requireInSnapshot
  rw [C_requireSnapshot_in ht hs, C_requireFile_in hf hi, C_requirePlace_in hx, hinc]
  unfold hasN
  rcases (show K s = 0 ∨ K s = 1 by omega) with z | z
  · rw [z]
    rfl
  · rw [z, if_pos rfl, if_pos rfl]
    have hw := SN_W (i := i) hS0 hs
    unfold rdN
    rcases (show WI (40 * s + i) = 0 ∨ WI (40 * s + i) = 1 by omega) with y | y
    · rw [y]
      rfl
    · have k5 := SN_S (x := i * 16 + x) hS0 hs z (by omega)
      have e2 : ¬ ((nI 1 : Int32) = 0) := by decide
      rw [y, snap_blockIn hS0 hs (show i < 40 by omega) hx z, if_pos rfl]
      simp only [e2, if_false, Option.bind_some]
      generalize S (640 * s + (i * 16 + x)) = b at k5 ⊢
      rcases b with _ | b
      · rfl
      · have e6 : ¬ nI b = -1 := ne_m1 (by omega)
        simp only [nI_pred, e6, if_false, Option.bind_some, S_valueIn_in (show b < 64 by omega)]
        rfl
theorem K19_fout (hS : SN t K S W V WI pT pK pR pW pU pI pC) (hs : s < t) (h : Out p f) : f_K19 (nI s) p (nI x) (nI f) nV pT pW pI pC = some (-1001) := by
  have ht := SN_t hS
  obtain ⟨rfl, -⟩ := hS
  unfold f_K19 f_C_readFrom
  rw [C_requireSnapshot_in ht hs, C_requireFile_out h]
  rfl
theorem snap_least (hS : SN t K S W V WI pT pK pR pW pU pI pC) : f_P_leastKept pR pW = some (nI (lstN K pR t) - 1) ∧ lstN K pR t ≤ t ∧ (lstN K pR t ≠ 0 → K (lstN K pR t - 1) = 1) := by
  obtain ⟨-, -, ⟨ht, hk⟩, -, -, -, hW, -⟩ := hS
  have hp : ∀ s, s < 30 → (W s != 0) = (decide (s < t) && K s == 1) := by
    intro s hs
    obtain ⟨-, -, w3⟩ := hW s hs
    rw [Bool.eq_iff_iff, bne_iff_ne, w3, Bool.and_eq_true, decide_eq_true_iff, beq_iff_eq]
  have e1 : bst pR (fun s => W s != 0) 30 = lstN K pR t := by
    rw [bst_cong (R' := pR) (p' := fun s => decide (s < t) && K s == 1) 30 (fun _ _ => rfl) hp, bst_ext (n := t) ht (fun i h1 h2 => by
      show (decide (i < t) && K i == 1) = false
      rw [decide_eq_false (by omega)]
      rfl)]
    exact bst_cong t (fun _ _ => rfl) (fun i hi => by
      show (decide (i < t) && K i == 1) = (K i == 1)
      rw [decide_eq_true hi]
      rfl)
  refine ⟨?_, bst_le _ _ _, fun h => ?_⟩
  · rw [C_leastKept_ok (W := W) (fun s hs => ⟨(hW s hs).1, (hW s hs).2.1⟩), e1]
  · exact beq_iff_eq.mp (bst_p pR (fun s => K s == 1) t h)
theorem K21_ok (hS : SN t K S W V WI pT pK pR pW pU pI pC) : f_K21 pR pW = some (if lstN K pR t = 0 then -1005 else nI (lstN K pR t - 1)) := by
  obtain ⟨h1, h2, -⟩ := snap_least hS
  have ht := SN_t hS
  unfold f_K21 f_C_nextToDrop
  rw [h1]
  generalize lstN K pR t = l at h2 ⊢
  rcases l with _ | l
  · rfl
  · have e6 : ¬ nI l = -1 := ne_m1 (by omega)
    simp only [nI_pred, e6, if_false, Option.bind_some]
    rfl
theorem K25_in (hh : h ≤ 30) (hx : x < h) (hu : uN x = nI (HO x)) (h1 : HO x ≤ 1) : f_K25 (nI x) (nI h) uN = some (nI (HO x)) := by
  unfold f_K25 f_C_isOpen
  rw [C_requireHold_in hh hx, H_isStillOpen_in hh hx hu h1]
  rcases (show HO x = 0 ∨ HO x = 1 by omega) with q | q
  · rw [q]
    rfl
  · rw [q]
    rfl
theorem K26_in (hf : f ≤ 40) (hi : i < f) (hh : h ≤ 30) (hH : ∀ x, x < h → uF x = nI (HF x) ∧ uN x = nI (HO x) ∧ HF x < 40 ∧ HO x ≤ 1) : f_K26 (nI i) (nI f) (nI h) uF uN = some (nI (hdN h HF HO i)) := by
  unfold f_K26 f_C_holdsOn
  rw [C_requireFile_in hf hi, H_openTotal_ok hh (by omega) hH]
  rfl
end QUERY
