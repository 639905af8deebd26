/-! THE LAW'S state: it always has a number -/
section STATE
variable {k t f e h : Nat} {K S W V WI O L A B P Qo HF HE HO : Nat → Nat} {pT pK uO nF nE cD a1 a2 a3 : Int32} {nO nL nA nC nV nU nP uF uE uN pR pW pU pI : Nat → Int32} {pC : Nat → Nat → Int32}
theorem fileCount_ok : f_C_fileCount nF = some nF := rfl
theorem journal_ok : f_C_journalSize nE = some nE := rfl
theorem day_ok : f_C_day cD = some cD := rfl
theorem free_ok (ht : t ≤ 30) (hU : US t B K S nU) : f_C_free nU = some (nI (frN t B K S)) := by
  unfold f_C_free
  rw [C_freeN ht hU]
  rfl
theorem CO_BL (hC : CO k t K S O f L A B P e Qo nF nO nL nA nC nV nU nP nE) : BL B nC := fun x hx => ⟨(hC.2.2.2.2.1 x hx).1, (hC.2.2.2.2.1 x hx).2.1⟩
theorem CO_E (hC : CO k t K S O f L A B P e Qo nF nO nL nA nC nV nU nP nE) : ∀ x, x < 640 → B x ≠ 0 → x / 16 < f := fun x hx h => ((hC.2.2.2.2.1 x hx).2.2 h).1
theorem CO_O (hC : CO k t K S O f L A B P e Qo nF nO nL nA nC nV nU nP nE) : ∀ i, i < f → nO i = nI (O i) ∧ O i < k := fun i hi => ⟨(hC.2.2.2.1 i hi).1, (hC.2.2.2.1 i hi).2.1⟩
theorem CO_U (hC : CO k t K S O f L A B P e Qo nF nO nL nA nC nV nU nP nE) : US t B K S nU := fun b hb => hC.2.2.2.2.2.1 b hb
theorem HD_h (hH : HD h f HF HE HO uO uF uE uN) (hf : f ≤ 40) : ∀ x, x < h → uF x = nI (HF x) ∧ uN x = nI (HO x) ∧ HF x < 40 ∧ HO x ≤ 1 := fun x hx => by
  obtain ⟨b1, b2, b3, b4, b5, b6⟩ := hH.2.2 x hx
  exact ⟨b1, b3, by omega, b4⟩
theorem st55 {i : Nat} (hf : f ≤ 40) (hi : i < f) (hC : BL B nC) (v0 : Int64) : ∃ v, f_state_L55 7 a1 a2 a3 v0 (nI i) 0 (nI f) nC nV = some v := by
  obtain ⟨v, -, h⟩ := loop_rel (fun fu q v => f_state_L55 fu a1 a2 a3 v (nI i) (nI (3 * q)) (nI f) nC nV) (fun _ _ => True) 6 (fun v => v) (fun fu q v hq _ => by
    have h16 : ¬ (16 : Int32) ≤ nI (3 * q) := fun z => absurd ((nI_leI (a := 16) (b := 3 * q) (by omega) (by omega)).mp z) (by omega)
    have e3 : nI (3 * q) + 3 = nI (3 * (q + 1)) := nI_add (3 * q) 3
    refine ⟨(31 * ((31 * v) + (vlN B nV i (3 * q)).toInt64)) + (bkN B i (3 * q)).toInt64, trivial, ?_⟩
    show f_state_L55 (fu + 1) _ _ _ _ _ _ _ _ _ = _
    rw [f_state_L55, if_neg h16, K8_in hf hi (by omega) hC, K9_in hf hi (by omega) hC, e3]
    rfl) (fun fu v _ => by
    have h16 : (16 : Int32) ≤ nI (3 * 6) := by decide
    show f_state_L55 (fu + 1) _ _ _ _ _ _ _ _ _ = _
    rw [f_state_L55, if_pos h16]) 7 (by omega) v0 trivial
  exact ⟨v, h⟩
theorem st8 (hf : f ≤ 40) (hh : h ≤ 30) (hC : BL B nC) (hH : ∀ x, x < h → uF x = nI (HF x) ∧ uN x = nI (HO x) ∧ HF x < 40 ∧ HO x ≤ 1) (v0 : Int64) : ∃ v, f_state_L8 41 a1 a2 a3 v0 0 (nI f) nL nC nV (nI h) uF uN = some v := by
  obtain ⟨v, -, h⟩ := loop_rel (fun fu i v => f_state_L8 fu a1 a2 a3 v (nI i) (nI f) nL nC nV (nI h) uF uN) (fun _ _ => True) f (fun v => v) (fun fu i v hi _ => by
    have h1 : ¬ nI f ≤ nI i := fun z => absurd ((nI_leI (a := f) (b := i) (by omega) (by omega)).mp z) (by omega)
    obtain ⟨v', hv⟩ := st55 (a1 := a1) (a2 := a2) (a3 := a3) (nV := nV) hf hi hC ((31 * ((31 * v) + (nL i).toInt64)) + (nI (hdN h HF HO i)).toInt64)
    refine ⟨v', trivial, ?_⟩
    show f_state_L8 (fu + 1) _ _ _ _ _ _ _ _ _ _ _ _ = _
    rw [f_state_L8, fileCount_ok]
    simp only [Option.bind_some]
    rw [if_neg h1, K3_in hf hi, K26_in hf hi hh hH]
    simp only [Option.bind_some]
    rw [hv, nI_1]
    rfl) (fun fu v _ => by
    show f_state_L8 (fu + 1) _ _ _ _ _ _ _ _ _ _ _ _ = _
    rw [f_state_L8, fileCount_ok]
    simp only [Option.bind_some]
    rw [if_pos (nI_le (Nat.le_refl f) (by omega))]) 41 (by omega) v0 trivial
  exact ⟨v, h⟩
theorem st115 (hk : k ≤ 4) (hf : f ≤ 40) (hC : BL B nC) (hO : ∀ i, i < f → nO i = nI (O i) ∧ O i < k) (hE : ∀ x, x < 640 → B x ≠ 0 → x / 16 < f) (v0 : Int64) : ∃ v, f_state_L115 5 (nI k) a2 a3 v0 0 (nI f) nO nC nP (nI k) = some v := by
  obtain ⟨v, -, h⟩ := loop_rel (fun fu i v => f_state_L115 fu (nI k) a2 a3 v (nI i) (nI f) nO nC nP (nI k)) (fun _ _ => True) k (fun v => v) (fun fu i v hi _ => by
    have h1 : ¬ nI k ≤ nI i := fun z => absurd ((nI_leI (a := k) (b := i) (by omega) (by omega)).mp z) (by omega)
    refine ⟨(31 * ((31 * v) + (nI (cn (fun b => isU O B i b) 64)).toInt64)) + (nP i).toInt64, trivial, ?_⟩
    show f_state_L115 (fu + 1) _ _ _ _ _ _ _ _ _ _ = _
    rw [f_state_L115, if_neg h1, K11_in hk hi hf hC hO hE, K15_in hk hi, nI_1]
    rfl) (fun fu v _ => by
    show f_state_L115 (fu + 1) _ _ _ _ _ _ _ _ _ _ = _
    rw [f_state_L115, if_pos (nI_le (Nat.le_refl k) (by omega))]) 5 (by omega) v0 trivial
  exact ⟨v, h⟩
theorem st166 (hS : SN t K S W V WI pT pK pR pW pU pI pC) (v0 : Int64) : ∃ v, f_state_L166 31 (nI t) a3 v0 0 pT pW = some v := by
  have ht := SN_t hS
  obtain ⟨v, -, h⟩ := loop_rel (fun fu i v => f_state_L166 fu (nI t) a3 v (nI i) pT pW) (fun _ _ => True) t (fun v => v) (fun fu i v hi _ => by
    have h1 : ¬ nI t ≤ nI i := fun z => absurd ((nI_leI (a := t) (b := i) (by omega) (by omega)).mp z) (by omega)
    refine ⟨(31 * v) + (nI (K i)).toInt64, trivial, ?_⟩
    show f_state_L166 (fu + 1) _ _ _ _ _ _ = _
    rw [f_state_L166, if_neg h1, K18_in hS hi, nI_1]
    rfl) (fun fu v _ => by
    show f_state_L166 (fu + 1) _ _ _ _ _ _ = _
    rw [f_state_L166, if_pos (nI_le (Nat.le_refl t) (by omega))]) 31 (by omega) v0 trivial
  exact ⟨v, h⟩
theorem st201 (hh : h ≤ 30) (hH : ∀ x, x < h → uN x = nI (HO x) ∧ HO x ≤ 1) (v0 : Int64) : ∃ v, f_state_L201 31 (nI h) v0 0 (nI h) uN = some v := by
  obtain ⟨v, -, h⟩ := loop_rel (fun fu i v => f_state_L201 fu (nI h) v (nI i) (nI h) uN) (fun _ _ => True) h (fun v => v) (fun fu i v hi _ => by
    have h1 : ¬ nI h ≤ nI i := fun z => absurd ((nI_leI (a := h) (b := i) (by omega) (by omega)).mp z) (by omega)
    refine ⟨(31 * v) + (nI (HO i)).toInt64, trivial, ?_⟩
    show f_state_L201 (fu + 1) _ _ _ _ _ = _
    rw [f_state_L201, if_neg h1, K25_in hh hi (hH i hi).1 (hH i hi).2, nI_1]
    rfl) (fun fu v _ => by
    show f_state_L201 (fu + 1) _ _ _ _ _ = _
    rw [f_state_L201, if_pos (nI_le (Nat.le_refl h) (by omega))]) 31 (by omega) v0 trivial
  exact ⟨v, h⟩
theorem state_ok (hk : k ≤ 4) (hS : SN t K S W V WI pT pK pR pW pU pI pC) (hH : HD h f HF HE HO uO uF uE uN) (hC : CO k t K S O f L A B P e Qo nF nO nL nA nC nV nU nP nE) : ∃ v, f_state (nI k) (nI t) (nI h) nF nO nL nC nV nU nP nE (nI k) cD pT pW uO uF uN = some v := by
  have hBL := CO_BL hC
  have hE := CO_E hC
  have hO := CO_O hC
  have hU := CO_U hC
  have ht := SN_t hS
  obtain ⟨hf, rfl, rfl, -⟩ := hC
  have hH1 := HD_h hH hf
  obtain ⟨hh, rfl, hH⟩ := hH
  obtain ⟨v1, e1⟩ := st8 (a1 := nI k) (a2 := nI t) (a3 := nI h) (nL := nL) (nV := nV) hf hh hBL hH1 97
  obtain ⟨v2, e2⟩ := st115 (a2 := nI t) (a3 := nI h) (nP := nP) hk hf hBL hO hE v1
  obtain ⟨v3, e3⟩ := st166 (a3 := nI h) hS v2
  obtain ⟨v4, e4⟩ := st201 (uN := uN) (HO := HO) hh (fun x hx => ⟨(hH1 x hx).2.1, (hH1 x hx).2.2.2⟩) v3
  unfold f_state
  rw [e1]
  simp only [Option.bind_some]
  rw [e2]
  simp only [Option.bind_some]
  rw [e3]
  simp only [Option.bind_some]
  rw [e4, fileCount_ok, journal_ok, free_ok ht hU, day_ok]
  exact ⟨_, rfl⟩
end STATE
