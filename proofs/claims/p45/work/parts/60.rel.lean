/-- a file exists as long as it has links or open holds -/
def ALV (f : Nat) (L hd A : Nat → Nat) : Prop := ∀ i, i < f → A i = if L i = 0 ∧ hd i = 0 then 0 else 1
/-- the snapshots: K says which are kept, W in which row (0: in none), V which one a row has (0: none), WI which files are in them -/
def SNAP (t : Nat) (K S W V WI : Nat → Nat) (pT pK : Int32) (pR pW pU pI : Nat → Int32) (pC : Nat → Nat → Int32) (msnaps : Int32) (mranks mkept mshot mwas : Nat → Int32) : Prop :=
  pT = nI t ∧ msnaps = nI t ∧ SnM t K S mkept mshot ∧ pK = nI (cn (fun s => K s == 1) t) ∧ cn (fun s => K s == 1) t ≤ 8 ∧
  (∀ s, s < t → pR s = mranks s) ∧
  (∀ s, s < 30 → pW s = nI (W s) - 1 ∧ W s ≤ 8 ∧ (W s ≠ 0 ↔ s < t ∧ K s = 1)) ∧
  (∀ r, r < 8 → pU r = nI (if V r = 0 then 0 else 1) ∧ V r ≤ t) ∧
  (∀ s r, s < 30 → r < 8 → (W s = r + 1 ↔ V r = s + 1)) ∧
  cn (fun r => V r != 0) 8 = cn (fun s => K s == 1) t ∧
  (∀ b, b < 64 → sm (fun r => if V r = 0 then 0 else snB S (V r - 1) b) 8 = snU t K S b) ∧
  (∀ x, x < 1200 → mwas x = nI (WI x) ∧ WI x ≤ 1 ∧ (40 * t ≤ x → WI x = 0)) ∧
  (∀ s, s < t → K s = 1 → ∀ i, i < 40 → pI ((W s - 1) * 40 + i) = nI (WI (40 * s + i)) ∧
    (WI (40 * s + i) = 1 → ∀ p, p < 16 → pC (W s - 1) (i * 16 + p) = nI (S (640 * s + (i * 16 + p))) - 1) ∧
    (WI (40 * s + i) = 0 → ∀ p, p < 16 → S (640 * s + (i * 16 + p)) = 0))
/-- a case that answers alike: the law goes on -/
theorem cmp_same (x : Int64) : lg_cmp x x = 0 := by
  unfold lg_cmp
  simp
theorem out_same (oL : Nat → Int64) (x : Int64) : vp_updL oL (0 : Int32).toNatClampNeg x (0 : Int32).toNatClampNeg = x := if_pos rfl
theorem C_requireOwner_out {p : Int32} {k : Nat} (hk : k ≤ 4) (h : Out p k) : f_C_requireOwner p (nI k) = some (.error 3) := by
  unfold f_C_requireOwner
  rcases h with h | ⟨h1, h2⟩
  · exact if_pos h
  · have e0 : ¬ p < (0 : Int32) := h1
    rw [if_neg e0, if_neg (fun q => absurd (Int32.lt_iff_toInt_lt.mp q) (Int.not_lt.mpr (Int32.le_iff_toInt_le.mp h2)))]
theorem C_requireOwner_in {j k : Nat} (hk : k ≤ 4) (h : j < k) : f_C_requireOwner (nI j) (nI k) = some (.ok ()) := by
  unfold f_C_requireOwner
  have e0 : ¬ nI j < (0 : Int32) := nI_pos (by omega)
  rw [if_neg e0, if_pos ((nI_ltI (by omega) (by omega)).mpr h)]
