/-! CASES THAT READ SNAPSHOTS -/
section SNAPREAD
variable {j k t f e h : Nat} {K S O L A B P W V WI HF HE HO : Nat → Nat} {p p1 p2 p3 pT pK msnaps : Int32} {nV mvals pR pW pU pI mranks mkept mshot mwas : Nat → Int32} {pC : Nat → Nat → Int32} {oL : Nat → Int64}
theorem P_rowOf_in {s : Nat} (hs : s < t) (ht : t ≤ 30) : f_P_rowOf (nI s) (nI t) pW = some (pW s) := by
  unfold f_P_rowOf
  rw [P_wasTaken_in hs ht]
  have e1 : ¬ ((1 : Int32) = 0) := by decide
  rw [Option.bind_some, if_neg e1, if_neg (in_lim (by omega) (by omega)), nI_clamp (by omega)]
theorem P_isInRow_none {i : Int32} {w : Nat} (hw : w = 0) : f_P_isInRow (nI w - 1) i pI = some 0 := by
  unfold f_P_isInRow
  rw [P_isRow_out (m1n_out hw)]
  rfl
theorem P_isInRow_in {i w a : Nat} (hw : w < 8) (hi : i < 40) (ha : pI (w * 40 + i) = nI a) (h1 : a ≤ 1) : f_P_isInRow (nI w) (nI i) pI = some (nI a) := by
  unfold f_P_isInRow
  rw [P_isRow_in hw]
  have e1 : ¬ ((1 : Int32) = 0) := by decide
  have a1 : ¬ nI i < (0 : Int32) := nI_pos (by omega)
  have a2 : ¬ (40 : Int32) ≤ nI i := fun z => absurd ((nI_leI (a := 40) (b := i) (by omega) (by omega)).mp z) (by omega)
  have mm : nI w * 40 + nI i = nI (w * 40 + i) := by rw [show (40 : Int32) = nI 40 from rfl, pk_mul, nI_add]
  rw [Option.bind_some, if_neg e1, if_neg a1, if_neg a2, mm, if_neg (in_lim (by omega) (by omega)), nI_clamp (by omega), ha]
  rcases (show a = 0 ∨ a = 1 by omega) with z | z
  · rw [z]
    rfl
  · rw [z]
    rfl
/-- whether a kept snapshot has a file -/
def hasN (K WI : Nat → Nat) (s i : Nat) : Nat := if K s = 1 then WI (40 * s + i) else 0
theorem snap_inRow {s i : Nat} (hS : SNAP t K S W V WI pT pK pR pW pU pI pC msnaps mranks mkept mshot mwas) (hs : s < t) (hi : i < 40) : f_P_isInRow (nI (W s) - 1) (nI i) pI = some (nI (hasN K WI s i)) ∧ hasN K WI s i ≤ 1 := by
  obtain ⟨-, -, ⟨ht, hk⟩, -, -, -, hW, -, -, -, -, hwi, hc⟩ := hS
  obtain ⟨w1, w2, w3⟩ := hW s (by omega)
  have h1 := (hwi (40 * s + i) (by omega)).2.1
  unfold hasN
  by_cases e : K s = 1
  · have hw0 : W s ≠ 0 := w3.mpr ⟨hs, e⟩
    rw [if_pos e, show nI (W s) - 1 = nI (W s - 1) from pk_sub (a := W s) (b := 1) (by omega)]
    exact ⟨P_isInRow_in (by omega) hi (hc s hs e i hi).1 h1, h1⟩
  · rw [if_neg e]
    have hw0 : W s = 0 := by
      rcases Nat.eq_zero_or_pos (W s) with z | z
      · exact z
      · exact absurd (w3.mp (by omega)).2 e
    exact ⟨P_isInRow_none hw0, by omega⟩
theorem snap_includes {s i : Nat} (hS : SNAP t K S W V WI pT pK pR pW pU pI pC msnaps mranks mkept mshot mwas) (hs : s < t) (hi : i < 40) : f_P_includes (nI s) (nI i) (nI t) pW pI = some (nI (hasN K WI s i)) := by
  obtain ⟨h1, h2⟩ := snap_inRow hS hs hi
  obtain ⟨-, -, ⟨ht, -⟩, -, -, -, hW, -⟩ := hS
  unfold f_P_includes
  rw [P_rowOf_in hs ht, (hW s (by omega)).1, Option.bind_some, h1, Option.bind_some, if_pos (vzn h2)]
theorem snap_blockIn {s i x : Nat} (hS : SNAP t K S W V WI pT pK pR pW pU pI pC msnaps mranks mkept mshot mwas) (hs : s < t) (hi : i < 40) (hx : x < 16) (hk : K s = 1) : f_P_blockIn (nI s) (nI i) (nI x) (nI t) pW pI pC = some (nI (S (640 * s + (i * 16 + x))) - 1) := by
  obtain ⟨h1, h2⟩ := snap_inRow hS hs hi
  obtain ⟨-, -, ⟨ht, -⟩, -, -, -, hW, -, -, -, -, hwi, hc⟩ := hS
  obtain ⟨w1, w2, w3⟩ := hW s (by omega)
  have hw0 : W s ≠ 0 := w3.mpr ⟨hs, hk⟩
  obtain ⟨c1, c2, c3⟩ := hc s hs hk i hi
  unfold f_P_blockIn
  rw [P_rowOf_in hs ht, w1, Option.bind_some, h1, Option.bind_some, C_isPlace_in hx]
  unfold hasN at h2 ⊢
  rw [if_pos hk] at h2 ⊢
  have e1 : ¬ ((1 : Int32) = 0) := by decide
  rcases (show WI (40 * s + i) = 0 ∨ WI (40 * s + i) = 1 by omega) with z | z
  · rw [z, c3 z x hx]
    rfl
  · have mm : nI i * 16 + nI x = nI (i * 16 + x) := by rw [show (16 : Int32) = nI 16 from rfl, pk_mul, nI_add]
    rw [z, show nI (W s) - 1 = nI (W s - 1) from pk_sub (a := W s) (b := 1) (by omega), show (nI 1 : Int32) = 1 from rfl, if_neg e1, Option.bind_some, if_neg e1, if_neg (in_lim (by omega) (by omega)), mm, if_neg (in_lim (by omega) (by omega)), nI_clamp (by omega), nI_clamp (by omega), c2 z x hx]
/-! the snapshot that would be dropped first -/
def bst (R : Nat → Int32) (p : Nat → Bool) : Nat → Nat
  | 0 => 0
  | n + 1 => if p n = true then (if bst R p n = 0 then n + 1 else if R (bst R p n - 1) ≤ R n then bst R p n else n + 1) else bst R p n
theorem bst_le (R : Nat → Int32) (p : Nat → Bool) (n : Nat) : bst R p n ≤ n := by
  induction n with
  | zero => exact Nat.le_refl 0
  | succ n ih =>
    unfold bst
    split
    · split
      · omega
      · split <;> omega
    · omega
theorem bst_p (R : Nat → Int32) (p : Nat → Bool) (n : Nat) : bst R p n ≠ 0 → p (bst R p n - 1) = true := by
  induction n with
  | zero => exact fun h => absurd rfl h
  | succ n ih =>
    intro h
    unfold bst at h ⊢
    by_cases e : p n = true
    · rw [if_pos e] at h ⊢
      by_cases e1 : bst R p n = 0
      · rw [if_pos e1]
        exact e
      · rw [if_neg e1] at h ⊢
        by_cases e2 : R (bst R p n - 1) ≤ R n
        · rw [if_pos e2]
          exact ih e1
        · rw [if_neg e2]
          exact e
    · rw [if_neg e] at h ⊢
      exact ih h
theorem bst_0 (R : Nat → Int32) (p : Nat → Bool) (n : Nat) : bst R p n = 0 ↔ ∀ i, i < n → p i = false := by
  induction n with
  | zero => exact ⟨fun _ i hi => absurd hi (Nat.not_lt_zero i), fun _ => rfl⟩
  | succ n ih =>
    unfold bst
    by_cases e : p n = true
    · rw [if_pos e]
      constructor
      · intro h
        split at h
        · omega
        · split at h <;> omega
      · intro h
        rw [h n (by omega)] at e
        cases e
    · rw [if_neg e, ih]
      constructor
      · intro h i hi
        by_cases q : i = n
        · rw [q]
          simpa using e
        · exact h i (by omega)
      · exact fun h i hi => h i (by omega)
theorem bst_cong {R R' : Nat → Int32} {p p' : Nat → Bool} (n : Nat) (hR : ∀ i, i < n → R i = R' i) (hp : ∀ i, i < n → p i = p' i) : bst R p n = bst R' p' n := by
  induction n with
  | zero => rfl
  | succ n ih =>
    have ih := ih (fun i hi => hR i (by omega)) (fun i hi => hp i (by omega))
    have hl := bst_le R' p' n
    unfold bst
    rw [ih, hp n (by omega), hR n (by omega)]
    by_cases e : bst R' p' n = 0
    · rw [if_pos e, if_pos e]
    · rw [if_neg e, if_neg e, hR _ (by omega)]
theorem bst_ext {R : Nat → Int32} {p : Nat → Bool} {n m : Nat} (hm : n ≤ m) (h : ∀ i, n ≤ i → i < m → p i = false) : bst R p m = bst R p n := by
  induction m with
  | zero => rw [show n = 0 by omega]
  | succ m ih =>
    by_cases e : n = m + 1
    · rw [e]
    · rw [show bst R p (m + 1) = if p m = true then (if bst R p m = 0 then m + 1 else if R (bst R p m - 1) ≤ R m then bst R p m else m + 1) else bst R p m from rfl, h m (by omega) (by omega), ih (by omega) (fun i h1 h2 => h i h1 (by omega))]
      rfl
theorem C_leastKept_ok (hW : ∀ s, s < 30 → pW s = nI (W s) - 1 ∧ W s ≤ 8) : f_P_leastKept pR pW = some (nI (bst pR (fun s => W s != 0) 30) - 1) := by
  unfold f_P_leastKept
  have hL := loop_up (fun fu i => f_P_leastKept_L4 fu (nI (bst pR (fun s => W s != 0) i) - 1) (nI i) pR pW) 30 (some (nI (bst pR (fun s => W s != 0) 30) - 1)) (fun fu i hi => by
      obtain ⟨w1, w2⟩ := hW i hi
      have hl := bst_le pR (fun s => W s != 0) i
      show f_P_leastKept_L4 (fu + 1) _ _ _ _ = f_P_leastKept_L4 fu (nI (if (W i != 0) = true then (if bst pR (fun s => W s != 0) i = 0 then i + 1 else if pR (bst pR (fun s => W s != 0) i - 1) ≤ pR i then bst pR (fun s => W s != 0) i else i + 1) else bst pR (fun s => W s != 0) i) - 1) _ _ _
      have h30 : ¬ (30 : Int32) ≤ nI i := fun q => absurd ((nI_leI (a := 30) (b := i) (by omega) (by omega)).mp q) (by omega)
      have hi1 := in_lim (j := i) (n := 30) (by omega) (by omega)
      have hi1_ := in_l2 (j := i) (n := 30) (by omega) (by omega)
      have hm := m1_eq (b := W i) (by omega)
      generalize bst pR (fun s => W s != 0) i = b at hl ⊢
      have hb := m1_eq (b := b) (by omega)
      rw [f_P_leastKept_L4, if_neg h30]
      simp only [nI_clamp (show i < 2 ^ 31 by omega), hi1_, if_false, w1, nI_1]
      by_cases e : W i = 0
      · have e2 : ¬ (W i != 0) = true := by simp [e]
        rw [if_neg e2]
        simp only [hm.mpr e, if_true]
        by_cases q : b = 0
        · rw [if_pos (hb.mpr q)]
        · rw [if_neg (fun z => q (hb.mp z)), show nI b - 1 = nI (b - 1) from pk_sub (a := b) (b := 1) (by omega), if_neg (in_lim (by omega) (by omega))]
          split <;> rfl
      · have e2 : (W i != 0) = true := by simp [e]
        have e3 : ¬ nI (W i) - 1 = -1 := fun z => e (hm.mp z)
        rw [if_pos e2]
        simp only [e3, if_false]
        by_cases q : b = 0
        · rw [if_pos (hb.mpr q), if_pos q, nI_pred]
        · rw [if_neg (fun z => q (hb.mp z)), if_neg q, show nI b - 1 = nI (b - 1) from pk_sub (a := b) (b := 1) (by omega), if_neg (in_lim (by omega) (by omega)), nI_clamp (show b - 1 < 2 ^ 31 by omega)]
          by_cases y : pR (b - 1) ≤ pR i
          · rw [if_pos y, if_pos y, show nI b - 1 = nI (b - 1) from pk_sub (a := b) (b := 1) (by omega)]
          · rw [if_neg y, if_neg y, nI_pred]) (fun fu => by
      show f_P_leastKept_L4 (fu + 1) _ _ _ _ = _
      rw [f_P_leastKept_L4]
      simp (disch := omega) only [nI_ltI, nI_leI, nI_eq, nI_add, pk_mul, pk_sub, nI_clamp, l0, l1, l2, l3, l4, l5, l6, l8, l9, l10, l15, l16, l30, l39, l40, l58, l63, l64, l99, l100, l103, l104, l108, l112, l117, l119, l120, l512, l639, l640, l999, l9999, l19200, if_pos, if_neg, Option.bind_some, if_true, if_false]) FU (FU_gt (by omega))
  have h2 : f_P_leastKept_L4 FU (-1) 0 pR pW = some (nI (bst pR (fun s => W s != 0) 30) - 1) := hL
  rw [h2]
  rfl
/-- both choose the same -/
def lstN (K : Nat → Nat) (R : Nat → Int32) (t : Nat) : Nat := bst R (fun s => K s == 1) t
end SNAPREAD
