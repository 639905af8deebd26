/-! THE BLOCKS OF AN OWNER, IN THE CLASS -/
def mkO (O B : Nat → Nat) (o ex : Nat) : Nat → Int64
  | 0 => 0
  | i + 1 => if i = ex then mkO O B o ex i else if O i = o then mkO O B o ex i ||| mkF B i 99 16 else mkO O B o ex i
def inO (O B : Nat → Nat) (o ex b : Nat) : Nat → Bool
  | 0 => false
  | i + 1 => inO O B o ex b i || (!(i == ex) && (O i == o && inF B i 99 b 16))
theorem inO_iff (O B : Nat → Nat) (o ex b n : Nat) : inO O B o ex b n = true ↔ ∃ i, i < n ∧ i ≠ ex ∧ O i = o ∧ ∃ x, x < 16 ∧ B (i * 16 + x) = b + 1 := by
  induction n with
  | zero => exact Iff.intro (fun h => Bool.noConfusion h) (fun ⟨x, h, _⟩ => absurd h (Nat.not_lt_zero x))
  | succ n ih =>
    show (inO O B o ex b n || (!(n == ex) && (O n == o && inF B n 99 b 16))) = true ↔ _
    rw [Bool.or_eq_true, ih]
    constructor
    · rintro (⟨x, h1, h2⟩ | h)
      · exact ⟨x, by omega, h2⟩
      · rw [Bool.and_eq_true, Bool.and_eq_true, beq_iff_eq, inF_iff] at h
        obtain ⟨h1, h2, x, h3, -, h4⟩ := h
        have h1 : n ≠ ex := by
          intro q
          rw [q, beq_self_eq_true] at h1
          cases h1
        exact ⟨n, by omega, h1, h2, x, h3, h4⟩
    · rintro ⟨i, h1, h2, h3, x, h4, h5⟩
      by_cases e : i = n
      · right
        subst e
        rw [Bool.and_eq_true, Bool.and_eq_true, beq_iff_eq, inF_iff]
        exact ⟨by rw [beq_eq_false_iff_ne.mpr h2]; rfl, h3, x, h4, by omega, h5⟩
      · exact Or.inl ⟨i, by omega, h2, h3, x, h4, h5⟩
theorem mkO_Mk {O B : Nat → Nat} {o ex : Nat} (n : Nat) (hn : n ≤ 40) (hB : ∀ x, x < 640 → B x ≤ 64) : Mk (mkO O B o ex n) (fun b => inO O B o ex b n) := by
  induction n with
  | zero => exact Mk_zero
  | succ n ih =>
    have ih := ih (by omega)
    show Mk (if n = ex then mkO O B o ex n else if O n = o then mkO O B o ex n ||| mkF B n 99 16 else mkO O B o ex n) (fun b => inO O B o ex b n || (!(n == ex) && (O n == o && inF B n 99 b 16)))
    by_cases e : n = ex
    · rw [if_pos e]
      refine Mk_cong ih (fun b _ => ?_)
      rw [show (n == ex) = true by rw [e]; exact beq_self_eq_true _]
      simp
    · rw [if_neg e]
      by_cases e2 : O n = o
      · rw [if_pos e2]
        refine Mk_cong (Mk_or ih (mkF_Mk 16 (fun x hx => hB _ (by omega)))) (fun b _ => ?_)
        rw [beq_eq_false_iff_ne.mpr e, e2, beq_self_eq_true]
        rfl
      · rw [if_neg e2]
        refine Mk_cong ih (fun b _ => ?_)
        rw [beq_eq_false_iff_ne.mpr e2]
        simp
theorem S_blocksOfOwner_ok {o f ex : Nat} {pe : Int32} {O B : Nat → Nat} {nO nC : Nat → Int32} (ho : o < 64) (hf : f ≤ 40) (hpe : ∀ i, i < 40 → (nI i = pe ↔ i = ex)) (hO : ∀ i, i < f → nO i = nI (O i) ∧ O i < 64) (hC : ∀ x, x < 640 → nC x = nI (B x) - 1 ∧ B x ≤ 64) : f_S_blocksOfOwner (nI o) pe (nI f) nO nC = some (mkO O B o ex f) := by
  unfold f_S_blocksOfOwner
  have hL := loop_up (fun fu i => f_S_blocksOfOwner_L5 fu (nI o) pe (mkO O B o ex i) (nI i) (nI f) nO nC) f (some (mkO O B o ex f)) (fun fu i hi => by
      obtain ⟨a1, a2⟩ := hO i hi
      show f_S_blocksOfOwner_L5 (fu + 1) _ _ _ _ _ _ _ = f_S_blocksOfOwner_L5 fu _ _ (if i = ex then mkO O B o ex i else if O i = o then mkO O B o ex i ||| mkF B i 99 16 else mkO O B o ex i) _ _ _ _
      have hfi : ¬ nI f ≤ nI i := fun h => absurd ((nI_leI (a := f) (b := i) (by omega) (by omega)).mp h) (by omega)
      rw [f_S_blocksOfOwner_L5, if_neg hfi]
      by_cases e : i = ex
      · rw [if_pos ((hpe i (by omega)).mpr e), if_pos e, nI_1]
      · rw [if_neg (fun h => e ((hpe i (by omega)).mp h)), if_neg e, S_ownerIn_in hi hf, a1, Option.bind_some]
        by_cases e2 : O i = o
        · rw [if_pos (by rw [e2]), if_pos e2, S_blocksInFile_ok (ex := 99) hi hf (fun x hx => ⟨fun h => absurd h (by
            intro q
            have q2 := congrArg Int32.toInt q
            rw [nI_toInt (by omega)] at q2
            have q3 : (-1 : Int32).toInt = -1 := rfl
            omega), fun h => by omega⟩) hC, Option.bind_some, nI_1]
        · rw [if_neg (fun h => e2 ((nI_eq (by omega) (by omega)).mp h)), if_neg e2, nI_1]) (fun fu => by
      show f_S_blocksOfOwner_L5 (fu + 1) _ _ _ _ _ _ _ = _
      rw [f_S_blocksOfOwner_L5, if_pos (nI_le (Nat.le_refl f) (by omega))]) FU (FU_gt (by omega))
  have h2 : f_S_blocksOfOwner_L5 FU (nI o) pe 0 0 (nI f) nO nC = some (mkO O B o ex f) := hL
  rw [h2]
  rfl
/-- the class's count for an owner is the reference's -/
theorem counts_eq {o f : Nat} {O B : Nat → Nat} (hf : f ≤ 40) (hB : ∀ x, x < 640 → B x ≤ 64) (hE : ∀ x, x < 640 → B x ≠ 0 → x / 16 < f) : f_J13_bitCount_95d88 (mkO O B o 99 f) = some (nI (cn (fun b => isU O B o b) 64)) := by
  have e : ∀ b, b < 64 → inO O B o 99 b f = isU O B o b := by
    intro b hb
    rw [Bool.eq_iff_iff, inO_iff, isU_iff]
    constructor
    · rintro ⟨i, h1, -, h3, x, h4, h5⟩
      exact ⟨i * 16 + x, by omega, h5, by rw [show (i * 16 + x) / 16 = i by omega]; exact h3⟩
    · rintro ⟨x, h1, h2, h3⟩
      have h4 := hE x h1 (by omega)
      exact ⟨x / 16, h4, by omega, h3, x % 16, by omega, by rw [show x / 16 * 16 + x % 16 = x by omega]; exact h2⟩
  rw [Mk_count (mkO_Mk f hf hB), cn_cong e]
