/-! MASKS OF BLOCKS -/
def Mk (x : Int64) (p : Nat → Bool) : Prop := ∀ b, b < 64 → x.toUInt64.toNat.testBit b = p b
theorem Mk_zero : Mk 0 (fun _ => false) := fun b _ => by
  show (0 : Nat).testBit b = false
  exact Nat.zero_testBit b
theorem Mk_or {x y : Int64} {p q : Nat → Bool} (hx : Mk x p) (hy : Mk y q) : Mk (x ||| y) (fun b => p b || q b) := fun b hb => by
  have e : (x ||| y).toUInt64 = x.toUInt64 ||| y.toUInt64 := rfl
  rw [e, UInt64.toNat_or, Nat.testBit_or, hx b hb, hy b hb]
theorem Mk_one {b : Nat} (hb : b < 64) : Mk (1 <<< ((nI b : Int32).toInt64 &&& 63)) (fun c => c == b) := fun c hc => by
  have e : ∀ (b c : Fin 64), (1 <<< ((nI b.val : Int32).toInt64 &&& 63) : Int64).toUInt64.toNat.testBit c.val = (c.val == b.val) := by decide +kernel
  exact e ⟨b, hb⟩ ⟨c, hc⟩
theorem Mk_cong {x : Int64} {p q : Nat → Bool} (h : Mk x p) (e : ∀ b, b < 64 → p b = q b) : Mk x q := fun b hb => (h b hb).trans (e b hb)
theorem Mk_count {x : Int64} {p : Nat → Bool} (h : Mk x p) : f_J13_bitCount_95d88 x = some (nI (cn p 64)) := by
  rw [bitCount_ok, cn_cong h]
/-- the blocks of a file but at one place -/
def mkF (B : Nat → Nat) (i ex : Nat) : Nat → Int64
  | 0 => 0
  | x + 1 => if x = ex then mkF B i ex x else if B (i * 16 + x) = 0 then mkF B i ex x else mkF B i ex x ||| (1 <<< ((nI (B (i * 16 + x) - 1) : Int32).toInt64 &&& 63))
def inF (B : Nat → Nat) (i ex b : Nat) : Nat → Bool
  | 0 => false
  | x + 1 => inF B i ex b x || (!(x == ex) && B (i * 16 + x) == b + 1)
theorem inF_iff (B : Nat → Nat) (i ex b n : Nat) : inF B i ex b n = true ↔ ∃ x, x < n ∧ x ≠ ex ∧ B (i * 16 + x) = b + 1 := by
  induction n with
  | zero => exact Iff.intro (fun h => Bool.noConfusion h) (fun ⟨x, h, _⟩ => absurd h (Nat.not_lt_zero x))
  | succ n ih =>
    show (inF B i ex b n || (!(n == ex) && B (i * 16 + n) == b + 1)) = true ↔ _
    rw [Bool.or_eq_true, ih]
    constructor
    · rintro (⟨x, h1, h2⟩ | h)
      · exact ⟨x, by omega, h2⟩
      · simp at h
        exact ⟨n, by omega, h.1, h.2⟩
    · rintro ⟨x, h1, h2, h3⟩
      by_cases e : x = n
      · right
        subst e
        simp [h2, h3]
      · exact Or.inl ⟨x, by omega, h2, h3⟩
theorem mkF_Mk {B : Nat → Nat} {i ex : Nat} (n : Nat) (hB : ∀ x, x < n → B (i * 16 + x) ≤ 64) : Mk (mkF B i ex n) (fun b => inF B i ex b n) := by
  induction n with
  | zero => exact Mk_zero
  | succ n ih =>
    have ih := ih (fun x hx => hB x (by omega))
    have hb := hB n (by omega)
    show Mk (if n = ex then mkF B i ex n else if B (i * 16 + n) = 0 then mkF B i ex n else mkF B i ex n ||| (1 <<< ((nI (B (i * 16 + n) - 1) : Int32).toInt64 &&& 63))) _
    by_cases e : n = ex
    · rw [if_pos e]
      refine Mk_cong ih (fun b _ => ?_)
      show _ = (inF B i ex b n || (!(n == ex) && B (i * 16 + n) == b + 1))
      simp [e]
    · rw [if_neg e]
      by_cases e2 : B (i * 16 + n) = 0
      · rw [if_pos e2]
        refine Mk_cong ih (fun b _ => ?_)
        show _ = (inF B i ex b n || (!(n == ex) && B (i * 16 + n) == b + 1))
        simp [e2]
      · rw [if_neg e2]
        refine Mk_cong (Mk_or ih (Mk_one (b := B (i * 16 + n) - 1) (by omega))) (fun b _ => ?_)
        show (inF B i ex b n || b == B (i * 16 + n) - 1) = (inF B i ex b n || (!(n == ex) && B (i * 16 + n) == b + 1))
        have e3 : (b == B (i * 16 + n) - 1) = (B (i * 16 + n) == b + 1) := by
          by_cases q : B (i * 16 + n) = b + 1
          · simp [q]
          · have q2 : b ≠ B (i * 16 + n) - 1 := by omega
            rw [beq_eq_false_iff_ne.mpr q2, beq_eq_false_iff_ne.mpr q]
        rw [e3, show (n == ex) = false from beq_eq_false_iff_ne.mpr e]
        rfl
theorem S_blocksInFile_ok {i f ex : Nat} {pe : Int32} {B : Nat → Nat} {nC : Nat → Int32} (hi : i < f) (hf : f ≤ 40) (hpe : ∀ x, x < 16 → (nI x = pe ↔ x = ex)) (hC : ∀ x, x < 640 → nC x = nI (B x) - 1 ∧ B x ≤ 64) : f_S_blocksInFile (nI i) pe (nI f) nC = some (mkF B i ex 16) := by
  unfold f_S_blocksInFile
  have hL := loop_up (fun fu x => f_S_blocksInFile_L5 fu (nI i) pe (mkF B i ex x) (nI x) (nI f) nC) 16 (some (mkF B i ex 16)) (fun fu x hx => by
      obtain ⟨a1, a2⟩ := hC (i * 16 + x) (by omega)
      show f_S_blocksInFile_L5 (fu + 1) _ _ _ _ _ _ = f_S_blocksInFile_L5 fu _ _ (if x = ex then mkF B i ex x else if B (i * 16 + x) = 0 then mkF B i ex x else mkF B i ex x ||| (1 <<< ((nI (B (i * 16 + x) - 1) : Int32).toInt64 &&& 63))) _ _ _
      rw [f_S_blocksInFile_L5, S_blockIn_in hi hf hx, a1]
      have hm := m1_eq (b := B (i * 16 + x)) (by omega)
      have h16 : ¬ (16 : Int32) ≤ nI x := fun h => absurd ((nI_leI (a := 16) (b := x) (by omega) (by omega)).mp h) (by omega)
      by_cases e : x = ex
      · have e1 := (hpe x hx).mpr e
        rw [if_pos e, Option.bind_some, if_neg h16, if_pos e1, nI_1]
      · have e1 : ¬ nI x = pe := fun h => e ((hpe x hx).mp h)
        rw [if_neg e]
        by_cases e2 : B (i * 16 + x) = 0
        · rw [if_pos e2]
          have e3 := hm.mpr e2
          rw [Option.bind_some, if_neg h16, if_neg e1, if_pos e3, nI_1]
        · rw [if_neg e2]
          have e3 : ¬ nI (B (i * 16 + x)) - 1 = -1 := fun h => e2 (hm.mp h)
          have e4 : nI (B (i * 16 + x)) - 1 = nI (B (i * 16 + x) - 1) := pk_sub (a := B (i * 16 + x)) (b := 1) (by omega)
          rw [Option.bind_some, if_neg h16, if_neg e1, if_neg e3, e4, nI_1]) (fun fu => by
      show f_S_blocksInFile_L5 (fu + 1) _ _ _ _ _ _ = _
      rw [f_S_blocksInFile_L5]
      simp (disch := omega) only [nI_ltI, nI_leI, nI_eq, nI_add, pk_mul, pk_sub, nI_clamp, l0, l1, l2, l3, l4, l5, l6, l8, l9, l10, l15, l16, l30, l39, l40, l58, l63, l64, l99, l100, l103, l104, l108, l112, l117, l119, l120, l512, l639, l640, l999, l9999, l19200, if_pos, if_neg, Option.bind_some, if_true, if_false, ]) FU (FU_gt (by omega))
  have h2 : f_S_blocksInFile_L5 FU (nI i) pe 0 0 (nI f) nC = some (mkF B i ex 16) := hL
  rw [h2]
  rfl
