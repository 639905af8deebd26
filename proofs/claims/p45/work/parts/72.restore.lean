/-! CASE 24: restore -/
section RESTORE
variable {j k t f e h tr d i s : Nat} {K S O L A B P W V WI Qo hd : Nat → Nat} {cT cD misop mday pT pK msnaps nF mfiles nE mentr p1 p2 cO mown : Int32} {nO nL nA nC nV nU nP mprom mlinks mblocks mvals pR pW pU pI mranks mkept mshot mwas mblocksT cQ mquot mowner : Nat → Int32} {pC : Nat → Nat → Int32} {oL : Nat → Int64}
/-- the blocks of a file in a snapshot, as bits -/
theorem P_blocksInFile_ok (hS : SNAP t K S W V WI pT pK pR pW pU pI pC msnaps mranks mkept mshot mwas) (hs : s < t) (hi : i < 40) (hk : K s = 1) : f_P_blocksInFile (nI s) (nI i) (nI t) pW pI pC = some (mkF (fun y => S (640 * s + y)) i 99 16) := by
  have h64 : ∀ x, x < 640 → S (640 * s + x) ≤ 64 := fun x hx => ((hS.2.2.1.2 s hs).2.2 hk x hx).2
  unfold f_P_blocksInFile
  have hL := loop_up (fun fu x => f_P_blocksInFile_L5 fu (nI s) (nI i) (mkF (fun y => S (640 * s + y)) i 99 x) (nI x) (nI t) pW pI pC) 16 (some (mkF (fun y => S (640 * s + y)) i 99 16)) (fun fu x hx => by
      have a2 := h64 (i * 16 + x) (by omega)
      show f_P_blocksInFile_L5 (fu + 1) _ _ _ _ _ _ _ _ = f_P_blocksInFile_L5 fu _ _ (if x = 99 then mkF (fun y => S (640 * s + y)) i 99 x else if S (640 * s + (i * 16 + x)) = 0 then mkF (fun y => S (640 * s + y)) i 99 x else mkF (fun y => S (640 * s + y)) i 99 x ||| (1 <<< ((nI (S (640 * s + (i * 16 + x)) - 1) : Int32).toInt64 &&& 63))) _ _ _ _ _
      rw [f_P_blocksInFile_L5, snap_blockIn hS hs hi hx hk]
      have hm := m1_eq (b := S (640 * s + (i * 16 + x))) (by omega)
      have h16 : ¬ (16 : Int32) ≤ nI x := fun h => absurd ((nI_leI (a := 16) (b := x) (by omega) (by omega)).mp h) (by omega)
      rw [if_neg (show ¬ x = 99 by omega), Option.bind_some, if_neg h16]
      by_cases e2 : S (640 * s + (i * 16 + x)) = 0
      · rw [if_pos e2, if_pos (hm.mpr e2), nI_1]
      · rw [if_neg e2, if_neg (fun h => e2 (hm.mp h)), show nI (S (640 * s + (i * 16 + x))) - 1 = nI (S (640 * s + (i * 16 + x)) - 1) from pk_sub (a := S (640 * s + (i * 16 + x))) (b := 1) (by omega), nI_1]) (fun fu => by
      show f_P_blocksInFile_L5 (fu + 1) _ _ _ _ _ _ _ _ = _
      rw [f_P_blocksInFile_L5]
      simp (disch := omega) only [nI_ltI, nI_leI, nI_eq, nI_add, pk_mul, pk_sub, nI_clamp, l0, l1, l2, l3, l4, l5, l6, l8, l9, l10, l15, l16, l30, l39, l40, l58, l63, l64, l99, l100, l103, l104, l108, l112, l117, l119, l120, l512, l639, l640, l999, l9999, l19200, if_pos, if_neg, Option.bind_some, if_true, if_false]) FU (FU_gt (by omega))
  have h2 : f_P_blocksInFile_L5 FU (nI s) (nI i) 0 0 (nI t) pW pI pC = some (mkF (fun y => S (640 * s + y)) i 99 16) := hL
  rw [h2]
  rfl
/-- a file gets its places from a snapshot -/
def resN (i s : Nat) (S B : Nat → Nat) (n : Nat) : Nat → Nat := fun y => if i * 16 ≤ y ∧ y < i * 16 + n then S (640 * s + y) else B y
theorem resN_0 (i s : Nat) (S B : Nat → Nat) : resN i s S B 0 = B := by
  funext y
  exact if_neg (by omega)
theorem resN_s (i s : Nat) (S B : Nat → Nat) (n : Nat) : un (resN i s S B n) (i * 16 + n) (S (640 * s + (i * 16 + n))) = resN i s S B (n + 1) := by
  funext y
  unfold un resN
  by_cases e : y = i * 16 + n
  · rw [if_pos e, if_pos (by omega), e]
  · rw [if_neg e]
    by_cases e2 : i * 16 ≤ y ∧ y < i * 16 + n
    · rw [if_pos e2, if_pos (by omega)]
    · rw [if_neg e2, if_neg (by omega)]
theorem un_self {F : Nat → Nat} {y v : Nat} (h : F y = v) : un F y v = F := by
  funext z
  by_cases e : z = y
  · rw [e, un_at, h]
  · rw [un_ne e]
theorem resN_at (i s : Nat) (S B : Nat → Nat) (n : Nat) : resN i s S B n (i * 16 + n) = B (i * 16 + n) := if_neg (by omega)
def chg (i s : Nat) (S B : Nat → Nat) : Nat → Bool := fun x => S (640 * s + (i * 16 + x)) != B (i * 16 + x)
theorem C_restoreL_ok (hS : SNAP t K S W V WI pT pK pR pW pU pI pC msnaps mranks mkept mshot mwas) (hs : s < t) (hk : K s = 1) (hf : f ≤ 40) (hi : i < f) (hC : BL B nC) (hU : US t B K S nU) :
    ∃ nC' nU', f_C_restore_L84 FU (nI s) (nI i) 0 0 (nI f) nC nU (nI t) pW pI pC = some (nI (cn (chg i s S B) 16), nC', nU') ∧ BL (resN i s S B 16) nC' ∧ US t (resN i s S B 16) K S nU' := by
  have h64 : ∀ x, x < 640 → S (640 * s + x) ≤ 64 := fun x hx => ((hS.2.2.1.2 s hs).2.2 hk x hx).2
  obtain ⟨⟨c, u⟩, ⟨g1, g2⟩, g3⟩ := loop_rel (fun fu x (z : (Nat → Int32) × (Nat → Int32)) => f_C_restore_L84 fu (nI s) (nI i) (nI (cn (chg i s S B) x)) (nI x) (nI f) z.1 z.2 (nI t) pW pI pC) (fun x z => BL (resN i s S B x) z.1 ∧ US t (resN i s S B x) K S z.2) 16 (fun z => (nI (cn (chg i s S B) 16), z.1, z.2)) (fun fu x z hx ⟨b1, b2⟩ => by
      obtain ⟨c1, c2⟩ := b1 (i * 16 + x) (by omega)
      rw [resN_at] at c1 c2
      have a2 := h64 (i * 16 + x) (by omega)
      have h16 : ¬ (16 : Int32) ≤ nI x := fun h => absurd ((nI_leI (a := 16) (b := x) (by omega) (by omega)).mp h) (by omega)
      by_cases y : S (640 * s + (i * 16 + x)) = B (i * 16 + x)
      · have er : resN i s S B (x + 1) = resN i s S B x := by
          rw [← resN_s]
          exact un_self (by rw [resN_at, y])
        refine ⟨z, ⟨by rw [er]; exact b1, by rw [er]; exact b2⟩, ?_⟩
        show f_C_restore_L84 (fu + 1) _ _ _ _ _ _ _ _ _ _ _ = _
        have e : chg i s S B x = false := by
          unfold chg
          rw [y]
          simp
        rw [f_C_restore_L84, if_neg h16, snap_blockIn hS hs (by omega) hx hk, Option.bind_some, S_blockIn_in hi hf hx, Option.bind_some, c1, if_pos (by rw [y]), nI_1, cn_s, e]
        rfl
      · obtain ⟨u', q1, q2, q3⟩ := setB (q := x) (v := S (640 * s + (i * 16 + x))) hi hf hx b1 b2 a2
        rw [resN_s] at q2 q3
        refine ⟨(upd z.1 (i * 16 + x) (nI (S (640 * s + (i * 16 + x))) - 1), u'), ⟨q2, q3⟩, ?_⟩
        show f_C_restore_L84 (fu + 1) _ _ _ _ _ _ _ _ _ _ _ = _
        have e : chg i s S B x = true := by
          unfold chg
          simp [y]
        have y2 : ¬ nI (S (640 * s + (i * 16 + x))) - 1 = nI (B (i * 16 + x)) - 1 := by
          intro w
          have w2 := congrArg (fun v => v + 1) w
          rw [Int32.sub_add_cancel, Int32.sub_add_cancel] at w2
          exact y ((nI_eq (by omega) (by omega)).mp w2)
        rw [f_C_restore_L84, if_neg h16, snap_blockIn hS hs (by omega) hx hk, Option.bind_some, S_blockIn_in hi hf hx, Option.bind_some, c1, if_neg y2, q1, Option.bind_some, nI_1, nI_1, cn_s, e]
        rfl) (fun fu z _ => by
      show f_C_restore_L84 (fu + 1) _ _ _ _ _ _ _ _ _ _ _ = _
      rw [f_C_restore_L84]
      simp (disch := omega) only [nI_ltI, nI_leI, nI_eq, nI_add, pk_mul, pk_sub, nI_clamp, l0, l1, l2, l3, l4, l5, l6, l8, l9, l10, l15, l16, l30, l39, l40, l58, l63, l64, l99, l100, l103, l104, l108, l112, l117, l119, l120, l512, l639, l640, l999, l9999, l19200, if_pos, if_neg, Option.bind_some, if_true, if_false]) FU (FU_gt (by omega)) (nC, nU) ⟨by rw [resN_0]; exact hC, by rw [resN_0]; exact hU⟩
  exact ⟨c, u, g3, g1, g2⟩
theorem cnt_res {o : Nat} (hf : f ≤ 40) (hi : i < f) (hO : O i = o) (hB : ∀ y, y < 640 → B y ≠ 0 → y / 16 < f) : cn (fun b => isU O (resN i s S B 16) o b) 64 = cn (fun b => inO O B o i b f || inF (fun y => S (640 * s + y)) i 99 b 16) 64 := by
  refine cn_cong (fun b hb => ?_)
  rw [Bool.eq_iff_iff, Bool.or_eq_true, inO_iff, inF_iff, isU_iff]
  constructor
  · rintro ⟨y, h1, h2, h3⟩
    unfold resN at h2
    by_cases e1 : i * 16 ≤ y ∧ y < i * 16 + 16
    · rw [if_pos e1] at h2
      right
      exact ⟨y - i * 16, by omega, by omega, by show S (640 * s + (i * 16 + (y - i * 16))) = b + 1; rw [show i * 16 + (y - i * 16) = y by omega]; exact h2⟩
    · rw [if_neg e1] at h2
      have h4 := hB y h1 (by omega)
      left
      exact ⟨y / 16, h4, by omega, h3, y % 16, by omega, by rw [show y / 16 * 16 + y % 16 = y by omega]; exact h2⟩
  · rintro (⟨i', h1, h2, h3, x', h4, h5⟩ | ⟨x', h1, h2, h3⟩)
    · refine ⟨i' * 16 + x', by omega, ?_, by rw [show (i' * 16 + x') / 16 = i' by omega]; exact h3⟩
      unfold resN
      rw [if_neg (by omega)]
      exact h5
    · refine ⟨i * 16 + x', by omega, ?_, by rw [show (i * 16 + x') / 16 = i by omega]; exact hO⟩
      unfold resN
      rw [if_pos (by omega)]
      exact h3
end RESTORE
