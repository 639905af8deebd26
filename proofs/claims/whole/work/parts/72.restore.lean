/-! CASE 24: restore -/
section RESTORE
variable {j k t f e h tr d i s : Nat} {K S O L A B P W V WI Qo hd : Nat → Nat} {cT cD misop mday pT pK msnaps nF mfiles nE mentr p1 p2 cO mown : Int32} {nO nL nA nC nV nU nP mprom mlinks mblocks mvals pR pW pU pI mranks mkept mshot mwas mblocksT cQ mquot mowner : Nat → Int32} {pC : Nat → Nat → Int32} {oL : Nat → Int64}
/-- the blocks of a file in a snapshot, as bits -/
theorem P_blocksInFile_ok (hS : SNAP t K S W V WI pT pK pR pW pU pI pC msnaps mranks mkept mshot mwas) (hs : s < t) (hi : i < 40) (hk : K s = 1) : f_P_blocksInFile (nI s) (nI i) (nI t) pW pI pC = some (mkF (fun y => S (640 * s + y)) i 99 16) := by
  have h64 : ∀ x, x < 640 → S (640 * s + x) ≤ 64 := fun x hx => ((hS.2.2.1.2 s hs).2.2 hk x hx).2
  unfold f_P_blocksInFile
  have hL := loop_up (fun fu x => f_P_blocksInFile_L5 fu (nI s) (nI i) (mkF (fun y => S (640 * s + y)) i 99 x) (nI x) (nI t) pW pI pC) 16 (some (mkF (fun y => S (640 * s + y)) i 99 16)) (fun fu x hx => by
      have a2 := h64 (i * 16 + x) (by omega)
      show f_P_blocksInFile_L5 (fu + 1) _ _ _ _ _ _ _ _ = f_P_blocksInFile_L5 fu _ _ (if x = 99 then mkF (fun y => S (640 * s + y)) i 99 x else if S (640 * s + (i * 16 + x)) = 0 then mkF (fun y => S (640 * s + y)) i 99 x else mkF (fun y => S (640 * s + y)) i 99 x ||| (1 <<< ((nI (S (640 * s + (i * 16 + x)) - 1) : Int32).toInt64 &&& 63))) _ _ _ _ _
      rw [f_P_blocksInFile_L5, snap_blockIn hS hs hi hx hk]
      have hm := m1_eq (b := S (640 * s + (i * 16 + x))) (by omega)
      have h16 : ¬ (16 : Int32) ≤ nI x := fun h => absurd ((nI_leI (a := 16) (b := x) (by omega) (by omega)).mp h) (by omega)
      rw [if_neg (show ¬ x = 99 by omega), Option.bind_some, if_neg h16]
      by_cases e2 : S (640 * s + (i * 16 + x)) = 0
      · rw [if_pos e2, if_pos (hm.mpr e2), nI_1]
      · rw [if_neg e2, if_neg (fun h => e2 (hm.mp h)), show nI (S (640 * s + (i * 16 + x))) - 1 = nI (S (640 * s + (i * 16 + x)) - 1) from pk_sub (a := S (640 * s + (i * 16 + x))) (b := 1) (by omega), nI_1]) (fun fu => by
      show f_P_blocksInFile_L5 (fu + 1) _ _ _ _ _ _ _ _ = _
      rw [f_P_blocksInFile_L5]
      simp (disch := omega) only [nI_ltI, nI_leI, nI_eq, nI_add, pk_mul, pk_sub, nI_clamp, l0, l1, l2, l3, l4, l5, l6, l8, l9, l10, l15, l16, l30, l39, l40, l58, l63, l64, l99, l100, l103, l104, l108, l112, l117, l119, l120, l512, l639, l640, l999, l9999, l19200, if_pos, if_neg, Option.bind_some, if_true, if_false]) FU (FU_gt (by omega))
  have h2 : f_P_blocksInFile_L5 FU (nI s) (nI i) 0 0 (nI t) pW pI pC = some (mkF (fun y => S (640 * s + y)) i 99 16) := hL
  rw [h2]
  rfl
/-- a file gets its places from a snapshot -/
def resN (i s : Nat) (S B : Nat → Nat) (n : Nat) : Nat → Nat := fun y => if i * 16 ≤ y ∧ y < i * 16 + n then S (640 * s + y) else B y
theorem resN_0 (i s : Nat) (S B : Nat → Nat) : resN i s S B 0 = B := by
  funext y
  exact if_neg (by omega)
theorem resN_s (i s : Nat) (S B : Nat → Nat) (n : Nat) : un (resN i s S B n) (i * 16 + n) (S (640 * s + (i * 16 + n))) = resN i s S B (n + 1) := by
  funext y
  unfold un resN
  by_cases e : y = i * 16 + n
  · rw [if_pos e, if_pos (by omega), e]
  · rw [if_neg e]
    by_cases e2 : i * 16 ≤ y ∧ y < i * 16 + n
    · rw [if_pos e2, if_pos (by omega)]
    · rw [if_neg e2, if_neg (by omega)]
theorem un_self {F : Nat → Nat} {y v : Nat} (h : F y = v) : un F y v = F := by
  funext z
  by_cases e : z = y
  · rw [e, un_at, h]
  · rw [un_ne e]
theorem resN_at (i s : Nat) (S B : Nat → Nat) (n : Nat) : resN i s S B n (i * 16 + n) = B (i * 16 + n) := if_neg (by omega)
def chg (i s : Nat) (S B : Nat → Nat) : Nat → Bool := fun x => S (640 * s + (i * 16 + x)) != B (i * 16 + x)
theorem C_restoreL_ok (hS : SNAP t K S W V WI pT pK pR pW pU pI pC msnaps mranks mkept mshot mwas) (hs : s < t) (hk : K s = 1) (hf : f ≤ 40) (hi : i < f) (hC : BL B nC) (hU : US t B K S nU) :
    ∃ nC' nU', f_C_restore_L84 FU (nI s) (nI i) 0 0 (nI f) nC nU (nI t) pW pI pC = some (nI (cn (chg i s S B) 16), nC', nU') ∧ BL (resN i s S B 16) nC' ∧ US t (resN i s S B 16) K S nU' := by
  have h64 : ∀ x, x < 640 → S (640 * s + x) ≤ 64 := fun x hx => ((hS.2.2.1.2 s hs).2.2 hk x hx).2
  obtain ⟨⟨c, u⟩, ⟨g1, g2⟩, g3⟩ := loop_rel (fun fu x (z : (Nat → Int32) × (Nat → Int32)) => f_C_restore_L84 fu (nI s) (nI i) (nI (cn (chg i s S B) x)) (nI x) (nI f) z.1 z.2 (nI t) pW pI pC) (fun x z => BL (resN i s S B x) z.1 ∧ US t (resN i s S B x) K S z.2) 16 (fun z => (nI (cn (chg i s S B) 16), z.1, z.2)) (fun fu x z hx ⟨b1, b2⟩ => by
      obtain ⟨c1, c2⟩ := b1 (i * 16 + x) (by omega)
      rw [resN_at] at c1 c2
      have a2 := h64 (i * 16 + x) (by omega)
      have h16 : ¬ (16 : Int32) ≤ nI x := fun h => absurd ((nI_leI (a := 16) (b := x) (by omega) (by omega)).mp h) (by omega)
      by_cases y : S (640 * s + (i * 16 + x)) = B (i * 16 + x)
      · have er : resN i s S B (x + 1) = resN i s S B x := by
          rw [← resN_s]
          exact un_self (by rw [resN_at, y])
        refine ⟨z, ⟨by rw [er]; exact b1, by rw [er]; exact b2⟩, ?_⟩
        show f_C_restore_L84 (fu + 1) _ _ _ _ _ _ _ _ _ _ _ = _
        have e : chg i s S B x = false := by
          unfold chg
          rw [y]
          simp
        rw [f_C_restore_L84, if_neg h16, snap_blockIn hS hs (by omega) hx hk, Option.bind_some, S_blockIn_in hi hf hx, Option.bind_some, c1, if_pos (by rw [y]), nI_1, cn_s, e]
        rfl
      · obtain ⟨u', q1, q2, q3⟩ := setB (q := x) (v := S (640 * s + (i * 16 + x))) hi hf hx b1 b2 a2
        rw [resN_s] at q2 q3
        refine ⟨(upd z.1 (i * 16 + x) (nI (S (640 * s + (i * 16 + x))) - 1), u'), ⟨q2, q3⟩, ?_⟩
        show f_C_restore_L84 (fu + 1) _ _ _ _ _ _ _ _ _ _ _ = _
        have e : chg i s S B x = true := by
          unfold chg
          simp [y]
        have y2 : ¬ nI (S (640 * s + (i * 16 + x))) - 1 = nI (B (i * 16 + x)) - 1 := by
          intro w
          have w2 := congrArg (fun v => v + 1) w
          rw [Int32.sub_add_cancel, Int32.sub_add_cancel] at w2
          exact y ((nI_eq (by omega) (by omega)).mp w2)
        rw [f_C_restore_L84, if_neg h16, snap_blockIn hS hs (by omega) hx hk, Option.bind_some, S_blockIn_in hi hf hx, Option.bind_some, c1, if_neg y2, q1, Option.bind_some, nI_1, nI_1, cn_s, e]
        rfl) (fun fu z _ => by
      show f_C_restore_L84 (fu + 1) _ _ _ _ _ _ _ _ _ _ _ = _
      rw [f_C_restore_L84]
      simp (disch := omega) only [nI_ltI, nI_leI, nI_eq, nI_add, pk_mul, pk_sub, nI_clamp, l0, l1, l2, l3, l4, l5, l6, l8, l9, l10, l15, l16, l30, l39, l40, l58, l63, l64, l99, l100, l103, l104, l108, l112, l117, l119, l120, l512, l639, l640, l999, l9999, l19200, if_pos, if_neg, Option.bind_some, if_true, if_false]) FU (FU_gt (by omega)) (nC, nU) ⟨by rw [resN_0]; exact hC, by rw [resN_0]; exact hU⟩
  exact ⟨c, u, g3, g1, g2⟩
theorem M_restoreL_ok (hs : s < 30) (hi : i < 40) (hB : ∀ x, x < 640 → mblocks x = nI (B x) ∧ B x ≤ 64) (h64 : ∀ x, x < 640 → mshot (640 * s + x) = nI (S (640 * s + x)) ∧ S (640 * s + x) ≤ 64) :
    ∃ mb' mT', f_M_restore_L83 FU (nI s) (nI i) 0 0 mblocks mshot mblocksT = some (nI (cn (chg i s S B) 16), mb', mT') ∧ (∀ x, x < 640 → mb' x = nI (resN i s S B 16 x)) ∧ (∀ x, x < 16 → mT' x = nI (B (i * 16 + x))) := by
  obtain ⟨⟨c, u⟩, ⟨g1, g2⟩, g3⟩ := loop_rel (fun fu x (z : (Nat → Int32) × (Nat → Int32)) => f_M_restore_L83 fu (nI s) (nI i) (nI (cn (chg i s S B) x)) (nI x) z.1 mshot z.2) (fun x z => (∀ y, y < 640 → z.1 y = nI (resN i s S B x y)) ∧ (∀ y, y < x → z.2 y = nI (B (i * 16 + y)))) 16 (fun z => (nI (cn (chg i s S B) 16), z.1, z.2)) (fun fu x z hx ⟨b1, b2⟩ => by
      have c1 := b1 (i * 16 + x) (by omega)
      rw [resN_at] at c1
      obtain ⟨a1, a2⟩ := h64 (i * 16 + x) (by omega)
      have b64 := (hB (i * 16 + x) (by omega)).2
      have h16 : ¬ (16 : Int32) ≤ nI x := fun h => absurd ((nI_leI (a := 16) (b := x) (by omega) (by omega)).mp h) (by omega)
      have mm : (16 : Int32) * nI i + nI x = nI (i * 16 + x) := by rw [mul16, Nat.mul_comm]
      have m1 : (640 : Int32) * nI s + 16 * nI i + nI x = nI (640 * s + (i * 16 + x)) := by
        rw [show (640 : Int32) = nI 640 from rfl, show (16 : Int32) = nI 16 from rfl, pk_mul, pk_mul, nI_add, nI_add, show 640 * s + 16 * i + x = 640 * s + (i * 16 + x) by omega]
      refine ⟨(upd z.1 (i * 16 + x) (nI (S (640 * s + (i * 16 + x)))), upd z.2 x (nI (B (i * 16 + x)))), ⟨fun y hy => ?_, fun y hy => ?_⟩, ?_⟩
      · show upd z.1 (i * 16 + x) (nI (S (640 * s + (i * 16 + x)))) y = _
        rw [← resN_s]
        exact upd_un (fun _ => b1 y hy)
      · show upd z.2 x (nI (B (i * 16 + x))) y = _
        by_cases w : y = x
        · rw [w, upd_at]
        · rw [upd_ne w]
          exact b2 y (by omega)
      · show f_M_restore_L83 (fu + 1) _ _ _ _ _ _ _ = _
        have i1 := in_lim (j := i * 16 + x) (n := 640) (by omega) (by omega)
        have i1_ := in_l2 (j := i * 16 + x) (n := 640) (by omega) (by omega)
        have i2 := in_lim (j := x) (n := 640) (by omega) (by omega)
        have i2_ := in_l2 (j := x) (n := 640) (by omega) (by omega)
        have i3 := in_lim (j := 640 * s + (i * 16 + x)) (n := 19200) (by omega) (by omega)
        have i3_ := in_l2 (j := 640 * s + (i * 16 + x)) (n := 19200) (by omega) (by omega)
        rw [f_M_restore_L83, if_neg h16]
        simp only [mm, m1, i1_, i2_, i3_, if_false, nI_clamp (show i * 16 + x < 2 ^ 31 by omega), nI_clamp (show x < 2 ^ 31 by omega), nI_clamp (show 640 * s + (i * 16 + x) < 2 ^ 31 by omega), a1, c1, upd_at, nI_1]
        by_cases y : S (640 * s + (i * 16 + x)) = B (i * 16 + x)
        · have e : chg i s S B x = false := by
            unfold chg
            rw [y]
            simp
          rw [if_pos (by rw [y]), cn_s, e, Int32.add_zero]
          rfl
        · have e : chg i s S B x = true := by
            unfold chg
            simp [y]
          rw [if_neg (fun w => y ((nI_eq (by omega) (by omega)).mp w)), cn_s, e, if_pos rfl]) (fun fu z _ => by
      show f_M_restore_L83 (fu + 1) _ _ _ _ _ _ _ = _
      rw [f_M_restore_L83]
      simp (disch := omega) only [nI_ltI, nI_leI, nI_eq, nI_add, pk_mul, pk_sub, nI_clamp, l0, l1, l2, l3, l4, l5, l6, l8, l9, l10, l15, l16, l30, l39, l40, l58, l63, l64, l99, l100, l103, l104, l108, l112, l117, l119, l120, l512, l639, l640, l999, l9999, l19200, if_pos, if_neg, Option.bind_some, if_true, if_false]) FU (FU_gt (by omega)) (mblocks, mblocksT) ⟨fun y hy => by rw [resN_0]; exact (hB y hy).1, fun y hy => absurd hy (Nat.not_lt_zero y)⟩
  exact ⟨c, u, g3, g1, g2⟩
theorem M_undo_ok {mb mT : Nat → Int32} (hi : i < 40) (h1 : ∀ x, x < 640 → mb x = nI (resN i s S B 16 x)) (h2 : ∀ x, x < 16 → mT x = nI (B (i * 16 + x))) : ∃ mb', f_M_restore_L202 FU (nI i) 0 mb mT = some mb' ∧ ∀ x, x < 640 → mb' x = nI (B x) := by
  obtain ⟨c, g1, g3⟩ := loop_rel (fun fu x (z : Nat → Int32) => f_M_restore_L202 fu (nI i) (nI x) z mT) (fun x z => ∀ y, y < 640 → z y = nI (if i * 16 + x ≤ y ∧ y < i * 16 + 16 then resN i s S B 16 y else B y)) 16 (fun z => z) (fun fu x z hx b1 => by
      have h16 : ¬ (16 : Int32) ≤ nI x := fun h => absurd ((nI_leI (a := 16) (b := x) (by omega) (by omega)).mp h) (by omega)
      have mm : (16 : Int32) * nI i + nI x = nI (i * 16 + x) := by rw [mul16, Nat.mul_comm]
      refine ⟨upd z (i * 16 + x) (nI (B (i * 16 + x))), fun y hy => ?_, ?_⟩
      · by_cases w : y = i * 16 + x
        · rw [w, upd_at, if_neg (by omega)]
        · rw [upd_ne w, b1 y hy]
          by_cases v : i * 16 + x ≤ y ∧ y < i * 16 + 16
          · rw [if_pos v, if_pos (by omega)]
          · rw [if_neg v, if_neg (by omega)]
      · show f_M_restore_L202 (fu + 1) _ _ _ _ = _
        rw [f_M_restore_L202, if_neg h16, if_neg (in_lim (by omega) (by omega)), mm, if_neg (in_lim (by omega) (by omega)), nI_clamp (by omega), nI_clamp (by omega), h2 x hx, nI_1]) (fun fu z _ => by
      show f_M_restore_L202 (fu + 1) _ _ _ _ = _
      rw [f_M_restore_L202]
      simp (disch := omega) only [nI_ltI, nI_leI, nI_eq, nI_add, pk_mul, pk_sub, nI_clamp, l0, l1, l2, l3, l4, l5, l6, l8, l9, l10, l15, l16, l30, l39, l40, l58, l63, l64, l99, l100, l103, l104, l108, l112, l117, l119, l120, l512, l639, l640, l999, l9999, l19200, if_pos, if_neg, Option.bind_some, if_true, if_false]) FU (FU_gt (by omega)) mb (fun y hy => by
      rw [h1 y hy]
      by_cases v : i * 16 + 0 ≤ y ∧ y < i * 16 + 16
      · rw [if_pos v]
      · rw [if_neg v]
        unfold resN
        rw [if_neg (by omega)])
  exact ⟨c, g3, fun x hx => by rw [g1 x hx, if_neg (by omega)]⟩
theorem cnt_res {o : Nat} (hf : f ≤ 40) (hi : i < f) (hO : O i = o) (hB : ∀ y, y < 640 → B y ≠ 0 → y / 16 < f) : cn (fun b => isU O (resN i s S B 16) o b) 64 = cn (fun b => inO O B o i b f || inF (fun y => S (640 * s + y)) i 99 b 16) 64 := by
  refine cn_cong (fun b hb => ?_)
  rw [Bool.eq_iff_iff, Bool.or_eq_true, inO_iff, inF_iff, isU_iff]
  constructor
  · rintro ⟨y, h1, h2, h3⟩
    unfold resN at h2
    by_cases e1 : i * 16 ≤ y ∧ y < i * 16 + 16
    · rw [if_pos e1] at h2
      right
      exact ⟨y - i * 16, by omega, by omega, by show S (640 * s + (i * 16 + (y - i * 16))) = b + 1; rw [show i * 16 + (y - i * 16) = y by omega]; exact h2⟩
    · rw [if_neg e1] at h2
      have h4 := hB y h1 (by omega)
      left
      exact ⟨y / 16, h4, by omega, h3, y % 16, by omega, by rw [show y / 16 * 16 + y % 16 = y by omega]; exact h2⟩
  · rintro (⟨i', h1, h2, h3, x', h4, h5⟩ | ⟨x', h1, h2, h3⟩)
    · refine ⟨i' * 16 + x', by omega, ?_, by rw [show (i' * 16 + x') / 16 = i' by omega]; exact h3⟩
      unfold resN
      rw [if_neg (by omega)]
      exact h5
    · refine ⟨i * 16 + x', by omega, ?_, by rw [show (i * 16 + x') / 16 = i by omega]; exact hO⟩
      unfold resN
      rw [if_pos (by omega)]
      exact h3
theorem c24 (htr : TRD tr d cT cD misop mday) (hW : OWN k Qo cO cQ mown mquot) (hC : CORE k t K S O f L A B P e nF nO nL nA nC nV nU nP nE mprom mfiles mlinks mblocks mvals mentr) (hV : ALV f L hd A) (hM : ∀ i, i < f → mowner i = nI (O i)) (hS : SNAP t K S W V WI pT pK pR pW pU pI pC msnaps mranks mkept mshot mwas) :
    ∃ nC' nU' oL' mc mb' mT', f_case24 p1 p2 nF nO nL nC nU cT cO cQ pT pW pI pC oL mquot mfiles mowner mlinks mblocks msnaps mkept mshot mwas misop mblocksT = some (nC', nU', oL', mc, mb', mT') ∧ ∃ B', CORE k t K S O f L A B' P e nF nO nL nA nC' nV nU' nP nE mprom mfiles mlinks mb' mvals mentr ∧ (tr = 1 → mT' = mblocksT) := by
  have hC0 := hC
  have hS0 := hS
  obtain ⟨t1, t2, rfl, rfl, -, -⟩ := htr
  obtain ⟨hk4, rfl, -, hQ⟩ := hW
  obtain ⟨hf, rfl, rfl, rfl, rfl, hF, hB, hU, hP, hPs, hA⟩ := hC
  obtain ⟨rfl, rfl, ⟨ht, hk⟩, -, -, -, hWr, -, -, -, -, hwi, -⟩ := hS
  unfold f_case24 f_L_restore f_C_restore f_M_restore f_M_thrown f_M_fails f_C_requireNoTransaction
  rcases out_or p1 (n := t) (by omega) with ho | ⟨s, hs, rfl⟩
  · rw [C_requireSnapshot_out ho, M_isSnapshot_out ht ho]
    exact ⟨_, _, _, _, _, _, rfl, B, hC0, fun _ => rfl⟩
  · rw [C_requireSnapshot_in ht hs, M_isSnapshot_in ht hs]
    rcases out_or p2 (n := f) (by omega) with ho | ⟨i, hi, rfl⟩
    · rw [C_requireFile_out ho, M_isFile_out hf ho]
      exact ⟨_, _, _, _, _, _, rfl, B, hC0, fun _ => rfl⟩
    · rw [C_requireFile_in hf hi, M_isFile_in hi hf]
      obtain ⟨k1, k2, k3⟩ := hk s hs
      obtain ⟨g1, g2, g3⟩ := hwi (40 * s + i) (by omega)
      obtain ⟨a1, a2, a3, a4, a5⟩ := hF i hi
      obtain ⟨q1, q2, q3⟩ := hQ (O i) a2
      have e1 : ¬ ((1 : Int32) = 0) := by decide
      have e2 : ¬ ((nI 1 : Int32) = 0) := by decide
      have m2 : (40 : Int32) * nI s + nI i = nI (40 * s + i) := by rw [show (40 : Int32) = nI 40 from rfl, pk_mul, nI_add]
      have hinc := snap_includes hS0 hs (show i < 40 by omega)
      unfold f_C_requireInSnapshot
      rw [hinc]
      unfold hasN
      simp only [Option.bind_some, e1, if_false, m2, in_l2 (show s < 30 by omega) (by omega), in_l2 (show 40 * s + i < 1200 by omega) (by omega), nI_clamp (show s < 2 ^ 31 by omega), nI_clamp (show 40 * s + i < 2 ^ 31 by omega), k1, g1]
      rcases (show K s = 0 ∨ K s = 1 by omega) with z | z
      · rw [z]
        exact ⟨_, _, _, _, _, _, rfl, B, hC0, fun _ => rfl⟩
      · rw [z, if_pos rfl]
        rcases (show WI (40 * s + i) = 0 ∨ WI (40 * s + i) = 1 by omega) with y | y
        · rw [y]
          exact ⟨_, _, _, _, _, _, rfl, B, hC0, fun _ => rfl⟩
        · rw [y]
          rcases (show tr = 0 ∨ tr = 1 by omega) with rfl | rfl
          · have e0 : (nI 0 : Int32) = 0 := rfl
            rw [C_requireLinks_ok hf hi a3 a5]
            simp only [e0, e2, if_true, if_false, Option.bind_some, in_l2 (show i < 40 by omega) (by omega), nI_clamp (show i < 2 ^ 31 by omega), a4]
            by_cases q0 : L i = 0
            · rw [q0]
              exact ⟨_, _, _, _, _, _, rfl, B, hC0, fun w => absurd w (by omega)⟩
            · rw [if_neg q0]
              have e3 : ¬ nI (L i) = 0 := nI_ne0 (by omega) (by omega)
              have hBS : ∀ x, x < 640 → nC x = nI (B x) - 1 ∧ B x ≤ 64 := fun x hx => ⟨(hB x hx).1, (hB x hx).2.2.1⟩
              have h64 := fun x hx => k3 z x hx
              have m1 : f_S_blocksOfOwner (nI (O i)) (nI i) (nI f) nO nC = some (mkO O B (O i) i f) := S_blocksOfOwner_ok (by omega) hf (fun y hy => nI_eq (by omega) (by omega)) (fun y hy => ⟨(hF y hy).1, by have := (hF y hy).2.1; omega⟩) hBS
              have m3 := Mk_count (Mk_or (mkO_Mk (O := O) (B := B) (o := O i) (ex := i) f hf (fun y hy => (hB y hy).2.2.1)) (mkF_Mk (B := fun y => S (640 * s + y)) (i := i) (ex := 99) 16 (fun y hy => (h64 (i * 16 + y) (by omega)).2)))
              have m4 : f_C_quotaOf (nI (O i)) (nI k) cQ = some (nI (Qo (O i))) := by
                unfold f_C_quotaOf
                have a1 : ¬ nI (O i) < (0 : Int32) := nI_pos (by omega)
                have a2 : ¬ nI k ≤ nI (O i) := fun z => absurd ((nI_leI (by omega) (by omega)).mp z) (by omega)
                rw [if_neg a1, if_neg a2, if_neg (in_lim (by omega) (by omega)), nI_clamp (by omega), q1]
              have hc64 := cn_le (fun b => inO O B (O i) i b f || inF (fun y => S (640 * s + y)) i 99 b 16) 64
              obtain ⟨mb', mT', n1, n2, n3⟩ := M_restoreL_ok (s := s) (i := i) (mblocksT := mblocksT) (B := B) (S := S) (mblocks := mblocks) (mshot := mshot) (by omega) (by omega) (fun x hx => ⟨(hB x hx).2.1, (hB x hx).2.2.1⟩) h64
              have n64 : ∀ x, x < 640 → resN i s S B 16 x ≤ 64 := by
                intro x hx
                unfold resN
                by_cases w : i * 16 ≤ x ∧ x < i * 16 + 16
                · rw [if_pos w]
                  exact (h64 x hx).2
                · rw [if_neg w]
                  exact (hB x hx).2.2.1
              have ct : f_M_countsFor (nI (O i)) mowner mb' = some (nI (cn (fun b => isU O (resN i s S B 16) (O i) b) 64)) := M_countsFor_ok (by omega) (fun x hx => ⟨n2 x hx, n64 x hx⟩) (fun x hx hne => by
                unfold resN at hne
                by_cases w : i * 16 ≤ x ∧ x < i * 16 + 16
                · rw [show x / 16 = i by omega]
                  exact ⟨hM i hi, by omega⟩
                · rw [if_neg w] at hne
                  have h4 := ((hB x hx).2.2.2 hne).1
                  exact ⟨hM _ h4, by have := (hF _ h4).2.1; omega⟩)
              rw [cnt_res hf hi rfl (fun x hx hne => ((hB x hx).2.2.2 hne).1)] at ct
              have n1 : f_M_restore_L83 FU (nI s) (nI i) 0 0 mblocks mshot mblocksT = some (nI (cn (chg i s S B) 16), mb', mT') := n1
              rw [S_ownerIn_in hi hf, a1]
              simp only [e3, if_false, Option.bind_some, m1, P_blocksInFile_ok hS0 hs (show i < 40 by omega) z, m3, m4, n1, hM i hi, ct, in_l2 (show O i < 4 by omega) (by omega), nI_clamp (show O i < 2 ^ 31 by omega), q2]
              by_cases c : nI (cn (fun b => inO O B (O i) i b f || inF (fun y => S (640 * s + y)) i 99 b 16) 64) ≤ nI (Qo (O i))
              · obtain ⟨nC', nU', r1, r2, r3⟩ := C_restoreL_ok (nC := nC) (nU := nU) (B := B) hS0 hs z hf hi hBS (fun b hb => (hU b hb).2)
                simp only [c, if_true, r1, Option.bind_some, out_same, cmp_same]
                refine ⟨_, _, _, _, _, _, rfl, resN i s S B 16, ⟨hf, rfl, rfl, rfl, rfl, hF, fun x hx => ⟨(r2 x hx).1, n2 x hx, n64 x hx, fun hne => ?_⟩, fun b hb => ⟨(hU b hb).1, r3 b hb⟩, hP, hPs, hA⟩, fun w => absurd w (by omega)⟩
                unfold resN at hne
                by_cases w : i * 16 ≤ x ∧ x < i * 16 + 16
                · rw [show x / 16 = i by omega]
                  exact ⟨hi, by rw [hV i hi, if_neg (fun v => q0 v.1)]⟩
                · rw [if_neg w] at hne
                  exact (hB x hx).2.2.2 hne
              · obtain ⟨mb2, u1, u2⟩ := M_undo_ok (show i < 40 by omega) n2 n3
                have u1 : f_M_restore_L202 FU (nI i) 0 mb' mT' = some mb2 := u1
                simp only [c, if_false, u1, Option.bind_some]
                exact ⟨_, _, _, _, _, _, rfl, B, ⟨hf, rfl, rfl, rfl, rfl, hF, fun x hx => ⟨(hB x hx).1, u2 x hx, (hB x hx).2.2⟩, hU, hP, hPs, hA⟩, fun w => absurd w (by omega)⟩
          · exact ⟨_, _, _, _, _, _, rfl, B, hC0, fun _ => rfl⟩
end RESTORE
