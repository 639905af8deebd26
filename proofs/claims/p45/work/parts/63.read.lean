/-! CASES THAT READ, II: what is asked for on both sides -/
section READ
variable {k t f e h : Nat} {K S O L A B P HF HE HO : Nat → Nat} {nO nL nA nC nV nU nP mprom mlinks mblocks mvals mowner uF uE uN mheld mends mopen cK mkinds : Nat → Int32} {oL : Nat → Int64} {p p1 p2 p3 : Int32}
theorem C_requireFile_out (h : Out p f) : f_C_requireFile p (nI f) = some (.error 3) := by
  unfold f_C_requireFile
  rw [S_hasFile_out h]
  rfl
theorem C_requireFile_in {j : Nat} (hf : f ≤ 40) (h : j < f) : f_C_requireFile (nI j) (nI f) = some (.ok ()) := by
  unfold f_C_requireFile
  rw [S_hasFile_in h hf]
  rfl
theorem C_requirePlace_out (h : Out p 16) : f_C_requirePlace p = some (.error 3) := by
  unfold f_C_requirePlace
  rw [C_isPlace_out h]
  rfl
theorem C_requirePlace_in {j : Nat} (h : j < 16) : f_C_requirePlace (nI j) = some (.ok ()) := by
  unfold f_C_requirePlace
  rw [C_isPlace_in h]
  rfl
theorem C_requireSnapshot_out (h : Out p f) : f_C_requireSnapshot p (nI f) = some (.error 3) := by
  unfold f_C_requireSnapshot
  rw [P_wasTaken_out h]
  rfl
theorem C_requireSnapshot_in {j : Nat} (hf : f ≤ 30) (h : j < f) : f_C_requireSnapshot (nI j) (nI f) = some (.ok ()) := by
  unfold f_C_requireSnapshot
  rw [P_wasTaken_in h hf]
  rfl
theorem C_requireHold_out (h : Out p f) : f_C_requireHold p (nI f) = some (.error 3) := by
  unfold f_C_requireHold
  rw [H_wasOpened_out h]
  rfl
theorem C_requireHold_in {j : Nat} (hf : f ≤ 30) (h : j < f) : f_C_requireHold (nI j) (nI f) = some (.ok ()) := by
  unfold f_C_requireHold
  rw [H_wasOpened_in h hf]
  rfl
theorem C_requireLinks_ok {j l : Nat} (hf : f ≤ 40) (h : j < f) (hl : nL j = nI l) (h9 : l ≤ 9) : f_C_requireLinks (nI j) (nI f) nL = some (if l = 0 then .error 2 else .ok ()) := by
  unfold f_C_requireLinks
  rw [S_linkTotal_in h hf, hl]
  by_cases e : l = 0
  · subst e
    rfl
  · simp (disch := omega) only [nI_ltI, nI_leI, nI_eq, nI_add, pk_mul, pk_sub, nI_clamp, l0, l1, l2, l3, l4, l5, l6, l8, l9, l10, l15, l16, l30, l39, l40, l58, l63, l64, l99, l100, l103, l104, l108, l112, l117, l119, l120, l512, l639, l640, l999, l9999, l19200, if_pos, if_neg, Option.bind_some, if_true, if_false, e, l0]
theorem in_lim {j n : Nat} (h : j < n) (hn : n < 2 ^ 31) : ¬ (nI j < 0 ∨ n ≤ (nI j).toNatClampNeg) := nI_in h hn
theorem in_l2 {j n : Nat} (h : j < n) (hn : n < 2 ^ 31) : ¬ (nI j < 0 ∨ n ≤ j) := fun q => q.elim (nI_pos (by omega)) (fun z => absurd z (by omega))
theorem H_isStillOpen_in {x : Nat} (hh : h ≤ 30) (hx : x < h) (hu : uN x = nI (HO x)) (h1 : HO x ≤ 1) : f_H_isStillOpen (nI x) (nI h) uN = some (nI (HO x)) := by
  unfold f_H_isStillOpen
  rw [H_wasOpened_in hx hh]
  rcases (show HO x = 0 ∨ HO x = 1 by omega) with e | e
  · simp (disch := omega) only [nI_ltI, nI_leI, nI_eq, nI_add, pk_mul, pk_sub, nI_clamp, l0, l1, l2, l3, l4, l5, l6, l8, l9, l10, l15, l16, l30, l39, l40, l58, l63, l64, l99, l100, l103, l104, l108, l112, l117, l119, l120, l512, l639, l640, l999, l9999, l19200, if_pos, if_neg, Option.bind_some, if_true, if_false, hu, e]
  · simp (disch := omega) only [nI_ltI, nI_leI, nI_eq, nI_add, pk_mul, pk_sub, nI_clamp, l0, l1, l2, l3, l4, l5, l6, l8, l9, l10, l15, l16, l30, l39, l40, l58, l63, l64, l99, l100, l103, l104, l108, l112, l117, l119, l120, l512, l639, l640, l999, l9999, l19200, if_pos, if_neg, Option.bind_some, if_true, if_false, hu, e]
/-- CASE 28: holdsOn -/
theorem H_openTotal_ok {i : Nat} (hh : h ≤ 30) (hi : i < 40) (h1 : ∀ x, x < h → uF x = nI (HF x) ∧ uN x = nI (HO x) ∧ HF x < 40 ∧ HO x ≤ 1) : f_H_openTotal (nI i) (nI h) uF uN = some (nI (hdN h HF HO i)) := by
  unfold f_H_openTotal hdN
  have hL := loop_up (fun fu x => f_H_openTotal_L4 fu (nI i) (nI (cn (fun x => HO x == 1 && HF x == i) x)) (nI x) (nI h) uF uN) h (some (nI (cn (fun x => HO x == 1 && HF x == i) h))) (fun fu x hx => by
      have := cn_le (fun x => HO x == 1 && HF x == i) x
      obtain ⟨a1, a2, a3, a4⟩ := h1 x hx
      show f_H_openTotal_L4 (fu + 1) _ _ _ _ _ _ = _
      rw [f_H_openTotal_L4, cn_s, H_isStillOpen_in hh hx a2 a4]
      by_cases e : HO x = 0
      · simp (disch := omega) only [nI_ltI, nI_leI, nI_eq, nI_add, pk_mul, pk_sub, nI_clamp, l0, l1, l2, l3, l4, l5, l6, l8, l9, l10, l15, l16, l30, l39, l40, l58, l63, l64, l99, l100, l103, l104, l108, l112, l117, l119, l120, l512, l639, l640, l999, l9999, l19200, if_pos, if_neg, Option.bind_some, if_true, if_false, a1, e, not_or, show ((0 : Nat) == 1) = false from rfl, Bool.false_and, Bool.false_eq_true, Nat.add_zero]
      · have e1 : HO x = 1 := by omega
        by_cases e2 : HF x = i
        · simp (disch := omega) only [nI_ltI, nI_leI, nI_eq, nI_add, pk_mul, pk_sub, nI_clamp, l0, l1, l2, l3, l4, l5, l6, l8, l9, l10, l15, l16, l30, l39, l40, l58, l63, l64, l99, l100, l103, l104, l108, l112, l117, l119, l120, l512, l639, l640, l999, l9999, l19200, if_pos, if_neg, Option.bind_some, if_true, if_false, a1, e1, e2, not_or, beq_self_eq_true, Bool.true_and, nI_eq]
        · have e3 : (HF x == i) = false := by simp [e2]
          simp (disch := omega) only [nI_ltI, nI_leI, nI_eq, nI_add, pk_mul, pk_sub, nI_clamp, l0, l1, l2, l3, l4, l5, l6, l8, l9, l10, l15, l16, l30, l39, l40, l58, l63, l64, l99, l100, l103, l104, l108, l112, l117, l119, l120, l512, l639, l640, l999, l9999, l19200, if_pos, if_neg, Option.bind_some, if_true, if_false, a1, e1, e3, not_or, beq_self_eq_true, Bool.true_and, nI_eq, Bool.false_eq_true, Nat.add_zero]) (fun fu => by
      show f_H_openTotal_L4 (fu + 1) _ _ _ _ _ _ = _
      rw [f_H_openTotal_L4]
      simp (disch := omega) only [nI_ltI, nI_leI, nI_eq, nI_add, pk_mul, pk_sub, nI_clamp, l0, l1, l2, l3, l4, l5, l6, l8, l9, l10, l15, l16, l30, l39, l40, l58, l63, l64, l99, l100, l103, l104, l108, l112, l117, l119, l120, l512, l639, l640, l999, l9999, l19200, if_pos, if_neg, Option.bind_some, if_true, if_false]) FU (FU_gt (by omega))
  have h2 : f_H_openTotal_L4 FU (nI i) 0 0 (nI h) uF uN = some (nI (cn (fun x => HO x == 1 && HF x == i) h)) := hL
  rw [h2]
  rfl
/-- the block at a place -/
theorem mul16 {j x : Nat} : (16 : Int32) * nI j + nI x = nI (16 * j + x) := by
  rw [show (16 : Int32) = nI 16 from rfl, pk_mul, nI_add]
theorem blk_div {j x f : Nat} (hj : j < f) (hx : x < 16) : (j * 16 + x) / 16 = j := by omega
/-- CASE 11: blocksOf -/
theorem C_blocksOf_ok {j : Nat} (hf : f ≤ 40) (hj : j < f) (hB : ∀ x, x < 640 → nC x = nI (B x) - 1 ∧ B x ≤ 64) : f_C_blocksOf_L9 FU (nI j) 0 0 (nI f) nC = some (nI (cn (fun x => B (j * 16 + x) != 0) 16)) := by
  have hL := loop_up (fun fu x => f_C_blocksOf_L9 fu (nI j) (nI (cn (fun x => B (j * 16 + x) != 0) x)) (nI x) (nI f) nC) 16 (some (nI (cn (fun x => B (j * 16 + x) != 0) 16))) (fun fu x hx => by
      obtain ⟨a1, a2⟩ := hB (j * 16 + x) (by omega)
      show f_C_blocksOf_L9 (fu + 1) _ _ _ _ _ = _
      have h16 : ¬ (16 : Int32) ≤ nI x := fun q => absurd ((nI_leI (a := 16) (b := x) (by omega) (by omega)).mp q) (by omega)
      rw [f_C_blocksOf_L9, cn_s, if_neg h16, S_blockIn_in hj hf hx, a1, Option.bind_some]
      have hm := m1_eq (b := B (j * 16 + x)) (by omega)
      by_cases e : B (j * 16 + x) = 0
      · rw [if_pos (hm.mpr e), e, nI_1]
        rfl
      · have e2 : (B (j * 16 + x) != 0) = true := by simp [e]
        rw [if_neg (fun q => e (hm.mp q)), e2, nI_1, nI_1, if_pos rfl]) (fun fu => by
      show f_C_blocksOf_L9 (fu + 1) _ _ _ _ _ = _
      rw [f_C_blocksOf_L9]
      simp (disch := omega) only [nI_ltI, nI_leI, nI_eq, nI_add, pk_mul, pk_sub, nI_clamp, l0, l1, l2, l3, l4, l5, l6, l8, l9, l10, l15, l16, l30, l39, l40, l58, l63, l64, l99, l100, l103, l104, l108, l112, l117, l119, l120, l512, l639, l640, l999, l9999, l19200, if_pos, if_neg, Option.bind_some, if_true, if_false]) FU (FU_gt (by omega))
  exact hL
end READ
