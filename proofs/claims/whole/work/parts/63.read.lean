/-! CASES THAT READ, II: what is asked for on both sides -/
section READ
variable {k t f e h : Nat} {K S O L A B P HF HE HO : Nat → Nat} {nO nL nA nC nV nU nP mprom mlinks mblocks mvals mowner uF uE uN mheld mends mopen cK mkinds : Nat → Int32} {oL : Nat → Int64} {p p1 p2 p3 : Int32}
theorem M_b {p a b : Int32} {r : Int32} (h : f_M_in p a b = some r) (h2 : vp_nar .boolean r = r) : ((f_M_in p a b).bind fun r1 => if vp_nar .boolean r1 = r1 then some r1 else none) = some r := by
  rw [h, Option.bind_some, if_pos h2]
theorem M_isFile_out (hf : f ≤ 40) (h : Out p f) : f_M_isFile p (nI f) = some 0 := M_b (M_in_out (by omega) h) rfl
theorem M_isSnapshot_out (hf : f ≤ 30) (h : Out p f) : f_M_isSnapshot p (nI f) = some 0 := M_b (M_in_out (by omega) h) rfl
theorem M_isSnapshot_in {j : Nat} (hf : f ≤ 30) (h : j < f) : f_M_isSnapshot (nI j) (nI f) = some 1 := M_b (M_in_in (by omega) h) rfl
theorem M_isHold_out (hf : f ≤ 30) (h : Out p f) : f_M_isHold p (nI f) = some 0 := M_b (M_in_out (by omega) h) rfl
theorem M_isHold_in {j : Nat} (hf : f ≤ 30) (h : j < f) : f_M_isHold (nI j) (nI f) = some 1 := M_b (M_in_in (by omega) h) rfl
theorem M_isPlace_out (h : Out p 16) : f_M_isPlace p = some 0 := M_b (show f_M_in p 0 15 = some 0 from M_in_out (k := 16) (by omega) h) rfl
theorem M_isPlace_in {j : Nat} (h : j < 16) : f_M_isPlace (nI j) = some 1 := M_b (show f_M_in (nI j) 0 15 = some 1 from M_in_in (k := 16) (by omega) h) rfl
theorem C_requireFile_out (h : Out p f) : f_C_requireFile p (nI f) = some (.error 3) := by
  unfold f_C_requireFile
  rw [S_hasFile_out h]
  rfl
theorem C_requireFile_in {j : Nat} (hf : f ≤ 40) (h : j < f) : f_C_requireFile (nI j) (nI f) = some (.ok ()) := by
  unfold f_C_requireFile
  rw [S_hasFile_in h hf]
  rfl
theorem C_requirePlace_out (h : Out p 16) : f_C_requirePlace p = some (.error 3) := by
  unfold f_C_requirePlace
  rw [C_isPlace_out h]
  rfl
theorem C_requirePlace_in {j : Nat} (h : j < 16) : f_C_requirePlace (nI j) = some (.ok ()) := by
  unfold f_C_requirePlace
  rw [C_isPlace_in h]
  rfl
theorem C_requireSnapshot_out (h : Out p f) : f_C_requireSnapshot p (nI f) = some (.error 3) := by
  unfold f_C_requireSnapshot
  rw [P_wasTaken_out h]
  rfl
theorem C_requireSnapshot_in {j : Nat} (hf : f ≤ 30) (h : j < f) : f_C_requireSnapshot (nI j) (nI f) = some (.ok ()) := by
  unfold f_C_requireSnapshot
  rw [P_wasTaken_in h hf]
  rfl
theorem C_requireHold_out (h : Out p f) : f_C_requireHold p (nI f) = some (.error 3) := by
  unfold f_C_requireHold
  rw [H_wasOpened_out h]
  rfl
theorem C_requireHold_in {j : Nat} (hf : f ≤ 30) (h : j < f) : f_C_requireHold (nI j) (nI f) = some (.ok ()) := by
  unfold f_C_requireHold
  rw [H_wasOpened_in h hf]
  rfl
theorem C_requireLinks_ok {j l : Nat} (hf : f ≤ 40) (h : j < f) (hl : nL j = nI l) (h9 : l ≤ 9) : f_C_requireLinks (nI j) (nI f) nL = some (if l = 0 then .error 2 else .ok ()) := by
  unfold f_C_requireLinks
  rw [S_linkTotal_in h hf, hl]
  by_cases e : l = 0
  · subst e
    rfl
  · simp (disch := omega) only [nI_ltI, nI_leI, nI_eq, nI_add, pk_mul, pk_sub, nI_clamp, l0, l1, l2, l3, l4, l5, l6, l8, l9, l10, l15, l16, l30, l39, l40, l58, l63, l64, l99, l100, l103, l104, l108, l112, l117, l119, l120, l512, l639, l640, l999, l9999, l19200, if_pos, if_neg, Option.bind_some, if_true, if_false, e, l0]
theorem in_lim {j n : Nat} (h : j < n) (hn : n < 2 ^ 31) : ¬ (nI j < 0 ∨ n ≤ (nI j).toNatClampNeg) := nI_in h hn
theorem in_l2 {j n : Nat} (h : j < n) (hn : n < 2 ^ 31) : ¬ (nI j < 0 ∨ n ≤ j) := fun q => q.elim (nI_pos (by omega)) (fun z => absurd z (by omega))
theorem H_isStillOpen_in {x : Nat} (hh : h ≤ 30) (hx : x < h) (hu : uN x = nI (HO x)) (h1 : HO x ≤ 1) : f_H_isStillOpen (nI x) (nI h) uN = some (nI (HO x)) := by
  unfold f_H_isStillOpen
  rw [H_wasOpened_in hx hh]
  rcases (show HO x = 0 ∨ HO x = 1 by omega) with e | e
  · simp (disch := omega) only [nI_ltI, nI_leI, nI_eq, nI_add, pk_mul, pk_sub, nI_clamp, l0, l1, l2, l3, l4, l5, l6, l8, l9, l10, l15, l16, l30, l39, l40, l58, l63, l64, l99, l100, l103, l104, l108, l112, l117, l119, l120, l512, l639, l640, l999, l9999, l19200, if_pos, if_neg, Option.bind_some, if_true, if_false, hu, e]
  · simp (disch := omega) only [nI_ltI, nI_leI, nI_eq, nI_add, pk_mul, pk_sub, nI_clamp, l0, l1, l2, l3, l4, l5, l6, l8, l9, l10, l15, l16, l30, l39, l40, l58, l63, l64, l99, l100, l103, l104, l108, l112, l117, l119, l120, l512, l639, l640, l999, l9999, l19200, if_pos, if_neg, Option.bind_some, if_true, if_false, hu, e]
/-- CASE 3: doesExist -/
theorem c3 (hf : f ≤ 40) (hA : ∀ i, i < 40 → nA i = nI (A i) ∧ A i ≤ 1) (hL : ∀ i, i < f → mlinks i = nI (L i) ∧ L i ≤ 9) (hV : ALV f L (hdN h HF HO) A) (hh : h ≤ 30) (hH : ∀ x, x < h → mheld x = nI (HF x) ∧ mopen x = nI (HO x) ∧ HF x < 40 ∧ HO x ≤ 1) : ∃ oL' mc, f_case3 p1 (nI f) nA oL (nI f) mlinks (nI h) mheld mopen = some (oL', mc) := by
  unfold f_case3 f_L_doesExist f_C_doesExist f_M_doesExist f_M_thrown
  rcases out_or p1 (n := f) (by omega) with ho | ⟨j, hj, rfl⟩
  · rw [C_requireFile_out ho, M_isFile_out hf ho]
    exact ⟨_, _, rfl⟩
  · obtain ⟨a1, a2⟩ := hA j (by omega)
    obtain ⟨a3, a4⟩ := hL j hj
    rw [C_requireFile_in hf hj, M_isFile_in hj hf, S_isAlive_in hj hf a1 a2, M_exists_ok hh (by omega) a3 a4 hH, ← hV j hj]
    rcases (show A j = 0 ∨ A j = 1 by omega) with q | q
    · rw [q]
      exact ⟨_, _, rfl⟩
    · rw [q]
      exact ⟨_, _, rfl⟩
/-- CASE 4: linksOf -/
theorem c4 (hf : f ≤ 40) (hL : ∀ i, i < f → nL i = nI (L i) ∧ mlinks i = nI (L i) ∧ L i ≤ 9) : ∃ oL' mc, f_case4 p1 (nI f) nL oL (nI f) mlinks = some (oL', mc) := by
  unfold f_case4 f_L_linksOf f_C_linksOf f_M_linksOf f_M_thrown f_M_fails
  rcases out_or p1 (n := f) (by omega) with ho | ⟨j, hj, rfl⟩
  · rw [C_requireFile_out ho, M_isFile_out hf ho]
    exact ⟨_, _, rfl⟩
  · obtain ⟨a1, a2, a3⟩ := hL j hj
    rw [C_requireFile_in hf hj, M_isFile_in hj hf, S_linkTotal_in hj hf]
    have e1 : ¬ ((1 : Int32) = 0) := by decide
    have e2 := in_lim (j := j) (n := 40) (by omega) (by omega)
    have e2_ := in_l2 (j := j) (n := 40) (by omega) (by omega)
    simp only [Option.bind_some, e1, e2_, if_false, if_true, out_same, nI_clamp (show j < 2 ^ 31 by omega), a1, a2, cmp_same]
    exact ⟨_, _, rfl⟩
/-- CASE 28: holdsOn -/
theorem H_openTotal_ok {i : Nat} (hh : h ≤ 30) (hi : i < 40) (h1 : ∀ x, x < h → uF x = nI (HF x) ∧ uN x = nI (HO x) ∧ HF x < 40 ∧ HO x ≤ 1) : f_H_openTotal (nI i) (nI h) uF uN = some (nI (hdN h HF HO i)) := by
  unfold f_H_openTotal hdN
  have hL := loop_up (fun fu x => f_H_openTotal_L4 fu (nI i) (nI (cn (fun x => HO x == 1 && HF x == i) x)) (nI x) (nI h) uF uN) h (some (nI (cn (fun x => HO x == 1 && HF x == i) h))) (fun fu x hx => by
      have := cn_le (fun x => HO x == 1 && HF x == i) x
      obtain ⟨a1, a2, a3, a4⟩ := h1 x hx
      show f_H_openTotal_L4 (fu + 1) _ _ _ _ _ _ = _
      rw [f_H_openTotal_L4, cn_s, H_isStillOpen_in hh hx a2 a4]
      by_cases e : HO x = 0
      · simp (disch := omega) only [nI_ltI, nI_leI, nI_eq, nI_add, pk_mul, pk_sub, nI_clamp, l0, l1, l2, l3, l4, l5, l6, l8, l9, l10, l15, l16, l30, l39, l40, l58, l63, l64, l99, l100, l103, l104, l108, l112, l117, l119, l120, l512, l639, l640, l999, l9999, l19200, if_pos, if_neg, Option.bind_some, if_true, if_false, a1, e, not_or, show ((0 : Nat) == 1) = false from rfl, Bool.false_and, Bool.false_eq_true, Nat.add_zero]
      · have e1 : HO x = 1 := by omega
        by_cases e2 : HF x = i
        · simp (disch := omega) only [nI_ltI, nI_leI, nI_eq, nI_add, pk_mul, pk_sub, nI_clamp, l0, l1, l2, l3, l4, l5, l6, l8, l9, l10, l15, l16, l30, l39, l40, l58, l63, l64, l99, l100, l103, l104, l108, l112, l117, l119, l120, l512, l639, l640, l999, l9999, l19200, if_pos, if_neg, Option.bind_some, if_true, if_false, a1, e1, e2, not_or, beq_self_eq_true, Bool.true_and, nI_eq]
        · have e3 : (HF x == i) = false := by simp [e2]
          simp (disch := omega) only [nI_ltI, nI_leI, nI_eq, nI_add, pk_mul, pk_sub, nI_clamp, l0, l1, l2, l3, l4, l5, l6, l8, l9, l10, l15, l16, l30, l39, l40, l58, l63, l64, l99, l100, l103, l104, l108, l112, l117, l119, l120, l512, l639, l640, l999, l9999, l19200, if_pos, if_neg, Option.bind_some, if_true, if_false, a1, e1, e3, not_or, beq_self_eq_true, Bool.true_and, nI_eq, Bool.false_eq_true, Nat.add_zero]) (fun fu => by
      show f_H_openTotal_L4 (fu + 1) _ _ _ _ _ _ = _
      rw [f_H_openTotal_L4]
      simp (disch := omega) only [nI_ltI, nI_leI, nI_eq, nI_add, pk_mul, pk_sub, nI_clamp, l0, l1, l2, l3, l4, l5, l6, l8, l9, l10, l15, l16, l30, l39, l40, l58, l63, l64, l99, l100, l103, l104, l108, l112, l117, l119, l120, l512, l639, l640, l999, l9999, l19200, if_pos, if_neg, Option.bind_some, if_true, if_false]) FU (FU_gt (by omega))
  have h2 : f_H_openTotal_L4 FU (nI i) 0 0 (nI h) uF uN = some (nI (cn (fun x => HO x == 1 && HF x == i) h)) := hL
  rw [h2]
  rfl
theorem c28 {mheld : Nat → Int32} (hf : f ≤ 40) (hh : h ≤ 30) (hH : ∀ x, x < h → uF x = nI (HF x) ∧ mheld x = nI (HF x) ∧ uN x = nI (HO x) ∧ mopen x = nI (HO x) ∧ HF x < 40 ∧ HO x ≤ 1) : ∃ oL' mc, f_case28 p1 (nI f) (nI h) uF uN oL (nI f) (nI h) mheld mopen = some (oL', mc) := by
  unfold f_case28 f_L_holdsOn f_C_holdsOn f_M_holdsOn f_M_thrown f_M_fails
  rcases out_or p1 (n := f) (by omega) with ho | ⟨j, hj, rfl⟩
  · rw [C_requireFile_out ho, M_isFile_out hf ho]
    exact ⟨_, _, rfl⟩
  · rw [C_requireFile_in hf hj, M_isFile_in hj hf, H_openTotal_ok hh (by omega) (fun x hx => ⟨(hH x hx).1, (hH x hx).2.2.1, (hH x hx).2.2.2.2⟩), M_held_ok hh (by omega) (fun x hx => ⟨(hH x hx).2.1, (hH x hx).2.2.2.1, (hH x hx).2.2.2.2⟩)]
    have e1 : ¬ ((1 : Int32) = 0) := by decide
    simp only [Option.bind_some, e1, if_false, if_true, out_same, cmp_same]
    exact ⟨_, _, rfl⟩
/-- CASE 27: isOpen -/
theorem c27 (hh : h ≤ 30) (hH : ∀ x, x < h → uN x = nI (HO x) ∧ mopen x = nI (HO x) ∧ HO x ≤ 1) : ∃ oL' mc, f_case27 p1 (nI h) uN oL (nI h) mopen = some (oL', mc) := by
  unfold f_case27 f_L_isOpen f_C_isOpen f_M_isOpen f_M_thrown
  rcases out_or p1 (n := h) (by omega) with ho | ⟨x, hx, rfl⟩
  · rw [C_requireHold_out ho, M_isHold_out hh ho]
    exact ⟨_, _, rfl⟩
  · obtain ⟨a1, a2, a3⟩ := hH x hx
    have e2 := in_lim (j := x) (n := 30) (by omega) (by omega)
    have e2_ := in_l2 (j := x) (n := 30) (by omega) (by omega)
    rw [C_requireHold_in hh hx, M_isHold_in hh hx, H_isStillOpen_in hh hx a1 a3]
    simp only [e2_, if_false, nI_clamp (show x < 2 ^ 31 by omega), a2]
    rcases (show HO x = 0 ∨ HO x = 1 by omega) with q | q
    · rw [q]
      exact ⟨_, _, rfl⟩
    · rw [q]
      exact ⟨_, _, rfl⟩
/-- CASE 36: entryKind -/
theorem c36 {j : Nat} (hj : j ≤ 511) (hE : ENT j e cK mkinds) : ∃ oL' mc, f_case36 p1 (nI e) cK oL (nI e) mkinds = some (oL', mc) := by
  obtain ⟨he, hE⟩ := hE
  unfold f_case36 f_L_entryKind f_C_entryKind f_M_entryKind f_M_thrown f_S_entryTotal
  rcases out_or p1 (n := e) (by omega) with ho | ⟨x, hx, rfl⟩
  · rw [M_in_out (by omega) ho]
    have w : (if p1 < 0 then (some (.error 3) : Option (Except Nat Int32)) else (some (nI e)).bind fun r2 => if r2 ≤ p1 then some (.error 3) else if p1 < 512 then if p1 < 0 ∨ 512 ≤ p1.toNatClampNeg then none else if vp_nar .char (cK p1.toNatClampNeg) = (cK p1.toNatClampNeg) then some (.ok (cK p1.toNatClampNeg)) else none else some (.error 3)) = some (.error 3) := by
      rcases ho with ho | ⟨h1, h2⟩
      · exact if_pos ho
      · have e0 : ¬ p1 < (0 : Int32) := h1
        rw [if_neg e0, Option.bind_some, if_pos h2]
    rw [w]
    exact ⟨_, _, rfl⟩
  · obtain ⟨c, hc, h1, h2⟩ := hE x hx
    rw [M_in_in (by omega) hx]
    have a1 : ¬ nI x < (0 : Int32) := nI_pos (by omega)
    have a2 : ¬ nI e ≤ nI x := fun q => absurd ((nI_leI (by omega) (by omega)).mp q) (by omega)
    have a3 : nI x < (512 : Int32) := (nI_ltI (a := x) (b := 512) (by omega) (by omega)).mpr (by omega)
    have a4 := in_lim (j := x) (n := 512) (by omega) (by omega)
    have a4_ := in_l2 (j := x) (n := 512) (by omega) (by omega)
    have a5 := in_lim (j := x) (n := 4000) (by omega) (by omega)
    have a5_ := in_l2 (j := x) (n := 4000) (by omega) (by omega)
    have e1 : ¬ ((1 : Int32) = 0) := by decide
    simp only [Option.bind_some, a1, a2, a3, false_or, show ¬ 512 ≤ x by omega, show ¬ 4000 ≤ x by omega, if_true, if_false, nI_clamp (show x < 2 ^ 31 by omega), h1, h2, vcn (show c < 65536 by omega), e1, out_same, cmp_same]
    exact ⟨_, _, rfl⟩
/-- the block at a place -/
theorem mul16 {j x : Nat} : (16 : Int32) * nI j + nI x = nI (16 * j + x) := by
  rw [show (16 : Int32) = nI 16 from rfl, pk_mul, nI_add]
theorem blk_div {j x f : Nat} (hj : j < f) (hx : x < 16) : (j * 16 + x) / 16 = j := by omega
/-- CASE 9: read -/
theorem c9 (hf : f ≤ 40) (hB : ∀ x, x < 640 → nC x = nI (B x) - 1 ∧ mblocks x = nI (B x) ∧ B x ≤ 64) (hv : ∀ b, b < 64 → nV b = mvals b) : ∃ oL' mc, f_case9 p1 p2 (nI f) nC nV oL (nI f) mblocks mvals = some (oL', mc) := by
  unfold f_case9 f_L_read f_C_read f_C_blockOrThrow f_M_read f_M_thrown f_M_fails
  rcases out_or p1 (n := f) (by omega) with ho | ⟨j, hj, rfl⟩
  · rw [C_requireFile_out ho, M_isFile_out hf ho]
    exact ⟨_, _, rfl⟩
  · rw [C_requireFile_in hf hj, M_isFile_in hj hf]
    rcases out_or p2 (n := 16) (by omega) with ho | ⟨x, hx, rfl⟩
    · rw [C_requirePlace_out ho, M_isPlace_out ho]
      exact ⟨_, _, rfl⟩
    · obtain ⟨a1, a2, a3⟩ := hB (16 * j + x) (by omega)
      have e1 : ¬ ((1 : Int32) = 0) := by decide
      have e2 : ¬ ((2 : Int32) = 0) := by decide
      rw [C_requirePlace_in hx, M_isPlace_in hx]
      simp only [Option.bind_some]
      rw [S_blockIn_in hj hf hx, show j * 16 + x = 16 * j + x by omega]
      have e4 := in_lim (j := 16 * j + x) (n := 640) (by omega) (by omega)
      have e4_ := in_l2 (j := 16 * j + x) (n := 640) (by omega) (by omega)
      simp only [Option.bind_some, mul16, e4_, e1, if_false, nI_clamp (show 16 * j + x < 2 ^ 31 by omega), a1, a2]
      generalize B (16 * j + x) = b at a3 ⊢
      rcases b with _ | b
      · exact ⟨_, _, rfl⟩
      · have e5 : ¬ nI (b + 1) = (0 : Int32) := nI_ne0 (by omega) (by omega)
        have e6 : ¬ nI b = -1 := ne_m1 (by omega)
        have e7 := in_lim (j := b) (n := 64) (by omega) (by omega)
        have e7_ := in_l2 (j := b) (n := 64) (by omega) (by omega)
        simp only [nI_pred, e5, e6, e7_, if_false, Option.bind_some, S_valueIn_in (show b < 64 by omega), nI_clamp (show b < 2 ^ 31 by omega), hv b (by omega), out_same, cmp_same, if_true]
        exact ⟨_, _, rfl⟩
/-- CASE 10: blockAt -/
theorem c10 (hf : f ≤ 40) (hB : ∀ x, x < 640 → nC x = nI (B x) - 1 ∧ mblocks x = nI (B x) ∧ B x ≤ 64) : ∃ oL' mc, f_case10 p1 p2 (nI f) nC oL (nI f) mblocks = some (oL', mc) := by
  unfold f_case10 f_L_blockAt f_C_blockAt f_C_blockOrThrow f_M_blockAt f_M_thrown f_M_fails
  rcases out_or p1 (n := f) (by omega) with ho | ⟨j, hj, rfl⟩
  · rw [C_requireFile_out ho, M_isFile_out hf ho]
    exact ⟨_, _, rfl⟩
  · rw [C_requireFile_in hf hj, M_isFile_in hj hf]
    rcases out_or p2 (n := 16) (by omega) with ho | ⟨x, hx, rfl⟩
    · rw [C_requirePlace_out ho, M_isPlace_out ho]
      exact ⟨_, _, rfl⟩
    · obtain ⟨a1, a2, a3⟩ := hB (16 * j + x) (by omega)
      have e1 : ¬ ((1 : Int32) = 0) := by decide
      rw [C_requirePlace_in hx, M_isPlace_in hx]
      simp only [Option.bind_some]
      rw [S_blockIn_in hj hf hx, show j * 16 + x = 16 * j + x by omega]
      have e4 := in_lim (j := 16 * j + x) (n := 640) (by omega) (by omega)
      have e4_ := in_l2 (j := 16 * j + x) (n := 640) (by omega) (by omega)
      simp only [Option.bind_some, mul16, e4_, e1, if_false, nI_clamp (show 16 * j + x < 2 ^ 31 by omega), a1, a2]
      generalize B (16 * j + x) = b at a3 ⊢
      rcases b with _ | b
      · exact ⟨_, _, rfl⟩
      · have e5 : ¬ nI (b + 1) = (0 : Int32) := nI_ne0 (by omega) (by omega)
        have e6 : ¬ nI b = -1 := ne_m1 (by omega)
        simp only [nI_pred, e5, e6, if_false, Option.bind_some, out_same, cmp_same, if_true]
        exact ⟨_, _, rfl⟩
/-- CASE 11: blocksOf -/
theorem C_blocksOf_ok {j : Nat} (hf : f ≤ 40) (hj : j < f) (hB : ∀ x, x < 640 → nC x = nI (B x) - 1 ∧ B x ≤ 64) : f_C_blocksOf_L9 FU (nI j) 0 0 (nI f) nC = some (nI (cn (fun x => B (j * 16 + x) != 0) 16)) := by
  have hL := loop_up (fun fu x => f_C_blocksOf_L9 fu (nI j) (nI (cn (fun x => B (j * 16 + x) != 0) x)) (nI x) (nI f) nC) 16 (some (nI (cn (fun x => B (j * 16 + x) != 0) 16))) (fun fu x hx => by
      obtain ⟨a1, a2⟩ := hB (j * 16 + x) (by omega)
      show f_C_blocksOf_L9 (fu + 1) _ _ _ _ _ = _
      have h16 : ¬ (16 : Int32) ≤ nI x := fun q => absurd ((nI_leI (a := 16) (b := x) (by omega) (by omega)).mp q) (by omega)
      rw [f_C_blocksOf_L9, cn_s, if_neg h16, S_blockIn_in hj hf hx, a1, Option.bind_some]
      have hm := m1_eq (b := B (j * 16 + x)) (by omega)
      by_cases e : B (j * 16 + x) = 0
      · rw [if_pos (hm.mpr e), e, nI_1]
        rfl
      · have e2 : (B (j * 16 + x) != 0) = true := by simp [e]
        rw [if_neg (fun q => e (hm.mp q)), e2, nI_1, nI_1, if_pos rfl]) (fun fu => by
      show f_C_blocksOf_L9 (fu + 1) _ _ _ _ _ = _
      rw [f_C_blocksOf_L9]
      simp (disch := omega) only [nI_ltI, nI_leI, nI_eq, nI_add, pk_mul, pk_sub, nI_clamp, l0, l1, l2, l3, l4, l5, l6, l8, l9, l10, l15, l16, l30, l39, l40, l58, l63, l64, l99, l100, l103, l104, l108, l112, l117, l119, l120, l512, l639, l640, l999, l9999, l19200, if_pos, if_neg, Option.bind_some, if_true, if_false]) FU (FU_gt (by omega))
  exact hL
theorem M_blocksOf_ok {j : Nat} (hj : j < 40) (hB : ∀ x, x < 640 → mblocks x = nI (B x) ∧ B x ≤ 64) : f_M_blocksOf_L23 FU (nI j) 0 0 mblocks = some (nI (cn (fun x => B (j * 16 + x) != 0) 16)) := by
  have hL := loop_up (fun fu x => f_M_blocksOf_L23 fu (nI j) (nI (cn (fun x => B (j * 16 + x) != 0) x)) (nI x) mblocks) 16 (some (nI (cn (fun x => B (j * 16 + x) != 0) 16))) (fun fu x hx => by
      obtain ⟨a1, a2⟩ := hB (16 * j + x) (by omega)
      show f_M_blocksOf_L23 (fu + 1) _ _ _ _ = _
      have h16 : ¬ (16 : Int32) ≤ nI x := fun q => absurd ((nI_leI (a := 16) (b := x) (by omega) (by omega)).mp q) (by omega)
      have e4 := in_lim (j := 16 * j + x) (n := 640) (by omega) (by omega)
      have e4_ := in_l2 (j := 16 * j + x) (n := 640) (by omega) (by omega)
      rw [f_M_blocksOf_L23, cn_s, if_neg h16, mul16, if_neg e4, nI_clamp (by omega), a1, show j * 16 + x = 16 * j + x by omega]
      by_cases e : B (16 * j + x) = 0
      · rw [e, nI_1, if_pos (show nI 0 ≤ 0 by decide), Int32.add_zero]
        rfl
      · have e2 : (B (16 * j + x) != 0) = true := by simp [e]
        rw [if_neg (nI_nle (by omega) (by omega)), e2, nI_1, nI_1, if_pos rfl]) (fun fu => by
      show f_M_blocksOf_L23 (fu + 1) _ _ _ _ = _
      rw [f_M_blocksOf_L23]
      simp (disch := omega) only [nI_ltI, nI_leI, nI_eq, nI_add, pk_mul, pk_sub, nI_clamp, l0, l1, l2, l3, l4, l5, l6, l8, l9, l10, l15, l16, l30, l39, l40, l58, l63, l64, l99, l100, l103, l104, l108, l112, l117, l119, l120, l512, l639, l640, l999, l9999, l19200, if_pos, if_neg, Option.bind_some, if_true, if_false]) FU (FU_gt (by omega))
  exact hL
theorem c11 (hf : f ≤ 40) (hB : ∀ x, x < 640 → nC x = nI (B x) - 1 ∧ mblocks x = nI (B x) ∧ B x ≤ 64) : ∃ oL' mc, f_case11 p1 (nI f) nC oL (nI f) mblocks = some (oL', mc) := by
  unfold f_case11 f_L_blocksOf f_C_blocksOf f_M_blocksOf f_M_thrown f_M_fails
  rcases out_or p1 (n := f) (by omega) with ho | ⟨j, hj, rfl⟩
  · rw [C_requireFile_out ho, M_isFile_out hf ho]
    exact ⟨_, _, rfl⟩
  · rw [C_requireFile_in hf hj, M_isFile_in hj hf, C_blocksOf_ok hf hj (fun x hx => ⟨(hB x hx).1, (hB x hx).2.2⟩), M_blocksOf_ok (by omega) (fun x hx => (hB x hx).2)]
    have e1 : ¬ ((1 : Int32) = 0) := by decide
    simp only [Option.bind_some, e1, if_false, if_true, out_same, cmp_same]
    exact ⟨_, _, rfl⟩
end READ
