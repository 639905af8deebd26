/-! HOLDS -/
section HOLDS
variable {j k t f e h tr d : Nat} {K S O L A B P HF HE HO hd : Nat → Nat} {cT cD misop mday uO mholds nF mfiles nE mentr p1 p2 : Int32} {nO nL nA nC nV nU nP mprom mlinks mblocks mvals uF uE uN mheld mends mopen : Nat → Int32} {oL : Nat → Int64}
theorem H_endOf_in {x : Nat} (hx : x < h) (hh : h ≤ 30) : f_H_endOf (nI x) (nI h) uE = some (uE x) := by
  unfold f_H_endOf
  have e1 : ¬ ((1 : Int32) = 0) := by decide
  rw [H_wasOpened_in hx hh, Option.bind_some, if_neg e1, if_neg (in_lim (by omega) (by omega)), nI_clamp (by omega)]
theorem H_fileOf_in {x : Nat} (hx : x < h) (hh : h ≤ 30) : f_H_fileOf (nI x) (nI h) uF = some (uF x) := by
  unfold f_H_fileOf
  have e1 : ¬ ((1 : Int32) = 0) := by decide
  rw [H_wasOpened_in hx hh, Option.bind_some, if_neg e1, if_neg (in_lim (by omega) (by omega)), nI_clamp (by omega)]
theorem H_close_in {x : Nat} (hx : x < h) (hh : h ≤ 30) : f_H_close (nI x) (nI h) uN = some (upd uN x (nI 0)) := by
  unfold f_H_close
  have e1 : ¬ ((1 : Int32) = 0) := by decide
  rw [H_wasOpened_in hx hh, Option.bind_some, if_neg e1, if_neg (in_lim (by omega) (by omega)), nI_clamp (by omega)]
  rfl
theorem H_isStillOpen_out {p : Int32} (ho : Out p h) : f_H_isStillOpen p (nI h) uN = some 0 := by
  unfold f_H_isStillOpen
  rw [H_wasOpened_out ho]
  rfl
/-- CASE 29: nextEnd -/
theorem C_first_ok (hh : h ≤ 30) (hH : ∀ x, x < h → uN x = nI (HO x) ∧ HO x ≤ 1) : f_H_firstToEnd (nI h) uE uN = some (nI (bst uE (fun x => HO x == 1) h) - 1) := by
  unfold f_H_firstToEnd
  have hL := loop_up (fun fu i => f_H_firstToEnd_L4 fu (nI (bst uE (fun x => HO x == 1) i) - 1) (nI i) (nI h) uE uN) h (some (nI (bst uE (fun x => HO x == 1) h) - 1)) (fun fu i hi => by
      obtain ⟨w1, w2⟩ := hH i hi
      have hl := bst_le uE (fun x => HO x == 1) i
      show f_H_firstToEnd_L4 (fu + 1) _ _ _ _ _ = f_H_firstToEnd_L4 fu (nI (if (HO i == 1) = true then (if bst uE (fun x => HO x == 1) i = 0 then i + 1 else if uE (bst uE (fun x => HO x == 1) i - 1) ≤ uE i then bst uE (fun x => HO x == 1) i else i + 1) else bst uE (fun x => HO x == 1) i) - 1) _ _ _ _
      have h30 : ¬ nI h ≤ nI i := fun q => absurd ((nI_leI (a := h) (b := i) (by omega) (by omega)).mp q) (by omega)
      have hi1 := in_lim (j := i) (n := 30) (by omega) (by omega)
      have hi1_ := in_l2 (j := i) (n := 30) (by omega) (by omega)
      generalize bst uE (fun x => HO x == 1) i = b at hl ⊢
      have hb := m1_eq (b := b) (by omega)
      rw [f_H_firstToEnd_L4, if_neg h30, H_isStillOpen_in hh hi w1 w2, Option.bind_some, nI_1]
      by_cases e : HO i = 0
      · rw [e]
        rfl
      · have e0 : HO i = 1 := by omega
        have e3 : ¬ nI 1 = (0 : Int32) := by decide
        rw [e0, if_neg e3, if_pos (beq_self_eq_true 1)]
        by_cases q : b = 0
        · rw [if_pos (hb.mpr q), if_pos q, nI_pred]
        · rw [if_neg (fun z => q (hb.mp z)), if_neg hi1, if_neg q, show nI b - 1 = nI (b - 1) from pk_sub (a := b) (b := 1) (by omega), H_endOf_in (by omega) hh, Option.bind_some, nI_clamp (show i < 2 ^ 31 by omega)]
          by_cases y : uE (b - 1) ≤ uE i
          · rw [if_pos y, if_pos y, show nI b - 1 = nI (b - 1) from pk_sub (a := b) (b := 1) (by omega)]
          · rw [if_neg y, if_neg y, nI_pred]) (fun fu => by
      show f_H_firstToEnd_L4 (fu + 1) _ _ _ _ _ = _
      rw [f_H_firstToEnd_L4, if_pos (nI_le (Nat.le_refl h) (by omega))]) FU (FU_gt (by omega))
  have h2 : f_H_firstToEnd_L4 FU (-1) 0 (nI h) uE uN = some (nI (bst uE (fun x => HO x == 1) h) - 1) := hL
  rw [h2]
  rfl
/-! opening and closing -/
theorem hdN_open {i y : Nat} : hdN (h + 1) (un HF h i) (un HO h 1) y = hdN h HF HO y + (if i = y then 1 else 0) := by
  unfold hdN
  rw [cn_s, un_at, un_at, cn_cong (q := fun x => HO x == 1 && HF x == y) (fun x hx => by rw [un_ne (by omega), un_ne (by omega)]), beq_self_eq_true, Bool.true_and]
  by_cases e : i = y
  · rw [if_pos e, if_pos (beq_iff_eq.mpr e)]
  · rw [if_neg e, if_neg (fun z => e (beq_iff_eq.mp z))]
theorem hdN_close {x y : Nat} (hx : x < h) (h1 : HO x = 1) : hdN h HF (un HO x 0) y + (if HF x = y then 1 else 0) = hdN h HF HO y := by
  have z := cn_upd (p := fun x => HO x == 1 && HF x == y) (q := fun z => un HO x 0 z == 1 && HF z == y) (n := h) (k := x) hx (fun i _ hne => by rw [un_ne hne])
  unfold hdN
  rw [un_at, h1, beq_self_eq_true, Bool.true_and, show ((0 : Nat) == 1) = false from rfl, Bool.false_and, if_neg Bool.false_ne_true] at z
  by_cases e : HF x = y
  · rw [if_pos (beq_iff_eq.mpr e)] at z
    rw [if_pos e]
    omega
  · rw [if_neg (fun w => e (beq_iff_eq.mp w))] at z
    rw [if_neg e]
    omega
/-- CASE 30: pass -/
theorem C_pass_end {n : Nat} (hh : h ≤ 30) {i : Nat} (hi : h ≤ i) (hi2 : i ≤ 30) (fu : Nat) (hfu : 30 < fu) : f_C_pass_L49 fu (nI n) (nI i) (nI f) nL nA nC nU cD (nI h) uF uE uN = some (nI n, nA, nC, nU, uN) :=
  loop_fr (fun fu i => f_C_pass_L49 fu (nI n) (nI i) (nI f) nL nA nC nU cD (nI h) uF uE uN) i 30 _ hi2 (fun fu i h1 h2 => by
      show f_C_pass_L49 (fu + 1) _ _ _ _ _ _ _ _ _ _ _ _ = _
      have h30 : ¬ (30 : Int32) ≤ nI i := fun q => absurd ((nI_leI (a := 30) (b := i) (by omega) (by omega)).mp q) (by omega)
      rw [f_C_pass_L49, if_neg h30, H_isStillOpen_out (Or.inr ⟨nI_pos (by omega), nI_le (by omega) (by omega)⟩), Option.bind_some, if_pos rfl, nI_1]) (fun fu => by
      show f_C_pass_L49 (fu + 1) _ _ _ _ _ _ _ _ _ _ _ _ = _
      rw [f_C_pass_L49]
      simp (disch := omega) only [nI_ltI, nI_leI, nI_eq, nI_add, pk_mul, pk_sub, nI_clamp, l0, l1, l2, l3, l4, l5, l6, l8, l9, l10, l15, l16, l30, l39, l40, l58, l63, l64, l99, l100, l103, l104, l108, l112, l117, l119, l120, l512, l639, l640, l999, l9999, l19200, if_pos, if_neg, Option.bind_some, if_true, if_false]) fu hfu
end HOLDS
