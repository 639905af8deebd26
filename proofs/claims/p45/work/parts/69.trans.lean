/-! BEGIN, COMMIT, CRASH -/
def cpyM (n : Nat) (m m' : Nat → Int32) : Nat → Int32 := fun x => if x < n then m x else m' x
theorem cpyM_0 (m m' : Nat → Int32) : cpyM 0 m m' = m' := by
  funext x
  exact if_neg (by omega)
theorem cpyM_s (n : Nat) (m m' : Nat → Int32) : upd (cpyM n m m') n (m n) = cpyM (n + 1) m m' := by
  funext x
  unfold upd cpyM
  by_cases e : x = n
  · rw [if_pos e, if_pos (by omega), e]
  · rw [if_neg e]
    by_cases e2 : x < n
    · rw [if_pos e2, if_pos (by omega)]
    · rw [if_neg e2, if_neg (by omega)]
theorem cpyM_in {n x : Nat} {m m' : Nat → Int32} (h : x < n) : cpyM n m m' x = m x := if_pos h
/-- the rows of what exists, copied one by one -/
def narB (m : Nat → Int32) : Nat → Int32 := fun i => vp_nar .boolean (m i)
theorem narB_at {nA : Nat → Int32} {A : Nat → Nat} (hA : ∀ i, i < 40 → nA i = nI (A i) ∧ A i ≤ 1) {i : Nat} (hi : i < 40) : narB nA i = nA i := by
  obtain ⟨a1, a2⟩ := hA i hi
  show vp_nar .boolean (nA i) = nA i
  rw [a1, vzn a2]
theorem cp_copy_L40 (m m' : Nat → Int32) : f_S_copyFrom_L40 FU 0 m' m = some (cpyM 40 (narB m) m') := by
  have hL := loop_up (fun fu i => f_S_copyFrom_L40 fu (nI i) (cpyM i (narB m) m') m) 40 (some (cpyM 40 (narB m) m')) (fun fu i hi => by
      show f_S_copyFrom_L40 (fu + 1) _ _ _ = _
      have h16 : ¬ (40 : Int32) ≤ nI i := fun q => absurd ((nI_leI (a := 40) (b := i) (by omega) (by omega)).mp q) (by omega)
      have e2 := in_lim (j := i) (n := 40) (by omega) (by omega)
      rw [f_S_copyFrom_L40, if_neg h16, if_neg e2, if_neg e2, nI_clamp (by omega), show vp_nar .boolean (m i) = narB m i from rfl, cpyM_s, nI_1]) (fun fu => by
      show f_S_copyFrom_L40 (fu + 1) _ _ _ = _
      rw [f_S_copyFrom_L40]
      simp (disch := omega) only [nI_ltI, nI_leI, nI_eq, nI_add, pk_mul, pk_sub, nI_clamp, l0, l1, l2, l3, l4, l5, l6, l8, l9, l10, l15, l16, l30, l39, l40, l58, l63, l64, l99, l100, l103, l104, l108, l112, l117, l119, l120, l512, l639, l640, l999, l9999, l19200, if_pos, if_neg, Option.bind_some, if_true, if_false]) FU (FU_gt (by omega))
  rw [cpyM_0] at hL
  exact hL
theorem cp_copyb_L40 (m m' : Nat → Int32) : f_S_copyFrom_b_L40 FU 0 m m' = some (cpyM 40 (narB m) m') := by
  have hL := loop_up (fun fu i => f_S_copyFrom_b_L40 fu (nI i) m (cpyM i (narB m) m')) 40 (some (cpyM 40 (narB m) m')) (fun fu i hi => by
      show f_S_copyFrom_b_L40 (fu + 1) _ _ _ = _
      have h16 : ¬ (40 : Int32) ≤ nI i := fun q => absurd ((nI_leI (a := 40) (b := i) (by omega) (by omega)).mp q) (by omega)
      have e2 := in_lim (j := i) (n := 40) (by omega) (by omega)
      rw [f_S_copyFrom_b_L40, if_neg h16, if_neg e2, if_neg e2, nI_clamp (by omega), show vp_nar .boolean (m i) = narB m i from rfl, cpyM_s, nI_1]) (fun fu => by
      show f_S_copyFrom_b_L40 (fu + 1) _ _ _ = _
      rw [f_S_copyFrom_b_L40]
      simp (disch := omega) only [nI_ltI, nI_leI, nI_eq, nI_add, pk_mul, pk_sub, nI_clamp, l0, l1, l2, l3, l4, l5, l6, l8, l9, l10, l15, l16, l30, l39, l40, l58, l63, l64, l99, l100, l103, l104, l108, l112, l117, l119, l120, l512, l639, l640, l999, l9999, l19200, if_pos, if_neg, Option.bind_some, if_true, if_false]) FU (FU_gt (by omega))
  rw [cpyM_0] at hL
  exact hL
section TRANS
variable {j k t f e h tr d : Nat} {K S O L A B P HF HO hd : Nat → Nat} {cT cD misop mday nF mfiles nE mentr bF bE mfilesT mentrT : Int32} {nO nL nA nC nV nU nP mprom mlinks mblocks mvals bO bL bA bC bV bU bP mpromT mlinksT mblocksT mvalsT mowner : Nat → Int32} {oL : Nat → Int64}
end TRANS
