/-! BEGIN, COMMIT, CRASH -/
def cpyM (n : Nat) (m m' : Nat → Int32) : Nat → Int32 := fun x => if x < n then m x else m' x
theorem cpyM_0 (m m' : Nat → Int32) : cpyM 0 m m' = m' := by
  funext x
  exact if_neg (by omega)
theorem cpyM_s (n : Nat) (m m' : Nat → Int32) : upd (cpyM n m m') n (m n) = cpyM (n + 1) m m' := by
  funext x
  unfold upd cpyM
  by_cases e : x = n
  · rw [if_pos e, if_pos (by omega), e]
  · rw [if_neg e]
    by_cases e2 : x < n
    · rw [if_pos e2, if_pos (by omega)]
    · rw [if_neg e2, if_neg (by omega)]
theorem cpyM_in {n x : Nat} {m m' : Nat → Int32} (h : x < n) : cpyM n m m' x = m x := if_pos h
/-- the rows of what exists, copied one by one -/
def narB (m : Nat → Int32) : Nat → Int32 := fun i => vp_nar .boolean (m i)
theorem narB_at {nA : Nat → Int32} {A : Nat → Nat} (hA : ∀ i, i < 40 → nA i = nI (A i) ∧ A i ≤ 1) {i : Nat} (hi : i < 40) : narB nA i = nA i := by
  obtain ⟨a1, a2⟩ := hA i hi
  show vp_nar .boolean (nA i) = nA i
  rw [a1, vzn a2]
theorem cp_copy_L40 (m m' : Nat → Int32) : f_S_copyFrom_L40 FU 0 m' m = some (cpyM 40 (narB m) m') := by
  have hL := loop_up (fun fu i => f_S_copyFrom_L40 fu (nI i) (cpyM i (narB m) m') m) 40 (some (cpyM 40 (narB m) m')) (fun fu i hi => by
      show f_S_copyFrom_L40 (fu + 1) _ _ _ = _
      have h16 : ¬ (40 : Int32) ≤ nI i := fun q => absurd ((nI_leI (a := 40) (b := i) (by omega) (by omega)).mp q) (by omega)
      have e2 := in_lim (j := i) (n := 40) (by omega) (by omega)
      rw [f_S_copyFrom_L40, if_neg h16, if_neg e2, if_neg e2, nI_clamp (by omega), show vp_nar .boolean (m i) = narB m i from rfl, cpyM_s, nI_1]) (fun fu => by
      show f_S_copyFrom_L40 (fu + 1) _ _ _ = _
      rw [f_S_copyFrom_L40]
      simp (disch := omega) only [nI_ltI, nI_leI, nI_eq, nI_add, pk_mul, pk_sub, nI_clamp, l0, l1, l2, l3, l4, l5, l6, l8, l9, l10, l15, l16, l30, l39, l40, l58, l63, l64, l99, l100, l103, l104, l108, l112, l117, l119, l120, l512, l639, l640, l999, l9999, l19200, if_pos, if_neg, Option.bind_some, if_true, if_false]) FU (FU_gt (by omega))
  rw [cpyM_0] at hL
  exact hL
theorem cp_copyb_L40 (m m' : Nat → Int32) : f_S_copyFrom_b_L40 FU 0 m m' = some (cpyM 40 (narB m) m') := by
  have hL := loop_up (fun fu i => f_S_copyFrom_b_L40 fu (nI i) m (cpyM i (narB m) m')) 40 (some (cpyM 40 (narB m) m')) (fun fu i hi => by
      show f_S_copyFrom_b_L40 (fu + 1) _ _ _ = _
      have h16 : ¬ (40 : Int32) ≤ nI i := fun q => absurd ((nI_leI (a := 40) (b := i) (by omega) (by omega)).mp q) (by omega)
      have e2 := in_lim (j := i) (n := 40) (by omega) (by omega)
      rw [f_S_copyFrom_b_L40, if_neg h16, if_neg e2, if_neg e2, nI_clamp (by omega), show vp_nar .boolean (m i) = narB m i from rfl, cpyM_s, nI_1]) (fun fu => by
      show f_S_copyFrom_b_L40 (fu + 1) _ _ _ = _
      rw [f_S_copyFrom_b_L40]
      simp (disch := omega) only [nI_ltI, nI_leI, nI_eq, nI_add, pk_mul, pk_sub, nI_clamp, l0, l1, l2, l3, l4, l5, l6, l8, l9, l10, l15, l16, l30, l39, l40, l58, l63, l64, l99, l100, l103, l104, l108, l112, l117, l119, l120, l512, l639, l640, l999, l9999, l19200, if_pos, if_neg, Option.bind_some, if_true, if_false]) FU (FU_gt (by omega))
  rw [cpyM_0] at hL
  exact hL
theorem cp_begin_L41 (m m' : Nat → Int32) : f_M_begin_L41 FU 0 m m' = some (cpyM 4 m m') := by
  have hL := loop_up (fun fu i => f_M_begin_L41 fu (nI i) m (cpyM i m m')) 4 (some (cpyM 4 m m')) (fun fu i hi => by
      show f_M_begin_L41 (fu + 1) _ _ _ = _
      have h16 : ¬ (4 : Int32) ≤ nI i := fun q => absurd ((nI_leI (a := 4) (b := i) (by omega) (by omega)).mp q) (by omega)
      have e2 := in_lim (j := i) (n := 4) (by omega) (by omega)
      rw [f_M_begin_L41, if_neg h16, if_neg e2, if_neg e2, nI_clamp (by omega), cpyM_s, nI_1]) (fun fu => by
      show f_M_begin_L41 (fu + 1) _ _ _ = _
      rw [f_M_begin_L41]
      simp (disch := omega) only [nI_ltI, nI_leI, nI_eq, nI_add, pk_mul, pk_sub, nI_clamp, l0, l1, l2, l3, l4, l5, l6, l8, l9, l10, l15, l16, l30, l39, l40, l58, l63, l64, l99, l100, l103, l104, l108, l112, l117, l119, l120, l512, l639, l640, l999, l9999, l19200, if_pos, if_neg, Option.bind_some, if_true, if_false]) FU (FU_gt (by omega))
  rw [cpyM_0] at hL
  exact hL
theorem cp_begin_L66 (m m' : Nat → Int32) : f_M_begin_L66 FU 0 m m' = some (cpyM 40 m m') := by
  have hL := loop_up (fun fu i => f_M_begin_L66 fu (nI i) m (cpyM i m m')) 40 (some (cpyM 40 m m')) (fun fu i hi => by
      show f_M_begin_L66 (fu + 1) _ _ _ = _
      have h16 : ¬ (40 : Int32) ≤ nI i := fun q => absurd ((nI_leI (a := 40) (b := i) (by omega) (by omega)).mp q) (by omega)
      have e2 := in_lim (j := i) (n := 40) (by omega) (by omega)
      rw [f_M_begin_L66, if_neg h16, if_neg e2, if_neg e2, nI_clamp (by omega), cpyM_s, nI_1]) (fun fu => by
      show f_M_begin_L66 (fu + 1) _ _ _ = _
      rw [f_M_begin_L66]
      simp (disch := omega) only [nI_ltI, nI_leI, nI_eq, nI_add, pk_mul, pk_sub, nI_clamp, l0, l1, l2, l3, l4, l5, l6, l8, l9, l10, l15, l16, l30, l39, l40, l58, l63, l64, l99, l100, l103, l104, l108, l112, l117, l119, l120, l512, l639, l640, l999, l9999, l19200, if_pos, if_neg, Option.bind_some, if_true, if_false]) FU (FU_gt (by omega))
  rw [cpyM_0] at hL
  exact hL
theorem cp_begin_L92 (m m' : Nat → Int32) : f_M_begin_L92 FU 0 m m' = some (cpyM 640 m m') := by
  have hL := loop_up (fun fu i => f_M_begin_L92 fu (nI i) m (cpyM i m m')) 640 (some (cpyM 640 m m')) (fun fu i hi => by
      show f_M_begin_L92 (fu + 1) _ _ _ = _
      have h16 : ¬ (640 : Int32) ≤ nI i := fun q => absurd ((nI_leI (a := 640) (b := i) (by omega) (by omega)).mp q) (by omega)
      have e2 := in_lim (j := i) (n := 640) (by omega) (by omega)
      rw [f_M_begin_L92, if_neg h16, if_neg e2, if_neg e2, nI_clamp (by omega), cpyM_s, nI_1]) (fun fu => by
      show f_M_begin_L92 (fu + 1) _ _ _ = _
      rw [f_M_begin_L92]
      simp (disch := omega) only [nI_ltI, nI_leI, nI_eq, nI_add, pk_mul, pk_sub, nI_clamp, l0, l1, l2, l3, l4, l5, l6, l8, l9, l10, l15, l16, l30, l39, l40, l58, l63, l64, l99, l100, l103, l104, l108, l112, l117, l119, l120, l512, l639, l640, l999, l9999, l19200, if_pos, if_neg, Option.bind_some, if_true, if_false]) FU (FU_gt (by omega))
  rw [cpyM_0] at hL
  exact hL
theorem cp_begin_L119 (m m' : Nat → Int32) : f_M_begin_L119 FU 0 m m' = some (cpyM 64 m m') := by
  have hL := loop_up (fun fu i => f_M_begin_L119 fu (nI i) m (cpyM i m m')) 64 (some (cpyM 64 m m')) (fun fu i hi => by
      show f_M_begin_L119 (fu + 1) _ _ _ = _
      have h16 : ¬ (64 : Int32) ≤ nI i := fun q => absurd ((nI_leI (a := 64) (b := i) (by omega) (by omega)).mp q) (by omega)
      have e2 := in_lim (j := i) (n := 64) (by omega) (by omega)
      rw [f_M_begin_L119, if_neg h16, if_neg e2, if_neg e2, nI_clamp (by omega), cpyM_s, nI_1]) (fun fu => by
      show f_M_begin_L119 (fu + 1) _ _ _ = _
      rw [f_M_begin_L119]
      simp (disch := omega) only [nI_ltI, nI_leI, nI_eq, nI_add, pk_mul, pk_sub, nI_clamp, l0, l1, l2, l3, l4, l5, l6, l8, l9, l10, l15, l16, l30, l39, l40, l58, l63, l64, l99, l100, l103, l104, l108, l112, l117, l119, l120, l512, l639, l640, l999, l9999, l19200, if_pos, if_neg, Option.bind_some, if_true, if_false]) FU (FU_gt (by omega))
  rw [cpyM_0] at hL
  exact hL
theorem cp_crash_L47 {v : Int32} (m m' : Nat → Int32) : f_M_crash_L47 FU v 0 m' m = some (cpyM 4 m m') := by
  have hL := loop_up (fun fu i => f_M_crash_L47 fu v (nI i) (cpyM i m m') m) 4 (some (cpyM 4 m m')) (fun fu i hi => by
      show f_M_crash_L47 (fu + 1) _ _ _ _ = _
      have h16 : ¬ (4 : Int32) ≤ nI i := fun q => absurd ((nI_leI (a := 4) (b := i) (by omega) (by omega)).mp q) (by omega)
      have e2 := in_lim (j := i) (n := 4) (by omega) (by omega)
      rw [f_M_crash_L47, if_neg h16, if_neg e2, if_neg e2, nI_clamp (by omega), cpyM_s, nI_1]) (fun fu => by
      show f_M_crash_L47 (fu + 1) _ _ _ _ = _
      rw [f_M_crash_L47]
      simp (disch := omega) only [nI_ltI, nI_leI, nI_eq, nI_add, pk_mul, pk_sub, nI_clamp, l0, l1, l2, l3, l4, l5, l6, l8, l9, l10, l15, l16, l30, l39, l40, l58, l63, l64, l99, l100, l103, l104, l108, l112, l117, l119, l120, l512, l639, l640, l999, l9999, l19200, if_pos, if_neg, Option.bind_some, if_true, if_false]) FU (FU_gt (by omega))
  rw [cpyM_0] at hL
  exact hL
theorem cp_crash_L72 {v : Int32} (m m' : Nat → Int32) : f_M_crash_L72 FU v 0 m' m = some (cpyM 40 m m') := by
  have hL := loop_up (fun fu i => f_M_crash_L72 fu v (nI i) (cpyM i m m') m) 40 (some (cpyM 40 m m')) (fun fu i hi => by
      show f_M_crash_L72 (fu + 1) _ _ _ _ = _
      have h16 : ¬ (40 : Int32) ≤ nI i := fun q => absurd ((nI_leI (a := 40) (b := i) (by omega) (by omega)).mp q) (by omega)
      have e2 := in_lim (j := i) (n := 40) (by omega) (by omega)
      rw [f_M_crash_L72, if_neg h16, if_neg e2, if_neg e2, nI_clamp (by omega), cpyM_s, nI_1]) (fun fu => by
      show f_M_crash_L72 (fu + 1) _ _ _ _ = _
      rw [f_M_crash_L72]
      simp (disch := omega) only [nI_ltI, nI_leI, nI_eq, nI_add, pk_mul, pk_sub, nI_clamp, l0, l1, l2, l3, l4, l5, l6, l8, l9, l10, l15, l16, l30, l39, l40, l58, l63, l64, l99, l100, l103, l104, l108, l112, l117, l119, l120, l512, l639, l640, l999, l9999, l19200, if_pos, if_neg, Option.bind_some, if_true, if_false]) FU (FU_gt (by omega))
  rw [cpyM_0] at hL
  exact hL
theorem cp_crash_L98 {v : Int32} (m m' : Nat → Int32) : f_M_crash_L98 FU v 0 m' m = some (cpyM 640 m m') := by
  have hL := loop_up (fun fu i => f_M_crash_L98 fu v (nI i) (cpyM i m m') m) 640 (some (cpyM 640 m m')) (fun fu i hi => by
      show f_M_crash_L98 (fu + 1) _ _ _ _ = _
      have h16 : ¬ (640 : Int32) ≤ nI i := fun q => absurd ((nI_leI (a := 640) (b := i) (by omega) (by omega)).mp q) (by omega)
      have e2 := in_lim (j := i) (n := 640) (by omega) (by omega)
      rw [f_M_crash_L98, if_neg h16, if_neg e2, if_neg e2, nI_clamp (by omega), cpyM_s, nI_1]) (fun fu => by
      show f_M_crash_L98 (fu + 1) _ _ _ _ = _
      rw [f_M_crash_L98]
      simp (disch := omega) only [nI_ltI, nI_leI, nI_eq, nI_add, pk_mul, pk_sub, nI_clamp, l0, l1, l2, l3, l4, l5, l6, l8, l9, l10, l15, l16, l30, l39, l40, l58, l63, l64, l99, l100, l103, l104, l108, l112, l117, l119, l120, l512, l639, l640, l999, l9999, l19200, if_pos, if_neg, Option.bind_some, if_true, if_false]) FU (FU_gt (by omega))
  rw [cpyM_0] at hL
  exact hL
theorem cp_crash_L125 {v : Int32} (m m' : Nat → Int32) : f_M_crash_L125 FU v 0 m' m = some (cpyM 64 m m') := by
  have hL := loop_up (fun fu i => f_M_crash_L125 fu v (nI i) (cpyM i m m') m) 64 (some (cpyM 64 m m')) (fun fu i hi => by
      show f_M_crash_L125 (fu + 1) _ _ _ _ = _
      have h16 : ¬ (64 : Int32) ≤ nI i := fun q => absurd ((nI_leI (a := 64) (b := i) (by omega) (by omega)).mp q) (by omega)
      have e2 := in_lim (j := i) (n := 64) (by omega) (by omega)
      rw [f_M_crash_L125, if_neg h16, if_neg e2, if_neg e2, nI_clamp (by omega), cpyM_s, nI_1]) (fun fu => by
      show f_M_crash_L125 (fu + 1) _ _ _ _ = _
      rw [f_M_crash_L125]
      simp (disch := omega) only [nI_ltI, nI_leI, nI_eq, nI_add, pk_mul, pk_sub, nI_clamp, l0, l1, l2, l3, l4, l5, l6, l8, l9, l10, l15, l16, l30, l39, l40, l58, l63, l64, l99, l100, l103, l104, l108, l112, l117, l119, l120, l512, l639, l640, l999, l9999, l19200, if_pos, if_neg, Option.bind_some, if_true, if_false]) FU (FU_gt (by omega))
  rw [cpyM_0] at hL
  exact hL
section TRANS
variable {j k t f e h tr d : Nat} {K S O L A B P HF HO hd : Nat → Nat} {cT cD misop mday nF mfiles nE mentr bF bE mfilesT mentrT : Int32} {nO nL nA nC nV nU nP mprom mlinks mblocks mvals bO bL bA bC bV bU bP mpromT mlinksT mblocksT mvalsT mowner : Nat → Int32} {oL : Nat → Int64}
theorem CORE_cong {nO' nL' nA' nC' nV' nU' nP' mp' ml' mb' mv' : Nat → Int32} (hC : CORE k t K S O f L A B P e nF nO nL nA nC nV nU nP nE mprom mfiles mlinks mblocks mvals mentr) (c40 : ∀ i, i < 40 → nO' i = nO i ∧ nL' i = nL i ∧ nA' i = nA i ∧ ml' i = mlinks i) (c640 : ∀ x, x < 640 → nC' x = nC x ∧ mb' x = mblocks x) (c64 : ∀ b, b < 64 → nV' b = nV b ∧ nU' b = nU b ∧ mv' b = mvals b) (c4 : ∀ o, o < 4 → nP' o = nP o ∧ mp' o = mprom o) : CORE k t K S O f L A B P e nF nO' nL' nA' nC' nV' nU' nP' nE mp' mfiles ml' mb' mv' mentr := by
  obtain ⟨hf, g1, g2, g3, g4, hF, hB, hU, hP, hPs, hA⟩ := hC
  refine ⟨hf, g1, g2, g3, g4, fun i hi => ?_, fun x hx => ?_, fun b hb => ?_, fun o ho => ?_, hPs, fun i hi => ?_⟩
  · obtain ⟨a1, a2, a3, a4⟩ := c40 i (by omega)
    rw [a1, a2, a4]
    exact hF i hi
  · obtain ⟨a1, a2⟩ := c640 x hx
    rw [a1, a2]
    exact hB x hx
  · obtain ⟨a1, a2, a3⟩ := c64 b hb
    rw [a1, a2, a3]
    exact hU b hb
  · obtain ⟨a1, a2⟩ := c4 o ho
    rw [a1, a2]
    exact hP o ho
  · obtain ⟨a1, a2, a3, a4⟩ := c40 i hi
    rw [a3]
    exact hA i hi
/-- what a transaction has kept of its beginning -/
def SAVED (tr k t : Nat) (K S : Nat → Nat) (f e h : Nat) (HF HO : Nat → Nat) (mowner : Nat → Int32) (bF : Int32) (bO bL bA bC bV bU bP : Nat → Int32) (bE : Int32) (mpromT : Nat → Int32) (mfilesT : Int32) (mlinksT mblocksT mvalsT : Nat → Int32) (mentrT : Int32) : Prop :=
  tr = 1 → ∃ (O L A B P : Nat → Nat) (f' e' : Nat), f' ≤ f ∧ e' ≤ e ∧ CORE k t K S O f' L A B P e' bF bO bL bA bC bV bU bP bE mpromT mfilesT mlinksT mblocksT mvalsT mentrT ∧ ALV f' L (hdN h HF HO) A ∧ (∀ i, i < f' → mowner i = nI (O i)) ∧ (∀ x, x < h → HF x < f')
/-- CASE 32: begin -/
theorem c32 (ht : TRD tr d cT cD misop mday) (hC : CORE k t K S O f L A B P e nF nO nL nA nC nV nU nP nE mprom mfiles mlinks mblocks mvals mentr) (hV : ALV f L (hdN h HF HO) A) (hM : ∀ i, i < f → mowner i = nI (O i)) (hH : ∀ x, x < h → HF x < f) (hs : SAVED tr k t K S f e h HF HO mowner bF bO bL bA bC bV bU bP bE mpromT mfilesT mlinksT mblocksT mvalsT mentrT) :
    ∃ bF' bO' bL' bA' bC' bV' bU' bP' bE' cT' oL' mc mi' mf' me' mp' ml' mb' mv', f_case32 nF nO nL nA nC nV nU nP nE bF bO bL bA bC bV bU bP bE cT oL mprom mfiles mlinks mblocks mvals mentr misop mfilesT mentrT mpromT mlinksT mblocksT mvalsT = some (bF', bO', bL', bA', bC', bV', bU', bP', bE', cT', oL', mc, mi', mf', me', mp', ml', mb', mv') ∧ ∃ tr', TRD tr' d cT' cD mi' mday ∧ SAVED tr' k t K S f e h HF HO mowner bF' bO' bL' bA' bC' bV' bU' bP' bE' mp' mf' ml' mb' mv' me' := by
  have hC0 := hC
  have ht0 := ht
  obtain ⟨hf, rfl, rfl, rfl, rfl, hF, hB, hU, hP, hPs, hA⟩ := hC
  obtain ⟨t1, t2, rfl, rfl, rfl, rfl⟩ := ht
  unfold f_case32 f_L_begin f_C_begin f_M_begin f_M_thrown f_M_fails f_C_requireNoTransaction f_S_copyFrom_b f_S_entryTotal
  rcases (show tr = 0 ∨ tr = 1 by omega) with rfl | rfl
  · rw [cp_copyb_L40, cp_begin_L41, cp_begin_L66, cp_begin_L92, cp_begin_L119]
    have e0 : (nI 0 : Int32) = 0 := rfl
    simp only [Option.bind_some, e0, if_true, out_same, cmp_same]
    refine ⟨_, _, _, _, _, _, _, _, _, _, _, _, _, _, _, _, _, _, _, rfl, 1, ⟨by omega, t2, rfl, rfl, rfl, rfl⟩, fun _ => ⟨O, L, A, B, P, f, e, Nat.le_refl _, Nat.le_refl _, CORE_cong hC0 (fun i hi => ⟨sb_cpy0 (n := 40) hi, sb_cpy0 (n := 40) hi, (cpyM_in hi).trans (narB_at hA hi), cpyM_in hi⟩) (fun x hx => ⟨sb_cpy0 (n := 640) hx, cpyM_in hx⟩) (fun b hb => ⟨sb_cpy0 (n := 64) hb, sb_cpy0 (n := 64) hb, cpyM_in hb⟩) (fun o ho => ⟨sb_cpy0 (n := 4) ho, cpyM_in ho⟩), hV, hM, hH⟩⟩
  · exact ⟨_, _, _, _, _, _, _, _, _, _, _, _, _, _, _, _, _, _, _, rfl, 1, ht0, hs⟩
/-- CASE 33: commit -/
theorem c33 (ht : TRD tr d cT cD misop mday) (g1 : nE = nI e) (g2 : mentr = nI e) (hs : SAVED tr k t K S f e h HF HO mowner bF bO bL bA bC bV bU bP bE mpromT mfilesT mlinksT mblocksT mvalsT mentrT) :
    ∃ cT' oL' mc mi', f_case33 nE bE cT oL mentr misop mentrT = some (cT', oL', mc, mi') ∧ ∃ tr', TRD tr' d cT' cD mi' mday ∧ SAVED tr' k t K S f e h HF HO mowner bF bO bL bA bC bV bU bP bE mpromT mfilesT mlinksT mblocksT mvalsT mentrT := by
  subst g1
  subst g2
  have ht0 := ht
  obtain ⟨t1, t2, rfl, rfl, rfl, rfl⟩ := ht
  unfold f_case33 f_L_commit f_C_commit f_M_commit f_M_thrown f_M_fails f_S_entryTotal f_S_entryTotal_b
  rcases (show tr = 0 ∨ tr = 1 by omega) with rfl | rfl
  · exact ⟨_, _, _, _, rfl, 0, ht0, hs⟩
  · obtain ⟨O, L, A, B, P, f', e', -, -, ⟨-, -, -, rfl, rfl, -⟩, -⟩ := hs rfl
    have e1 : ¬ ((nI 1 : Int32) = 0) := by decide
    simp only [Option.bind_some, e1, if_true, if_false, out_same, cmp_same]
    exact ⟨_, _, _, _, rfl, 0, ⟨by omega, t2, rfl, rfl, rfl, rfl⟩, fun w => absurd w (by omega)⟩
/-- CASE 34: crash -/
theorem c34 {cK mkinds : Nat → Int32} (ht : TRD tr d cT cD misop mday) (hC : CORE k t K S O f L A B P e nF nO nL nA nC nV nU nP nE mprom mfiles mlinks mblocks mvals mentr) (hV : ALV f L (hdN h HF HO) A) (hM : ∀ i, i < f → mowner i = nI (O i)) (hH : ∀ x, x < h → HF x < f) (hE : ENT j e cK mkinds) (hs : SAVED tr k t K S f e h HF HO mowner bF bO bL bA bC bV bU bP bE mpromT mfilesT mlinksT mblocksT mvalsT mentrT) :
    ∃ nF' nO' nL' nA' nC' nV' nU' nP' nE' cT' mc mp' mf' ml' mb' mv' me' mi', f_case34 nF nO nL nA nC nV nU nP nE bF bO bL bA bC bV bU bP bE cT mprom mfiles mlinks mblocks mvals mentr misop mfilesT mentrT mpromT mlinksT mblocksT mvalsT = some (nF', nO', nL', nA', nC', nV', nU', nP', nE', cT', mc, mp', mf', ml', mb', mv', me', mi') ∧ ∃ O' L' A' B' P' f' e' tr', TRD tr' d cT' cD mi' mday ∧ CORE k t K S O' f' L' A' B' P' e' nF' nO' nL' nA' nC' nV' nU' nP' nE' mp' mf' ml' mb' mv' me' ∧ ALV f' L' (hdN h HF HO) A' ∧ (∀ i, i < f' → mowner i = nI (O' i)) ∧ (∀ x, x < h → HF x < f') ∧ ENT j e' cK mkinds ∧ SAVED tr' k t K S f' e' h HF HO mowner bF bO bL bA bC bV bU bP bE mpromT mfilesT mlinksT mblocksT mvalsT mentrT := by
  have hC0 := hC
  have ht0 := ht
  obtain ⟨hf, rfl, rfl, rfl, rfl, hF, hB, hU, hP, hPs, hA⟩ := hC
  obtain ⟨t1, t2, rfl, rfl, rfl, rfl⟩ := ht
  unfold f_case34 f_C_crash f_M_crash f_S_copyFrom f_S_entryTotal f_S_entryTotal_b
  rcases (show tr = 0 ∨ tr = 1 by omega) with rfl | rfl
  · exact ⟨_, _, _, _, _, _, _, _, _, _, _, _, _, _, _, _, _, _, rfl, O, L, A, B, P, f, e, 0, ht0, hC0, hV, hM, hH, hE, hs⟩
  · obtain ⟨O', L', A', B', P', f', e', s1, s2, s3, s4, s5, s6⟩ := hs rfl
    have s30 := s3
    obtain ⟨hf', rfl, rfl, rfl, rfl, hF', hB', hU', hP', hPs', hA'⟩ := s3
    have e1 : ¬ ((nI 1 : Int32) = 0) := by decide
    rw [if_neg e1, if_neg e1, cp_copy_L40, cp_crash_L47, cp_crash_L72, cp_crash_L98, cp_crash_L125]
    simp only [Option.bind_some, if_true]
    refine ⟨_, _, _, _, _, _, _, _, _, _, _, _, _, _, _, _, _, _, rfl, O', L', A', B', P', f', e', 0, ⟨by omega, t2, rfl, rfl, rfl, rfl⟩, CORE_cong s30 (fun i hi => ⟨sb_cpy0 (n := 40) hi, sb_cpy0 (n := 40) hi, (cpyM_in hi).trans (narB_at hA' hi), cpyM_in hi⟩) (fun x hx => ⟨sb_cpy0 (n := 640) hx, cpyM_in hx⟩) (fun b hb => ⟨sb_cpy0 (n := 64) hb, sb_cpy0 (n := 64) hb, cpyM_in hb⟩) (fun o ho => ⟨sb_cpy0 (n := 4) ho, cpyM_in ho⟩), s4, s5, s6, ⟨by have := hE.1; omega, fun i hi => hE.2 i (by omega)⟩, fun w => absurd w (by omega)⟩
end TRANS
