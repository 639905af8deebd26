/-! ALL COMPONENTS TOGETHER (printed by program, gen76.py) -/
def RR (j : Nat) (nF : Int32) (nO : Nat → Int32) (nL : Nat → Int32) (nA : Nat → Int32) (nC : Nat → Int32) (nV : Nat → Int32) (nU : Nat → Int32) (nP : Nat → Int32) (nE : Int32) (bF : Int32) (bO : Nat → Int32) (bL : Nat → Int32) (bA : Nat → Int32) (bC : Nat → Int32) (bV : Nat → Int32) (bU : Nat → Int32) (bP : Nat → Int32) (bE : Int32) (cT : Int32) (cK : Nat → Int32) (cO : Int32) (cQ : Nat → Int32) (cD : Int32) (pT : Int32) (pK : Int32) (pR : Nat → Int32) (pW : Nat → Int32) (pU : Nat → Int32) (pI : Nat → Int32) (pC : Nat → Nat → Int32) (uO : Int32) (uF : Nat → Int32) (uE : Nat → Int32) (uN : Nat → Int32) (mday : Int32) (mown : Int32) (mquot : Nat → Int32) (mprom : Nat → Int32) (mfiles : Int32) (mowner : Nat → Int32) (mlinks : Nat → Int32) (mblocks : Nat → Int32) (mvals : Nat → Int32) (msnaps : Int32) (mranks : Nat → Int32) (mkept : Nat → Int32) (mshot : Nat → Int32) (mwas : Nat → Int32) (mholds : Int32) (mheld : Nat → Int32) (mends : Nat → Int32) (mopen : Nat → Int32) (mentr : Int32) (mkinds : Nat → Int32) (misop : Int32) (mfilesT : Int32) (mentrT : Int32) (mpromT : Nat → Int32) (mlinksT : Nat → Int32) (mblocksT : Nat → Int32) (mvalsT : Nat → Int32) : Prop :=
  ∃ (k : Nat) (Qo : Nat → Nat) (t : Nat) (K S W V WI O : Nat → Nat) (f : Nat) (L A B P : Nat → Nat) (e h : Nat) (HF HE HO : Nat → Nat) (tr d : Nat),
    OWN k Qo cO cQ mown mquot ∧ TRD tr d cT cD misop mday ∧ SNAP t K S W V WI pT pK pR pW pU pI pC msnaps mranks mkept mshot mwas ∧ HOLD h f HF HE HO uO uF uE uN mholds mheld mends mopen ∧ CORE k t K S O f L A B P e nF nO nL nA nC nV nU nP nE mprom mfiles mlinks mblocks mvals mentr ∧ ALV f L (hdN h HF HO) A ∧ (∀ i, i < f → mowner i = nI (O i)) ∧ ENT j e cK mkinds ∧ SAVED tr k t K S f e h HF HO mowner bF bO bL bA bC bV bU bP bE mpromT mfilesT mlinksT mblocksT mvalsT mentrT
section STEP
variable {j k k2 t t2 f f2 e e2 h h2 tr d : Nat} {K K2 S S2 W V WI O L A B P HF HF2 HE HO HO2 Qo : Nat → Nat} {p1 p2 p3 : Int32} {oL : Nat → Int64} {oD : Nat → UInt64} {wK : Nat → Int32}
variable {nF nE bF bE cT cO cD pT pK uO mday mown mfiles msnaps mholds mentr misop mfilesT mentrT : Int32} {nO nL nA nC nV nU nP bO bL bA bC bV bU bP cK cQ pR pW pU pI uF uE uN mquot mprom mowner mlinks mblocks mvals mranks mkept mshot mwas mheld mends mopen mkinds mpromT mlinksT mblocksT mvalsT : Nat → Int32} {pC : Nat → Nat → Int32}
theorem RR_next (h : RR j nF nO nL nA nC nV nU nP nE bF bO bL bA bC bV bU bP bE cT cK cO cQ cD pT pK pR pW pU pI pC uO uF uE uN mday mown mquot mprom mfiles mowner mlinks mblocks mvals msnaps mranks mkept mshot mwas mholds mheld mends mopen mentr mkinds misop mfilesT mentrT mpromT mlinksT mblocksT mvalsT) : RR (j + 1) nF nO nL nA nC nV nU nP nE bF bO bL bA bC bV bU bP bE cT cK cO cQ cD pT pK pR pW pU pI pC uO uF uE uN mday mown mquot mprom mfiles mowner mlinks mblocks mvals msnaps mranks mkept mshot mwas mholds mheld mends mopen mentr mkinds misop mfilesT mentrT mpromT mlinksT mblocksT mvalsT := by
  obtain ⟨k, Qo, t, K, S, W, V, WI, O, f, L, A, B, P, e, h, HF, HE, HO, tr, d, hW, hT, hS, hH, hC, hV, hM, hE, hs⟩ := h
  exact ⟨k, Qo, t, K, S, W, V, WI, O, f, L, A, B, P, e, h, HF, HE, HO, tr, d, hW, hT, hS, hH, hC, hV, hM, ENT_next hE, hs⟩
theorem CORE_mono (hk : k ≤ k2) (hC : CORE k t K S O f L A B P e nF nO nL nA nC nV nU nP nE mprom mfiles mlinks mblocks mvals mentr) : CORE k2 t K S O f L A B P e nF nO nL nA nC nV nU nP nE mprom mfiles mlinks mblocks mvals mentr := by
  obtain ⟨hf, g1, g2, g3, g4, hF, hR⟩ := hC
  exact ⟨hf, g1, g2, g3, g4, fun i hi => ⟨(hF i hi).1, by have := (hF i hi).2.1; omega, (hF i hi).2.2⟩, hR⟩
theorem SAVED_mono (hk : k ≤ k2) (hs : SAVED tr k t K S f e h HF HO mowner bF bO bL bA bC bV bU bP bE mpromT mfilesT mlinksT mblocksT mvalsT mentrT) : SAVED tr k2 t K S f e h HF HO mowner bF bO bL bA bC bV bU bP bE mpromT mfilesT mlinksT mblocksT mvalsT mentrT := fun htr => by
  obtain ⟨O, L, A, B, P, f', e', s1, s2, s3, s4⟩ := hs htr
  exact ⟨O, L, A, B, P, f', e', s1, s2, CORE_mono hk s3, s4⟩
theorem SAVED_up {mo2 : Nat → Int32} (hs : SAVED tr k t K S f e h HF HO mowner bF bO bL bA bC bV bU bP bE mpromT mfilesT mlinksT mblocksT mvalsT mentrT) (hf : f ≤ f2) (he : e ≤ e2) (hm : ∀ i, i < f → mo2 i = mowner i) : SAVED tr k t K S f2 e2 h HF HO mo2 bF bO bL bA bC bV bU bP bE mpromT mfilesT mlinksT mblocksT mvalsT mentrT := fun htr => by
  obtain ⟨O, L, A, B, P, f', e', s1, s2, s3, s4, s5, s6⟩ := hs htr
  exact ⟨O, L, A, B, P, f', e', by omega, by omega, s3, s4, fun i hi => (hm i (by omega)).trans (s5 i hi), s6⟩
theorem SAVED_sn (hs : SAVED tr k t K S f e h HF HO mowner bF bO bL bA bC bV bU bP bE mpromT mfilesT mlinksT mblocksT mvalsT mentrT) (hx : tr = 1 → t2 = t ∧ K2 = K ∧ S2 = S) : SAVED tr k t2 K2 S2 f e h HF HO mowner bF bO bL bA bC bV bU bP bE mpromT mfilesT mlinksT mblocksT mvalsT mentrT := fun htr => by
  obtain ⟨rfl, rfl, rfl⟩ := hx htr
  exact hs htr
theorem SAVED_ho (hs : SAVED tr k t K S f e h HF HO mowner bF bO bL bA bC bV bU bP bE mpromT mfilesT mlinksT mblocksT mvalsT mentrT) (hx : tr = 1 → h2 = h ∧ HF2 = HF ∧ HO2 = HO) : SAVED tr k t K S f e h2 HF2 HO2 mowner bF bO bL bA bC bV bU bP bE mpromT mfilesT mlinksT mblocksT mvalsT mentrT := fun htr => by
  obtain ⟨rfl, rfl, rfl⟩ := hx htr
  exact hs htr
theorem SAVED_mT {mT2 : Nat → Int32} (hs : SAVED tr k t K S f e h HF HO mowner bF bO bL bA bC bV bU bP bE mpromT mfilesT mlinksT mblocksT mvalsT mentrT) (hx : tr = 1 → mT2 = mblocksT) : SAVED tr k t K S f e h HF HO mowner bF bO bL bA bC bV bU bP bE mpromT mfilesT mlinksT mT2 mvalsT mentrT := fun htr => by
  obtain rfl := hx htr
  exact hs htr
theorem HOLD_f (hH : HOLD h f HF HE HO uO uF uE uN mholds mheld mends mopen) (hx : ∀ x, x < h → HF x < f2) : HOLD h f2 HF HE HO uO uF uE uN mholds mheld mends mopen := by
  obtain ⟨a1, a2, a3, a4⟩ := hH
  refine ⟨a1, a2, a3, fun x hx2 => ?_⟩
  obtain ⟨b1, b2, b3, b4, b5, b6, b7, b8, b9⟩ := a4 x hx2
  exact ⟨b1, b2, b3, b4, b5, b6, b7, hx x hx2, b9⟩
theorem HOLD_lt (hH : HOLD h f HF HE HO uO uF uE uN mholds mheld mends mopen) : ∀ x, x < h → HF x < f := fun x hx => (hH.2.2.2 x hx).2.2.2.2.2.2.2.1
theorem HOLD_m (hf : f ≤ 40) (hH : HOLD h f HF HE HO uO uF uE uN mholds mheld mends mopen) : ∀ x, x < h → mheld x = nI (HF x) ∧ mopen x = nI (HO x) ∧ HF x < 40 ∧ HO x ≤ 1 := fun x hx => by
  obtain ⟨b1, b2, b3, b4, b5, b6, b7, b8, b9⟩ := hH.2.2.2 x hx
  exact ⟨b2, b6, by omega, b7⟩
/-- CASE 0 -/
theorem rr0 (hj : j ≤ 511) (h : RR j nF nO nL nA nC nV nU nP nE bF bO bL bA bC bV bU bP bE cT cK cO cQ cD pT pK pR pW pU pI pC uO uF uE uN mday mown mquot mprom mfiles mowner mlinks mblocks mvals msnaps mranks mkept mshot mwas mholds mheld mends mopen mentr mkinds misop mfilesT mentrT mpromT mlinksT mblocksT mvalsT) : ∃ o0_cO o1_cQ o2_oL o3_mcode o4_mown o5_mquot, f_case0 p1 cT cO cQ oL mown mquot misop = some (o0_cO, o1_cQ, o2_oL, o3_mcode, o4_mown, o5_mquot) ∧ RR (j + 1) nF nO nL nA nC nV nU nP nE bF bO bL bA bC bV bU bP bE cT cK o0_cO o1_cQ cD pT pK pR pW pU pI pC uO uF uE uN mday o4_mown o5_mquot mprom mfiles mowner mlinks mblocks mvals msnaps mranks mkept mshot mwas mholds mheld mends mopen mentr mkinds misop mfilesT mentrT mpromT mlinksT mblocksT mvalsT := by
  obtain ⟨k, Qo, t, K, S, W, V, WI, O, f, L, A, B, P, e, h, HF, HE, HO, tr, d, hW, hT, hS, hH, hC, hV, hM, hE, hs⟩ := h
  obtain ⟨o0_cO, o1_cQ, o2_oL, o3_mcode, o4_mown, o5_mquot, e1, k', Qo', hk, hW'⟩ := c0 hW hT.1 hT.2.2.1 hT.2.2.2.1
  exact ⟨_, _, _, _, _, _, e1, k', Qo', t, K, S, W, V, WI, O, f, L, A, B, P, e, h, HF, HE, HO, tr, d, hW', hT, hS, hH, CORE_mono hk hC, hV, hM, ENT_next hE, SAVED_mono hk hs⟩
/-- CASE 1 -/
theorem rr1 (hj : j ≤ 511) (h : RR j nF nO nL nA nC nV nU nP nE bF bO bL bA bC bV bU bP bE cT cK cO cQ cD pT pK pR pW pU pI pC uO uF uE uN mday mown mquot mprom mfiles mowner mlinks mblocks mvals msnaps mranks mkept mshot mwas mholds mheld mends mopen mentr mkinds misop mfilesT mentrT mpromT mlinksT mblocksT mvalsT) : ∃ o0_nF o1_nO o2_nL o3_nA o4_nE o5_cK o6_oL o7_mcode o8_mfiles o9_mowner o10_mlinks o11_mentr o12_mkinds, f_case1 p1 nF nO nL nA nE cK cO oL mown mfiles mowner mlinks mentr mkinds = some (o0_nF, o1_nO, o2_nL, o3_nA, o4_nE, o5_cK, o6_oL, o7_mcode, o8_mfiles, o9_mowner, o10_mlinks, o11_mentr, o12_mkinds) ∧ RR (j + 1) o0_nF o1_nO o2_nL o3_nA nC nV nU nP o4_nE bF bO bL bA bC bV bU bP bE cT o5_cK cO cQ cD pT pK pR pW pU pI pC uO uF uE uN mday mown mquot mprom o8_mfiles o9_mowner o10_mlinks mblocks mvals msnaps mranks mkept mshot mwas mholds mheld mends mopen o11_mentr o12_mkinds misop mfilesT mentrT mpromT mlinksT mblocksT mvalsT := by
  obtain ⟨k, Qo, t, K, S, W, V, WI, O, f, L, A, B, P, e, h, HF, HE, HO, tr, d, hW, hT, hS, hH, hC, hV, hM, hE, hs⟩ := h
  obtain ⟨o0_nF, o1_nO, o2_nL, o3_nA, o4_nE, o5_cK, o6_oL, o7_mcode, o8_mfiles, o9_mowner, o10_mlinks, o11_mentr, o12_mkinds, e1, O', f', L', A', e', hff, hee, hC', hV', hM', hM2, hE'⟩ := c1 hW.1 hj hW.2.1 hW.2.2.1 hC hV hM hE
  exact ⟨_, _, _, _, _, _, _, _, _, _, _, _, _, e1, k, Qo, t, K, S, W, V, WI, O', f', L', A', B, P, e', h, HF, HE, HO, tr, d, hW, hT, hS, HOLD_f hH (fun x hx => by have := HOLD_lt hH x hx; omega), hC', hV', hM', hE', SAVED_up hs hff hee hM2⟩
/-- CASE 2 -/
theorem rr2 (hj : j ≤ 511) (h : RR j nF nO nL nA nC nV nU nP nE bF bO bL bA bC bV bU bP bE cT cK cO cQ cD pT pK pR pW pU pI pC uO uF uE uN mday mown mquot mprom mfiles mowner mlinks mblocks mvals msnaps mranks mkept mshot mwas mholds mheld mends mopen mentr mkinds misop mfilesT mentrT mpromT mlinksT mblocksT mvalsT) : ∃ mc, f_case2 nF mfiles = some mc ∧ RR (j + 1) nF nO nL nA nC nV nU nP nE bF bO bL bA bC bV bU bP bE cT cK cO cQ cD pT pK pR pW pU pI pC uO uF uE uN mday mown mquot mprom mfiles mowner mlinks mblocks mvals msnaps mranks mkept mshot mwas mholds mheld mends mopen mentr mkinds misop mfilesT mentrT mpromT mlinksT mblocksT mvalsT := by
  have h1 := RR_next h
  obtain ⟨k, Qo, t, K, S, W, V, WI, O, f, L, A, B, P, e, h, HF, HE, HO, tr, d, hW, hT, hS, hH, hC, hV, hM, hE, hs⟩ := h
  obtain ⟨mc, e1⟩ := c2 hC.2.1 hC.2.2.1
  exact ⟨_, e1, h1⟩
/-- CASE 3 -/
theorem rr3 (hj : j ≤ 511) (h : RR j nF nO nL nA nC nV nU nP nE bF bO bL bA bC bV bU bP bE cT cK cO cQ cD pT pK pR pW pU pI pC uO uF uE uN mday mown mquot mprom mfiles mowner mlinks mblocks mvals msnaps mranks mkept mshot mwas mholds mheld mends mopen mentr mkinds misop mfilesT mentrT mpromT mlinksT mblocksT mvalsT) : ∃ o0_oL o1_mcode, f_case3 p1 nF nA oL mfiles mlinks mholds mheld mopen = some (o0_oL, o1_mcode) ∧ RR (j + 1) nF nO nL nA nC nV nU nP nE bF bO bL bA bC bV bU bP bE cT cK cO cQ cD pT pK pR pW pU pI pC uO uF uE uN mday mown mquot mprom mfiles mowner mlinks mblocks mvals msnaps mranks mkept mshot mwas mholds mheld mends mopen mentr mkinds misop mfilesT mentrT mpromT mlinksT mblocksT mvalsT := by
  have h1 := RR_next h
  obtain ⟨k, Qo, t, K, S, W, V, WI, O, f, L, A, B, P, e, h, HF, HE, HO, tr, d, hW, hT, hS, hH, hC, hV, hM, hE, hs⟩ := h
  have hHm := HOLD_m hC.1 hH
  obtain ⟨hf, rfl, rfl, rfl, rfl, hF, hB, hU, hP, hPs, hA⟩ := hC
  obtain ⟨hh, rfl, rfl, hHx⟩ := hH
  obtain ⟨o0_oL, o1_mcode, e1⟩ := c3 hf hA (fun i hi => (hF i hi).2.2.2) hV hh hHm
  exact ⟨_, _, e1, h1⟩
/-- CASE 4 -/
theorem rr4 (hj : j ≤ 511) (h : RR j nF nO nL nA nC nV nU nP nE bF bO bL bA bC bV bU bP bE cT cK cO cQ cD pT pK pR pW pU pI pC uO uF uE uN mday mown mquot mprom mfiles mowner mlinks mblocks mvals msnaps mranks mkept mshot mwas mholds mheld mends mopen mentr mkinds misop mfilesT mentrT mpromT mlinksT mblocksT mvalsT) : ∃ o0_oL o1_mcode, f_case4 p1 nF nL oL mfiles mlinks = some (o0_oL, o1_mcode) ∧ RR (j + 1) nF nO nL nA nC nV nU nP nE bF bO bL bA bC bV bU bP bE cT cK cO cQ cD pT pK pR pW pU pI pC uO uF uE uN mday mown mquot mprom mfiles mowner mlinks mblocks mvals msnaps mranks mkept mshot mwas mholds mheld mends mopen mentr mkinds misop mfilesT mentrT mpromT mlinksT mblocksT mvalsT := by
  have h1 := RR_next h
  obtain ⟨k, Qo, t, K, S, W, V, WI, O, f, L, A, B, P, e, h, HF, HE, HO, tr, d, hW, hT, hS, hH, hC, hV, hM, hE, hs⟩ := h
  obtain ⟨hf, rfl, rfl, rfl, rfl, hF, hB, hU, hP, hPs, hA⟩ := hC
  obtain ⟨o0_oL, o1_mcode, e1⟩ := c4 hf (fun i hi => (hF i hi).2.2)
  exact ⟨_, _, e1, h1⟩
/-- CASE 5 -/
theorem rr5 (hj : j ≤ 511) (h : RR j nF nO nL nA nC nV nU nP nE bF bO bL bA bC bV bU bP bE cT cK cO cQ cD pT pK pR pW pU pI pC uO uF uE uN mday mown mquot mprom mfiles mowner mlinks mblocks mvals msnaps mranks mkept mshot mwas mholds mheld mends mopen mentr mkinds misop mfilesT mentrT mpromT mlinksT mblocksT mvalsT) : ∃ o0_nL o1_nE o2_cK o3_oL o4_mcode o5_mlinks o6_mentr o7_mkinds, f_case5 p1 nF nL nE cK oL mfiles mlinks mentr mkinds = some (o0_nL, o1_nE, o2_cK, o3_oL, o4_mcode, o5_mlinks, o6_mentr, o7_mkinds) ∧ RR (j + 1) nF nO o0_nL nA nC nV nU nP o1_nE bF bO bL bA bC bV bU bP bE cT o2_cK cO cQ cD pT pK pR pW pU pI pC uO uF uE uN mday mown mquot mprom mfiles mowner o5_mlinks mblocks mvals msnaps mranks mkept mshot mwas mholds mheld mends mopen o6_mentr o7_mkinds misop mfilesT mentrT mpromT mlinksT mblocksT mvalsT := by
  obtain ⟨k, Qo, t, K, S, W, V, WI, O, f, L, A, B, P, e, h, HF, HE, HO, tr, d, hW, hT, hS, hH, hC, hV, hM, hE, hs⟩ := h
  obtain ⟨o0_nL, o1_nE, o2_cK, o3_oL, o4_mcode, o5_mlinks, o6_mentr, o7_mkinds, e1, L', e', hee, hC', hV', hE'⟩ := c5 hj hC hV hE
  exact ⟨_, _, _, _, _, _, _, _, e1, k, Qo, t, K, S, W, V, WI, O, f, L', A, B, P, e', h, HF, HE, HO, tr, d, hW, hT, hS, hH, hC', hV', hM, hE', SAVED_up hs (Nat.le_refl _) hee (fun _ _ => rfl)⟩
/-- CASE 6 -/
theorem rr6 (hj : j ≤ 511) (h : RR j nF nO nL nA nC nV nU nP nE bF bO bL bA bC bV bU bP bE cT cK cO cQ cD pT pK pR pW pU pI pC uO uF uE uN mday mown mquot mprom mfiles mowner mlinks mblocks mvals msnaps mranks mkept mshot mwas mholds mheld mends mopen mentr mkinds misop mfilesT mentrT mpromT mlinksT mblocksT mvalsT) : ∃ o0_nL o1_nA o2_nC o3_nU o4_nE o5_cK o6_oL o7_mcode o8_mlinks o9_mblocks o10_mentr o11_mkinds, f_case6 p1 nF nL nA nC nU nE cK uO uF uN oL mfiles mlinks mblocks mholds mheld mopen mentr mkinds = some (o0_nL, o1_nA, o2_nC, o3_nU, o4_nE, o5_cK, o6_oL, o7_mcode, o8_mlinks, o9_mblocks, o10_mentr, o11_mkinds) ∧ RR (j + 1) nF nO o0_nL o1_nA o2_nC nV o3_nU nP o4_nE bF bO bL bA bC bV bU bP bE cT o5_cK cO cQ cD pT pK pR pW pU pI pC uO uF uE uN mday mown mquot mprom mfiles mowner o8_mlinks o9_mblocks mvals msnaps mranks mkept mshot mwas mholds mheld mends mopen o10_mentr o11_mkinds misop mfilesT mentrT mpromT mlinksT mblocksT mvalsT := by
  obtain ⟨k, Qo, t, K, S, W, V, WI, O, f, L, A, B, P, e, h, HF, HE, HO, tr, d, hW, hT, hS, hH, hC, hV, hM, hE, hs⟩ := h
  obtain ⟨o0_nL, o1_nA, o2_nC, o3_nU, o4_nE, o5_cK, o6_oL, o7_mcode, o8_mlinks, o9_mblocks, o10_mentr, o11_mkinds, e1, L', A', B', e', hee, hC', hV', hE'⟩ := c6 hj hC hV hH hE
  exact ⟨_, _, _, _, _, _, _, _, _, _, _, _, e1, k, Qo, t, K, S, W, V, WI, O, f, L', A', B', P, e', h, HF, HE, HO, tr, d, hW, hT, hS, hH, hC', hV', hM, hE', SAVED_up hs (Nat.le_refl _) hee (fun _ _ => rfl)⟩
/-- CASE 7 -/
theorem rr7 (hj : j ≤ 511) (h : RR j nF nO nL nA nC nV nU nP nE bF bO bL bA bC bV bU bP bE cT cK cO cQ cD pT pK pR pW pU pI pC uO uF uE uN mday mown mquot mprom mfiles mowner mlinks mblocks mvals msnaps mranks mkept mshot mwas mholds mheld mends mopen mentr mkinds misop mfilesT mentrT mpromT mlinksT mblocksT mvalsT) : ∃ o0_nC o1_nV o2_nU o3_nP o4_nE o5_cK o6_oL o7_mcode o8_mprom o9_mblocks o10_mvals o11_mentr o12_mkinds, f_case7 p1 p2 p3 nF nO nL nC nV nU nP nE cK cO cQ oL mquot mprom mfiles mowner mlinks mblocks mvals msnaps mkept mshot mentr mkinds = some (o0_nC, o1_nV, o2_nU, o3_nP, o4_nE, o5_cK, o6_oL, o7_mcode, o8_mprom, o9_mblocks, o10_mvals, o11_mentr, o12_mkinds) ∧ RR (j + 1) nF nO nL nA o0_nC o1_nV o2_nU o3_nP o4_nE bF bO bL bA bC bV bU bP bE cT o5_cK cO cQ cD pT pK pR pW pU pI pC uO uF uE uN mday mown mquot o8_mprom mfiles mowner mlinks o9_mblocks o10_mvals msnaps mranks mkept mshot mwas mholds mheld mends mopen o11_mentr o12_mkinds misop mfilesT mentrT mpromT mlinksT mblocksT mvalsT := by
  obtain ⟨k, Qo, t, K, S, W, V, WI, O, f, L, A, B, P, e, h, HF, HE, HO, tr, d, hW, hT, hS, hH, hC, hV, hM, hE, hs⟩ := h
  have hms := hS.2.1
  subst hms
  obtain ⟨o0_nC, o1_nV, o2_nU, o3_nP, o4_nE, o5_cK, o6_oL, o7_mcode, o8_mprom, o9_mblocks, o10_mvals, o11_mentr, o12_mkinds, e1, B', P', e', hee, hC', hE'⟩ := c7 hj hW hC hV hM hS.2.2.1 hE
  exact ⟨_, _, _, _, _, _, _, _, _, _, _, _, _, e1, k, Qo, t, K, S, W, V, WI, O, f, L, A, B', P', e', h, HF, HE, HO, tr, d, hW, hT, hS, hH, hC', hV, hM, hE', SAVED_up hs (Nat.le_refl _) hee (fun _ _ => rfl)⟩
/-- CASE 8 -/
theorem rr8 (hj : j ≤ 511) (h : RR j nF nO nL nA nC nV nU nP nE bF bO bL bA bC bV bU bP bE cT cK cO cQ cD pT pK pR pW pU pI pC uO uF uE uN mday mown mquot mprom mfiles mowner mlinks mblocks mvals msnaps mranks mkept mshot mwas mholds mheld mends mopen mentr mkinds misop mfilesT mentrT mpromT mlinksT mblocksT mvalsT) : ∃ o0_nC o1_nU o2_nE o3_cK o4_oL o5_mcode o6_mblocks o7_mentr o8_mkinds, f_case8 p1 p2 nF nL nC nU nE cK oL mfiles mlinks mblocks mentr mkinds = some (o0_nC, o1_nU, o2_nE, o3_cK, o4_oL, o5_mcode, o6_mblocks, o7_mentr, o8_mkinds) ∧ RR (j + 1) nF nO nL nA o0_nC nV o1_nU nP o2_nE bF bO bL bA bC bV bU bP bE cT o3_cK cO cQ cD pT pK pR pW pU pI pC uO uF uE uN mday mown mquot mprom mfiles mowner mlinks o6_mblocks mvals msnaps mranks mkept mshot mwas mholds mheld mends mopen o7_mentr o8_mkinds misop mfilesT mentrT mpromT mlinksT mblocksT mvalsT := by
  obtain ⟨k, Qo, t, K, S, W, V, WI, O, f, L, A, B, P, e, h, HF, HE, HO, tr, d, hW, hT, hS, hH, hC, hV, hM, hE, hs⟩ := h
  obtain ⟨o0_nC, o1_nU, o2_nE, o3_cK, o4_oL, o5_mcode, o6_mblocks, o7_mentr, o8_mkinds, e1, B', e', hee, hC', hE'⟩ := c8 hj hC hE
  exact ⟨_, _, _, _, _, _, _, _, _, e1, k, Qo, t, K, S, W, V, WI, O, f, L, A, B', P, e', h, HF, HE, HO, tr, d, hW, hT, hS, hH, hC', hV, hM, hE', SAVED_up hs (Nat.le_refl _) hee (fun _ _ => rfl)⟩
/-- CASE 9 -/
theorem rr9 (hj : j ≤ 511) (h : RR j nF nO nL nA nC nV nU nP nE bF bO bL bA bC bV bU bP bE cT cK cO cQ cD pT pK pR pW pU pI pC uO uF uE uN mday mown mquot mprom mfiles mowner mlinks mblocks mvals msnaps mranks mkept mshot mwas mholds mheld mends mopen mentr mkinds misop mfilesT mentrT mpromT mlinksT mblocksT mvalsT) : ∃ o0_oL o1_mcode, f_case9 p1 p2 nF nC nV oL mfiles mblocks mvals = some (o0_oL, o1_mcode) ∧ RR (j + 1) nF nO nL nA nC nV nU nP nE bF bO bL bA bC bV bU bP bE cT cK cO cQ cD pT pK pR pW pU pI pC uO uF uE uN mday mown mquot mprom mfiles mowner mlinks mblocks mvals msnaps mranks mkept mshot mwas mholds mheld mends mopen mentr mkinds misop mfilesT mentrT mpromT mlinksT mblocksT mvalsT := by
  have h1 := RR_next h
  obtain ⟨k, Qo, t, K, S, W, V, WI, O, f, L, A, B, P, e, h, HF, HE, HO, tr, d, hW, hT, hS, hH, hC, hV, hM, hE, hs⟩ := h
  obtain ⟨hf, rfl, rfl, rfl, rfl, hF, hB, hU, hP, hPs, hA⟩ := hC
  obtain ⟨o0_oL, o1_mcode, e1⟩ := c9 hf (fun x hx => ⟨(hB x hx).1, (hB x hx).2.1, (hB x hx).2.2.1⟩) (fun b hb => (hU b hb).1)
  exact ⟨_, _, e1, h1⟩
/-- CASE 10 -/
theorem rr10 (hj : j ≤ 511) (h : RR j nF nO nL nA nC nV nU nP nE bF bO bL bA bC bV bU bP bE cT cK cO cQ cD pT pK pR pW pU pI pC uO uF uE uN mday mown mquot mprom mfiles mowner mlinks mblocks mvals msnaps mranks mkept mshot mwas mholds mheld mends mopen mentr mkinds misop mfilesT mentrT mpromT mlinksT mblocksT mvalsT) : ∃ o0_oL o1_mcode, f_case10 p1 p2 nF nC oL mfiles mblocks = some (o0_oL, o1_mcode) ∧ RR (j + 1) nF nO nL nA nC nV nU nP nE bF bO bL bA bC bV bU bP bE cT cK cO cQ cD pT pK pR pW pU pI pC uO uF uE uN mday mown mquot mprom mfiles mowner mlinks mblocks mvals msnaps mranks mkept mshot mwas mholds mheld mends mopen mentr mkinds misop mfilesT mentrT mpromT mlinksT mblocksT mvalsT := by
  have h1 := RR_next h
  obtain ⟨k, Qo, t, K, S, W, V, WI, O, f, L, A, B, P, e, h, HF, HE, HO, tr, d, hW, hT, hS, hH, hC, hV, hM, hE, hs⟩ := h
  obtain ⟨hf, rfl, rfl, rfl, rfl, hF, hB, hU, hP, hPs, hA⟩ := hC
  obtain ⟨o0_oL, o1_mcode, e1⟩ := c10 hf (fun x hx => ⟨(hB x hx).1, (hB x hx).2.1, (hB x hx).2.2.1⟩)
  exact ⟨_, _, e1, h1⟩
/-- CASE 11 -/
theorem rr11 (hj : j ≤ 511) (h : RR j nF nO nL nA nC nV nU nP nE bF bO bL bA bC bV bU bP bE cT cK cO cQ cD pT pK pR pW pU pI pC uO uF uE uN mday mown mquot mprom mfiles mowner mlinks mblocks mvals msnaps mranks mkept mshot mwas mholds mheld mends mopen mentr mkinds misop mfilesT mentrT mpromT mlinksT mblocksT mvalsT) : ∃ o0_oL o1_mcode, f_case11 p1 nF nC oL mfiles mblocks = some (o0_oL, o1_mcode) ∧ RR (j + 1) nF nO nL nA nC nV nU nP nE bF bO bL bA bC bV bU bP bE cT cK cO cQ cD pT pK pR pW pU pI pC uO uF uE uN mday mown mquot mprom mfiles mowner mlinks mblocks mvals msnaps mranks mkept mshot mwas mholds mheld mends mopen mentr mkinds misop mfilesT mentrT mpromT mlinksT mblocksT mvalsT := by
  have h1 := RR_next h
  obtain ⟨k, Qo, t, K, S, W, V, WI, O, f, L, A, B, P, e, h, HF, HE, HO, tr, d, hW, hT, hS, hH, hC, hV, hM, hE, hs⟩ := h
  obtain ⟨hf, rfl, rfl, rfl, rfl, hF, hB, hU, hP, hPs, hA⟩ := hC
  obtain ⟨o0_oL, o1_mcode, e1⟩ := c11 hf (fun x hx => ⟨(hB x hx).1, (hB x hx).2.1, (hB x hx).2.2.1⟩)
  exact ⟨_, _, e1, h1⟩
/-- CASE 12 -/
theorem rr12 (hj : j ≤ 511) (h : RR j nF nO nL nA nC nV nU nP nE bF bO bL bA bC bV bU bP bE cT cK cO cQ cD pT pK pR pW pU pI pC uO uF uE uN mday mown mquot mprom mfiles mowner mlinks mblocks mvals msnaps mranks mkept mshot mwas mholds mheld mends mopen mentr mkinds misop mfilesT mentrT mpromT mlinksT mblocksT mvalsT) : ∃ o0_oL o1_mcode, f_case12 p1 nF nO nC cO oL mown mowner mblocks = some (o0_oL, o1_mcode) ∧ RR (j + 1) nF nO nL nA nC nV nU nP nE bF bO bL bA bC bV bU bP bE cT cK cO cQ cD pT pK pR pW pU pI pC uO uF uE uN mday mown mquot mprom mfiles mowner mlinks mblocks mvals msnaps mranks mkept mshot mwas mholds mheld mends mopen mentr mkinds misop mfilesT mentrT mpromT mlinksT mblocksT mvalsT := by
  have h1 := RR_next h
  obtain ⟨k, Qo, t, K, S, W, V, WI, O, f, L, A, B, P, e, h, HF, HE, HO, tr, d, hW, hT, hS, hH, hC, hV, hM, hE, hs⟩ := h
  obtain ⟨o0_oL, o1_mcode, e1⟩ := c12 hW.1 hW.2.1 hW.2.2.1 hC hM
  exact ⟨_, _, e1, h1⟩
/-- CASE 13 -/
theorem rr13 (hj : j ≤ 511) (h : RR j nF nO nL nA nC nV nU nP nE bF bO bL bA bC bV bU bP bE cT cK cO cQ cD pT pK pR pW pU pI pC uO uF uE uN mday mown mquot mprom mfiles mowner mlinks mblocks mvals msnaps mranks mkept mshot mwas mholds mheld mends mopen mentr mkinds misop mfilesT mentrT mpromT mlinksT mblocksT mvalsT) : ∃ mc, f_case13 nU mblocks msnaps mkept mshot = some mc ∧ RR (j + 1) nF nO nL nA nC nV nU nP nE bF bO bL bA bC bV bU bP bE cT cK cO cQ cD pT pK pR pW pU pI pC uO uF uE uN mday mown mquot mprom mfiles mowner mlinks mblocks mvals msnaps mranks mkept mshot mwas mholds mheld mends mopen mentr mkinds misop mfilesT mentrT mpromT mlinksT mblocksT mvalsT := by
  have h1 := RR_next h
  obtain ⟨k, Qo, t, K, S, W, V, WI, O, f, L, A, B, P, e, h, HF, HE, HO, tr, d, hW, hT, hS, hH, hC, hV, hM, hE, hs⟩ := h
  have hms := hS.2.1
  subst hms
  have hSn := hS.2.2.1
  obtain ⟨hf, rfl, rfl, rfl, rfl, hF, hB, hU, hP, hPs, hA⟩ := hC
  obtain ⟨mc, e1⟩ := c13 (fun x hx => ⟨(hB x hx).2.1, (hB x hx).2.2.1⟩) hSn (fun b hb => (hU b hb).2)
  exact ⟨_, e1, h1⟩
/-- CASE 14 -/
theorem rr14 (hj : j ≤ 511) (h : RR j nF nO nL nA nC nV nU nP nE bF bO bL bA bC bV bU bP bE cT cK cO cQ cD pT pK pR pW pU pI pC uO uF uE uN mday mown mquot mprom mfiles mowner mlinks mblocks mvals msnaps mranks mkept mshot mwas mholds mheld mends mopen mentr mkinds misop mfilesT mentrT mpromT mlinksT mblocksT mvalsT) : ∃ o0_oL o1_mcode, f_case14 p1 nU oL mblocks msnaps mkept mshot = some (o0_oL, o1_mcode) ∧ RR (j + 1) nF nO nL nA nC nV nU nP nE bF bO bL bA bC bV bU bP bE cT cK cO cQ cD pT pK pR pW pU pI pC uO uF uE uN mday mown mquot mprom mfiles mowner mlinks mblocks mvals msnaps mranks mkept mshot mwas mholds mheld mends mopen mentr mkinds misop mfilesT mentrT mpromT mlinksT mblocksT mvalsT := by
  have h1 := RR_next h
  obtain ⟨k, Qo, t, K, S, W, V, WI, O, f, L, A, B, P, e, h, HF, HE, HO, tr, d, hW, hT, hS, hH, hC, hV, hM, hE, hs⟩ := h
  have hms := hS.2.1
  subst hms
  have hSn := hS.2.2.1
  obtain ⟨hf, rfl, rfl, rfl, rfl, hF, hB, hU, hP, hPs, hA⟩ := hC
  obtain ⟨o0_oL, o1_mcode, e1⟩ := c14 (fun x hx => ⟨(hB x hx).2.1, (hB x hx).2.2.1⟩) hSn (fun b hb => (hU b hb).2)
  exact ⟨_, _, e1, h1⟩
/-- CASE 15 -/
theorem rr15 (hj : j ≤ 511) (h : RR j nF nO nL nA nC nV nU nP nE bF bO bL bA bC bV bU bP bE cT cK cO cQ cD pT pK pR pW pU pI pC uO uF uE uN mday mown mquot mprom mfiles mowner mlinks mblocks mvals msnaps mranks mkept mshot mwas mholds mheld mends mopen mentr mkinds misop mfilesT mentrT mpromT mlinksT mblocksT mvalsT) : ∃ o0_wK o1_oL o2_mcode, f_case15 p1 nF nC pU pI pC wK oL mblocks msnaps mkept mshot = some (o0_wK, o1_oL, o2_mcode) ∧ RR (j + 1) nF nO nL nA nC nV nU nP nE bF bO bL bA bC bV bU bP bE cT cK cO cQ cD pT pK pR pW pU pI pC uO uF uE uN mday mown mquot mprom mfiles mowner mlinks mblocks mvals msnaps mranks mkept mshot mwas mholds mheld mends mopen mentr mkinds misop mfilesT mentrT mpromT mlinksT mblocksT mvalsT := by
  have h1 := RR_next h
  obtain ⟨k, Qo, t, K, S, W, V, WI, O, f, L, A, B, P, e, h, HF, HE, HO, tr, d, hW, hT, hS, hH, hC, hV, hM, hE, hs⟩ := h
  obtain ⟨o0_wK, o1_oL, o2_mcode, e1⟩ := c15 hC hS
  exact ⟨_, _, _, e1, h1⟩
/-- CASE 16 -/
theorem rr16 (hj : j ≤ 511) (h : RR j nF nO nL nA nC nV nU nP nE bF bO bL bA bC bV bU bP bE cT cK cO cQ cD pT pK pR pW pU pI pC uO uF uE uN mday mown mquot mprom mfiles mowner mlinks mblocks mvals msnaps mranks mkept mshot mwas mholds mheld mends mopen mentr mkinds misop mfilesT mentrT mpromT mlinksT mblocksT mvalsT) : ∃ o0_nP o1_nE o2_cK o3_oL o4_mcode o5_mprom o6_mentr o7_mkinds, f_case16 p1 p2 nU nP nE cK cO oL mown mprom mblocks msnaps mkept mshot mentr mkinds = some (o0_nP, o1_nE, o2_cK, o3_oL, o4_mcode, o5_mprom, o6_mentr, o7_mkinds) ∧ RR (j + 1) nF nO nL nA nC nV nU o0_nP o1_nE bF bO bL bA bC bV bU bP bE cT o2_cK cO cQ cD pT pK pR pW pU pI pC uO uF uE uN mday mown mquot o5_mprom mfiles mowner mlinks mblocks mvals msnaps mranks mkept mshot mwas mholds mheld mends mopen o6_mentr o7_mkinds misop mfilesT mentrT mpromT mlinksT mblocksT mvalsT := by
  obtain ⟨k, Qo, t, K, S, W, V, WI, O, f, L, A, B, P, e, h, HF, HE, HO, tr, d, hW, hT, hS, hH, hC, hV, hM, hE, hs⟩ := h
  have hms := hS.2.1
  subst hms
  obtain ⟨o0_nP, o1_nE, o2_cK, o3_oL, o4_mcode, o5_mprom, o6_mentr, o7_mkinds, e1, P', e', hee, hC', hE'⟩ := c16 hW.1 hj hW.2.1 hW.2.2.1 hC hS.2.2.1 hE
  exact ⟨_, _, _, _, _, _, _, _, e1, k, Qo, t, K, S, W, V, WI, O, f, L, A, B, P', e', h, HF, HE, HO, tr, d, hW, hT, hS, hH, hC', hV, hM, hE', SAVED_up hs (Nat.le_refl _) hee (fun _ _ => rfl)⟩
/-- CASE 17 -/
theorem rr17 (hj : j ≤ 511) (h : RR j nF nO nL nA nC nV nU nP nE bF bO bL bA bC bV bU bP bE cT cK cO cQ cD pT pK pR pW pU pI pC uO uF uE uN mday mown mquot mprom mfiles mowner mlinks mblocks mvals msnaps mranks mkept mshot mwas mholds mheld mends mopen mentr mkinds misop mfilesT mentrT mpromT mlinksT mblocksT mvalsT) : ∃ o0_oL o1_mcode, f_case17 p1 nP cO oL mown mprom = some (o0_oL, o1_mcode) ∧ RR (j + 1) nF nO nL nA nC nV nU nP nE bF bO bL bA bC bV bU bP bE cT cK cO cQ cD pT pK pR pW pU pI pC uO uF uE uN mday mown mquot mprom mfiles mowner mlinks mblocks mvals msnaps mranks mkept mshot mwas mholds mheld mends mopen mentr mkinds misop mfilesT mentrT mpromT mlinksT mblocksT mvalsT := by
  have h1 := RR_next h
  obtain ⟨k, Qo, t, K, S, W, V, WI, O, f, L, A, B, P, e, h, HF, HE, HO, tr, d, hW, hT, hS, hH, hC, hV, hM, hE, hs⟩ := h
  obtain ⟨hf, rfl, rfl, rfl, rfl, hF, hB, hU, hP, hPs, hA⟩ := hC
  obtain ⟨o0_oL, o1_mcode, e1⟩ := c17 hW.1 hW.2.1 hW.2.2.1 (fun o ho => ⟨(hP o ho).1, (hP o ho).2.1⟩)
  exact ⟨_, _, e1, h1⟩
/-- CASE 18 -/
theorem rr18 (hj : j ≤ 511) (h : RR j nF nO nL nA nC nV nU nP nE bF bO bL bA bC bV bU bP bE cT cK cO cQ cD pT pK pR pW pU pI pC uO uF uE uN mday mown mquot mprom mfiles mowner mlinks mblocks mvals msnaps mranks mkept mshot mwas mholds mheld mends mopen mentr mkinds misop mfilesT mentrT mpromT mlinksT mblocksT mvalsT) : ∃ o0_nP o1_nE o2_cK o3_oL o4_mcode o5_mprom o6_mentr o7_mkinds, f_case18 p1 nP nE cK cO oL mown mprom mentr mkinds = some (o0_nP, o1_nE, o2_cK, o3_oL, o4_mcode, o5_mprom, o6_mentr, o7_mkinds) ∧ RR (j + 1) nF nO nL nA nC nV nU o0_nP o1_nE bF bO bL bA bC bV bU bP bE cT o2_cK cO cQ cD pT pK pR pW pU pI pC uO uF uE uN mday mown mquot o5_mprom mfiles mowner mlinks mblocks mvals msnaps mranks mkept mshot mwas mholds mheld mends mopen o6_mentr o7_mkinds misop mfilesT mentrT mpromT mlinksT mblocksT mvalsT := by
  obtain ⟨k, Qo, t, K, S, W, V, WI, O, f, L, A, B, P, e, h, HF, HE, HO, tr, d, hW, hT, hS, hH, hC, hV, hM, hE, hs⟩ := h
  obtain ⟨o0_nP, o1_nE, o2_cK, o3_oL, o4_mcode, o5_mprom, o6_mentr, o7_mkinds, e1, P', e', hee, hC', hE'⟩ := c18 hW.1 hj hW.2.1 hW.2.2.1 hC hE
  exact ⟨_, _, _, _, _, _, _, _, e1, k, Qo, t, K, S, W, V, WI, O, f, L, A, B, P', e', h, HF, HE, HO, tr, d, hW, hT, hS, hH, hC', hV, hM, hE', SAVED_up hs (Nat.le_refl _) hee (fun _ _ => rfl)⟩
/-- CASE 19 -/
theorem rr19 (hj : j ≤ 511) (h : RR j nF nO nL nA nC nV nU nP nE bF bO bL bA bC bV bU bP bE cT cK cO cQ cD pT pK pR pW pU pI pC uO uF uE uN mday mown mquot mprom mfiles mowner mlinks mblocks mvals msnaps mranks mkept mshot mwas mholds mheld mends mopen mentr mkinds misop mfilesT mentrT mpromT mlinksT mblocksT mvalsT) : ∃ o0_nU o1_pT o2_pK o3_pR o4_pW o5_pU o6_pI o7_pC o8_oL o9_mcode o10_msnaps o11_mranks o12_mkept o13_mshot o14_mwas, f_case19 p1 nF nA nC nU cT pT pK pR pW pU pI pC oL mfiles mlinks mblocks msnaps mranks mkept mshot mwas mholds mheld mopen misop = some (o0_nU, o1_pT, o2_pK, o3_pR, o4_pW, o5_pU, o6_pI, o7_pC, o8_oL, o9_mcode, o10_msnaps, o11_mranks, o12_mkept, o13_mshot, o14_mwas) ∧ RR (j + 1) nF nO nL nA nC nV o0_nU nP nE bF bO bL bA bC bV bU bP bE cT cK cO cQ cD o1_pT o2_pK o3_pR o4_pW o5_pU o6_pI o7_pC uO uF uE uN mday mown mquot mprom mfiles mowner mlinks mblocks mvals o10_msnaps o11_mranks o12_mkept o13_mshot o14_mwas mholds mheld mends mopen mentr mkinds misop mfilesT mentrT mpromT mlinksT mblocksT mvalsT := by
  obtain ⟨k, Qo, t, K, S, W, V, WI, O, f, L, A, B, P, e, h, HF, HE, HO, tr, d, hW, hT, hS, hH, hC, hV, hM, hE, hs⟩ := h
  have hmh := hH.2.2.1
  subst hmh
  obtain ⟨o0_nU, o1_pT, o2_pK, o3_pR, o4_pW, o5_pU, o6_pI, o7_pC, o8_oL, o9_mcode, o10_msnaps, o11_mranks, o12_mkept, o13_mshot, o14_mwas, e1, t', K', S', W', V', WI', hC', hS', hx⟩ := c19 hT hC hV hS hH.1 (HOLD_m hC.1 hH)
  exact ⟨_, _, _, _, _, _, _, _, _, _, _, _, _, _, _, e1, k, Qo, t', K', S', W', V', WI', O, f, L, A, B, P, e, h, HF, HE, HO, tr, d, hW, hT, hS', hH, hC', hV, hM, ENT_next hE, SAVED_sn hs hx⟩
/-- CASE 20 -/
theorem rr20 (hj : j ≤ 511) (h : RR j nF nO nL nA nC nV nU nP nE bF bO bL bA bC bV bU bP bE cT cK cO cQ cD pT pK pR pW pU pI pC uO uF uE uN mday mown mquot mprom mfiles mowner mlinks mblocks mvals msnaps mranks mkept mshot mwas mholds mheld mends mopen mentr mkinds misop mfilesT mentrT mpromT mlinksT mblocksT mvalsT) : ∃ o0_oL o1_mcode, f_case20 p1 pT pW oL msnaps mkept = some (o0_oL, o1_mcode) ∧ RR (j + 1) nF nO nL nA nC nV nU nP nE bF bO bL bA bC bV bU bP bE cT cK cO cQ cD pT pK pR pW pU pI pC uO uF uE uN mday mown mquot mprom mfiles mowner mlinks mblocks mvals msnaps mranks mkept mshot mwas mholds mheld mends mopen mentr mkinds misop mfilesT mentrT mpromT mlinksT mblocksT mvalsT := by
  have h1 := RR_next h
  obtain ⟨k, Qo, t, K, S, W, V, WI, O, f, L, A, B, P, e, h, HF, HE, HO, tr, d, hW, hT, hS, hH, hC, hV, hM, hE, hs⟩ := h
  obtain ⟨o0_oL, o1_mcode, e1⟩ := c20 hS
  exact ⟨_, _, e1, h1⟩
/-- CASE 21 -/
theorem rr21 (hj : j ≤ 511) (h : RR j nF nO nL nA nC nV nU nP nE bF bO bL bA bC bV bU bP bE cT cK cO cQ cD pT pK pR pW pU pI pC uO uF uE uN mday mown mquot mprom mfiles mowner mlinks mblocks mvals msnaps mranks mkept mshot mwas mholds mheld mends mopen mentr mkinds misop mfilesT mentrT mpromT mlinksT mblocksT mvalsT) : ∃ o0_oL o1_mcode, f_case21 p1 p2 p3 nF nV pT pW pI pC oL mfiles mvals msnaps mkept mshot mwas = some (o0_oL, o1_mcode) ∧ RR (j + 1) nF nO nL nA nC nV nU nP nE bF bO bL bA bC bV bU bP bE cT cK cO cQ cD pT pK pR pW pU pI pC uO uF uE uN mday mown mquot mprom mfiles mowner mlinks mblocks mvals msnaps mranks mkept mshot mwas mholds mheld mends mopen mentr mkinds misop mfilesT mentrT mpromT mlinksT mblocksT mvalsT := by
  have h1 := RR_next h
  obtain ⟨k, Qo, t, K, S, W, V, WI, O, f, L, A, B, P, e, h, HF, HE, HO, tr, d, hW, hT, hS, hH, hC, hV, hM, hE, hs⟩ := h
  obtain ⟨hf, rfl, rfl, rfl, rfl, hF, hB, hU, hP, hPs, hA⟩ := hC
  obtain ⟨o0_oL, o1_mcode, e1⟩ := c21 hf (fun b hb => (hU b hb).1) hS
  exact ⟨_, _, e1, h1⟩
/-- CASE 22 -/
theorem rr22 (hj : j ≤ 511) (h : RR j nF nO nL nA nC nV nU nP nE bF bO bL bA bC bV bU bP bE cT cK cO cQ cD pT pK pR pW pU pI pC uO uF uE uN mday mown mquot mprom mfiles mowner mlinks mblocks mvals msnaps mranks mkept mshot mwas mholds mheld mends mopen mentr mkinds misop mfilesT mentrT mpromT mlinksT mblocksT mvalsT) : ∃ o0_nU o1_pK o2_pW o3_pU o4_oL o5_mcode o6_mkept, f_case22 p1 nU cT pT pK pR pW pU pI pC oL msnaps mranks mkept misop = some (o0_nU, o1_pK, o2_pW, o3_pU, o4_oL, o5_mcode, o6_mkept) ∧ RR (j + 1) nF nO nL nA nC nV o0_nU nP nE bF bO bL bA bC bV bU bP bE cT cK cO cQ cD pT o1_pK pR o2_pW o3_pU pI pC uO uF uE uN mday mown mquot mprom mfiles mowner mlinks mblocks mvals msnaps mranks o6_mkept mshot mwas mholds mheld mends mopen mentr mkinds misop mfilesT mentrT mpromT mlinksT mblocksT mvalsT := by
  obtain ⟨k, Qo, t, K, S, W, V, WI, O, f, L, A, B, P, e, h, HF, HE, HO, tr, d, hW, hT, hS, hH, hC, hV, hM, hE, hs⟩ := h
  obtain ⟨o0_nU, o1_pK, o2_pW, o3_pU, o4_oL, o5_mcode, o6_mkept, e1, K', W', V', hC', hS', hx⟩ := c22 hT hC hS
  exact ⟨_, _, _, _, _, _, _, e1, k, Qo, t, K', S, W', V', WI, O, f, L, A, B, P, e, h, HF, HE, HO, tr, d, hW, hT, hS', hH, hC', hV, hM, ENT_next hE, SAVED_sn hs (fun htr => ⟨rfl, hx htr, rfl⟩)⟩
/-- CASE 23 -/
theorem rr23 (hj : j ≤ 511) (h : RR j nF nO nL nA nC nV nU nP nE bF bO bL bA bC bV bU bP bE cT cK cO cQ cD pT pK pR pW pU pI pC uO uF uE uN mday mown mquot mprom mfiles mowner mlinks mblocks mvals msnaps mranks mkept mshot mwas mholds mheld mends mopen mentr mkinds misop mfilesT mentrT mpromT mlinksT mblocksT mvalsT) : ∃ o0_oL o1_mcode, f_case23 pR pW oL msnaps mranks mkept = some (o0_oL, o1_mcode) ∧ RR (j + 1) nF nO nL nA nC nV nU nP nE bF bO bL bA bC bV bU bP bE cT cK cO cQ cD pT pK pR pW pU pI pC uO uF uE uN mday mown mquot mprom mfiles mowner mlinks mblocks mvals msnaps mranks mkept mshot mwas mholds mheld mends mopen mentr mkinds misop mfilesT mentrT mpromT mlinksT mblocksT mvalsT := by
  have h1 := RR_next h
  obtain ⟨k, Qo, t, K, S, W, V, WI, O, f, L, A, B, P, e, h, HF, HE, HO, tr, d, hW, hT, hS, hH, hC, hV, hM, hE, hs⟩ := h
  obtain ⟨o0_oL, o1_mcode, e1⟩ := c23 hS
  exact ⟨_, _, e1, h1⟩
/-- CASE 24 -/
theorem rr24 (hj : j ≤ 511) (h : RR j nF nO nL nA nC nV nU nP nE bF bO bL bA bC bV bU bP bE cT cK cO cQ cD pT pK pR pW pU pI pC uO uF uE uN mday mown mquot mprom mfiles mowner mlinks mblocks mvals msnaps mranks mkept mshot mwas mholds mheld mends mopen mentr mkinds misop mfilesT mentrT mpromT mlinksT mblocksT mvalsT) : ∃ o0_nC o1_nU o2_oL o3_mcode o4_mblocks o5_mblocksT, f_case24 p1 p2 nF nO nL nC nU cT cO cQ pT pW pI pC oL mquot mfiles mowner mlinks mblocks msnaps mkept mshot mwas misop mblocksT = some (o0_nC, o1_nU, o2_oL, o3_mcode, o4_mblocks, o5_mblocksT) ∧ RR (j + 1) nF nO nL nA o0_nC nV o1_nU nP nE bF bO bL bA bC bV bU bP bE cT cK cO cQ cD pT pK pR pW pU pI pC uO uF uE uN mday mown mquot mprom mfiles mowner mlinks o4_mblocks mvals msnaps mranks mkept mshot mwas mholds mheld mends mopen mentr mkinds misop mfilesT mentrT mpromT mlinksT o5_mblocksT mvalsT := by
  obtain ⟨k, Qo, t, K, S, W, V, WI, O, f, L, A, B, P, e, h, HF, HE, HO, tr, d, hW, hT, hS, hH, hC, hV, hM, hE, hs⟩ := h
  obtain ⟨o0_nC, o1_nU, o2_oL, o3_mcode, o4_mblocks, o5_mblocksT, e1, B', hC', hx⟩ := c24 hT hW hC hV hM hS
  exact ⟨_, _, _, _, _, _, e1, k, Qo, t, K, S, W, V, WI, O, f, L, A, B', P, e, h, HF, HE, HO, tr, d, hW, hT, hS, hH, hC', hV, hM, ENT_next hE, SAVED_mT hs hx⟩
/-- CASE 25 -/
theorem rr25 (hj : j ≤ 511) (h : RR j nF nO nL nA nC nV nU nP nE bF bO bL bA bC bV bU bP bE cT cK cO cQ cD pT pK pR pW pU pI pC uO uF uE uN mday mown mquot mprom mfiles mowner mlinks mblocks mvals msnaps mranks mkept mshot mwas mholds mheld mends mopen mentr mkinds misop mfilesT mentrT mpromT mlinksT mblocksT mvalsT) : ∃ o0_uO o1_uF o2_uE o3_uN o4_oL o5_mcode o6_mholds o7_mheld o8_mends o9_mopen, f_case25 p1 p2 nF nA cT cD uO uF uE uN oL mday mfiles mlinks mholds mheld mends mopen misop = some (o0_uO, o1_uF, o2_uE, o3_uN, o4_oL, o5_mcode, o6_mholds, o7_mheld, o8_mends, o9_mopen) ∧ RR (j + 1) nF nO nL nA nC nV nU nP nE bF bO bL bA bC bV bU bP bE cT cK cO cQ cD pT pK pR pW pU pI pC o0_uO o1_uF o2_uE o3_uN mday mown mquot mprom mfiles mowner mlinks mblocks mvals msnaps mranks mkept mshot mwas o6_mholds o7_mheld o8_mends o9_mopen mentr mkinds misop mfilesT mentrT mpromT mlinksT mblocksT mvalsT := by
  obtain ⟨k, Qo, t, K, S, W, V, WI, O, f, L, A, B, P, e, h, HF, HE, HO, tr, d, hW, hT, hS, hH, hC, hV, hM, hE, hs⟩ := h
  obtain ⟨o0_uO, o1_uF, o2_uE, o3_uN, o4_oL, o5_mcode, o6_mholds, o7_mheld, o8_mends, o9_mopen, e1, h', HF', HE', HO', hH', hV', hx⟩ := c25 hT hC.1 hC.2.1 hC.2.2.1 hC.2.2.2.2.2.2.2.2.2.2 (fun i hi => (hC.2.2.2.2.2.1 i hi).2.2.2) hV hH
  exact ⟨_, _, _, _, _, _, _, _, _, _, e1, k, Qo, t, K, S, W, V, WI, O, f, L, A, B, P, e, h', HF', HE', HO', tr, d, hW, hT, hS, hH', hC, hV', hM, ENT_next hE, SAVED_ho hs hx⟩
/-- CASE 26 -/
theorem rr26 (hj : j ≤ 511) (h : RR j nF nO nL nA nC nV nU nP nE bF bO bL bA bC bV bU bP bE cT cK cO cQ cD pT pK pR pW pU pI pC uO uF uE uN mday mown mquot mprom mfiles mowner mlinks mblocks mvals msnaps mranks mkept mshot mwas mholds mheld mends mopen mentr mkinds misop mfilesT mentrT mpromT mlinksT mblocksT mvalsT) : ∃ o0_nA o1_nC o2_nU o3_uN o4_oL o5_mcode o6_mblocks o7_mopen, f_case26 p1 nF nL nA nC nU cT uO uF uN oL mlinks mblocks mholds mheld mopen misop = some (o0_nA, o1_nC, o2_nU, o3_uN, o4_oL, o5_mcode, o6_mblocks, o7_mopen) ∧ RR (j + 1) nF nO nL o0_nA o1_nC nV o2_nU nP nE bF bO bL bA bC bV bU bP bE cT cK cO cQ cD pT pK pR pW pU pI pC uO uF uE o3_uN mday mown mquot mprom mfiles mowner mlinks o6_mblocks mvals msnaps mranks mkept mshot mwas mholds mheld mends o7_mopen mentr mkinds misop mfilesT mentrT mpromT mlinksT mblocksT mvalsT := by
  obtain ⟨k, Qo, t, K, S, W, V, WI, O, f, L, A, B, P, e, h, HF, HE, HO, tr, d, hW, hT, hS, hH, hC, hV, hM, hE, hs⟩ := h
  obtain ⟨o0_nA, o1_nC, o2_nU, o3_uN, o4_oL, o5_mcode, o6_mblocks, o7_mopen, e1, A', B', HO', hC', hH', hV', hx⟩ := c26 hT hC hV hH
  exact ⟨_, _, _, _, _, _, _, _, e1, k, Qo, t, K, S, W, V, WI, O, f, L, A', B', P, e, h, HF, HE, HO', tr, d, hW, hT, hS, hH', hC', hV', hM, ENT_next hE, SAVED_ho hs (fun htr => ⟨rfl, rfl, hx htr⟩)⟩
/-- CASE 27 -/
theorem rr27 (hj : j ≤ 511) (h : RR j nF nO nL nA nC nV nU nP nE bF bO bL bA bC bV bU bP bE cT cK cO cQ cD pT pK pR pW pU pI pC uO uF uE uN mday mown mquot mprom mfiles mowner mlinks mblocks mvals msnaps mranks mkept mshot mwas mholds mheld mends mopen mentr mkinds misop mfilesT mentrT mpromT mlinksT mblocksT mvalsT) : ∃ o0_oL o1_mcode, f_case27 p1 uO uN oL mholds mopen = some (o0_oL, o1_mcode) ∧ RR (j + 1) nF nO nL nA nC nV nU nP nE bF bO bL bA bC bV bU bP bE cT cK cO cQ cD pT pK pR pW pU pI pC uO uF uE uN mday mown mquot mprom mfiles mowner mlinks mblocks mvals msnaps mranks mkept mshot mwas mholds mheld mends mopen mentr mkinds misop mfilesT mentrT mpromT mlinksT mblocksT mvalsT := by
  have h1 := RR_next h
  obtain ⟨k, Qo, t, K, S, W, V, WI, O, f, L, A, B, P, e, h, HF, HE, HO, tr, d, hW, hT, hS, hH, hC, hV, hM, hE, hs⟩ := h
  obtain ⟨hh, rfl, rfl, hHx⟩ := hH
  obtain ⟨o0_oL, o1_mcode, e1⟩ := c27 hh (fun x hx => ⟨(hHx x hx).2.2.2.2.1, (hHx x hx).2.2.2.2.2.1, (hHx x hx).2.2.2.2.2.2.1⟩)
  exact ⟨_, _, e1, h1⟩
/-- CASE 28 -/
theorem rr28 (hj : j ≤ 511) (h : RR j nF nO nL nA nC nV nU nP nE bF bO bL bA bC bV bU bP bE cT cK cO cQ cD pT pK pR pW pU pI pC uO uF uE uN mday mown mquot mprom mfiles mowner mlinks mblocks mvals msnaps mranks mkept mshot mwas mholds mheld mends mopen mentr mkinds misop mfilesT mentrT mpromT mlinksT mblocksT mvalsT) : ∃ o0_oL o1_mcode, f_case28 p1 nF uO uF uN oL mfiles mholds mheld mopen = some (o0_oL, o1_mcode) ∧ RR (j + 1) nF nO nL nA nC nV nU nP nE bF bO bL bA bC bV bU bP bE cT cK cO cQ cD pT pK pR pW pU pI pC uO uF uE uN mday mown mquot mprom mfiles mowner mlinks mblocks mvals msnaps mranks mkept mshot mwas mholds mheld mends mopen mentr mkinds misop mfilesT mentrT mpromT mlinksT mblocksT mvalsT := by
  have h1 := RR_next h
  obtain ⟨k, Qo, t, K, S, W, V, WI, O, f, L, A, B, P, e, h, HF, HE, HO, tr, d, hW, hT, hS, hH, hC, hV, hM, hE, hs⟩ := h
  obtain ⟨hf, rfl, rfl, rfl, rfl, hF, hB, hU, hP, hPs, hA⟩ := hC
  obtain ⟨hh, rfl, rfl, hHx⟩ := hH
  obtain ⟨o0_oL, o1_mcode, e1⟩ := c28 hf hh (fun x hx => by
    obtain ⟨b1, b2, b3, b4, b5, b6, b7, b8, b9⟩ := hHx x hx
    exact ⟨b1, b2, b5, b6, by omega, b7⟩)
  exact ⟨_, _, e1, h1⟩
/-- CASE 29 -/
theorem rr29 (hj : j ≤ 511) (h : RR j nF nO nL nA nC nV nU nP nE bF bO bL bA bC bV bU bP bE cT cK cO cQ cD pT pK pR pW pU pI pC uO uF uE uN mday mown mquot mprom mfiles mowner mlinks mblocks mvals msnaps mranks mkept mshot mwas mholds mheld mends mopen mentr mkinds misop mfilesT mentrT mpromT mlinksT mblocksT mvalsT) : ∃ o0_oL o1_mcode, f_case29 uO uE uN oL mholds mends mopen = some (o0_oL, o1_mcode) ∧ RR (j + 1) nF nO nL nA nC nV nU nP nE bF bO bL bA bC bV bU bP bE cT cK cO cQ cD pT pK pR pW pU pI pC uO uF uE uN mday mown mquot mprom mfiles mowner mlinks mblocks mvals msnaps mranks mkept mshot mwas mholds mheld mends mopen mentr mkinds misop mfilesT mentrT mpromT mlinksT mblocksT mvalsT := by
  have h1 := RR_next h
  obtain ⟨k, Qo, t, K, S, W, V, WI, O, f, L, A, B, P, e, h, HF, HE, HO, tr, d, hW, hT, hS, hH, hC, hV, hM, hE, hs⟩ := h
  obtain ⟨o0_oL, o1_mcode, e1⟩ := c29 hH
  exact ⟨_, _, e1, h1⟩
/-- CASE 30 -/
theorem rr30 (hj : j ≤ 511) (h : RR j nF nO nL nA nC nV nU nP nE bF bO bL bA bC bV bU bP bE cT cK cO cQ cD pT pK pR pW pU pI pC uO uF uE uN mday mown mquot mprom mfiles mowner mlinks mblocks mvals msnaps mranks mkept mshot mwas mholds mheld mends mopen mentr mkinds misop mfilesT mentrT mpromT mlinksT mblocksT mvalsT) : ∃ o0_nA o1_nC o2_nU o3_cD o4_uN o5_oL o6_mcode o7_mday o8_mblocks o9_mopen, f_case30 p1 nF nL nA nC nU cT cD uO uF uE uN oL mday mlinks mblocks mholds mheld mends mopen misop = some (o0_nA, o1_nC, o2_nU, o3_cD, o4_uN, o5_oL, o6_mcode, o7_mday, o8_mblocks, o9_mopen) ∧ RR (j + 1) nF nO nL o0_nA o1_nC nV o2_nU nP nE bF bO bL bA bC bV bU bP bE cT cK cO cQ o3_cD pT pK pR pW pU pI pC uO uF uE o4_uN o7_mday mown mquot mprom mfiles mowner mlinks o8_mblocks mvals msnaps mranks mkept mshot mwas mholds mheld mends o9_mopen mentr mkinds misop mfilesT mentrT mpromT mlinksT mblocksT mvalsT := by
  obtain ⟨k, Qo, t, K, S, W, V, WI, O, f, L, A, B, P, e, h, HF, HE, HO, tr, d, hW, hT, hS, hH, hC, hV, hM, hE, hs⟩ := h
  obtain ⟨o0_nA, o1_nC, o2_nU, o3_cD, o4_uN, o5_oL, o6_mcode, o7_mday, o8_mblocks, o9_mopen, e1, A', B', HO', d', hC', hH', hV', hT', hx⟩ := c30 hT hC hV hH
  exact ⟨_, _, _, _, _, _, _, _, _, _, e1, k, Qo, t, K, S, W, V, WI, O, f, L, A', B', P, e, h, HF, HE, HO', tr, d', hW, hT', hS, hH', hC', hV', hM, ENT_next hE, SAVED_ho hs (fun htr => ⟨rfl, rfl, hx htr⟩)⟩
/-- CASE 31 -/
theorem rr31 (hj : j ≤ 511) (h : RR j nF nO nL nA nC nV nU nP nE bF bO bL bA bC bV bU bP bE cT cK cO cQ cD pT pK pR pW pU pI pC uO uF uE uN mday mown mquot mprom mfiles mowner mlinks mblocks mvals msnaps mranks mkept mshot mwas mholds mheld mends mopen mentr mkinds misop mfilesT mentrT mpromT mlinksT mblocksT mvalsT) : ∃ mc, f_case31 cD mday = some mc ∧ RR (j + 1) nF nO nL nA nC nV nU nP nE bF bO bL bA bC bV bU bP bE cT cK cO cQ cD pT pK pR pW pU pI pC uO uF uE uN mday mown mquot mprom mfiles mowner mlinks mblocks mvals msnaps mranks mkept mshot mwas mholds mheld mends mopen mentr mkinds misop mfilesT mentrT mpromT mlinksT mblocksT mvalsT := by
  have h1 := RR_next h
  obtain ⟨k, Qo, t, K, S, W, V, WI, O, f, L, A, B, P, e, h, HF, HE, HO, tr, d, hW, hT, hS, hH, hC, hV, hM, hE, hs⟩ := h
  obtain ⟨mc, e1⟩ := c31 hT
  exact ⟨_, e1, h1⟩
/-- CASE 32 -/
theorem rr32 (hj : j ≤ 511) (h : RR j nF nO nL nA nC nV nU nP nE bF bO bL bA bC bV bU bP bE cT cK cO cQ cD pT pK pR pW pU pI pC uO uF uE uN mday mown mquot mprom mfiles mowner mlinks mblocks mvals msnaps mranks mkept mshot mwas mholds mheld mends mopen mentr mkinds misop mfilesT mentrT mpromT mlinksT mblocksT mvalsT) : ∃ o0_bF o1_bO o2_bL o3_bA o4_bC o5_bV o6_bU o7_bP o8_bE o9_cT o10_oL o11_mcode o12_misop o13_mfilesT o14_mentrT o15_mpromT o16_mlinksT o17_mblocksT o18_mvalsT, f_case32 nF nO nL nA nC nV nU nP nE bF bO bL bA bC bV bU bP bE cT oL mprom mfiles mlinks mblocks mvals mentr misop mfilesT mentrT mpromT mlinksT mblocksT mvalsT = some (o0_bF, o1_bO, o2_bL, o3_bA, o4_bC, o5_bV, o6_bU, o7_bP, o8_bE, o9_cT, o10_oL, o11_mcode, o12_misop, o13_mfilesT, o14_mentrT, o15_mpromT, o16_mlinksT, o17_mblocksT, o18_mvalsT) ∧ RR (j + 1) nF nO nL nA nC nV nU nP nE o0_bF o1_bO o2_bL o3_bA o4_bC o5_bV o6_bU o7_bP o8_bE o9_cT cK cO cQ cD pT pK pR pW pU pI pC uO uF uE uN mday mown mquot mprom mfiles mowner mlinks mblocks mvals msnaps mranks mkept mshot mwas mholds mheld mends mopen mentr mkinds o12_misop o13_mfilesT o14_mentrT o15_mpromT o16_mlinksT o17_mblocksT o18_mvalsT := by
  obtain ⟨k, Qo, t, K, S, W, V, WI, O, f, L, A, B, P, e, h, HF, HE, HO, tr, d, hW, hT, hS, hH, hC, hV, hM, hE, hs⟩ := h
  obtain ⟨o0_bF, o1_bO, o2_bL, o3_bA, o4_bC, o5_bV, o6_bU, o7_bP, o8_bE, o9_cT, o10_oL, o11_mcode, o12_misop, o13_mfilesT, o14_mentrT, o15_mpromT, o16_mlinksT, o17_mblocksT, o18_mvalsT, e1, tr', hT', hs'⟩ := c32 hT hC hV hM (HOLD_lt hH) hs
  exact ⟨_, _, _, _, _, _, _, _, _, _, _, _, _, _, _, _, _, _, _, e1, k, Qo, t, K, S, W, V, WI, O, f, L, A, B, P, e, h, HF, HE, HO, tr', d, hW, hT', hS, hH, hC, hV, hM, ENT_next hE, hs'⟩
/-- CASE 33 -/
theorem rr33 (hj : j ≤ 511) (h : RR j nF nO nL nA nC nV nU nP nE bF bO bL bA bC bV bU bP bE cT cK cO cQ cD pT pK pR pW pU pI pC uO uF uE uN mday mown mquot mprom mfiles mowner mlinks mblocks mvals msnaps mranks mkept mshot mwas mholds mheld mends mopen mentr mkinds misop mfilesT mentrT mpromT mlinksT mblocksT mvalsT) : ∃ o0_cT o1_oL o2_mcode o3_misop, f_case33 nE bE cT oL mentr misop mentrT = some (o0_cT, o1_oL, o2_mcode, o3_misop) ∧ RR (j + 1) nF nO nL nA nC nV nU nP nE bF bO bL bA bC bV bU bP bE o0_cT cK cO cQ cD pT pK pR pW pU pI pC uO uF uE uN mday mown mquot mprom mfiles mowner mlinks mblocks mvals msnaps mranks mkept mshot mwas mholds mheld mends mopen mentr mkinds o3_misop mfilesT mentrT mpromT mlinksT mblocksT mvalsT := by
  obtain ⟨k, Qo, t, K, S, W, V, WI, O, f, L, A, B, P, e, h, HF, HE, HO, tr, d, hW, hT, hS, hH, hC, hV, hM, hE, hs⟩ := h
  obtain ⟨o0_cT, o1_oL, o2_mcode, o3_misop, e1, tr', hT', hs'⟩ := c33 hT hC.2.2.2.1 hC.2.2.2.2.1 hs
  exact ⟨_, _, _, _, e1, k, Qo, t, K, S, W, V, WI, O, f, L, A, B, P, e, h, HF, HE, HO, tr', d, hW, hT', hS, hH, hC, hV, hM, ENT_next hE, hs'⟩
/-- CASE 34 -/
theorem rr34 (hj : j ≤ 511) (h : RR j nF nO nL nA nC nV nU nP nE bF bO bL bA bC bV bU bP bE cT cK cO cQ cD pT pK pR pW pU pI pC uO uF uE uN mday mown mquot mprom mfiles mowner mlinks mblocks mvals msnaps mranks mkept mshot mwas mholds mheld mends mopen mentr mkinds misop mfilesT mentrT mpromT mlinksT mblocksT mvalsT) : ∃ o0_nF o1_nO o2_nL o3_nA o4_nC o5_nV o6_nU o7_nP o8_nE o9_cT o10_mcode o11_mprom o12_mfiles o13_mlinks o14_mblocks o15_mvals o16_mentr o17_misop, f_case34 nF nO nL nA nC nV nU nP nE bF bO bL bA bC bV bU bP bE cT mprom mfiles mlinks mblocks mvals mentr misop mfilesT mentrT mpromT mlinksT mblocksT mvalsT = some (o0_nF, o1_nO, o2_nL, o3_nA, o4_nC, o5_nV, o6_nU, o7_nP, o8_nE, o9_cT, o10_mcode, o11_mprom, o12_mfiles, o13_mlinks, o14_mblocks, o15_mvals, o16_mentr, o17_misop) ∧ RR (j + 1) o0_nF o1_nO o2_nL o3_nA o4_nC o5_nV o6_nU o7_nP o8_nE bF bO bL bA bC bV bU bP bE o9_cT cK cO cQ cD pT pK pR pW pU pI pC uO uF uE uN mday mown mquot o11_mprom o12_mfiles mowner o13_mlinks o14_mblocks o15_mvals msnaps mranks mkept mshot mwas mholds mheld mends mopen o16_mentr mkinds o17_misop mfilesT mentrT mpromT mlinksT mblocksT mvalsT := by
  obtain ⟨k, Qo, t, K, S, W, V, WI, O, f, L, A, B, P, e, h, HF, HE, HO, tr, d, hW, hT, hS, hH, hC, hV, hM, hE, hs⟩ := h
  obtain ⟨o0_nF, o1_nO, o2_nL, o3_nA, o4_nC, o5_nV, o6_nU, o7_nP, o8_nE, o9_cT, o10_mcode, o11_mprom, o12_mfiles, o13_mlinks, o14_mblocks, o15_mvals, o16_mentr, o17_misop, e1, O', L', A', B', P', f', e', tr', hT', hC', hV', hM', hx, hE', hs'⟩ := c34 hT hC hV hM (HOLD_lt hH) hE hs
  exact ⟨_, _, _, _, _, _, _, _, _, _, _, _, _, _, _, _, _, _, e1, k, Qo, t, K, S, W, V, WI, O', f', L', A', B', P', e', h, HF, HE, HO, tr', d, hW, hT', hS, HOLD_f hH hx, hC', hV', hM', ENT_next hE', hs'⟩
/-- CASE 35 -/
theorem rr35 (hj : j ≤ 511) (h : RR j nF nO nL nA nC nV nU nP nE bF bO bL bA bC bV bU bP bE cT cK cO cQ cD pT pK pR pW pU pI pC uO uF uE uN mday mown mquot mprom mfiles mowner mlinks mblocks mvals msnaps mranks mkept mshot mwas mholds mheld mends mopen mentr mkinds misop mfilesT mentrT mpromT mlinksT mblocksT mvalsT) : ∃ mc, f_case35 nE mentr = some mc ∧ RR (j + 1) nF nO nL nA nC nV nU nP nE bF bO bL bA bC bV bU bP bE cT cK cO cQ cD pT pK pR pW pU pI pC uO uF uE uN mday mown mquot mprom mfiles mowner mlinks mblocks mvals msnaps mranks mkept mshot mwas mholds mheld mends mopen mentr mkinds misop mfilesT mentrT mpromT mlinksT mblocksT mvalsT := by
  have h1 := RR_next h
  obtain ⟨k, Qo, t, K, S, W, V, WI, O, f, L, A, B, P, e, h, HF, HE, HO, tr, d, hW, hT, hS, hH, hC, hV, hM, hE, hs⟩ := h
  obtain ⟨mc, e1⟩ := c35 hC.2.2.2.1 hC.2.2.2.2.1
  exact ⟨_, e1, h1⟩
/-- CASE 36 -/
theorem rr36 (hj : j ≤ 511) (h : RR j nF nO nL nA nC nV nU nP nE bF bO bL bA bC bV bU bP bE cT cK cO cQ cD pT pK pR pW pU pI pC uO uF uE uN mday mown mquot mprom mfiles mowner mlinks mblocks mvals msnaps mranks mkept mshot mwas mholds mheld mends mopen mentr mkinds misop mfilesT mentrT mpromT mlinksT mblocksT mvalsT) : ∃ o0_oL o1_mcode, f_case36 p1 nE cK oL mentr mkinds = some (o0_oL, o1_mcode) ∧ RR (j + 1) nF nO nL nA nC nV nU nP nE bF bO bL bA bC bV bU bP bE cT cK cO cQ cD pT pK pR pW pU pI pC uO uF uE uN mday mown mquot mprom mfiles mowner mlinks mblocks mvals msnaps mranks mkept mshot mwas mholds mheld mends mopen mentr mkinds misop mfilesT mentrT mpromT mlinksT mblocksT mvalsT := by
  have h1 := RR_next h
  obtain ⟨k, Qo, t, K, S, W, V, WI, O, f, L, A, B, P, e, h, HF, HE, HO, tr, d, hW, hT, hS, hH, hC, hV, hM, hE, hs⟩ := h
  obtain ⟨hf, rfl, rfl, rfl, rfl, hF, hB, hU, hP, hPs, hA⟩ := hC
  obtain ⟨o0_oL, o1_mcode, e1⟩ := c36 hj hE
  exact ⟨_, _, e1, h1⟩
/-- CASE 37 -/
theorem rr37 (hj : j ≤ 511) (h : RR j nF nO nL nA nC nV nU nP nE bF bO bL bA bC bV bU bP bE cT cK cO cQ cD pT pK pR pW pU pI pC uO uF uE uN mday mown mquot mprom mfiles mowner mlinks mblocks mvals msnaps mranks mkept mshot mwas mholds mheld mends mopen mentr mkinds misop mfilesT mentrT mpromT mlinksT mblocksT mvalsT) : ∃ o0_oD o1_mcode, f_case37 nU oD mblocks msnaps mkept mshot = some (o0_oD, o1_mcode) ∧ RR (j + 1) nF nO nL nA nC nV nU nP nE bF bO bL bA bC bV bU bP bE cT cK cO cQ cD pT pK pR pW pU pI pC uO uF uE uN mday mown mquot mprom mfiles mowner mlinks mblocks mvals msnaps mranks mkept mshot mwas mholds mheld mends mopen mentr mkinds misop mfilesT mentrT mpromT mlinksT mblocksT mvalsT := by
  have h1 := RR_next h
  obtain ⟨k, Qo, t, K, S, W, V, WI, O, f, L, A, B, P, e, h, HF, HE, HO, tr, d, hW, hT, hS, hH, hC, hV, hM, hE, hs⟩ := h
  have hms := hS.2.1
  subst hms
  obtain ⟨o0_oD, o1_mcode, e1⟩ := c37 hC hS.2.2.1
  exact ⟨_, _, e1, h1⟩
/-- CASE 38 -/
theorem rr38 (hj : j ≤ 511) (h : RR j nF nO nL nA nC nV nU nP nE bF bO bL bA bC bV bU bP bE cT cK cO cQ cD pT pK pR pW pU pI pC uO uF uE uN mday mown mquot mprom mfiles mowner mlinks mblocks mvals msnaps mranks mkept mshot mwas mholds mheld mends mopen mentr mkinds misop mfilesT mentrT mpromT mlinksT mblocksT mvalsT) : ∃ o0_oD o1_mcode, f_case38 nF nA uO uF uN oD mfiles mlinks mholds mheld mopen = some (o0_oD, o1_mcode) ∧ RR (j + 1) nF nO nL nA nC nV nU nP nE bF bO bL bA bC bV bU bP bE cT cK cO cQ cD pT pK pR pW pU pI pC uO uF uE uN mday mown mquot mprom mfiles mowner mlinks mblocks mvals msnaps mranks mkept mshot mwas mholds mheld mends mopen mentr mkinds misop mfilesT mentrT mpromT mlinksT mblocksT mvalsT := by
  have h1 := RR_next h
  obtain ⟨k, Qo, t, K, S, W, V, WI, O, f, L, A, B, P, e, h, HF, HE, HO, tr, d, hW, hT, hS, hH, hC, hV, hM, hE, hs⟩ := h
  obtain ⟨o0_oD, o1_mcode, e1⟩ := c38 hC hV hH
  exact ⟨_, _, e1, h1⟩
/-- CASE 39 -/
theorem rr39 (hj : j ≤ 511) (h : RR j nF nO nL nA nC nV nU nP nE bF bO bL bA bC bV bU bP bE cT cK cO cQ cD pT pK pR pW pU pI pC uO uF uE uN mday mown mquot mprom mfiles mowner mlinks mblocks mvals msnaps mranks mkept mshot mwas mholds mheld mends mopen mentr mkinds misop mfilesT mentrT mpromT mlinksT mblocksT mvalsT) : ∃ o0_wK o1_mcode, f_case39 nF nA nC nU nP pU pI pC uO uF uN wK mprom mblocks msnaps mkept mshot = some (o0_wK, o1_mcode) ∧ RR (j + 1) nF nO nL nA nC nV nU nP nE bF bO bL bA bC bV bU bP bE cT cK cO cQ cD pT pK pR pW pU pI pC uO uF uE uN mday mown mquot mprom mfiles mowner mlinks mblocks mvals msnaps mranks mkept mshot mwas mholds mheld mends mopen mentr mkinds misop mfilesT mentrT mpromT mlinksT mblocksT mvalsT := by
  have h1 := RR_next h
  obtain ⟨k, Qo, t, K, S, W, V, WI, O, f, L, A, B, P, e, h, HF, HE, HO, tr, d, hW, hT, hS, hH, hC, hV, hM, hE, hs⟩ := h
  obtain ⟨o0_wK, o1_mcode, e1⟩ := c39 hC hV hH hS
  exact ⟨_, _, e1, h1⟩
end STEP
