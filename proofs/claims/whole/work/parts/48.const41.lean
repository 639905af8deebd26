/-! CASE 41 BEFORE ANY TEXT -/
def f_case41c (p1 : Int32) (jN : Int32) (jZ : Nat) (jB : Nat → Int32) (oL : Nat → Int64) : Option ((Nat → Int64) × Int32) :=
  (f_L_lineAt p1 jN jZ jB oL).bind fun (r2, oL_3) =>
  (f_M_thrown 1).bind fun r5 =>
  if r5 = r2 then
    if r2 = 0 then
      if (lg_cmp (oL_3 (0 : Int32).toNatClampNeg) ((0).toInt64)) = 0 then
        some (oL_3, 1)
      else
        none
    else
      some (oL_3, 1)
  else
    none
set_option maxHeartbeats 4000000 in
set_option maxRecDepth 100000 in
theorem l_case41c {p : Program} {l : Launch} {e : Env} {s : State} {m : MethodId} {below : List Frame} {meth : Method} {c : Code} {Q : State → Prop} {D : va_G} {A : Nat → Prop} {b L : Nat} {xs : Nat → Int32} (ca : Nat → ClassId) (hst : l.stackTraces = false) (hx : p.tables.exec = Jvm.exec) (hb : c.code = code) (hml : c.maxLocals = 9) (hown : s.vm.findClass RL = some m.cls) (hts : ∀ w ∈ WW, w.before #[Value.ref b] s = true) (hE : EE D ca SL0 s) (hA : ∀ q, s.heap.size ≤ q → A q) (hZ : ZZ A s s.heap) (hNC : NCE s) (hX : va_X b L xs s s.heap) (hbl : b < s.heap.size) (hbA : ¬ A b) (ad am : Nat → Nat) (bq oa od lq : Nat) (hKS : KS lq A s s.heap) (nF : Int32) (nO : Nat → Int32) (nL : Nat → Int32) (nA : Nat → Int32) (nC : Nat → Int32) (nV : Nat → Int32) (nU : Nat → Int32) (nP : Nat → Int32) (nE : Int32) (bF : Int32) (bO : Nat → Int32) (bL : Nat → Int32) (bA : Nat → Int32) (bC : Nat → Int32) (bV : Nat → Int32) (bU : Nat → Int32) (bP : Nat → Int32) (bE : Int32) (cT : Int32) (cK : Nat → Int32) (cO : Int32) (cQ : Nat → Int32) (cD : Int32) (pT : Int32) (pK : Int32) (pR : Nat → Int32) (pW : Nat → Int32) (pU : Nat → Int32) (pI : Nat → Int32) (pC : Nat → Nat → Int32) (uO : Int32) (uF : Nat → Int32) (uE : Nat → Int32) (uN : Nat → Int32) (wK : Nat → Int32) (jM : Int32) (jN : Int32) (jZ : Nat) (jB : Nat → Int32) (oL : Nat → Int64) (oD : Nat → UInt64) (mcode : Int32) (mday : Int32) (mown : Int32) (mquot : Nat → Int32) (mprom : Nat → Int32) (mfiles : Int32) (mowner : Nat → Int32) (mlinks : Nat → Int32) (mblocks : Nat → Int32) (mvals : Nat → Int32) (msnaps : Int32) (mranks : Nat → Int32) (mkept : Nat → Int32) (mshot : Nat → Int32) (mwas : Nat → Int32) (mholds : Int32) (mheld : Nat → Int32) (mends : Nat → Int32) (mopen : Nat → Int32) (mentr : Int32) (mkinds : Nat → Int32) (misop : Int32) (mfilesT : Int32) (mentrT : Int32) (mpromT : Nat → Int32) (mlinksT : Nat → Int32) (mblocksT : Nat → Int32) (mvalsT : Nat → Int32) (R : va_W) (x5 : Int32) (hi1 : vp_in (x5 + 1) L) (cN sN : Nat) (hcN : cN + 1100 ≤ 603072) (hsN : sN + 13000 ≤ 7198826) (ooL : Nat → Int64) (omcode : Int32) (hf : f_case41c (xs (x5 + 1).toNatClampNeg) jN jZ jB oL = some (ooL, omcode)) {H : Heap} {locs : List Loc} {ls : Array Slot} (hP : va_P D vwCl (WC ca ad bq nF nO nL nA nC nV nU nP nE bF bO bL bA bC bV bU bP bE cT cK cO cQ cD pT pK pR pW pU pI pC uO uF uE uN wK jM jN jZ jB ++ (WO ca oa od oL oD ++ (WM ca am lq mcode mday mown mquot mprom mfiles mowner mlinks mblocks mvals msnaps mranks mkept mshot mwas mholds mheld mends mopen mentr mkinds misop mfilesT mentrT mpromT mlinksT mblocksT mvalsT ++ R))) H) (hD : va_D A (WC ca ad bq nF nO nL nA nC nV nU nP nE bF bO bL bA bC bV bU bP bE cT cK cO cQ cD pT pK pR pW pU pI pC uO uF uE uN wK jM jN jZ jB ++ (WO ca oa od oL oD ++ (WM ca am lq mcode mday mown mquot mprom mfiles mowner mlinks mblocks mvals msnaps mranks mkept mshot mwas mholds mheld mends mopen mentr mkinds misop mfilesT mentrT mpromT mlinksT mblocksT mvalsT ++ R)))) (hS : va_S A s.heap H locs) (hl : lv_has ls 9 [(0, .ref b), (1, .ref (ad 0)), (2, .ref (am 0)), (3, .ref oa), (4, .ref od), (5, .int x5)]) (kk : ∀ (H : Heap) (locs : List Loc) (ls : Array Slot), va_P D vwCl (WC ca ad bq nF nO nL nA nC nV nU nP nE bF bO bL bA bC bV bU bP bE cT cK cO cQ cD pT pK pR pW pU pI pC uO uF uE uN wK jM jN jZ jB ++ (WO ca oa od ooL oD ++ (WM ca am lq omcode mday mown mquot mprom mfiles mowner mlinks mblocks mvals msnaps mranks mkept mshot mwas mholds mheld mends mopen mentr mkinds misop mfilesT mentrT mpromT mlinksT mblocksT mvalsT ++ R))) H → va_D A (WC ca ad bq nF nO nL nA nC nV nU nP nE bF bO bL bA bC bV bU bP bE cT cK cO cQ cD pT pK pR pW pU pI pC uO uF uE uN wK jM jN jZ jB ++ (WO ca oa od ooL oD ++ (WM ca am lq omcode mday mown mquot mprom mfiles mowner mlinks mblocks mvals msnaps mranks mkept mshot mwas mholds mheld mends mopen mentr mkinds misop mfilesT mentrT mpromT mlinksT mblocksT mvalsT ++ R))) → va_S A s.heap H locs → lv_has ls 9 [(0, .ref b), (1, .ref (ad 0)), (2, .ref (am 0)), (3, .ref oa), (4, .ref od), (5, .int x5)] → W p l e room_1 s m #[Value.ref b] below meth c H locs (cN + 1100) (sN + 13000) Q (F0 m 2434 ls [])) : W p l e room_1 s m #[Value.ref b] below meth c H locs cN sN Q (F0 m 2378 ls []) := by
  have hK := hE.1
  unfold f_case41c at hf
  change W p l e room_1 s m #[Value.ref b] below meth c H locs (cN + 0) (sN + 0) Q (F0 m 2378 ls [])
  refine lv_aload_n hx hb dL_law_2378 rfl (lv_at hl 1 rfl) ?_
  refine lv_aload_n hx hb dL_law_2379 rfl (lv_at hl 0 rfl) ?_
  refine lv_iload hx hb dL_law_2380 (lv_at hl 5 rfl) ?_
  refine lv_iconst (v := 1) hx hb dL_law_2382 (by decide) ?_
  refine lv_iadd hx hb dL_law_2383 ?_
  refine va_sld hx hb hX hbl hbA hS hi1 dL_law_2384 ?_
  refine lv_aload_n hx hb dL_law_2385 rfl (lv_at hl 3 rfl) ?_
  obtain ⟨⟨r2, oL_3⟩, h1, hf⟩ := bnd hf
  refine cl_wi (rest := []) (m_L_lineAt l hst ca ad bq oa od nF nO nL nA nC nV nU nP nE bF bO bL bA bC bV bU bP bE cT cK cO cQ cD pT pK pR pW pU pI pC uO uF uE uN wK jM jN jZ jB oL oD (WM ca am lq mcode mday mown mquot mprom mfiles mowner mlinks mblocks mvals msnaps mranks mkept mshot mwas mholds mheld mends mopen mentr mkinds misop mfilesT mentrT mpromT mlinksT mblocksT mvalsT ++ R) _ (xs (x5 + 1).toNatClampNeg) r2 oL_3 h1) ⟨hx, hb, hml, hown, hts⟩ (vx_cwSW 3 hts (gSW q1304 q1305 q40 q1306) rfl rfl rfl (by decide +kernel) ⟨Nat.le_of_ble_eq_true rfl, Nat.le_of_ble_eq_true rfl⟩) hE hP hD hS hA hZ hNC rfl hl.1 rfl (lv_room (Nat.le_of_ble_eq_true rfl)) dL_law_2386 ⟨by show _ ≤ 603072; omega, by show _ ≤ 7198826; omega⟩ (fun H locs hP hD hS => ?_)
  refine lv_istore (lv' := [(6, .int r2), (0, .ref b), (1, .ref (ad 0)), (2, .ref (am 0)), (3, .ref oa), (4, .ref od), (5, .int x5)]) hx hb dL_law_2389 hl (by decide) rfl (fun ls hl => ?_)
  refine lv_aload_n hx hb dL_law_2391 rfl (lv_at hl 3 rfl) ?_
  refine lv_aload_n hx hb dL_law_2392 rfl (lv_at hl 1 rfl) ?_
  refine lv_iload hx hb dL_law_2393 (lv_at hl 6 rfl) ?_
  refine lv_iconst (v := 1) hx hb dL_law_2395 (by decide) ?_
  refine lv_iadd hx hb dL_law_2396 ?_
  refine va_sld hx hb hX hbl hbA hS hi1 dL_law_2397 ?_
  refine zc_i (wa := (WC ca ad bq nF nO nL nA nC nV nU nP nE bF bO bL bA bC bV bU bP bE cT cK cO cQ cD pT pK pR pW pU pI pC uO uF uE uN wK jM jN jZ jB)) (wb := (WO ca oa od oL_3 oD)) (wc := (WM ca am lq mcode mday mown mquot mprom mfiles mowner mlinks mblocks mvals msnaps mranks mkept mshot mwas mholds mheld mends mopen mentr mkinds misop mfilesT mentrT mpromT mlinksT mblocksT mvalsT)) (wc' := (WM ca am lq 1 mday mown mquot mprom mfiles mowner mlinks mblocks mvals msnaps mranks mkept mshot mwas mholds mheld mends mopen mentr mkinds misop mfilesT mentrT mpromT mlinksT mblocksT mvalsT)) (wr := R) (rest := []) (m_K_lineAt l ca lq am mcode mday mown mquot mprom mfiles mowner mlinks mblocks mvals msnaps mranks mkept mshot mwas mholds mheld mends mopen mentr mkinds misop mfilesT mentrT mpromT mlinksT mblocksT mvalsT ((WC ca ad bq nF nO nL nA nC nV nU nP nE bF bO bL bA bC bV bU bP bE cT cK cO cQ cD pT pK pR pW pU pI pC uO uF uE uN wK jM jN jZ jB) ++ ((WO ca oa od oL_3 oD) ++ R)) _ (xs (x5 + 1).toNatClampNeg)) ⟨hx, hb, hml, hown, hts⟩ (cwV 1 hts (gV q1666 q1667 q1668 q50 q1669) rfl rfl rfl (by decide +kernel) ⟨Nat.le_of_ble_eq_true rfl, Nat.le_of_ble_eq_true rfl⟩) (va_recv hK hP (ci := 8) (q0 := 42) rfl rfl) hE hP hD hKS hS hA hZ rfl hl.1 rfl (lv_room (Nat.le_of_ble_eq_true rfl)) dL_law_2398 ⟨by show _ ≤ 603072; omega, by show _ ≤ 7198826; omega⟩ (fun H locs hP hD hS => ?_)
  have hP : va_P D vwCl (WC ca ad bq nF nO nL nA nC nV nU nP nE bF bO bL bA bC bV bU bP bE cT cK cO cQ cD pT pK pR pW pU pI pC uO uF uE uN wK jM jN jZ jB ++ (WO ca oa od oL_3 oD ++ (WM ca am lq 1 mday mown mquot mprom mfiles mowner mlinks mblocks mvals msnaps mranks mkept mshot mwas mholds mheld mends mopen mentr mkinds misop mfilesT mentrT mpromT mlinksT mblocksT mvalsT ++ R))) H := hP
  have hD : va_D A (WC ca ad bq nF nO nL nA nC nV nU nP nE bF bO bL bA bC bV bU bP bE cT cK cO cQ cD pT pK pR pW pU pI pC uO uF uE uN wK jM jN jZ jB ++ (WO ca oa od oL_3 oD ++ (WM ca am lq 1 mday mown mquot mprom mfiles mowner mlinks mblocks mvals msnaps mranks mkept mshot mwas mholds mheld mends mopen mentr mkinds misop mfilesT mentrT mpromT mlinksT mblocksT mvalsT ++ R))) := hD
  refine lv_istore (lv' := [(7, .int 0), (6, .int r2), (0, .ref b), (1, .ref (ad 0)), (2, .ref (am 0)), (3, .ref oa), (4, .ref od), (5, .int x5)]) hx hb dL_law_2401 hl (by decide) rfl (fun ls hl => ?_)
  refine lv_aload_n hx hb dL_law_2403 rfl (lv_at hl 4 rfl) ?_
  obtain ⟨r5, h4, hf⟩ := bnd hf
  refine cm_i (rest := []) (m_M_thrown l ca am lq 1 mday mown mquot mprom mfiles mowner mlinks mblocks mvals msnaps mranks mkept mshot mwas mholds mheld mends mopen mentr mkinds misop mfilesT mentrT mpromT mlinksT mblocksT mvalsT ((WC ca ad bq nF nO nL nA nC nV nU nP nE bF bO bL bA bC bV bU bP bE cT cK cO cQ cD pT pK pR pW pU pI pC uO uF uE uN wK jM jN jZ jB) ++ ((WO ca oa od oL_3 oD) ++ R)) _ r5 h4) ⟨hx, hb, hml, hown, hts⟩ (cwV 0 hts (gV q1417 q1418 q1419 q50 q1420) rfl rfl rfl (by decide +kernel) ⟨Nat.le_of_ble_eq_true rfl, Nat.le_of_ble_eq_true rfl⟩) (va_recv hK hP (ci := 8) (q0 := 42) rfl rfl) hE hP hD hS hA rfl hl.1 rfl (lv_room (Nat.le_of_ble_eq_true rfl)) dL_law_2404 ⟨by show _ ≤ 603072; omega, by show _ ≤ 7198826; omega⟩ (fun H locs hP hD hS => ?_)
  refine lv_iload hx hb dL_law_2407 (lv_at hl 1 rfl) ?_
  refine lv_icmp_eq (tgt := 2414) hx hb dL_law_2409 (by decide) (fun c6 => ?_) (fun c6 => ?_)
  · have hf := br_pos c6 hf
    refine lv_iload hx hb dL_law_2414 (lv_at hl 1 rfl) ?_
    refine lv_if_ne (tgt := 2431) hx hb dL_law_2416 (by decide) (fun c7 => ?_) (fun c7 => ?_)
    · have hf := br_neg c7 hf
      refine lv_goto (tgt := 2434) hx hb dL_law_2431 (by decide) ?_
      cases hf
      refine W.widen (k := cN + 1100) (n := sN + 13000) (by omega) (by omega) ?_
      exact kk _ _ _ hP hD hS (lv_sub hl [2, 3, 4, 5, 6, 7] rfl)
    · have hf := br_pos c7 hf
      refine lv_aload_n hx hb dL_law_2419 rfl (lv_at hl 5 rfl) ?_
      refine lv_iconst (v := 0) hx hb dL_law_2420 (by decide) ?_
      refine va_lald (D := D) hx hb hK hP 40 5 rfl rfl (by unfold vp_in; decide) dL_law_2421 ?_
      refine lv_iload hx hb dL_law_2422 (lv_at hl 0 rfl) ?_
      refine lv_i2l hx hb dL_law_2424 rfl ?_
      refine W.lcmp hx hb dL_law_2425 ?_
      refine lv_if_eq (tgt := 2431) hx hb dL_law_2426 (by decide) (fun c8 => ?_) (fun c8 => ?_)
      · have hf := br_pos c8 hf
        refine lv_goto (tgt := 2434) hx hb dL_law_2431 (by decide) ?_
        cases hf
        refine W.widen (k := cN + 1100) (n := sN + 13000) (by omega) (by omega) ?_
        exact kk _ _ _ hP hD hS (lv_sub hl [2, 3, 4, 5, 6, 7] rfl)
      · have hf := br_neg c8 hf
        refine lv_iconst (v := 0) hx hb dL_law_2429 (by decide) ?_
        cases hf
  · have hf := br_neg c6 hf
    refine lv_iconst (v := 0) hx hb dL_law_2412 (by decide) ?_
    cases hf
