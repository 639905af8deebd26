def f_case20 (p1 : Int32) (pT : Int32) (pW : Nat → Int32) (oL : Nat → Int64) (msnaps : Int32) (mkept : Nat → Int32) : Option ((Nat → Int64) × Int32) :=
  (f_L_isKept p1 pT pW oL).bind fun (r1, oL_2) =>
  (f_M_isKept p1 msnaps mkept).bind fun (r4, mcode_5) =>
  (f_M_thrown mcode_5).bind fun r7 =>
  if r7 = r1 then
    if r1 = 0 then
      if r4 = 0 then
        if (lg_cmp (oL_2 (0 : Int32).toNatClampNeg) 0) = 0 then
          some (oL_2, mcode_5)
        else
          none
      else
        if (lg_cmp (oL_2 (0 : Int32).toNatClampNeg) 1) = 0 then
          some (oL_2, mcode_5)
        else
          none
    else
      some (oL_2, mcode_5)
  else
    none
set_option maxHeartbeats 4000000 in
set_option maxRecDepth 100000 in
theorem l_case20 {p : Program} {l : Launch} {e : Env} {s : State} {m : MethodId} {below : List Frame} {meth : Method} {c : Code} {Q : State → Prop} {D : va_G} {A : Nat → Prop} {b L : Nat} {xs : Nat → Int32} (ca : Nat → ClassId) (hst : l.stackTraces = false) (hx : p.tables.exec = Jvm.exec) (hb : c.code = code) (hml : c.maxLocals = 9) (hown : s.vm.findClass RL = some m.cls) (hts : ∀ w ∈ WW, w.before #[Value.ref b] s = true) (hE : EE D ca SL0 s) (hA : ∀ q, s.heap.size ≤ q → A q) (hZ : ZZ A s s.heap) (hNC : NCE s) (hX : va_X b L xs s s.heap) (hbl : b < s.heap.size) (hbA : ¬ A b) (ad am : Nat → Nat) (bq oa od lq : Nat) (nF : Int32) (nO : Nat → Int32) (nL : Nat → Int32) (nA : Nat → Int32) (nC : Nat → Int32) (nV : Nat → Int32) (nU : Nat → Int32) (nP : Nat → Int32) (nE : Int32) (bF : Int32) (bO : Nat → Int32) (bL : Nat → Int32) (bA : Nat → Int32) (bC : Nat → Int32) (bV : Nat → Int32) (bU : Nat → Int32) (bP : Nat → Int32) (bE : Int32) (cT : Int32) (cK : Nat → Int32) (cO : Int32) (cQ : Nat → Int32) (cD : Int32) (pT : Int32) (pK : Int32) (pR : Nat → Int32) (pW : Nat → Int32) (pU : Nat → Int32) (pI : Nat → Int32) (pC : Nat → Nat → Int32) (uO : Int32) (uF : Nat → Int32) (uE : Nat → Int32) (uN : Nat → Int32) (wK : Nat → Int32) (jM : Int32) (jN : Int32) (jZ : Nat) (jB : Nat → Int32) (oL : Nat → Int64) (oD : Nat → UInt64) (mcode : Int32) (mday : Int32) (mown : Int32) (mquot : Nat → Int32) (mprom : Nat → Int32) (mfiles : Int32) (mowner : Nat → Int32) (mlinks : Nat → Int32) (mblocks : Nat → Int32) (mvals : Nat → Int32) (msnaps : Int32) (mranks : Nat → Int32) (mkept : Nat → Int32) (mshot : Nat → Int32) (mwas : Nat → Int32) (mholds : Int32) (mheld : Nat → Int32) (mends : Nat → Int32) (mopen : Nat → Int32) (mentr : Int32) (mkinds : Nat → Int32) (misop : Int32) (mfilesT : Int32) (mentrT : Int32) (mpromT : Nat → Int32) (mlinksT : Nat → Int32) (mblocksT : Nat → Int32) (mvalsT : Nat → Int32) (R : va_W) (x5 : Int32) (hi1 : vp_in (x5 + 1) L) (hi2 : vp_in (x5 + 2) L) (hi3 : vp_in (x5 + 3) L) (cN sN : Nat) (hcN : cN + 1100 ≤ 603072) (hsN : sN + 13000 ≤ 7198826) (ooL : Nat → Int64) (omcode : Int32) (hf : f_case20 (xs (x5 + 1).toNatClampNeg) pT pW oL msnaps mkept = some (ooL, omcode)) {H : Heap} {locs : List Loc} {ls : Array Slot} (hP : va_P D vwCl (WC ca ad bq nF nO nL nA nC nV nU nP nE bF bO bL bA bC bV bU bP bE cT cK cO cQ cD pT pK pR pW pU pI pC uO uF uE uN wK jM jN jZ jB ++ (WO ca oa od oL oD ++ (WM ca am lq mcode mday mown mquot mprom mfiles mowner mlinks mblocks mvals msnaps mranks mkept mshot mwas mholds mheld mends mopen mentr mkinds misop mfilesT mentrT mpromT mlinksT mblocksT mvalsT ++ R))) H) (hD : va_D A (WC ca ad bq nF nO nL nA nC nV nU nP nE bF bO bL bA bC bV bU bP bE cT cK cO cQ cD pT pK pR pW pU pI pC uO uF uE uN wK jM jN jZ jB ++ (WO ca oa od oL oD ++ (WM ca am lq mcode mday mown mquot mprom mfiles mowner mlinks mblocks mvals msnaps mranks mkept mshot mwas mholds mheld mends mopen mentr mkinds misop mfilesT mentrT mpromT mlinksT mblocksT mvalsT ++ R)))) (hS : va_S A s.heap H locs) (hl : lv_has ls 9 [(0, .ref b), (1, .ref (ad 0)), (2, .ref (am 0)), (3, .ref oa), (4, .ref od), (5, .int x5)]) (kk : ∀ (H : Heap) (locs : List Loc) (ls : Array Slot), va_P D vwCl (WC ca ad bq nF nO nL nA nC nV nU nP nE bF bO bL bA bC bV bU bP bE cT cK cO cQ cD pT pK pR pW pU pI pC uO uF uE uN wK jM jN jZ jB ++ (WO ca oa od ooL oD ++ (WM ca am lq omcode mday mown mquot mprom mfiles mowner mlinks mblocks mvals msnaps mranks mkept mshot mwas mholds mheld mends mopen mentr mkinds misop mfilesT mentrT mpromT mlinksT mblocksT mvalsT ++ R))) H → va_D A (WC ca ad bq nF nO nL nA nC nV nU nP nE bF bO bL bA bC bV bU bP bE cT cK cO cQ cD pT pK pR pW pU pI pC uO uF uE uN wK jM jN jZ jB ++ (WO ca oa od ooL oD ++ (WM ca am lq omcode mday mown mquot mprom mfiles mowner mlinks mblocks mvals msnaps mranks mkept mshot mwas mholds mheld mends mopen mentr mkinds misop mfilesT mentrT mpromT mlinksT mblocksT mvalsT ++ R))) → va_S A s.heap H locs → lv_has ls 9 [(0, .ref b), (1, .ref (ad 0)), (2, .ref (am 0)), (3, .ref oa), (4, .ref od), (5, .int x5)] → W p l e room_1 s m #[Value.ref b] below meth c H locs (cN + 1100) (sN + 13000) Q (F0 m 2434 ls [])) : W p l e room_1 s m #[Value.ref b] below meth c H locs cN sN Q (F0 m 1341 ls []) := by
  have hK := hE.1
  unfold f_case20 at hf
  change W p l e room_1 s m #[Value.ref b] below meth c H locs (cN + 0) (sN + 0) Q (F0 m 1341 ls [])
  refine lv_aload_n hx hb dL_law_1341 rfl (lv_at hl 1 rfl) ?_
  refine lv_aload_n hx hb dL_law_1342 rfl (lv_at hl 0 rfl) ?_
  refine lv_iload hx hb dL_law_1343 (lv_at hl 5 rfl) ?_
  refine lv_iconst (v := 1) hx hb dL_law_1345 (by decide) ?_
  refine lv_iadd hx hb dL_law_1346 ?_
  refine va_sld hx hb hX hbl hbA hS hi1 dL_law_1347 ?_
  refine lv_aload_n hx hb dL_law_1348 rfl (lv_at hl 3 rfl) ?_
  obtain ⟨⟨r1, oL_2⟩, h3, hf⟩ := bnd hf
  refine cl_wi (rest := []) (m_L_isKept l hst ca ad bq oa od nF nO nL nA nC nV nU nP nE bF bO bL bA bC bV bU bP bE cT cK cO cQ cD pT pK pR pW pU pI pC uO uF uE uN wK jM jN jZ jB oL oD (WM ca am lq mcode mday mown mquot mprom mfiles mowner mlinks mblocks mvals msnaps mranks mkept mshot mwas mholds mheld mends mopen mentr mkinds misop mfilesT mentrT mpromT mlinksT mblocksT mvalsT ++ R) _ (xs (x5 + 1).toNatClampNeg) r1 oL_2 h3) ⟨hx, hb, hml, hown, hts⟩ (vx_cwSW 3 hts (gSW q806 q807 q40 q808) rfl rfl rfl (by decide +kernel) ⟨Nat.le_of_ble_eq_true rfl, Nat.le_of_ble_eq_true rfl⟩) hE hP hD hS hA hZ hNC rfl hl.1 rfl (lv_room (Nat.le_of_ble_eq_true rfl)) dL_law_1349 ⟨by show _ ≤ 603072; omega, by show _ ≤ 7198826; omega⟩ (fun H locs hP hD hS => ?_)
  refine lv_istore (lv' := [(6, .int r1), (0, .ref b), (1, .ref (ad 0)), (2, .ref (am 0)), (3, .ref oa), (4, .ref od), (5, .int x5)]) hx hb dL_law_1352 hl (by decide) rfl (fun ls hl => ?_)
  refine lv_aload_n hx hb dL_law_1354 rfl (lv_at hl 3 rfl) ?_
  refine lv_aload_n hx hb dL_law_1355 rfl (lv_at hl 1 rfl) ?_
  refine lv_iload hx hb dL_law_1356 (lv_at hl 6 rfl) ?_
  refine lv_iconst (v := 1) hx hb dL_law_1358 (by decide) ?_
  refine lv_iadd hx hb dL_law_1359 ?_
  refine va_sld hx hb hX hbl hbA hS hi1 dL_law_1360 ?_
  obtain ⟨⟨r4, mcode_5⟩, h6, hf⟩ := bnd hf
  refine cm_i (rest := []) (m_M_isKept l ca am lq mcode mday mown mquot mprom mfiles mowner mlinks mblocks mvals msnaps mranks mkept mshot mwas mholds mheld mends mopen mentr mkinds misop mfilesT mentrT mpromT mlinksT mblocksT mvalsT (WC ca ad bq nF nO nL nA nC nV nU nP nE bF bO bL bA bC bV bU bP bE cT cK cO cQ cD pT pK pR pW pU pI pC uO uF uE uN wK jM jN jZ jB ++ (WO ca oa od oL_2 oD ++ R)) _ (xs (x5 + 1).toNatClampNeg) r4 mcode_5 h6) ⟨hx, hb, hml, hown, hts⟩ (cwV 1 hts (gV q1564 q1565 q1566 q50 q1567) rfl rfl rfl (by decide +kernel) ⟨Nat.le_of_ble_eq_true rfl, Nat.le_of_ble_eq_true rfl⟩) (va_recv hK hP (ci := 8) (q0 := 42) rfl rfl) hE hP hD hS hA rfl hl.1 rfl (lv_room (Nat.le_of_ble_eq_true rfl)) dL_law_1361 ⟨by show _ ≤ 603072; omega, by show _ ≤ 7198826; omega⟩ (fun H locs hP hD hS => ?_)
  refine lv_istore (lv' := [(7, .int r4), (6, .int r1), (0, .ref b), (1, .ref (ad 0)), (2, .ref (am 0)), (3, .ref oa), (4, .ref od), (5, .int x5)]) hx hb dL_law_1364 hl (by decide) rfl (fun ls hl => ?_)
  refine lv_aload_n hx hb dL_law_1366 rfl (lv_at hl 4 rfl) ?_
  obtain ⟨r7, h8, hf⟩ := bnd hf
  refine cm_i (rest := []) (m_M_thrown l ca am lq mcode_5 mday mown mquot mprom mfiles mowner mlinks mblocks mvals msnaps mranks mkept mshot mwas mholds mheld mends mopen mentr mkinds misop mfilesT mentrT mpromT mlinksT mblocksT mvalsT (WC ca ad bq nF nO nL nA nC nV nU nP nE bF bO bL bA bC bV bU bP bE cT cK cO cQ cD pT pK pR pW pU pI pC uO uF uE uN wK jM jN jZ jB ++ (WO ca oa od oL_2 oD ++ R)) _ r7 h8) ⟨hx, hb, hml, hown, hts⟩ (cwV 0 hts (gV q1417 q1418 q1419 q50 q1420) rfl rfl rfl (by decide +kernel) ⟨Nat.le_of_ble_eq_true rfl, Nat.le_of_ble_eq_true rfl⟩) (va_recv hK hP (ci := 8) (q0 := 42) rfl rfl) hE hP hD hS hA rfl hl.1 rfl (lv_room (Nat.le_of_ble_eq_true rfl)) dL_law_1367 ⟨by show _ ≤ 603072; omega, by show _ ≤ 7198826; omega⟩ (fun H locs hP hD hS => ?_)
  refine lv_iload hx hb dL_law_1370 (lv_at hl 1 rfl) ?_
  refine lv_icmp_eq (tgt := 1377) hx hb dL_law_1372 (by decide) (fun c9 => ?_) (fun c9 => ?_)
  · have hf := br_pos c9 hf
    refine lv_iload hx hb dL_law_1377 (lv_at hl 1 rfl) ?_
    refine lv_if_ne (tgt := 1401) hx hb dL_law_1379 (by decide) (fun c10 => ?_) (fun c10 => ?_)
    · have hf := br_neg c10 hf
      refine lv_goto (tgt := 2434) hx hb dL_law_1401 (by decide) ?_
      cases hf
      refine W.widen (k := cN + 1100) (n := sN + 13000) (by omega) (by omega) ?_
      exact kk _ _ _ hP hD hS (lv_sub hl [2, 3, 4, 5, 6, 7] rfl)
    · have hf := br_pos c10 hf
      refine lv_aload_n hx hb dL_law_1382 rfl (lv_at hl 5 rfl) ?_
      refine lv_iconst (v := 0) hx hb dL_law_1383 (by decide) ?_
      refine va_lald (D := D) hx hb hK hP 40 5 rfl rfl (by unfold vp_in; decide) dL_law_1384 ?_
      refine lv_iload hx hb dL_law_1385 (lv_at hl 0 rfl) ?_
      refine lv_if_eq (tgt := 1394) hx hb dL_law_1387 (by decide) (fun c11 => ?_) (fun c11 => ?_)
      · have hf := br_pos c11 hf
        refine lv_lconst (v := 0) hx hb dL_law_1394 (by decide) ?_
        refine W.lcmp hx hb dL_law_1395 ?_
        refine lv_if_eq (tgt := 1401) hx hb dL_law_1396 (by decide) (fun c12 => ?_) (fun c12 => ?_)
        · have hf := br_pos c12 hf
          refine lv_goto (tgt := 2434) hx hb dL_law_1401 (by decide) ?_
          cases hf
          refine W.widen (k := cN + 1100) (n := sN + 13000) (by omega) (by omega) ?_
          exact kk _ _ _ hP hD hS (lv_sub hl [2, 3, 4, 5, 6, 7] rfl)
        · have hf := br_neg c12 hf
          refine lv_iconst (v := 0) hx hb dL_law_1399 (by decide) ?_
          cases hf
      · have hf := br_neg c11 hf
        refine lv_lconst (v := 1) hx hb dL_law_1390 (by decide) ?_
        refine lv_goto (tgt := 1395) hx hb dL_law_1391 (by decide) ?_
        refine W.lcmp hx hb dL_law_1395 ?_
        refine lv_if_eq (tgt := 1401) hx hb dL_law_1396 (by decide) (fun c13 => ?_) (fun c13 => ?_)
        · have hf := br_pos c13 hf
          refine lv_goto (tgt := 2434) hx hb dL_law_1401 (by decide) ?_
          cases hf
          refine W.widen (k := cN + 1100) (n := sN + 13000) (by omega) (by omega) ?_
          exact kk _ _ _ hP hD hS (lv_sub hl [2, 3, 4, 5, 6, 7] rfl)
        · have hf := br_neg c13 hf
          refine lv_iconst (v := 0) hx hb dL_law_1399 (by decide) ?_
          cases hf
  · have hf := br_neg c9 hf
    refine lv_iconst (v := 0) hx hb dL_law_1375 (by decide) ?_
    cases hf
def f_case21 (p1 : Int32) (p2 : Int32) (p3 : Int32) (nF : Int32) (nV : Nat → Int32) (pT : Int32) (pW : Nat → Int32) (pI : Nat → Int32) (pC : Nat → Nat → Int32) (oL : Nat → Int64) (mfiles : Int32) (mvals : Nat → Int32) (msnaps : Int32) (mkept : Nat → Int32) (mshot : Nat → Int32) (mwas : Nat → Int32) : Option ((Nat → Int64) × Int32) :=
  (f_L_readFrom p1 p2 p3 nF nV pT pW pI pC oL).bind fun (r1, oL_2) =>
  (f_M_readFrom p1 p2 p3 mfiles mvals msnaps mkept mshot mwas).bind fun (r4, mcode_5) =>
  (f_M_thrown mcode_5).bind fun r7 =>
  if r7 = r1 then
    if r1 = 0 then
      if (lg_cmp (oL_2 (0 : Int32).toNatClampNeg) ((r4).toInt64)) = 0 then
        some (oL_2, mcode_5)
      else
        none
    else
      some (oL_2, mcode_5)
  else
    none
set_option maxHeartbeats 4000000 in
set_option maxRecDepth 100000 in
theorem l_case21 {p : Program} {l : Launch} {e : Env} {s : State} {m : MethodId} {below : List Frame} {meth : Method} {c : Code} {Q : State → Prop} {D : va_G} {A : Nat → Prop} {b L : Nat} {xs : Nat → Int32} (ca : Nat → ClassId) (hst : l.stackTraces = false) (hx : p.tables.exec = Jvm.exec) (hb : c.code = code) (hml : c.maxLocals = 9) (hown : s.vm.findClass RL = some m.cls) (hts : ∀ w ∈ WW, w.before #[Value.ref b] s = true) (hE : EE D ca SL0 s) (hA : ∀ q, s.heap.size ≤ q → A q) (hZ : ZZ A s s.heap) (hNC : NCE s) (hX : va_X b L xs s s.heap) (hbl : b < s.heap.size) (hbA : ¬ A b) (ad am : Nat → Nat) (bq oa od lq : Nat) (nF : Int32) (nO : Nat → Int32) (nL : Nat → Int32) (nA : Nat → Int32) (nC : Nat → Int32) (nV : Nat → Int32) (nU : Nat → Int32) (nP : Nat → Int32) (nE : Int32) (bF : Int32) (bO : Nat → Int32) (bL : Nat → Int32) (bA : Nat → Int32) (bC : Nat → Int32) (bV : Nat → Int32) (bU : Nat → Int32) (bP : Nat → Int32) (bE : Int32) (cT : Int32) (cK : Nat → Int32) (cO : Int32) (cQ : Nat → Int32) (cD : Int32) (pT : Int32) (pK : Int32) (pR : Nat → Int32) (pW : Nat → Int32) (pU : Nat → Int32) (pI : Nat → Int32) (pC : Nat → Nat → Int32) (uO : Int32) (uF : Nat → Int32) (uE : Nat → Int32) (uN : Nat → Int32) (wK : Nat → Int32) (jM : Int32) (jN : Int32) (jZ : Nat) (jB : Nat → Int32) (oL : Nat → Int64) (oD : Nat → UInt64) (mcode : Int32) (mday : Int32) (mown : Int32) (mquot : Nat → Int32) (mprom : Nat → Int32) (mfiles : Int32) (mowner : Nat → Int32) (mlinks : Nat → Int32) (mblocks : Nat → Int32) (mvals : Nat → Int32) (msnaps : Int32) (mranks : Nat → Int32) (mkept : Nat → Int32) (mshot : Nat → Int32) (mwas : Nat → Int32) (mholds : Int32) (mheld : Nat → Int32) (mends : Nat → Int32) (mopen : Nat → Int32) (mentr : Int32) (mkinds : Nat → Int32) (misop : Int32) (mfilesT : Int32) (mentrT : Int32) (mpromT : Nat → Int32) (mlinksT : Nat → Int32) (mblocksT : Nat → Int32) (mvalsT : Nat → Int32) (R : va_W) (x5 : Int32) (hi1 : vp_in (x5 + 1) L) (hi2 : vp_in (x5 + 2) L) (hi3 : vp_in (x5 + 3) L) (cN sN : Nat) (hcN : cN + 1100 ≤ 603072) (hsN : sN + 13000 ≤ 7198826) (ooL : Nat → Int64) (omcode : Int32) (hf : f_case21 (xs (x5 + 1).toNatClampNeg) (xs (x5 + 2).toNatClampNeg) (xs (x5 + 3).toNatClampNeg) nF nV pT pW pI pC oL mfiles mvals msnaps mkept mshot mwas = some (ooL, omcode)) {H : Heap} {locs : List Loc} {ls : Array Slot} (hP : va_P D vwCl (WC ca ad bq nF nO nL nA nC nV nU nP nE bF bO bL bA bC bV bU bP bE cT cK cO cQ cD pT pK pR pW pU pI pC uO uF uE uN wK jM jN jZ jB ++ (WO ca oa od oL oD ++ (WM ca am lq mcode mday mown mquot mprom mfiles mowner mlinks mblocks mvals msnaps mranks mkept mshot mwas mholds mheld mends mopen mentr mkinds misop mfilesT mentrT mpromT mlinksT mblocksT mvalsT ++ R))) H) (hD : va_D A (WC ca ad bq nF nO nL nA nC nV nU nP nE bF bO bL bA bC bV bU bP bE cT cK cO cQ cD pT pK pR pW pU pI pC uO uF uE uN wK jM jN jZ jB ++ (WO ca oa od oL oD ++ (WM ca am lq mcode mday mown mquot mprom mfiles mowner mlinks mblocks mvals msnaps mranks mkept mshot mwas mholds mheld mends mopen mentr mkinds misop mfilesT mentrT mpromT mlinksT mblocksT mvalsT ++ R)))) (hS : va_S A s.heap H locs) (hl : lv_has ls 9 [(0, .ref b), (1, .ref (ad 0)), (2, .ref (am 0)), (3, .ref oa), (4, .ref od), (5, .int x5)]) (kk : ∀ (H : Heap) (locs : List Loc) (ls : Array Slot), va_P D vwCl (WC ca ad bq nF nO nL nA nC nV nU nP nE bF bO bL bA bC bV bU bP bE cT cK cO cQ cD pT pK pR pW pU pI pC uO uF uE uN wK jM jN jZ jB ++ (WO ca oa od ooL oD ++ (WM ca am lq omcode mday mown mquot mprom mfiles mowner mlinks mblocks mvals msnaps mranks mkept mshot mwas mholds mheld mends mopen mentr mkinds misop mfilesT mentrT mpromT mlinksT mblocksT mvalsT ++ R))) H → va_D A (WC ca ad bq nF nO nL nA nC nV nU nP nE bF bO bL bA bC bV bU bP bE cT cK cO cQ cD pT pK pR pW pU pI pC uO uF uE uN wK jM jN jZ jB ++ (WO ca oa od ooL oD ++ (WM ca am lq omcode mday mown mquot mprom mfiles mowner mlinks mblocks mvals msnaps mranks mkept mshot mwas mholds mheld mends mopen mentr mkinds misop mfilesT mentrT mpromT mlinksT mblocksT mvalsT ++ R))) → va_S A s.heap H locs → lv_has ls 9 [(0, .ref b), (1, .ref (ad 0)), (2, .ref (am 0)), (3, .ref oa), (4, .ref od), (5, .int x5)] → W p l e room_1 s m #[Value.ref b] below meth c H locs (cN + 1100) (sN + 13000) Q (F0 m 2434 ls [])) : W p l e room_1 s m #[Value.ref b] below meth c H locs cN sN Q (F0 m 1404 ls []) := by
  have hK := hE.1
  unfold f_case21 at hf
  change W p l e room_1 s m #[Value.ref b] below meth c H locs (cN + 0) (sN + 0) Q (F0 m 1404 ls [])
  refine lv_aload_n hx hb dL_law_1404 rfl (lv_at hl 1 rfl) ?_
  refine lv_aload_n hx hb dL_law_1405 rfl (lv_at hl 0 rfl) ?_
  refine lv_iload hx hb dL_law_1406 (lv_at hl 5 rfl) ?_
  refine lv_iconst (v := 1) hx hb dL_law_1408 (by decide) ?_
  refine lv_iadd hx hb dL_law_1409 ?_
  refine va_sld hx hb hX hbl hbA hS hi1 dL_law_1410 ?_
  refine lv_aload_n hx hb dL_law_1411 rfl (lv_at hl 0 rfl) ?_
  refine lv_iload hx hb dL_law_1412 (lv_at hl 5 rfl) ?_
  refine lv_iconst (v := 2) hx hb dL_law_1414 (by decide) ?_
  refine lv_iadd hx hb dL_law_1415 ?_
  refine va_sld hx hb hX hbl hbA hS hi2 dL_law_1416 ?_
  refine lv_aload_n hx hb dL_law_1417 rfl (lv_at hl 0 rfl) ?_
  refine lv_iload hx hb dL_law_1418 (lv_at hl 5 rfl) ?_
  refine lv_iconst (v := 3) hx hb dL_law_1420 (by decide) ?_
  refine lv_iadd hx hb dL_law_1421 ?_
  refine va_sld hx hb hX hbl hbA hS hi3 dL_law_1422 ?_
  refine lv_aload_n hx hb dL_law_1423 rfl (lv_at hl 3 rfl) ?_
  obtain ⟨⟨r1, oL_2⟩, h3, hf⟩ := bnd hf
  refine cl_wi (rest := []) (m_L_readFrom l hst ca ad bq oa od nF nO nL nA nC nV nU nP nE bF bO bL bA bC bV bU bP bE cT cK cO cQ cD pT pK pR pW pU pI pC uO uF uE uN wK jM jN jZ jB oL oD (WM ca am lq mcode mday mown mquot mprom mfiles mowner mlinks mblocks mvals msnaps mranks mkept mshot mwas mholds mheld mends mopen mentr mkinds misop mfilesT mentrT mpromT mlinksT mblocksT mvalsT ++ R) _ (xs (x5 + 1).toNatClampNeg) (xs (x5 + 2).toNatClampNeg) (xs (x5 + 3).toNatClampNeg) r1 oL_2 h3) ⟨hx, hb, hml, hown, hts⟩ (vx_cwSW 5 hts (gSW q827 q828 q40 q829) rfl rfl rfl (by decide +kernel) ⟨Nat.le_of_ble_eq_true rfl, Nat.le_of_ble_eq_true rfl⟩) hE hP hD hS hA hZ hNC rfl hl.1 rfl (lv_room (Nat.le_of_ble_eq_true rfl)) dL_law_1424 ⟨by show _ ≤ 603072; omega, by show _ ≤ 7198826; omega⟩ (fun H locs hP hD hS => ?_)
  refine lv_istore (lv' := [(6, .int r1), (0, .ref b), (1, .ref (ad 0)), (2, .ref (am 0)), (3, .ref oa), (4, .ref od), (5, .int x5)]) hx hb dL_law_1427 hl (by decide) rfl (fun ls hl => ?_)
  refine lv_aload_n hx hb dL_law_1429 rfl (lv_at hl 3 rfl) ?_
  refine lv_aload_n hx hb dL_law_1430 rfl (lv_at hl 1 rfl) ?_
  refine lv_iload hx hb dL_law_1431 (lv_at hl 6 rfl) ?_
  refine lv_iconst (v := 1) hx hb dL_law_1433 (by decide) ?_
  refine lv_iadd hx hb dL_law_1434 ?_
  refine va_sld hx hb hX hbl hbA hS hi1 dL_law_1435 ?_
  refine lv_aload_n hx hb dL_law_1436 rfl (lv_at hl 1 rfl) ?_
  refine lv_iload hx hb dL_law_1437 (lv_at hl 6 rfl) ?_
  refine lv_iconst (v := 2) hx hb dL_law_1439 (by decide) ?_
  refine lv_iadd hx hb dL_law_1440 ?_
  refine va_sld hx hb hX hbl hbA hS hi2 dL_law_1441 ?_
  refine lv_aload_n hx hb dL_law_1442 rfl (lv_at hl 1 rfl) ?_
  refine lv_iload hx hb dL_law_1443 (lv_at hl 6 rfl) ?_
  refine lv_iconst (v := 3) hx hb dL_law_1445 (by decide) ?_
  refine lv_iadd hx hb dL_law_1446 ?_
  refine va_sld hx hb hX hbl hbA hS hi3 dL_law_1447 ?_
  obtain ⟨⟨r4, mcode_5⟩, h6, hf⟩ := bnd hf
  refine cm_i (rest := []) (m_M_readFrom l ca am lq mcode mday mown mquot mprom mfiles mowner mlinks mblocks mvals msnaps mranks mkept mshot mwas mholds mheld mends mopen mentr mkinds misop mfilesT mentrT mpromT mlinksT mblocksT mvalsT (WC ca ad bq nF nO nL nA nC nV nU nP nE bF bO bL bA bC bV bU bP bE cT cK cO cQ cD pT pK pR pW pU pI pC uO uF uE uN wK jM jN jZ jB ++ (WO ca oa od oL_2 oD ++ R)) _ (xs (x5 + 1).toNatClampNeg) (xs (x5 + 2).toNatClampNeg) (xs (x5 + 3).toNatClampNeg) r4 mcode_5 h6) ⟨hx, hb, hml, hown, hts⟩ (cwV 3 hts (gV q1572 q1573 q1574 q50 q1575) rfl rfl rfl (by decide +kernel) ⟨Nat.le_of_ble_eq_true rfl, Nat.le_of_ble_eq_true rfl⟩) (va_recv hK hP (ci := 8) (q0 := 42) rfl rfl) hE hP hD hS hA rfl hl.1 rfl (lv_room (Nat.le_of_ble_eq_true rfl)) dL_law_1448 ⟨by show _ ≤ 603072; omega, by show _ ≤ 7198826; omega⟩ (fun H locs hP hD hS => ?_)
  refine lv_istore (lv' := [(7, .int r4), (6, .int r1), (0, .ref b), (1, .ref (ad 0)), (2, .ref (am 0)), (3, .ref oa), (4, .ref od), (5, .int x5)]) hx hb dL_law_1451 hl (by decide) rfl (fun ls hl => ?_)
  refine lv_aload_n hx hb dL_law_1453 rfl (lv_at hl 4 rfl) ?_
  obtain ⟨r7, h8, hf⟩ := bnd hf
  refine cm_i (rest := []) (m_M_thrown l ca am lq mcode_5 mday mown mquot mprom mfiles mowner mlinks mblocks mvals msnaps mranks mkept mshot mwas mholds mheld mends mopen mentr mkinds misop mfilesT mentrT mpromT mlinksT mblocksT mvalsT (WC ca ad bq nF nO nL nA nC nV nU nP nE bF bO bL bA bC bV bU bP bE cT cK cO cQ cD pT pK pR pW pU pI pC uO uF uE uN wK jM jN jZ jB ++ (WO ca oa od oL_2 oD ++ R)) _ r7 h8) ⟨hx, hb, hml, hown, hts⟩ (cwV 0 hts (gV q1417 q1418 q1419 q50 q1420) rfl rfl rfl (by decide +kernel) ⟨Nat.le_of_ble_eq_true rfl, Nat.le_of_ble_eq_true rfl⟩) (va_recv hK hP (ci := 8) (q0 := 42) rfl rfl) hE hP hD hS hA rfl hl.1 rfl (lv_room (Nat.le_of_ble_eq_true rfl)) dL_law_1454 ⟨by show _ ≤ 603072; omega, by show _ ≤ 7198826; omega⟩ (fun H locs hP hD hS => ?_)
  refine lv_iload hx hb dL_law_1457 (lv_at hl 1 rfl) ?_
  refine lv_icmp_eq (tgt := 1464) hx hb dL_law_1459 (by decide) (fun c9 => ?_) (fun c9 => ?_)
  · have hf := br_pos c9 hf
    refine lv_iload hx hb dL_law_1464 (lv_at hl 1 rfl) ?_
    refine lv_if_ne (tgt := 1481) hx hb dL_law_1466 (by decide) (fun c10 => ?_) (fun c10 => ?_)
    · have hf := br_neg c10 hf
      refine lv_goto (tgt := 2434) hx hb dL_law_1481 (by decide) ?_
      cases hf
      refine W.widen (k := cN + 1100) (n := sN + 13000) (by omega) (by omega) ?_
      exact kk _ _ _ hP hD hS (lv_sub hl [2, 3, 4, 5, 6, 7] rfl)
    · have hf := br_pos c10 hf
      refine lv_aload_n hx hb dL_law_1469 rfl (lv_at hl 5 rfl) ?_
      refine lv_iconst (v := 0) hx hb dL_law_1470 (by decide) ?_
      refine va_lald (D := D) hx hb hK hP 40 5 rfl rfl (by unfold vp_in; decide) dL_law_1471 ?_
      refine lv_iload hx hb dL_law_1472 (lv_at hl 0 rfl) ?_
      refine lv_i2l hx hb dL_law_1474 rfl ?_
      refine W.lcmp hx hb dL_law_1475 ?_
      refine lv_if_eq (tgt := 1481) hx hb dL_law_1476 (by decide) (fun c11 => ?_) (fun c11 => ?_)
      · have hf := br_pos c11 hf
        refine lv_goto (tgt := 2434) hx hb dL_law_1481 (by decide) ?_
        cases hf
        refine W.widen (k := cN + 1100) (n := sN + 13000) (by omega) (by omega) ?_
        exact kk _ _ _ hP hD hS (lv_sub hl [2, 3, 4, 5, 6, 7] rfl)
      · have hf := br_neg c11 hf
        refine lv_iconst (v := 0) hx hb dL_law_1479 (by decide) ?_
        cases hf
  · have hf := br_neg c9 hf
    refine lv_iconst (v := 0) hx hb dL_law_1462 (by decide) ?_
    cases hf
def f_case22 (p1 : Int32) (nU : Nat → Int32) (cT : Int32) (pT : Int32) (pK : Int32) (pR : Nat → Int32) (pW : Nat → Int32) (pU : Nat → Int32) (pI : Nat → Int32) (pC : Nat → Nat → Int32) (oL : Nat → Int64) (msnaps : Int32) (mranks : Nat → Int32) (mkept : Nat → Int32) (misop : Int32) : Option ((Nat → Int32) × Int32 × (Nat → Int32) × (Nat → Int32) × (Nat → Int64) × Int32 × (Nat → Int32)) :=
  (f_L_thin p1 nU cT pT pK pR pW pU pI pC oL).bind fun (r1, nU_2, pK_3, pW_4, pU_5, oL_6) =>
  (f_M_thin p1 msnaps mranks mkept misop).bind fun (r8, mcode_9, mkept_10) =>
  (f_M_thrown mcode_9).bind fun r12 =>
  if r12 = r1 then
    if r1 = 0 then
      if (lg_cmp (oL_6 (0 : Int32).toNatClampNeg) ((r8).toInt64)) = 0 then
        some (nU_2, pK_3, pW_4, pU_5, oL_6, mcode_9, mkept_10)
      else
        none
    else
      some (nU_2, pK_3, pW_4, pU_5, oL_6, mcode_9, mkept_10)
  else
    none
set_option maxHeartbeats 4000000 in
set_option maxRecDepth 100000 in
theorem l_case22 {p : Program} {l : Launch} {e : Env} {s : State} {m : MethodId} {below : List Frame} {meth : Method} {c : Code} {Q : State → Prop} {D : va_G} {A : Nat → Prop} {b L : Nat} {xs : Nat → Int32} (ca : Nat → ClassId) (hst : l.stackTraces = false) (hx : p.tables.exec = Jvm.exec) (hb : c.code = code) (hml : c.maxLocals = 9) (hown : s.vm.findClass RL = some m.cls) (hts : ∀ w ∈ WW, w.before #[Value.ref b] s = true) (hE : EE D ca SL0 s) (hA : ∀ q, s.heap.size ≤ q → A q) (hZ : ZZ A s s.heap) (hNC : NCE s) (hX : va_X b L xs s s.heap) (hbl : b < s.heap.size) (hbA : ¬ A b) (ad am : Nat → Nat) (bq oa od lq : Nat) (nF : Int32) (nO : Nat → Int32) (nL : Nat → Int32) (nA : Nat → Int32) (nC : Nat → Int32) (nV : Nat → Int32) (nU : Nat → Int32) (nP : Nat → Int32) (nE : Int32) (bF : Int32) (bO : Nat → Int32) (bL : Nat → Int32) (bA : Nat → Int32) (bC : Nat → Int32) (bV : Nat → Int32) (bU : Nat → Int32) (bP : Nat → Int32) (bE : Int32) (cT : Int32) (cK : Nat → Int32) (cO : Int32) (cQ : Nat → Int32) (cD : Int32) (pT : Int32) (pK : Int32) (pR : Nat → Int32) (pW : Nat → Int32) (pU : Nat → Int32) (pI : Nat → Int32) (pC : Nat → Nat → Int32) (uO : Int32) (uF : Nat → Int32) (uE : Nat → Int32) (uN : Nat → Int32) (wK : Nat → Int32) (jM : Int32) (jN : Int32) (jZ : Nat) (jB : Nat → Int32) (oL : Nat → Int64) (oD : Nat → UInt64) (mcode : Int32) (mday : Int32) (mown : Int32) (mquot : Nat → Int32) (mprom : Nat → Int32) (mfiles : Int32) (mowner : Nat → Int32) (mlinks : Nat → Int32) (mblocks : Nat → Int32) (mvals : Nat → Int32) (msnaps : Int32) (mranks : Nat → Int32) (mkept : Nat → Int32) (mshot : Nat → Int32) (mwas : Nat → Int32) (mholds : Int32) (mheld : Nat → Int32) (mends : Nat → Int32) (mopen : Nat → Int32) (mentr : Int32) (mkinds : Nat → Int32) (misop : Int32) (mfilesT : Int32) (mentrT : Int32) (mpromT : Nat → Int32) (mlinksT : Nat → Int32) (mblocksT : Nat → Int32) (mvalsT : Nat → Int32) (R : va_W) (x5 : Int32) (hi1 : vp_in (x5 + 1) L) (hi2 : vp_in (x5 + 2) L) (hi3 : vp_in (x5 + 3) L) (cN sN : Nat) (hcN : cN + 1100 ≤ 603072) (hsN : sN + 13000 ≤ 7198826) (onU : Nat → Int32) (opK : Int32) (opW : Nat → Int32) (opU : Nat → Int32) (ooL : Nat → Int64) (omcode : Int32) (omkept : Nat → Int32) (hf : f_case22 (xs (x5 + 1).toNatClampNeg) nU cT pT pK pR pW pU pI pC oL msnaps mranks mkept misop = some (onU, opK, opW, opU, ooL, omcode, omkept)) {H : Heap} {locs : List Loc} {ls : Array Slot} (hP : va_P D vwCl (WC ca ad bq nF nO nL nA nC nV nU nP nE bF bO bL bA bC bV bU bP bE cT cK cO cQ cD pT pK pR pW pU pI pC uO uF uE uN wK jM jN jZ jB ++ (WO ca oa od oL oD ++ (WM ca am lq mcode mday mown mquot mprom mfiles mowner mlinks mblocks mvals msnaps mranks mkept mshot mwas mholds mheld mends mopen mentr mkinds misop mfilesT mentrT mpromT mlinksT mblocksT mvalsT ++ R))) H) (hD : va_D A (WC ca ad bq nF nO nL nA nC nV nU nP nE bF bO bL bA bC bV bU bP bE cT cK cO cQ cD pT pK pR pW pU pI pC uO uF uE uN wK jM jN jZ jB ++ (WO ca oa od oL oD ++ (WM ca am lq mcode mday mown mquot mprom mfiles mowner mlinks mblocks mvals msnaps mranks mkept mshot mwas mholds mheld mends mopen mentr mkinds misop mfilesT mentrT mpromT mlinksT mblocksT mvalsT ++ R)))) (hS : va_S A s.heap H locs) (hl : lv_has ls 9 [(0, .ref b), (1, .ref (ad 0)), (2, .ref (am 0)), (3, .ref oa), (4, .ref od), (5, .int x5)]) (kk : ∀ (H : Heap) (locs : List Loc) (ls : Array Slot), va_P D vwCl (WC ca ad bq nF nO nL nA nC nV onU nP nE bF bO bL bA bC bV bU bP bE cT cK cO cQ cD pT opK pR opW opU pI pC uO uF uE uN wK jM jN jZ jB ++ (WO ca oa od ooL oD ++ (WM ca am lq omcode mday mown mquot mprom mfiles mowner mlinks mblocks mvals msnaps mranks omkept mshot mwas mholds mheld mends mopen mentr mkinds misop mfilesT mentrT mpromT mlinksT mblocksT mvalsT ++ R))) H → va_D A (WC ca ad bq nF nO nL nA nC nV onU nP nE bF bO bL bA bC bV bU bP bE cT cK cO cQ cD pT opK pR opW opU pI pC uO uF uE uN wK jM jN jZ jB ++ (WO ca oa od ooL oD ++ (WM ca am lq omcode mday mown mquot mprom mfiles mowner mlinks mblocks mvals msnaps mranks omkept mshot mwas mholds mheld mends mopen mentr mkinds misop mfilesT mentrT mpromT mlinksT mblocksT mvalsT ++ R))) → va_S A s.heap H locs → lv_has ls 9 [(0, .ref b), (1, .ref (ad 0)), (2, .ref (am 0)), (3, .ref oa), (4, .ref od), (5, .int x5)] → W p l e room_1 s m #[Value.ref b] below meth c H locs (cN + 1100) (sN + 13000) Q (F0 m 2434 ls [])) : W p l e room_1 s m #[Value.ref b] below meth c H locs cN sN Q (F0 m 1484 ls []) := by
  have hK := hE.1
  unfold f_case22 at hf
  change W p l e room_1 s m #[Value.ref b] below meth c H locs (cN + 0) (sN + 0) Q (F0 m 1484 ls [])
  refine lv_aload_n hx hb dL_law_1484 rfl (lv_at hl 1 rfl) ?_
  refine lv_aload_n hx hb dL_law_1485 rfl (lv_at hl 0 rfl) ?_
  refine lv_iload hx hb dL_law_1486 (lv_at hl 5 rfl) ?_
  refine lv_iconst (v := 1) hx hb dL_law_1488 (by decide) ?_
  refine lv_iadd hx hb dL_law_1489 ?_
  refine va_sld hx hb hX hbl hbA hS hi1 dL_law_1490 ?_
  refine lv_aload_n hx hb dL_law_1491 rfl (lv_at hl 3 rfl) ?_
  obtain ⟨⟨r1, nU_2, pK_3, pW_4, pU_5, oL_6⟩, h7, hf⟩ := bnd hf
  refine cl_wi (rest := []) (m_L_thin l hst ca ad bq oa od nF nO nL nA nC nV nU nP nE bF bO bL bA bC bV bU bP bE cT cK cO cQ cD pT pK pR pW pU pI pC uO uF uE uN wK jM jN jZ jB oL oD (WM ca am lq mcode mday mown mquot mprom mfiles mowner mlinks mblocks mvals msnaps mranks mkept mshot mwas mholds mheld mends mopen mentr mkinds misop mfilesT mentrT mpromT mlinksT mblocksT mvalsT ++ R) _ (xs (x5 + 1).toNatClampNeg) r1 nU_2 pK_3 pW_4 pU_5 oL_6 h7) ⟨hx, hb, hml, hown, hts⟩ (vx_cwSW 3 hts (gSW q850 q851 q40 q852) rfl rfl rfl (by decide +kernel) ⟨Nat.le_of_ble_eq_true rfl, Nat.le_of_ble_eq_true rfl⟩) hE hP hD hS hA hZ hNC rfl hl.1 rfl (lv_room (Nat.le_of_ble_eq_true rfl)) dL_law_1492 ⟨by show _ ≤ 603072; omega, by show _ ≤ 7198826; omega⟩ (fun H locs hP hD hS => ?_)
  refine lv_istore (lv' := [(6, .int r1), (0, .ref b), (1, .ref (ad 0)), (2, .ref (am 0)), (3, .ref oa), (4, .ref od), (5, .int x5)]) hx hb dL_law_1495 hl (by decide) rfl (fun ls hl => ?_)
  refine lv_aload_n hx hb dL_law_1497 rfl (lv_at hl 3 rfl) ?_
  refine lv_aload_n hx hb dL_law_1498 rfl (lv_at hl 1 rfl) ?_
  refine lv_iload hx hb dL_law_1499 (lv_at hl 6 rfl) ?_
  refine lv_iconst (v := 1) hx hb dL_law_1501 (by decide) ?_
  refine lv_iadd hx hb dL_law_1502 ?_
  refine va_sld hx hb hX hbl hbA hS hi1 dL_law_1503 ?_
  obtain ⟨⟨r8, mcode_9, mkept_10⟩, h11, hf⟩ := bnd hf
  refine cm_i (rest := []) (m_M_thin l ca am lq mcode mday mown mquot mprom mfiles mowner mlinks mblocks mvals msnaps mranks mkept mshot mwas mholds mheld mends mopen mentr mkinds misop mfilesT mentrT mpromT mlinksT mblocksT mvalsT (WC ca ad bq nF nO nL nA nC nV nU_2 nP nE bF bO bL bA bC bV bU bP bE cT cK cO cQ cD pT pK_3 pR pW_4 pU_5 pI pC uO uF uE uN wK jM jN jZ jB ++ (WO ca oa od oL_6 oD ++ R)) _ (xs (x5 + 1).toNatClampNeg) r8 mcode_9 mkept_10 h11) ⟨hx, hb, hml, hown, hts⟩ (cwV 1 hts (gV q1576 q1577 q1578 q50 q1579) rfl rfl rfl (by decide +kernel) ⟨Nat.le_of_ble_eq_true rfl, Nat.le_of_ble_eq_true rfl⟩) (va_recv hK hP (ci := 8) (q0 := 42) rfl rfl) hE hP hD hS hA rfl hl.1 rfl (lv_room (Nat.le_of_ble_eq_true rfl)) dL_law_1504 ⟨by show _ ≤ 603072; omega, by show _ ≤ 7198826; omega⟩ (fun H locs hP hD hS => ?_)
  refine lv_istore (lv' := [(7, .int r8), (6, .int r1), (0, .ref b), (1, .ref (ad 0)), (2, .ref (am 0)), (3, .ref oa), (4, .ref od), (5, .int x5)]) hx hb dL_law_1507 hl (by decide) rfl (fun ls hl => ?_)
  refine lv_aload_n hx hb dL_law_1509 rfl (lv_at hl 4 rfl) ?_
  obtain ⟨r12, h13, hf⟩ := bnd hf
  refine cm_i (rest := []) (m_M_thrown l ca am lq mcode_9 mday mown mquot mprom mfiles mowner mlinks mblocks mvals msnaps mranks mkept_10 mshot mwas mholds mheld mends mopen mentr mkinds misop mfilesT mentrT mpromT mlinksT mblocksT mvalsT (WC ca ad bq nF nO nL nA nC nV nU_2 nP nE bF bO bL bA bC bV bU bP bE cT cK cO cQ cD pT pK_3 pR pW_4 pU_5 pI pC uO uF uE uN wK jM jN jZ jB ++ (WO ca oa od oL_6 oD ++ R)) _ r12 h13) ⟨hx, hb, hml, hown, hts⟩ (cwV 0 hts (gV q1417 q1418 q1419 q50 q1420) rfl rfl rfl (by decide +kernel) ⟨Nat.le_of_ble_eq_true rfl, Nat.le_of_ble_eq_true rfl⟩) (va_recv hK hP (ci := 8) (q0 := 42) rfl rfl) hE hP hD hS hA rfl hl.1 rfl (lv_room (Nat.le_of_ble_eq_true rfl)) dL_law_1510 ⟨by show _ ≤ 603072; omega, by show _ ≤ 7198826; omega⟩ (fun H locs hP hD hS => ?_)
  refine lv_iload hx hb dL_law_1513 (lv_at hl 1 rfl) ?_
  refine lv_icmp_eq (tgt := 1520) hx hb dL_law_1515 (by decide) (fun c14 => ?_) (fun c14 => ?_)
  · have hf := br_pos c14 hf
    refine lv_iload hx hb dL_law_1520 (lv_at hl 1 rfl) ?_
    refine lv_if_ne (tgt := 1537) hx hb dL_law_1522 (by decide) (fun c15 => ?_) (fun c15 => ?_)
    · have hf := br_neg c15 hf
      refine lv_goto (tgt := 2434) hx hb dL_law_1537 (by decide) ?_
      cases hf
      refine W.widen (k := cN + 1100) (n := sN + 13000) (by omega) (by omega) ?_
      exact kk _ _ _ hP hD hS (lv_sub hl [2, 3, 4, 5, 6, 7] rfl)
    · have hf := br_pos c15 hf
      refine lv_aload_n hx hb dL_law_1525 rfl (lv_at hl 5 rfl) ?_
      refine lv_iconst (v := 0) hx hb dL_law_1526 (by decide) ?_
      refine va_lald (D := D) hx hb hK hP 40 5 rfl rfl (by unfold vp_in; decide) dL_law_1527 ?_
      refine lv_iload hx hb dL_law_1528 (lv_at hl 0 rfl) ?_
      refine lv_i2l hx hb dL_law_1530 rfl ?_
      refine W.lcmp hx hb dL_law_1531 ?_
      refine lv_if_eq (tgt := 1537) hx hb dL_law_1532 (by decide) (fun c16 => ?_) (fun c16 => ?_)
      · have hf := br_pos c16 hf
        refine lv_goto (tgt := 2434) hx hb dL_law_1537 (by decide) ?_
        cases hf
        refine W.widen (k := cN + 1100) (n := sN + 13000) (by omega) (by omega) ?_
        exact kk _ _ _ hP hD hS (lv_sub hl [2, 3, 4, 5, 6, 7] rfl)
      · have hf := br_neg c16 hf
        refine lv_iconst (v := 0) hx hb dL_law_1535 (by decide) ?_
        cases hf
  · have hf := br_neg c14 hf
    refine lv_iconst (v := 0) hx hb dL_law_1518 (by decide) ?_
    cases hf
def f_case23 (pR : Nat → Int32) (pW : Nat → Int32) (oL : Nat → Int64) (msnaps : Int32) (mranks : Nat → Int32) (mkept : Nat → Int32) : Option ((Nat → Int64) × Int32) :=
  (f_L_nextToDrop pR pW oL).bind fun (r1, oL_2) =>
  (f_M_nextToDrop msnaps mranks mkept).bind fun (r4, mcode_5) =>
  (f_M_thrown mcode_5).bind fun r7 =>
  if r7 = r1 then
    if r1 = 0 then
      if (lg_cmp (oL_2 (0 : Int32).toNatClampNeg) ((r4).toInt64)) = 0 then
        some (oL_2, mcode_5)
      else
        none
    else
      some (oL_2, mcode_5)
  else
    none
set_option maxHeartbeats 4000000 in
set_option maxRecDepth 100000 in
theorem l_case23 {p : Program} {l : Launch} {e : Env} {s : State} {m : MethodId} {below : List Frame} {meth : Method} {c : Code} {Q : State → Prop} {D : va_G} {A : Nat → Prop} {b L : Nat} {xs : Nat → Int32} (ca : Nat → ClassId) (hst : l.stackTraces = false) (hx : p.tables.exec = Jvm.exec) (hb : c.code = code) (hml : c.maxLocals = 9) (hown : s.vm.findClass RL = some m.cls) (hts : ∀ w ∈ WW, w.before #[Value.ref b] s = true) (hE : EE D ca SL0 s) (hA : ∀ q, s.heap.size ≤ q → A q) (hZ : ZZ A s s.heap) (hNC : NCE s) (hX : va_X b L xs s s.heap) (hbl : b < s.heap.size) (hbA : ¬ A b) (ad am : Nat → Nat) (bq oa od lq : Nat) (nF : Int32) (nO : Nat → Int32) (nL : Nat → Int32) (nA : Nat → Int32) (nC : Nat → Int32) (nV : Nat → Int32) (nU : Nat → Int32) (nP : Nat → Int32) (nE : Int32) (bF : Int32) (bO : Nat → Int32) (bL : Nat → Int32) (bA : Nat → Int32) (bC : Nat → Int32) (bV : Nat → Int32) (bU : Nat → Int32) (bP : Nat → Int32) (bE : Int32) (cT : Int32) (cK : Nat → Int32) (cO : Int32) (cQ : Nat → Int32) (cD : Int32) (pT : Int32) (pK : Int32) (pR : Nat → Int32) (pW : Nat → Int32) (pU : Nat → Int32) (pI : Nat → Int32) (pC : Nat → Nat → Int32) (uO : Int32) (uF : Nat → Int32) (uE : Nat → Int32) (uN : Nat → Int32) (wK : Nat → Int32) (jM : Int32) (jN : Int32) (jZ : Nat) (jB : Nat → Int32) (oL : Nat → Int64) (oD : Nat → UInt64) (mcode : Int32) (mday : Int32) (mown : Int32) (mquot : Nat → Int32) (mprom : Nat → Int32) (mfiles : Int32) (mowner : Nat → Int32) (mlinks : Nat → Int32) (mblocks : Nat → Int32) (mvals : Nat → Int32) (msnaps : Int32) (mranks : Nat → Int32) (mkept : Nat → Int32) (mshot : Nat → Int32) (mwas : Nat → Int32) (mholds : Int32) (mheld : Nat → Int32) (mends : Nat → Int32) (mopen : Nat → Int32) (mentr : Int32) (mkinds : Nat → Int32) (misop : Int32) (mfilesT : Int32) (mentrT : Int32) (mpromT : Nat → Int32) (mlinksT : Nat → Int32) (mblocksT : Nat → Int32) (mvalsT : Nat → Int32) (R : va_W) (x5 : Int32) (hi1 : vp_in (x5 + 1) L) (hi2 : vp_in (x5 + 2) L) (hi3 : vp_in (x5 + 3) L) (cN sN : Nat) (hcN : cN + 1100 ≤ 603072) (hsN : sN + 13000 ≤ 7198826) (ooL : Nat → Int64) (omcode : Int32) (hf : f_case23 pR pW oL msnaps mranks mkept = some (ooL, omcode)) {H : Heap} {locs : List Loc} {ls : Array Slot} (hP : va_P D vwCl (WC ca ad bq nF nO nL nA nC nV nU nP nE bF bO bL bA bC bV bU bP bE cT cK cO cQ cD pT pK pR pW pU pI pC uO uF uE uN wK jM jN jZ jB ++ (WO ca oa od oL oD ++ (WM ca am lq mcode mday mown mquot mprom mfiles mowner mlinks mblocks mvals msnaps mranks mkept mshot mwas mholds mheld mends mopen mentr mkinds misop mfilesT mentrT mpromT mlinksT mblocksT mvalsT ++ R))) H) (hD : va_D A (WC ca ad bq nF nO nL nA nC nV nU nP nE bF bO bL bA bC bV bU bP bE cT cK cO cQ cD pT pK pR pW pU pI pC uO uF uE uN wK jM jN jZ jB ++ (WO ca oa od oL oD ++ (WM ca am lq mcode mday mown mquot mprom mfiles mowner mlinks mblocks mvals msnaps mranks mkept mshot mwas mholds mheld mends mopen mentr mkinds misop mfilesT mentrT mpromT mlinksT mblocksT mvalsT ++ R)))) (hS : va_S A s.heap H locs) (hl : lv_has ls 9 [(0, .ref b), (1, .ref (ad 0)), (2, .ref (am 0)), (3, .ref oa), (4, .ref od), (5, .int x5)]) (kk : ∀ (H : Heap) (locs : List Loc) (ls : Array Slot), va_P D vwCl (WC ca ad bq nF nO nL nA nC nV nU nP nE bF bO bL bA bC bV bU bP bE cT cK cO cQ cD pT pK pR pW pU pI pC uO uF uE uN wK jM jN jZ jB ++ (WO ca oa od ooL oD ++ (WM ca am lq omcode mday mown mquot mprom mfiles mowner mlinks mblocks mvals msnaps mranks mkept mshot mwas mholds mheld mends mopen mentr mkinds misop mfilesT mentrT mpromT mlinksT mblocksT mvalsT ++ R))) H → va_D A (WC ca ad bq nF nO nL nA nC nV nU nP nE bF bO bL bA bC bV bU bP bE cT cK cO cQ cD pT pK pR pW pU pI pC uO uF uE uN wK jM jN jZ jB ++ (WO ca oa od ooL oD ++ (WM ca am lq omcode mday mown mquot mprom mfiles mowner mlinks mblocks mvals msnaps mranks mkept mshot mwas mholds mheld mends mopen mentr mkinds misop mfilesT mentrT mpromT mlinksT mblocksT mvalsT ++ R))) → va_S A s.heap H locs → lv_has ls 9 [(0, .ref b), (1, .ref (ad 0)), (2, .ref (am 0)), (3, .ref oa), (4, .ref od), (5, .int x5)] → W p l e room_1 s m #[Value.ref b] below meth c H locs (cN + 1100) (sN + 13000) Q (F0 m 2434 ls [])) : W p l e room_1 s m #[Value.ref b] below meth c H locs cN sN Q (F0 m 1540 ls []) := by
  have hK := hE.1
  unfold f_case23 at hf
  change W p l e room_1 s m #[Value.ref b] below meth c H locs (cN + 0) (sN + 0) Q (F0 m 1540 ls [])
  refine lv_aload_n hx hb dL_law_1540 rfl (lv_at hl 1 rfl) ?_
  refine lv_aload_n hx hb dL_law_1541 rfl (lv_at hl 3 rfl) ?_
  obtain ⟨⟨r1, oL_2⟩, h3, hf⟩ := bnd hf
  refine cl_wi (rest := []) (m_L_nextToDrop l hst ca ad bq oa od nF nO nL nA nC nV nU nP nE bF bO bL bA bC bV bU bP bE cT cK cO cQ cD pT pK pR pW pU pI pC uO uF uE uN wK jM jN jZ jB oL oD (WM ca am lq mcode mday mown mquot mprom mfiles mowner mlinks mblocks mvals msnaps mranks mkept mshot mwas mholds mheld mends mopen mentr mkinds misop mfilesT mentrT mpromT mlinksT mblocksT mvalsT ++ R) _ r1 oL_2 h3) ⟨hx, hb, hml, hown, hts⟩ (vx_cwSW 2 hts (gSW q867 q868 q40 q869) rfl rfl rfl (by decide +kernel) ⟨Nat.le_of_ble_eq_true rfl, Nat.le_of_ble_eq_true rfl⟩) hE hP hD hS hA hZ hNC rfl hl.1 rfl (lv_room (Nat.le_of_ble_eq_true rfl)) dL_law_1542 ⟨by show _ ≤ 603072; omega, by show _ ≤ 7198826; omega⟩ (fun H locs hP hD hS => ?_)
  refine lv_istore (lv' := [(6, .int r1), (0, .ref b), (1, .ref (ad 0)), (2, .ref (am 0)), (3, .ref oa), (4, .ref od), (5, .int x5)]) hx hb dL_law_1545 hl (by decide) rfl (fun ls hl => ?_)
  refine lv_aload_n hx hb dL_law_1547 rfl (lv_at hl 3 rfl) ?_
  obtain ⟨⟨r4, mcode_5⟩, h6, hf⟩ := bnd hf
  refine cm_i (rest := []) (m_M_nextToDrop l ca am lq mcode mday mown mquot mprom mfiles mowner mlinks mblocks mvals msnaps mranks mkept mshot mwas mholds mheld mends mopen mentr mkinds misop mfilesT mentrT mpromT mlinksT mblocksT mvalsT (WC ca ad bq nF nO nL nA nC nV nU nP nE bF bO bL bA bC bV bU bP bE cT cK cO cQ cD pT pK pR pW pU pI pC uO uF uE uN wK jM jN jZ jB ++ (WO ca oa od oL_2 oD ++ R)) _ r4 mcode_5 h6) ⟨hx, hb, hml, hown, hts⟩ (cwV 0 hts (gV q1584 q1585 q1586 q50 q1587) rfl rfl rfl (by decide +kernel) ⟨Nat.le_of_ble_eq_true rfl, Nat.le_of_ble_eq_true rfl⟩) (va_recv hK hP (ci := 8) (q0 := 42) rfl rfl) hE hP hD hS hA rfl hl.1 rfl (lv_room (Nat.le_of_ble_eq_true rfl)) dL_law_1548 ⟨by show _ ≤ 603072; omega, by show _ ≤ 7198826; omega⟩ (fun H locs hP hD hS => ?_)
  refine lv_istore (lv' := [(7, .int r4), (6, .int r1), (0, .ref b), (1, .ref (ad 0)), (2, .ref (am 0)), (3, .ref oa), (4, .ref od), (5, .int x5)]) hx hb dL_law_1551 hl (by decide) rfl (fun ls hl => ?_)
  refine lv_aload_n hx hb dL_law_1553 rfl (lv_at hl 4 rfl) ?_
  obtain ⟨r7, h8, hf⟩ := bnd hf
  refine cm_i (rest := []) (m_M_thrown l ca am lq mcode_5 mday mown mquot mprom mfiles mowner mlinks mblocks mvals msnaps mranks mkept mshot mwas mholds mheld mends mopen mentr mkinds misop mfilesT mentrT mpromT mlinksT mblocksT mvalsT (WC ca ad bq nF nO nL nA nC nV nU nP nE bF bO bL bA bC bV bU bP bE cT cK cO cQ cD pT pK pR pW pU pI pC uO uF uE uN wK jM jN jZ jB ++ (WO ca oa od oL_2 oD ++ R)) _ r7 h8) ⟨hx, hb, hml, hown, hts⟩ (cwV 0 hts (gV q1417 q1418 q1419 q50 q1420) rfl rfl rfl (by decide +kernel) ⟨Nat.le_of_ble_eq_true rfl, Nat.le_of_ble_eq_true rfl⟩) (va_recv hK hP (ci := 8) (q0 := 42) rfl rfl) hE hP hD hS hA rfl hl.1 rfl (lv_room (Nat.le_of_ble_eq_true rfl)) dL_law_1554 ⟨by show _ ≤ 603072; omega, by show _ ≤ 7198826; omega⟩ (fun H locs hP hD hS => ?_)
  refine lv_iload hx hb dL_law_1557 (lv_at hl 1 rfl) ?_
  refine lv_icmp_eq (tgt := 1564) hx hb dL_law_1559 (by decide) (fun c9 => ?_) (fun c9 => ?_)
  · have hf := br_pos c9 hf
    refine lv_iload hx hb dL_law_1564 (lv_at hl 1 rfl) ?_
    refine lv_if_ne (tgt := 1581) hx hb dL_law_1566 (by decide) (fun c10 => ?_) (fun c10 => ?_)
    · have hf := br_neg c10 hf
      refine lv_goto (tgt := 2434) hx hb dL_law_1581 (by decide) ?_
      cases hf
      refine W.widen (k := cN + 1100) (n := sN + 13000) (by omega) (by omega) ?_
      exact kk _ _ _ hP hD hS (lv_sub hl [2, 3, 4, 5, 6, 7] rfl)
    · have hf := br_pos c10 hf
      refine lv_aload_n hx hb dL_law_1569 rfl (lv_at hl 5 rfl) ?_
      refine lv_iconst (v := 0) hx hb dL_law_1570 (by decide) ?_
      refine va_lald (D := D) hx hb hK hP 40 5 rfl rfl (by unfold vp_in; decide) dL_law_1571 ?_
      refine lv_iload hx hb dL_law_1572 (lv_at hl 0 rfl) ?_
      refine lv_i2l hx hb dL_law_1574 rfl ?_
      refine W.lcmp hx hb dL_law_1575 ?_
      refine lv_if_eq (tgt := 1581) hx hb dL_law_1576 (by decide) (fun c11 => ?_) (fun c11 => ?_)
      · have hf := br_pos c11 hf
        refine lv_goto (tgt := 2434) hx hb dL_law_1581 (by decide) ?_
        cases hf
        refine W.widen (k := cN + 1100) (n := sN + 13000) (by omega) (by omega) ?_
        exact kk _ _ _ hP hD hS (lv_sub hl [2, 3, 4, 5, 6, 7] rfl)
      · have hf := br_neg c11 hf
        refine lv_iconst (v := 0) hx hb dL_law_1579 (by decide) ?_
        cases hf
  · have hf := br_neg c9 hf
    refine lv_iconst (v := 0) hx hb dL_law_1562 (by decide) ?_
    cases hf
def f_case24 (p1 : Int32) (p2 : Int32) (nF : Int32) (nO : Nat → Int32) (nL : Nat → Int32) (nC : Nat → Int32) (nU : Nat → Int32) (cT : Int32) (cO : Int32) (cQ : Nat → Int32) (pT : Int32) (pW : Nat → Int32) (pI : Nat → Int32) (pC : Nat → Nat → Int32) (oL : Nat → Int64) (mquot : Nat → Int32) (mfiles : Int32) (mowner : Nat → Int32) (mlinks : Nat → Int32) (mblocks : Nat → Int32) (msnaps : Int32) (mkept : Nat → Int32) (mshot : Nat → Int32) (mwas : Nat → Int32) (misop : Int32) (mblocksT : Nat → Int32) : Option ((Nat → Int32) × (Nat → Int32) × (Nat → Int64) × Int32 × (Nat → Int32) × (Nat → Int32)) :=
  (f_L_restore p1 p2 nF nO nL nC nU cT cO cQ pT pW pI pC oL).bind fun (r1, nC_2, nU_3, oL_4) =>
  (f_M_restore p1 p2 mquot mfiles mowner mlinks mblocks msnaps mkept mshot mwas misop mblocksT).bind fun (r6, mcode_7, mblocks_8, mblocksT_9) =>
  (f_M_thrown mcode_7).bind fun r11 =>
  if r11 = r1 then
    if r1 = 0 then
      if (lg_cmp (oL_4 (0 : Int32).toNatClampNeg) ((r6).toInt64)) = 0 then
        some (nC_2, nU_3, oL_4, mcode_7, mblocks_8, mblocksT_9)
      else
        none
    else
      some (nC_2, nU_3, oL_4, mcode_7, mblocks_8, mblocksT_9)
  else
    none
set_option maxHeartbeats 4000000 in
set_option maxRecDepth 100000 in
theorem l_case24 {p : Program} {l : Launch} {e : Env} {s : State} {m : MethodId} {below : List Frame} {meth : Method} {c : Code} {Q : State → Prop} {D : va_G} {A : Nat → Prop} {b L : Nat} {xs : Nat → Int32} (ca : Nat → ClassId) (hst : l.stackTraces = false) (hx : p.tables.exec = Jvm.exec) (hb : c.code = code) (hml : c.maxLocals = 9) (hown : s.vm.findClass RL = some m.cls) (hts : ∀ w ∈ WW, w.before #[Value.ref b] s = true) (hE : EE D ca SL0 s) (hA : ∀ q, s.heap.size ≤ q → A q) (hZ : ZZ A s s.heap) (hNC : NCE s) (hX : va_X b L xs s s.heap) (hbl : b < s.heap.size) (hbA : ¬ A b) (ad am : Nat → Nat) (bq oa od lq : Nat) (nF : Int32) (nO : Nat → Int32) (nL : Nat → Int32) (nA : Nat → Int32) (nC : Nat → Int32) (nV : Nat → Int32) (nU : Nat → Int32) (nP : Nat → Int32) (nE : Int32) (bF : Int32) (bO : Nat → Int32) (bL : Nat → Int32) (bA : Nat → Int32) (bC : Nat → Int32) (bV : Nat → Int32) (bU : Nat → Int32) (bP : Nat → Int32) (bE : Int32) (cT : Int32) (cK : Nat → Int32) (cO : Int32) (cQ : Nat → Int32) (cD : Int32) (pT : Int32) (pK : Int32) (pR : Nat → Int32) (pW : Nat → Int32) (pU : Nat → Int32) (pI : Nat → Int32) (pC : Nat → Nat → Int32) (uO : Int32) (uF : Nat → Int32) (uE : Nat → Int32) (uN : Nat → Int32) (wK : Nat → Int32) (jM : Int32) (jN : Int32) (jZ : Nat) (jB : Nat → Int32) (oL : Nat → Int64) (oD : Nat → UInt64) (mcode : Int32) (mday : Int32) (mown : Int32) (mquot : Nat → Int32) (mprom : Nat → Int32) (mfiles : Int32) (mowner : Nat → Int32) (mlinks : Nat → Int32) (mblocks : Nat → Int32) (mvals : Nat → Int32) (msnaps : Int32) (mranks : Nat → Int32) (mkept : Nat → Int32) (mshot : Nat → Int32) (mwas : Nat → Int32) (mholds : Int32) (mheld : Nat → Int32) (mends : Nat → Int32) (mopen : Nat → Int32) (mentr : Int32) (mkinds : Nat → Int32) (misop : Int32) (mfilesT : Int32) (mentrT : Int32) (mpromT : Nat → Int32) (mlinksT : Nat → Int32) (mblocksT : Nat → Int32) (mvalsT : Nat → Int32) (R : va_W) (x5 : Int32) (hi1 : vp_in (x5 + 1) L) (hi2 : vp_in (x5 + 2) L) (hi3 : vp_in (x5 + 3) L) (cN sN : Nat) (hcN : cN + 1100 ≤ 603072) (hsN : sN + 13000 ≤ 7198826) (onC : Nat → Int32) (onU : Nat → Int32) (ooL : Nat → Int64) (omcode : Int32) (omblocks : Nat → Int32) (omblocksT : Nat → Int32) (hf : f_case24 (xs (x5 + 1).toNatClampNeg) (xs (x5 + 2).toNatClampNeg) nF nO nL nC nU cT cO cQ pT pW pI pC oL mquot mfiles mowner mlinks mblocks msnaps mkept mshot mwas misop mblocksT = some (onC, onU, ooL, omcode, omblocks, omblocksT)) {H : Heap} {locs : List Loc} {ls : Array Slot} (hP : va_P D vwCl (WC ca ad bq nF nO nL nA nC nV nU nP nE bF bO bL bA bC bV bU bP bE cT cK cO cQ cD pT pK pR pW pU pI pC uO uF uE uN wK jM jN jZ jB ++ (WO ca oa od oL oD ++ (WM ca am lq mcode mday mown mquot mprom mfiles mowner mlinks mblocks mvals msnaps mranks mkept mshot mwas mholds mheld mends mopen mentr mkinds misop mfilesT mentrT mpromT mlinksT mblocksT mvalsT ++ R))) H) (hD : va_D A (WC ca ad bq nF nO nL nA nC nV nU nP nE bF bO bL bA bC bV bU bP bE cT cK cO cQ cD pT pK pR pW pU pI pC uO uF uE uN wK jM jN jZ jB ++ (WO ca oa od oL oD ++ (WM ca am lq mcode mday mown mquot mprom mfiles mowner mlinks mblocks mvals msnaps mranks mkept mshot mwas mholds mheld mends mopen mentr mkinds misop mfilesT mentrT mpromT mlinksT mblocksT mvalsT ++ R)))) (hS : va_S A s.heap H locs) (hl : lv_has ls 9 [(0, .ref b), (1, .ref (ad 0)), (2, .ref (am 0)), (3, .ref oa), (4, .ref od), (5, .int x5)]) (kk : ∀ (H : Heap) (locs : List Loc) (ls : Array Slot), va_P D vwCl (WC ca ad bq nF nO nL nA onC nV onU nP nE bF bO bL bA bC bV bU bP bE cT cK cO cQ cD pT pK pR pW pU pI pC uO uF uE uN wK jM jN jZ jB ++ (WO ca oa od ooL oD ++ (WM ca am lq omcode mday mown mquot mprom mfiles mowner mlinks omblocks mvals msnaps mranks mkept mshot mwas mholds mheld mends mopen mentr mkinds misop mfilesT mentrT mpromT mlinksT omblocksT mvalsT ++ R))) H → va_D A (WC ca ad bq nF nO nL nA onC nV onU nP nE bF bO bL bA bC bV bU bP bE cT cK cO cQ cD pT pK pR pW pU pI pC uO uF uE uN wK jM jN jZ jB ++ (WO ca oa od ooL oD ++ (WM ca am lq omcode mday mown mquot mprom mfiles mowner mlinks omblocks mvals msnaps mranks mkept mshot mwas mholds mheld mends mopen mentr mkinds misop mfilesT mentrT mpromT mlinksT omblocksT mvalsT ++ R))) → va_S A s.heap H locs → lv_has ls 9 [(0, .ref b), (1, .ref (ad 0)), (2, .ref (am 0)), (3, .ref oa), (4, .ref od), (5, .int x5)] → W p l e room_1 s m #[Value.ref b] below meth c H locs (cN + 1100) (sN + 13000) Q (F0 m 2434 ls [])) : W p l e room_1 s m #[Value.ref b] below meth c H locs cN sN Q (F0 m 1584 ls []) := by
  have hK := hE.1
  unfold f_case24 at hf
  change W p l e room_1 s m #[Value.ref b] below meth c H locs (cN + 0) (sN + 0) Q (F0 m 1584 ls [])
  refine lv_aload_n hx hb dL_law_1584 rfl (lv_at hl 1 rfl) ?_
  refine lv_aload_n hx hb dL_law_1585 rfl (lv_at hl 0 rfl) ?_
  refine lv_iload hx hb dL_law_1586 (lv_at hl 5 rfl) ?_
  refine lv_iconst (v := 1) hx hb dL_law_1588 (by decide) ?_
  refine lv_iadd hx hb dL_law_1589 ?_
  refine va_sld hx hb hX hbl hbA hS hi1 dL_law_1590 ?_
  refine lv_aload_n hx hb dL_law_1591 rfl (lv_at hl 0 rfl) ?_
  refine lv_iload hx hb dL_law_1592 (lv_at hl 5 rfl) ?_
  refine lv_iconst (v := 2) hx hb dL_law_1594 (by decide) ?_
  refine lv_iadd hx hb dL_law_1595 ?_
  refine va_sld hx hb hX hbl hbA hS hi2 dL_law_1596 ?_
  refine lv_aload_n hx hb dL_law_1597 rfl (lv_at hl 3 rfl) ?_
  obtain ⟨⟨r1, nC_2, nU_3, oL_4⟩, h5, hf⟩ := bnd hf
  refine cl_wi (rest := []) (m_L_restore l hst ca ad bq oa od nF nO nL nA nC nV nU nP nE bF bO bL bA bC bV bU bP bE cT cK cO cQ cD pT pK pR pW pU pI pC uO uF uE uN wK jM jN jZ jB oL oD (WM ca am lq mcode mday mown mquot mprom mfiles mowner mlinks mblocks mvals msnaps mranks mkept mshot mwas mholds mheld mends mopen mentr mkinds misop mfilesT mentrT mpromT mlinksT mblocksT mvalsT ++ R) _ (xs (x5 + 1).toNatClampNeg) (xs (x5 + 2).toNatClampNeg) r1 nC_2 nU_3 oL_4 h5) ⟨hx, hb, hml, hown, hts⟩ (vx_cwSW 4 hts (gSW q875 q876 q40 q877) rfl rfl rfl (by decide +kernel) ⟨Nat.le_of_ble_eq_true rfl, Nat.le_of_ble_eq_true rfl⟩) hE hP hD hS hA hZ hNC rfl hl.1 rfl (lv_room (Nat.le_of_ble_eq_true rfl)) dL_law_1598 ⟨by show _ ≤ 603072; omega, by show _ ≤ 7198826; omega⟩ (fun H locs hP hD hS => ?_)
  refine lv_istore (lv' := [(6, .int r1), (0, .ref b), (1, .ref (ad 0)), (2, .ref (am 0)), (3, .ref oa), (4, .ref od), (5, .int x5)]) hx hb dL_law_1601 hl (by decide) rfl (fun ls hl => ?_)
  refine lv_aload_n hx hb dL_law_1603 rfl (lv_at hl 3 rfl) ?_
  refine lv_aload_n hx hb dL_law_1604 rfl (lv_at hl 1 rfl) ?_
  refine lv_iload hx hb dL_law_1605 (lv_at hl 6 rfl) ?_
  refine lv_iconst (v := 1) hx hb dL_law_1607 (by decide) ?_
  refine lv_iadd hx hb dL_law_1608 ?_
  refine va_sld hx hb hX hbl hbA hS hi1 dL_law_1609 ?_
  refine lv_aload_n hx hb dL_law_1610 rfl (lv_at hl 1 rfl) ?_
  refine lv_iload hx hb dL_law_1611 (lv_at hl 6 rfl) ?_
  refine lv_iconst (v := 2) hx hb dL_law_1613 (by decide) ?_
  refine lv_iadd hx hb dL_law_1614 ?_
  refine va_sld hx hb hX hbl hbA hS hi2 dL_law_1615 ?_
  obtain ⟨⟨r6, mcode_7, mblocks_8, mblocksT_9⟩, h10, hf⟩ := bnd hf
  refine cm_i (rest := []) (m_M_restore l ca am lq mcode mday mown mquot mprom mfiles mowner mlinks mblocks mvals msnaps mranks mkept mshot mwas mholds mheld mends mopen mentr mkinds misop mfilesT mentrT mpromT mlinksT mblocksT mvalsT (WC ca ad bq nF nO nL nA nC_2 nV nU_3 nP nE bF bO bL bA bC bV bU bP bE cT cK cO cQ cD pT pK pR pW pU pI pC uO uF uE uN wK jM jN jZ jB ++ (WO ca oa od oL_4 oD ++ R)) _ (xs (x5 + 1).toNatClampNeg) (xs (x5 + 2).toNatClampNeg) r6 mcode_7 mblocks_8 mblocksT_9 h10) ⟨hx, hb, hml, hown, hts⟩ (cwV 2 hts (gV q1588 q1589 q1590 q50 q1591) rfl rfl rfl (by decide +kernel) ⟨Nat.le_of_ble_eq_true rfl, Nat.le_of_ble_eq_true rfl⟩) (va_recv hK hP (ci := 8) (q0 := 42) rfl rfl) hE hP hD hS hA rfl hl.1 rfl (lv_room (Nat.le_of_ble_eq_true rfl)) dL_law_1616 ⟨by show _ ≤ 603072; omega, by show _ ≤ 7198826; omega⟩ (fun H locs hP hD hS => ?_)
  refine lv_istore (lv' := [(7, .int r6), (6, .int r1), (0, .ref b), (1, .ref (ad 0)), (2, .ref (am 0)), (3, .ref oa), (4, .ref od), (5, .int x5)]) hx hb dL_law_1619 hl (by decide) rfl (fun ls hl => ?_)
  refine lv_aload_n hx hb dL_law_1621 rfl (lv_at hl 4 rfl) ?_
  obtain ⟨r11, h12, hf⟩ := bnd hf
  refine cm_i (rest := []) (m_M_thrown l ca am lq mcode_7 mday mown mquot mprom mfiles mowner mlinks mblocks_8 mvals msnaps mranks mkept mshot mwas mholds mheld mends mopen mentr mkinds misop mfilesT mentrT mpromT mlinksT mblocksT_9 mvalsT (WC ca ad bq nF nO nL nA nC_2 nV nU_3 nP nE bF bO bL bA bC bV bU bP bE cT cK cO cQ cD pT pK pR pW pU pI pC uO uF uE uN wK jM jN jZ jB ++ (WO ca oa od oL_4 oD ++ R)) _ r11 h12) ⟨hx, hb, hml, hown, hts⟩ (cwV 0 hts (gV q1417 q1418 q1419 q50 q1420) rfl rfl rfl (by decide +kernel) ⟨Nat.le_of_ble_eq_true rfl, Nat.le_of_ble_eq_true rfl⟩) (va_recv hK hP (ci := 8) (q0 := 42) rfl rfl) hE hP hD hS hA rfl hl.1 rfl (lv_room (Nat.le_of_ble_eq_true rfl)) dL_law_1622 ⟨by show _ ≤ 603072; omega, by show _ ≤ 7198826; omega⟩ (fun H locs hP hD hS => ?_)
  refine lv_iload hx hb dL_law_1625 (lv_at hl 1 rfl) ?_
  refine lv_icmp_eq (tgt := 1632) hx hb dL_law_1627 (by decide) (fun c13 => ?_) (fun c13 => ?_)
  · have hf := br_pos c13 hf
    refine lv_iload hx hb dL_law_1632 (lv_at hl 1 rfl) ?_
    refine lv_if_ne (tgt := 1649) hx hb dL_law_1634 (by decide) (fun c14 => ?_) (fun c14 => ?_)
    · have hf := br_neg c14 hf
      refine lv_goto (tgt := 2434) hx hb dL_law_1649 (by decide) ?_
      cases hf
      refine W.widen (k := cN + 1100) (n := sN + 13000) (by omega) (by omega) ?_
      exact kk _ _ _ hP hD hS (lv_sub hl [2, 3, 4, 5, 6, 7] rfl)
    · have hf := br_pos c14 hf
      refine lv_aload_n hx hb dL_law_1637 rfl (lv_at hl 5 rfl) ?_
      refine lv_iconst (v := 0) hx hb dL_law_1638 (by decide) ?_
      refine va_lald (D := D) hx hb hK hP 40 5 rfl rfl (by unfold vp_in; decide) dL_law_1639 ?_
      refine lv_iload hx hb dL_law_1640 (lv_at hl 0 rfl) ?_
      refine lv_i2l hx hb dL_law_1642 rfl ?_
      refine W.lcmp hx hb dL_law_1643 ?_
      refine lv_if_eq (tgt := 1649) hx hb dL_law_1644 (by decide) (fun c15 => ?_) (fun c15 => ?_)
      · have hf := br_pos c15 hf
        refine lv_goto (tgt := 2434) hx hb dL_law_1649 (by decide) ?_
        cases hf
        refine W.widen (k := cN + 1100) (n := sN + 13000) (by omega) (by omega) ?_
        exact kk _ _ _ hP hD hS (lv_sub hl [2, 3, 4, 5, 6, 7] rfl)
      · have hf := br_neg c15 hf
        refine lv_iconst (v := 0) hx hb dL_law_1647 (by decide) ?_
        cases hf
  · have hf := br_neg c13 hf
    refine lv_iconst (v := 0) hx hb dL_law_1630 (by decide) ?_
    cases hf
def f_case25 (p1 : Int32) (p2 : Int32) (nF : Int32) (nA : Nat → Int32) (cT : Int32) (cD : Int32) (uO : Int32) (uF : Nat → Int32) (uE : Nat → Int32) (uN : Nat → Int32) (oL : Nat → Int64) (mday : Int32) (mfiles : Int32) (mlinks : Nat → Int32) (mholds : Int32) (mheld : Nat → Int32) (mends : Nat → Int32) (mopen : Nat → Int32) (misop : Int32) : Option (Int32 × (Nat → Int32) × (Nat → Int32) × (Nat → Int32) × (Nat → Int64) × Int32 × Int32 × (Nat → Int32) × (Nat → Int32) × (Nat → Int32)) :=
  (f_L_openHold p1 p2 nF nA cT cD uO uF uE uN oL).bind fun (r1, uO_2, uF_3, uE_4, uN_5, oL_6) =>
  (f_M_openHold p1 p2 mday mfiles mlinks mholds mheld mends mopen misop).bind fun (r8, mcode_9, mholds_10, mheld_11, mends_12, mopen_13) =>
  (f_M_thrown mcode_9).bind fun r15 =>
  if r15 = r1 then
    if r1 = 0 then
      if (lg_cmp (oL_6 (0 : Int32).toNatClampNeg) ((r8).toInt64)) = 0 then
        some (uO_2, uF_3, uE_4, uN_5, oL_6, mcode_9, mholds_10, mheld_11, mends_12, mopen_13)
      else
        none
    else
      some (uO_2, uF_3, uE_4, uN_5, oL_6, mcode_9, mholds_10, mheld_11, mends_12, mopen_13)
  else
    none
set_option maxHeartbeats 4000000 in
set_option maxRecDepth 100000 in
theorem l_case25 {p : Program} {l : Launch} {e : Env} {s : State} {m : MethodId} {below : List Frame} {meth : Method} {c : Code} {Q : State → Prop} {D : va_G} {A : Nat → Prop} {b L : Nat} {xs : Nat → Int32} (ca : Nat → ClassId) (hst : l.stackTraces = false) (hx : p.tables.exec = Jvm.exec) (hb : c.code = code) (hml : c.maxLocals = 9) (hown : s.vm.findClass RL = some m.cls) (hts : ∀ w ∈ WW, w.before #[Value.ref b] s = true) (hE : EE D ca SL0 s) (hA : ∀ q, s.heap.size ≤ q → A q) (hZ : ZZ A s s.heap) (hNC : NCE s) (hX : va_X b L xs s s.heap) (hbl : b < s.heap.size) (hbA : ¬ A b) (ad am : Nat → Nat) (bq oa od lq : Nat) (nF : Int32) (nO : Nat → Int32) (nL : Nat → Int32) (nA : Nat → Int32) (nC : Nat → Int32) (nV : Nat → Int32) (nU : Nat → Int32) (nP : Nat → Int32) (nE : Int32) (bF : Int32) (bO : Nat → Int32) (bL : Nat → Int32) (bA : Nat → Int32) (bC : Nat → Int32) (bV : Nat → Int32) (bU : Nat → Int32) (bP : Nat → Int32) (bE : Int32) (cT : Int32) (cK : Nat → Int32) (cO : Int32) (cQ : Nat → Int32) (cD : Int32) (pT : Int32) (pK : Int32) (pR : Nat → Int32) (pW : Nat → Int32) (pU : Nat → Int32) (pI : Nat → Int32) (pC : Nat → Nat → Int32) (uO : Int32) (uF : Nat → Int32) (uE : Nat → Int32) (uN : Nat → Int32) (wK : Nat → Int32) (jM : Int32) (jN : Int32) (jZ : Nat) (jB : Nat → Int32) (oL : Nat → Int64) (oD : Nat → UInt64) (mcode : Int32) (mday : Int32) (mown : Int32) (mquot : Nat → Int32) (mprom : Nat → Int32) (mfiles : Int32) (mowner : Nat → Int32) (mlinks : Nat → Int32) (mblocks : Nat → Int32) (mvals : Nat → Int32) (msnaps : Int32) (mranks : Nat → Int32) (mkept : Nat → Int32) (mshot : Nat → Int32) (mwas : Nat → Int32) (mholds : Int32) (mheld : Nat → Int32) (mends : Nat → Int32) (mopen : Nat → Int32) (mentr : Int32) (mkinds : Nat → Int32) (misop : Int32) (mfilesT : Int32) (mentrT : Int32) (mpromT : Nat → Int32) (mlinksT : Nat → Int32) (mblocksT : Nat → Int32) (mvalsT : Nat → Int32) (R : va_W) (x5 : Int32) (hi1 : vp_in (x5 + 1) L) (hi2 : vp_in (x5 + 2) L) (hi3 : vp_in (x5 + 3) L) (cN sN : Nat) (hcN : cN + 1100 ≤ 603072) (hsN : sN + 13000 ≤ 7198826) (ouO : Int32) (ouF : Nat → Int32) (ouE : Nat → Int32) (ouN : Nat → Int32) (ooL : Nat → Int64) (omcode : Int32) (omholds : Int32) (omheld : Nat → Int32) (omends : Nat → Int32) (omopen : Nat → Int32) (hf : f_case25 (xs (x5 + 1).toNatClampNeg) (xs (x5 + 2).toNatClampNeg) nF nA cT cD uO uF uE uN oL mday mfiles mlinks mholds mheld mends mopen misop = some (ouO, ouF, ouE, ouN, ooL, omcode, omholds, omheld, omends, omopen)) {H : Heap} {locs : List Loc} {ls : Array Slot} (hP : va_P D vwCl (WC ca ad bq nF nO nL nA nC nV nU nP nE bF bO bL bA bC bV bU bP bE cT cK cO cQ cD pT pK pR pW pU pI pC uO uF uE uN wK jM jN jZ jB ++ (WO ca oa od oL oD ++ (WM ca am lq mcode mday mown mquot mprom mfiles mowner mlinks mblocks mvals msnaps mranks mkept mshot mwas mholds mheld mends mopen mentr mkinds misop mfilesT mentrT mpromT mlinksT mblocksT mvalsT ++ R))) H) (hD : va_D A (WC ca ad bq nF nO nL nA nC nV nU nP nE bF bO bL bA bC bV bU bP bE cT cK cO cQ cD pT pK pR pW pU pI pC uO uF uE uN wK jM jN jZ jB ++ (WO ca oa od oL oD ++ (WM ca am lq mcode mday mown mquot mprom mfiles mowner mlinks mblocks mvals msnaps mranks mkept mshot mwas mholds mheld mends mopen mentr mkinds misop mfilesT mentrT mpromT mlinksT mblocksT mvalsT ++ R)))) (hS : va_S A s.heap H locs) (hl : lv_has ls 9 [(0, .ref b), (1, .ref (ad 0)), (2, .ref (am 0)), (3, .ref oa), (4, .ref od), (5, .int x5)]) (kk : ∀ (H : Heap) (locs : List Loc) (ls : Array Slot), va_P D vwCl (WC ca ad bq nF nO nL nA nC nV nU nP nE bF bO bL bA bC bV bU bP bE cT cK cO cQ cD pT pK pR pW pU pI pC ouO ouF ouE ouN wK jM jN jZ jB ++ (WO ca oa od ooL oD ++ (WM ca am lq omcode mday mown mquot mprom mfiles mowner mlinks mblocks mvals msnaps mranks mkept mshot mwas omholds omheld omends omopen mentr mkinds misop mfilesT mentrT mpromT mlinksT mblocksT mvalsT ++ R))) H → va_D A (WC ca ad bq nF nO nL nA nC nV nU nP nE bF bO bL bA bC bV bU bP bE cT cK cO cQ cD pT pK pR pW pU pI pC ouO ouF ouE ouN wK jM jN jZ jB ++ (WO ca oa od ooL oD ++ (WM ca am lq omcode mday mown mquot mprom mfiles mowner mlinks mblocks mvals msnaps mranks mkept mshot mwas omholds omheld omends omopen mentr mkinds misop mfilesT mentrT mpromT mlinksT mblocksT mvalsT ++ R))) → va_S A s.heap H locs → lv_has ls 9 [(0, .ref b), (1, .ref (ad 0)), (2, .ref (am 0)), (3, .ref oa), (4, .ref od), (5, .int x5)] → W p l e room_1 s m #[Value.ref b] below meth c H locs (cN + 1100) (sN + 13000) Q (F0 m 2434 ls [])) : W p l e room_1 s m #[Value.ref b] below meth c H locs cN sN Q (F0 m 1652 ls []) := by
  have hK := hE.1
  unfold f_case25 at hf
  change W p l e room_1 s m #[Value.ref b] below meth c H locs (cN + 0) (sN + 0) Q (F0 m 1652 ls [])
  refine lv_aload_n hx hb dL_law_1652 rfl (lv_at hl 1 rfl) ?_
  refine lv_aload_n hx hb dL_law_1653 rfl (lv_at hl 0 rfl) ?_
  refine lv_iload hx hb dL_law_1654 (lv_at hl 5 rfl) ?_
  refine lv_iconst (v := 1) hx hb dL_law_1656 (by decide) ?_
  refine lv_iadd hx hb dL_law_1657 ?_
  refine va_sld hx hb hX hbl hbA hS hi1 dL_law_1658 ?_
  refine lv_aload_n hx hb dL_law_1659 rfl (lv_at hl 0 rfl) ?_
  refine lv_iload hx hb dL_law_1660 (lv_at hl 5 rfl) ?_
  refine lv_iconst (v := 2) hx hb dL_law_1662 (by decide) ?_
  refine lv_iadd hx hb dL_law_1663 ?_
  refine va_sld hx hb hX hbl hbA hS hi2 dL_law_1664 ?_
  refine lv_aload_n hx hb dL_law_1665 rfl (lv_at hl 3 rfl) ?_
  obtain ⟨⟨r1, uO_2, uF_3, uE_4, uN_5, oL_6⟩, h7, hf⟩ := bnd hf
  refine cl_wi (rest := []) (m_L_openHold l hst ca ad bq oa od nF nO nL nA nC nV nU nP nE bF bO bL bA bC bV bU bP bE cT cK cO cQ cD pT pK pR pW pU pI pC uO uF uE uN wK jM jN jZ jB oL oD (WM ca am lq mcode mday mown mquot mprom mfiles mowner mlinks mblocks mvals msnaps mranks mkept mshot mwas mholds mheld mends mopen mentr mkinds misop mfilesT mentrT mpromT mlinksT mblocksT mvalsT ++ R) _ (xs (x5 + 1).toNatClampNeg) (xs (x5 + 2).toNatClampNeg) r1 uO_2 uF_3 uE_4 uN_5 oL_6 h7) ⟨hx, hb, hml, hown, hts⟩ (vx_cwSW 4 hts (gSW q887 q888 q40 q889) rfl rfl rfl (by decide +kernel) ⟨Nat.le_of_ble_eq_true rfl, Nat.le_of_ble_eq_true rfl⟩) hE hP hD hS hA hZ hNC rfl hl.1 rfl (lv_room (Nat.le_of_ble_eq_true rfl)) dL_law_1666 ⟨by show _ ≤ 603072; omega, by show _ ≤ 7198826; omega⟩ (fun H locs hP hD hS => ?_)
  refine lv_istore (lv' := [(6, .int r1), (0, .ref b), (1, .ref (ad 0)), (2, .ref (am 0)), (3, .ref oa), (4, .ref od), (5, .int x5)]) hx hb dL_law_1669 hl (by decide) rfl (fun ls hl => ?_)
  refine lv_aload_n hx hb dL_law_1671 rfl (lv_at hl 3 rfl) ?_
  refine lv_aload_n hx hb dL_law_1672 rfl (lv_at hl 1 rfl) ?_
  refine lv_iload hx hb dL_law_1673 (lv_at hl 6 rfl) ?_
  refine lv_iconst (v := 1) hx hb dL_law_1675 (by decide) ?_
  refine lv_iadd hx hb dL_law_1676 ?_
  refine va_sld hx hb hX hbl hbA hS hi1 dL_law_1677 ?_
  refine lv_aload_n hx hb dL_law_1678 rfl (lv_at hl 1 rfl) ?_
  refine lv_iload hx hb dL_law_1679 (lv_at hl 6 rfl) ?_
  refine lv_iconst (v := 2) hx hb dL_law_1681 (by decide) ?_
  refine lv_iadd hx hb dL_law_1682 ?_
  refine va_sld hx hb hX hbl hbA hS hi2 dL_law_1683 ?_
  obtain ⟨⟨r8, mcode_9, mholds_10, mheld_11, mends_12, mopen_13⟩, h14, hf⟩ := bnd hf
  refine cm_i (rest := []) (m_M_openHold l ca am lq mcode mday mown mquot mprom mfiles mowner mlinks mblocks mvals msnaps mranks mkept mshot mwas mholds mheld mends mopen mentr mkinds misop mfilesT mentrT mpromT mlinksT mblocksT mvalsT (WC ca ad bq nF nO nL nA nC nV nU nP nE bF bO bL bA bC bV bU bP bE cT cK cO cQ cD pT pK pR pW pU pI pC uO_2 uF_3 uE_4 uN_5 wK jM jN jZ jB ++ (WO ca oa od oL_6 oD ++ R)) _ (xs (x5 + 1).toNatClampNeg) (xs (x5 + 2).toNatClampNeg) r8 mcode_9 mholds_10 mheld_11 mends_12 mopen_13 h14) ⟨hx, hb, hml, hown, hts⟩ (cwV 2 hts (gV q1592 q1593 q1594 q50 q1595) rfl rfl rfl (by decide +kernel) ⟨Nat.le_of_ble_eq_true rfl, Nat.le_of_ble_eq_true rfl⟩) (va_recv hK hP (ci := 8) (q0 := 42) rfl rfl) hE hP hD hS hA rfl hl.1 rfl (lv_room (Nat.le_of_ble_eq_true rfl)) dL_law_1684 ⟨by show _ ≤ 603072; omega, by show _ ≤ 7198826; omega⟩ (fun H locs hP hD hS => ?_)
  refine lv_istore (lv' := [(7, .int r8), (6, .int r1), (0, .ref b), (1, .ref (ad 0)), (2, .ref (am 0)), (3, .ref oa), (4, .ref od), (5, .int x5)]) hx hb dL_law_1687 hl (by decide) rfl (fun ls hl => ?_)
  refine lv_aload_n hx hb dL_law_1689 rfl (lv_at hl 4 rfl) ?_
  obtain ⟨r15, h16, hf⟩ := bnd hf
  refine cm_i (rest := []) (m_M_thrown l ca am lq mcode_9 mday mown mquot mprom mfiles mowner mlinks mblocks mvals msnaps mranks mkept mshot mwas mholds_10 mheld_11 mends_12 mopen_13 mentr mkinds misop mfilesT mentrT mpromT mlinksT mblocksT mvalsT (WC ca ad bq nF nO nL nA nC nV nU nP nE bF bO bL bA bC bV bU bP bE cT cK cO cQ cD pT pK pR pW pU pI pC uO_2 uF_3 uE_4 uN_5 wK jM jN jZ jB ++ (WO ca oa od oL_6 oD ++ R)) _ r15 h16) ⟨hx, hb, hml, hown, hts⟩ (cwV 0 hts (gV q1417 q1418 q1419 q50 q1420) rfl rfl rfl (by decide +kernel) ⟨Nat.le_of_ble_eq_true rfl, Nat.le_of_ble_eq_true rfl⟩) (va_recv hK hP (ci := 8) (q0 := 42) rfl rfl) hE hP hD hS hA rfl hl.1 rfl (lv_room (Nat.le_of_ble_eq_true rfl)) dL_law_1690 ⟨by show _ ≤ 603072; omega, by show _ ≤ 7198826; omega⟩ (fun H locs hP hD hS => ?_)
  refine lv_iload hx hb dL_law_1693 (lv_at hl 1 rfl) ?_
  refine lv_icmp_eq (tgt := 1700) hx hb dL_law_1695 (by decide) (fun c17 => ?_) (fun c17 => ?_)
  · have hf := br_pos c17 hf
    refine lv_iload hx hb dL_law_1700 (lv_at hl 1 rfl) ?_
    refine lv_if_ne (tgt := 1717) hx hb dL_law_1702 (by decide) (fun c18 => ?_) (fun c18 => ?_)
    · have hf := br_neg c18 hf
      refine lv_goto (tgt := 2434) hx hb dL_law_1717 (by decide) ?_
      cases hf
      refine W.widen (k := cN + 1100) (n := sN + 13000) (by omega) (by omega) ?_
      exact kk _ _ _ hP hD hS (lv_sub hl [2, 3, 4, 5, 6, 7] rfl)
    · have hf := br_pos c18 hf
      refine lv_aload_n hx hb dL_law_1705 rfl (lv_at hl 5 rfl) ?_
      refine lv_iconst (v := 0) hx hb dL_law_1706 (by decide) ?_
      refine va_lald (D := D) hx hb hK hP 40 5 rfl rfl (by unfold vp_in; decide) dL_law_1707 ?_
      refine lv_iload hx hb dL_law_1708 (lv_at hl 0 rfl) ?_
      refine lv_i2l hx hb dL_law_1710 rfl ?_
      refine W.lcmp hx hb dL_law_1711 ?_
      refine lv_if_eq (tgt := 1717) hx hb dL_law_1712 (by decide) (fun c19 => ?_) (fun c19 => ?_)
      · have hf := br_pos c19 hf
        refine lv_goto (tgt := 2434) hx hb dL_law_1717 (by decide) ?_
        cases hf
        refine W.widen (k := cN + 1100) (n := sN + 13000) (by omega) (by omega) ?_
        exact kk _ _ _ hP hD hS (lv_sub hl [2, 3, 4, 5, 6, 7] rfl)
      · have hf := br_neg c19 hf
        refine lv_iconst (v := 0) hx hb dL_law_1715 (by decide) ?_
        cases hf
  · have hf := br_neg c17 hf
    refine lv_iconst (v := 0) hx hb dL_law_1698 (by decide) ?_
    cases hf
def f_case26 (p1 : Int32) (nF : Int32) (nL : Nat → Int32) (nA : Nat → Int32) (nC : Nat → Int32) (nU : Nat → Int32) (cT : Int32) (uO : Int32) (uF : Nat → Int32) (uN : Nat → Int32) (oL : Nat → Int64) (mlinks : Nat → Int32) (mblocks : Nat → Int32) (mholds : Int32) (mheld : Nat → Int32) (mopen : Nat → Int32) (misop : Int32) : Option ((Nat → Int32) × (Nat → Int32) × (Nat → Int32) × (Nat → Int32) × (Nat → Int64) × Int32 × (Nat → Int32) × (Nat → Int32)) :=
  (f_L_release p1 nF nL nA nC nU cT uO uF uN oL).bind fun (r1, nA_2, nC_3, nU_4, uN_5, oL_6) =>
  (f_M_release p1 mlinks mblocks mholds mheld mopen misop).bind fun (r8, mcode_9, mblocks_10, mopen_11) =>
  (f_M_thrown mcode_9).bind fun r13 =>
  if r13 = r1 then
    if r1 = 0 then
      if (lg_cmp (oL_6 (0 : Int32).toNatClampNeg) ((r8).toInt64)) = 0 then
        some (nA_2, nC_3, nU_4, uN_5, oL_6, mcode_9, mblocks_10, mopen_11)
      else
        none
    else
      some (nA_2, nC_3, nU_4, uN_5, oL_6, mcode_9, mblocks_10, mopen_11)
  else
    none
set_option maxHeartbeats 4000000 in
set_option maxRecDepth 100000 in
theorem l_case26 {p : Program} {l : Launch} {e : Env} {s : State} {m : MethodId} {below : List Frame} {meth : Method} {c : Code} {Q : State → Prop} {D : va_G} {A : Nat → Prop} {b L : Nat} {xs : Nat → Int32} (ca : Nat → ClassId) (hst : l.stackTraces = false) (hx : p.tables.exec = Jvm.exec) (hb : c.code = code) (hml : c.maxLocals = 9) (hown : s.vm.findClass RL = some m.cls) (hts : ∀ w ∈ WW, w.before #[Value.ref b] s = true) (hE : EE D ca SL0 s) (hA : ∀ q, s.heap.size ≤ q → A q) (hZ : ZZ A s s.heap) (hNC : NCE s) (hX : va_X b L xs s s.heap) (hbl : b < s.heap.size) (hbA : ¬ A b) (ad am : Nat → Nat) (bq oa od lq : Nat) (nF : Int32) (nO : Nat → Int32) (nL : Nat → Int32) (nA : Nat → Int32) (nC : Nat → Int32) (nV : Nat → Int32) (nU : Nat → Int32) (nP : Nat → Int32) (nE : Int32) (bF : Int32) (bO : Nat → Int32) (bL : Nat → Int32) (bA : Nat → Int32) (bC : Nat → Int32) (bV : Nat → Int32) (bU : Nat → Int32) (bP : Nat → Int32) (bE : Int32) (cT : Int32) (cK : Nat → Int32) (cO : Int32) (cQ : Nat → Int32) (cD : Int32) (pT : Int32) (pK : Int32) (pR : Nat → Int32) (pW : Nat → Int32) (pU : Nat → Int32) (pI : Nat → Int32) (pC : Nat → Nat → Int32) (uO : Int32) (uF : Nat → Int32) (uE : Nat → Int32) (uN : Nat → Int32) (wK : Nat → Int32) (jM : Int32) (jN : Int32) (jZ : Nat) (jB : Nat → Int32) (oL : Nat → Int64) (oD : Nat → UInt64) (mcode : Int32) (mday : Int32) (mown : Int32) (mquot : Nat → Int32) (mprom : Nat → Int32) (mfiles : Int32) (mowner : Nat → Int32) (mlinks : Nat → Int32) (mblocks : Nat → Int32) (mvals : Nat → Int32) (msnaps : Int32) (mranks : Nat → Int32) (mkept : Nat → Int32) (mshot : Nat → Int32) (mwas : Nat → Int32) (mholds : Int32) (mheld : Nat → Int32) (mends : Nat → Int32) (mopen : Nat → Int32) (mentr : Int32) (mkinds : Nat → Int32) (misop : Int32) (mfilesT : Int32) (mentrT : Int32) (mpromT : Nat → Int32) (mlinksT : Nat → Int32) (mblocksT : Nat → Int32) (mvalsT : Nat → Int32) (R : va_W) (x5 : Int32) (hi1 : vp_in (x5 + 1) L) (hi2 : vp_in (x5 + 2) L) (hi3 : vp_in (x5 + 3) L) (cN sN : Nat) (hcN : cN + 1100 ≤ 603072) (hsN : sN + 13000 ≤ 7198826) (onA : Nat → Int32) (onC : Nat → Int32) (onU : Nat → Int32) (ouN : Nat → Int32) (ooL : Nat → Int64) (omcode : Int32) (omblocks : Nat → Int32) (omopen : Nat → Int32) (hf : f_case26 (xs (x5 + 1).toNatClampNeg) nF nL nA nC nU cT uO uF uN oL mlinks mblocks mholds mheld mopen misop = some (onA, onC, onU, ouN, ooL, omcode, omblocks, omopen)) {H : Heap} {locs : List Loc} {ls : Array Slot} (hP : va_P D vwCl (WC ca ad bq nF nO nL nA nC nV nU nP nE bF bO bL bA bC bV bU bP bE cT cK cO cQ cD pT pK pR pW pU pI pC uO uF uE uN wK jM jN jZ jB ++ (WO ca oa od oL oD ++ (WM ca am lq mcode mday mown mquot mprom mfiles mowner mlinks mblocks mvals msnaps mranks mkept mshot mwas mholds mheld mends mopen mentr mkinds misop mfilesT mentrT mpromT mlinksT mblocksT mvalsT ++ R))) H) (hD : va_D A (WC ca ad bq nF nO nL nA nC nV nU nP nE bF bO bL bA bC bV bU bP bE cT cK cO cQ cD pT pK pR pW pU pI pC uO uF uE uN wK jM jN jZ jB ++ (WO ca oa od oL oD ++ (WM ca am lq mcode mday mown mquot mprom mfiles mowner mlinks mblocks mvals msnaps mranks mkept mshot mwas mholds mheld mends mopen mentr mkinds misop mfilesT mentrT mpromT mlinksT mblocksT mvalsT ++ R)))) (hS : va_S A s.heap H locs) (hl : lv_has ls 9 [(0, .ref b), (1, .ref (ad 0)), (2, .ref (am 0)), (3, .ref oa), (4, .ref od), (5, .int x5)]) (kk : ∀ (H : Heap) (locs : List Loc) (ls : Array Slot), va_P D vwCl (WC ca ad bq nF nO nL onA onC nV onU nP nE bF bO bL bA bC bV bU bP bE cT cK cO cQ cD pT pK pR pW pU pI pC uO uF uE ouN wK jM jN jZ jB ++ (WO ca oa od ooL oD ++ (WM ca am lq omcode mday mown mquot mprom mfiles mowner mlinks omblocks mvals msnaps mranks mkept mshot mwas mholds mheld mends omopen mentr mkinds misop mfilesT mentrT mpromT mlinksT mblocksT mvalsT ++ R))) H → va_D A (WC ca ad bq nF nO nL onA onC nV onU nP nE bF bO bL bA bC bV bU bP bE cT cK cO cQ cD pT pK pR pW pU pI pC uO uF uE ouN wK jM jN jZ jB ++ (WO ca oa od ooL oD ++ (WM ca am lq omcode mday mown mquot mprom mfiles mowner mlinks omblocks mvals msnaps mranks mkept mshot mwas mholds mheld mends omopen mentr mkinds misop mfilesT mentrT mpromT mlinksT mblocksT mvalsT ++ R))) → va_S A s.heap H locs → lv_has ls 9 [(0, .ref b), (1, .ref (ad 0)), (2, .ref (am 0)), (3, .ref oa), (4, .ref od), (5, .int x5)] → W p l e room_1 s m #[Value.ref b] below meth c H locs (cN + 1100) (sN + 13000) Q (F0 m 2434 ls [])) : W p l e room_1 s m #[Value.ref b] below meth c H locs cN sN Q (F0 m 1720 ls []) := by
  have hK := hE.1
  unfold f_case26 at hf
  change W p l e room_1 s m #[Value.ref b] below meth c H locs (cN + 0) (sN + 0) Q (F0 m 1720 ls [])
  refine lv_aload_n hx hb dL_law_1720 rfl (lv_at hl 1 rfl) ?_
  refine lv_aload_n hx hb dL_law_1721 rfl (lv_at hl 0 rfl) ?_
  refine lv_iload hx hb dL_law_1722 (lv_at hl 5 rfl) ?_
  refine lv_iconst (v := 1) hx hb dL_law_1724 (by decide) ?_
  refine lv_iadd hx hb dL_law_1725 ?_
  refine va_sld hx hb hX hbl hbA hS hi1 dL_law_1726 ?_
  refine lv_aload_n hx hb dL_law_1727 rfl (lv_at hl 3 rfl) ?_
  obtain ⟨⟨r1, nA_2, nC_3, nU_4, uN_5, oL_6⟩, h7, hf⟩ := bnd hf
  refine cl_wi (rest := []) (m_L_release l hst ca ad bq oa od nF nO nL nA nC nV nU nP nE bF bO bL bA bC bV bU bP bE cT cK cO cQ cD pT pK pR pW pU pI pC uO uF uE uN wK jM jN jZ jB oL oD (WM ca am lq mcode mday mown mquot mprom mfiles mowner mlinks mblocks mvals msnaps mranks mkept mshot mwas mholds mheld mends mopen mentr mkinds misop mfilesT mentrT mpromT mlinksT mblocksT mvalsT ++ R) _ (xs (x5 + 1).toNatClampNeg) r1 nA_2 nC_3 nU_4 uN_5 oL_6 h7) ⟨hx, hb, hml, hown, hts⟩ (vx_cwSW 3 hts (gSW q904 q905 q40 q906) rfl rfl rfl (by decide +kernel) ⟨Nat.le_of_ble_eq_true rfl, Nat.le_of_ble_eq_true rfl⟩) hE hP hD hS hA hZ hNC rfl hl.1 rfl (lv_room (Nat.le_of_ble_eq_true rfl)) dL_law_1728 ⟨by show _ ≤ 603072; omega, by show _ ≤ 7198826; omega⟩ (fun H locs hP hD hS => ?_)
  refine lv_istore (lv' := [(6, .int r1), (0, .ref b), (1, .ref (ad 0)), (2, .ref (am 0)), (3, .ref oa), (4, .ref od), (5, .int x5)]) hx hb dL_law_1731 hl (by decide) rfl (fun ls hl => ?_)
  refine lv_aload_n hx hb dL_law_1733 rfl (lv_at hl 3 rfl) ?_
  refine lv_aload_n hx hb dL_law_1734 rfl (lv_at hl 1 rfl) ?_
  refine lv_iload hx hb dL_law_1735 (lv_at hl 6 rfl) ?_
  refine lv_iconst (v := 1) hx hb dL_law_1737 (by decide) ?_
  refine lv_iadd hx hb dL_law_1738 ?_
  refine va_sld hx hb hX hbl hbA hS hi1 dL_law_1739 ?_
  obtain ⟨⟨r8, mcode_9, mblocks_10, mopen_11⟩, h12, hf⟩ := bnd hf
  refine cm_i (rest := []) (m_M_release l ca am lq mcode mday mown mquot mprom mfiles mowner mlinks mblocks mvals msnaps mranks mkept mshot mwas mholds mheld mends mopen mentr mkinds misop mfilesT mentrT mpromT mlinksT mblocksT mvalsT (WC ca ad bq nF nO nL nA_2 nC_3 nV nU_4 nP nE bF bO bL bA bC bV bU bP bE cT cK cO cQ cD pT pK pR pW pU pI pC uO uF uE uN_5 wK jM jN jZ jB ++ (WO ca oa od oL_6 oD ++ R)) _ (xs (x5 + 1).toNatClampNeg) r8 mcode_9 mblocks_10 mopen_11 h12) ⟨hx, hb, hml, hown, hts⟩ (cwV 1 hts (gV q1596 q1597 q1598 q50 q1599) rfl rfl rfl (by decide +kernel) ⟨Nat.le_of_ble_eq_true rfl, Nat.le_of_ble_eq_true rfl⟩) (va_recv hK hP (ci := 8) (q0 := 42) rfl rfl) hE hP hD hS hA rfl hl.1 rfl (lv_room (Nat.le_of_ble_eq_true rfl)) dL_law_1740 ⟨by show _ ≤ 603072; omega, by show _ ≤ 7198826; omega⟩ (fun H locs hP hD hS => ?_)
  refine lv_istore (lv' := [(7, .int r8), (6, .int r1), (0, .ref b), (1, .ref (ad 0)), (2, .ref (am 0)), (3, .ref oa), (4, .ref od), (5, .int x5)]) hx hb dL_law_1743 hl (by decide) rfl (fun ls hl => ?_)
  refine lv_aload_n hx hb dL_law_1745 rfl (lv_at hl 4 rfl) ?_
  obtain ⟨r13, h14, hf⟩ := bnd hf
  refine cm_i (rest := []) (m_M_thrown l ca am lq mcode_9 mday mown mquot mprom mfiles mowner mlinks mblocks_10 mvals msnaps mranks mkept mshot mwas mholds mheld mends mopen_11 mentr mkinds misop mfilesT mentrT mpromT mlinksT mblocksT mvalsT (WC ca ad bq nF nO nL nA_2 nC_3 nV nU_4 nP nE bF bO bL bA bC bV bU bP bE cT cK cO cQ cD pT pK pR pW pU pI pC uO uF uE uN_5 wK jM jN jZ jB ++ (WO ca oa od oL_6 oD ++ R)) _ r13 h14) ⟨hx, hb, hml, hown, hts⟩ (cwV 0 hts (gV q1417 q1418 q1419 q50 q1420) rfl rfl rfl (by decide +kernel) ⟨Nat.le_of_ble_eq_true rfl, Nat.le_of_ble_eq_true rfl⟩) (va_recv hK hP (ci := 8) (q0 := 42) rfl rfl) hE hP hD hS hA rfl hl.1 rfl (lv_room (Nat.le_of_ble_eq_true rfl)) dL_law_1746 ⟨by show _ ≤ 603072; omega, by show _ ≤ 7198826; omega⟩ (fun H locs hP hD hS => ?_)
  refine lv_iload hx hb dL_law_1749 (lv_at hl 1 rfl) ?_
  refine lv_icmp_eq (tgt := 1756) hx hb dL_law_1751 (by decide) (fun c15 => ?_) (fun c15 => ?_)
  · have hf := br_pos c15 hf
    refine lv_iload hx hb dL_law_1756 (lv_at hl 1 rfl) ?_
    refine lv_if_ne (tgt := 1773) hx hb dL_law_1758 (by decide) (fun c16 => ?_) (fun c16 => ?_)
    · have hf := br_neg c16 hf
      refine lv_goto (tgt := 2434) hx hb dL_law_1773 (by decide) ?_
      cases hf
      refine W.widen (k := cN + 1100) (n := sN + 13000) (by omega) (by omega) ?_
      exact kk _ _ _ hP hD hS (lv_sub hl [2, 3, 4, 5, 6, 7] rfl)
    · have hf := br_pos c16 hf
      refine lv_aload_n hx hb dL_law_1761 rfl (lv_at hl 5 rfl) ?_
      refine lv_iconst (v := 0) hx hb dL_law_1762 (by decide) ?_
      refine va_lald (D := D) hx hb hK hP 40 5 rfl rfl (by unfold vp_in; decide) dL_law_1763 ?_
      refine lv_iload hx hb dL_law_1764 (lv_at hl 0 rfl) ?_
      refine lv_i2l hx hb dL_law_1766 rfl ?_
      refine W.lcmp hx hb dL_law_1767 ?_
      refine lv_if_eq (tgt := 1773) hx hb dL_law_1768 (by decide) (fun c17 => ?_) (fun c17 => ?_)
      · have hf := br_pos c17 hf
        refine lv_goto (tgt := 2434) hx hb dL_law_1773 (by decide) ?_
        cases hf
        refine W.widen (k := cN + 1100) (n := sN + 13000) (by omega) (by omega) ?_
        exact kk _ _ _ hP hD hS (lv_sub hl [2, 3, 4, 5, 6, 7] rfl)
      · have hf := br_neg c17 hf
        refine lv_iconst (v := 0) hx hb dL_law_1771 (by decide) ?_
        cases hf
  · have hf := br_neg c15 hf
    refine lv_iconst (v := 0) hx hb dL_law_1754 (by decide) ?_
    cases hf
def f_case27 (p1 : Int32) (uO : Int32) (uN : Nat → Int32) (oL : Nat → Int64) (mholds : Int32) (mopen : Nat → Int32) : Option ((Nat → Int64) × Int32) :=
  (f_L_isOpen p1 uO uN oL).bind fun (r1, oL_2) =>
  (f_M_isOpen p1 mholds mopen).bind fun (r4, mcode_5) =>
  (f_M_thrown mcode_5).bind fun r7 =>
  if r7 = r1 then
    if r1 = 0 then
      if r4 = 0 then
        if (lg_cmp (oL_2 (0 : Int32).toNatClampNeg) 0) = 0 then
          some (oL_2, mcode_5)
        else
          none
      else
        if (lg_cmp (oL_2 (0 : Int32).toNatClampNeg) 1) = 0 then
          some (oL_2, mcode_5)
        else
          none
    else
      some (oL_2, mcode_5)
  else
    none
set_option maxHeartbeats 4000000 in
set_option maxRecDepth 100000 in
theorem l_case27 {p : Program} {l : Launch} {e : Env} {s : State} {m : MethodId} {below : List Frame} {meth : Method} {c : Code} {Q : State → Prop} {D : va_G} {A : Nat → Prop} {b L : Nat} {xs : Nat → Int32} (ca : Nat → ClassId) (hst : l.stackTraces = false) (hx : p.tables.exec = Jvm.exec) (hb : c.code = code) (hml : c.maxLocals = 9) (hown : s.vm.findClass RL = some m.cls) (hts : ∀ w ∈ WW, w.before #[Value.ref b] s = true) (hE : EE D ca SL0 s) (hA : ∀ q, s.heap.size ≤ q → A q) (hZ : ZZ A s s.heap) (hNC : NCE s) (hX : va_X b L xs s s.heap) (hbl : b < s.heap.size) (hbA : ¬ A b) (ad am : Nat → Nat) (bq oa od lq : Nat) (nF : Int32) (nO : Nat → Int32) (nL : Nat → Int32) (nA : Nat → Int32) (nC : Nat → Int32) (nV : Nat → Int32) (nU : Nat → Int32) (nP : Nat → Int32) (nE : Int32) (bF : Int32) (bO : Nat → Int32) (bL : Nat → Int32) (bA : Nat → Int32) (bC : Nat → Int32) (bV : Nat → Int32) (bU : Nat → Int32) (bP : Nat → Int32) (bE : Int32) (cT : Int32) (cK : Nat → Int32) (cO : Int32) (cQ : Nat → Int32) (cD : Int32) (pT : Int32) (pK : Int32) (pR : Nat → Int32) (pW : Nat → Int32) (pU : Nat → Int32) (pI : Nat → Int32) (pC : Nat → Nat → Int32) (uO : Int32) (uF : Nat → Int32) (uE : Nat → Int32) (uN : Nat → Int32) (wK : Nat → Int32) (jM : Int32) (jN : Int32) (jZ : Nat) (jB : Nat → Int32) (oL : Nat → Int64) (oD : Nat → UInt64) (mcode : Int32) (mday : Int32) (mown : Int32) (mquot : Nat → Int32) (mprom : Nat → Int32) (mfiles : Int32) (mowner : Nat → Int32) (mlinks : Nat → Int32) (mblocks : Nat → Int32) (mvals : Nat → Int32) (msnaps : Int32) (mranks : Nat → Int32) (mkept : Nat → Int32) (mshot : Nat → Int32) (mwas : Nat → Int32) (mholds : Int32) (mheld : Nat → Int32) (mends : Nat → Int32) (mopen : Nat → Int32) (mentr : Int32) (mkinds : Nat → Int32) (misop : Int32) (mfilesT : Int32) (mentrT : Int32) (mpromT : Nat → Int32) (mlinksT : Nat → Int32) (mblocksT : Nat → Int32) (mvalsT : Nat → Int32) (R : va_W) (x5 : Int32) (hi1 : vp_in (x5 + 1) L) (hi2 : vp_in (x5 + 2) L) (hi3 : vp_in (x5 + 3) L) (cN sN : Nat) (hcN : cN + 1100 ≤ 603072) (hsN : sN + 13000 ≤ 7198826) (ooL : Nat → Int64) (omcode : Int32) (hf : f_case27 (xs (x5 + 1).toNatClampNeg) uO uN oL mholds mopen = some (ooL, omcode)) {H : Heap} {locs : List Loc} {ls : Array Slot} (hP : va_P D vwCl (WC ca ad bq nF nO nL nA nC nV nU nP nE bF bO bL bA bC bV bU bP bE cT cK cO cQ cD pT pK pR pW pU pI pC uO uF uE uN wK jM jN jZ jB ++ (WO ca oa od oL oD ++ (WM ca am lq mcode mday mown mquot mprom mfiles mowner mlinks mblocks mvals msnaps mranks mkept mshot mwas mholds mheld mends mopen mentr mkinds misop mfilesT mentrT mpromT mlinksT mblocksT mvalsT ++ R))) H) (hD : va_D A (WC ca ad bq nF nO nL nA nC nV nU nP nE bF bO bL bA bC bV bU bP bE cT cK cO cQ cD pT pK pR pW pU pI pC uO uF uE uN wK jM jN jZ jB ++ (WO ca oa od oL oD ++ (WM ca am lq mcode mday mown mquot mprom mfiles mowner mlinks mblocks mvals msnaps mranks mkept mshot mwas mholds mheld mends mopen mentr mkinds misop mfilesT mentrT mpromT mlinksT mblocksT mvalsT ++ R)))) (hS : va_S A s.heap H locs) (hl : lv_has ls 9 [(0, .ref b), (1, .ref (ad 0)), (2, .ref (am 0)), (3, .ref oa), (4, .ref od), (5, .int x5)]) (kk : ∀ (H : Heap) (locs : List Loc) (ls : Array Slot), va_P D vwCl (WC ca ad bq nF nO nL nA nC nV nU nP nE bF bO bL bA bC bV bU bP bE cT cK cO cQ cD pT pK pR pW pU pI pC uO uF uE uN wK jM jN jZ jB ++ (WO ca oa od ooL oD ++ (WM ca am lq omcode mday mown mquot mprom mfiles mowner mlinks mblocks mvals msnaps mranks mkept mshot mwas mholds mheld mends mopen mentr mkinds misop mfilesT mentrT mpromT mlinksT mblocksT mvalsT ++ R))) H → va_D A (WC ca ad bq nF nO nL nA nC nV nU nP nE bF bO bL bA bC bV bU bP bE cT cK cO cQ cD pT pK pR pW pU pI pC uO uF uE uN wK jM jN jZ jB ++ (WO ca oa od ooL oD ++ (WM ca am lq omcode mday mown mquot mprom mfiles mowner mlinks mblocks mvals msnaps mranks mkept mshot mwas mholds mheld mends mopen mentr mkinds misop mfilesT mentrT mpromT mlinksT mblocksT mvalsT ++ R))) → va_S A s.heap H locs → lv_has ls 9 [(0, .ref b), (1, .ref (ad 0)), (2, .ref (am 0)), (3, .ref oa), (4, .ref od), (5, .int x5)] → W p l e room_1 s m #[Value.ref b] below meth c H locs (cN + 1100) (sN + 13000) Q (F0 m 2434 ls [])) : W p l e room_1 s m #[Value.ref b] below meth c H locs cN sN Q (F0 m 1776 ls []) := by
  have hK := hE.1
  unfold f_case27 at hf
  change W p l e room_1 s m #[Value.ref b] below meth c H locs (cN + 0) (sN + 0) Q (F0 m 1776 ls [])
  refine lv_aload_n hx hb dL_law_1776 rfl (lv_at hl 1 rfl) ?_
  refine lv_aload_n hx hb dL_law_1777 rfl (lv_at hl 0 rfl) ?_
  refine lv_iload hx hb dL_law_1778 (lv_at hl 5 rfl) ?_
  refine lv_iconst (v := 1) hx hb dL_law_1780 (by decide) ?_
  refine lv_iadd hx hb dL_law_1781 ?_
  refine va_sld hx hb hX hbl hbA hS hi1 dL_law_1782 ?_
  refine lv_aload_n hx hb dL_law_1783 rfl (lv_at hl 3 rfl) ?_
  obtain ⟨⟨r1, oL_2⟩, h3, hf⟩ := bnd hf
  refine cl_wi (rest := []) (m_L_isOpen l hst ca ad bq oa od nF nO nL nA nC nV nU nP nE bF bO bL bA bC bV bU bP bE cT cK cO cQ cD pT pK pR pW pU pI pC uO uF uE uN wK jM jN jZ jB oL oD (WM ca am lq mcode mday mown mquot mprom mfiles mowner mlinks mblocks mvals msnaps mranks mkept mshot mwas mholds mheld mends mopen mentr mkinds misop mfilesT mentrT mpromT mlinksT mblocksT mvalsT ++ R) _ (xs (x5 + 1).toNatClampNeg) r1 oL_2 h3) ⟨hx, hb, hml, hown, hts⟩ (vx_cwSW 3 hts (gSW q926 q927 q40 q928) rfl rfl rfl (by decide +kernel) ⟨Nat.le_of_ble_eq_true rfl, Nat.le_of_ble_eq_true rfl⟩) hE hP hD hS hA hZ hNC rfl hl.1 rfl (lv_room (Nat.le_of_ble_eq_true rfl)) dL_law_1784 ⟨by show _ ≤ 603072; omega, by show _ ≤ 7198826; omega⟩ (fun H locs hP hD hS => ?_)
  refine lv_istore (lv' := [(6, .int r1), (0, .ref b), (1, .ref (ad 0)), (2, .ref (am 0)), (3, .ref oa), (4, .ref od), (5, .int x5)]) hx hb dL_law_1787 hl (by decide) rfl (fun ls hl => ?_)
  refine lv_aload_n hx hb dL_law_1789 rfl (lv_at hl 3 rfl) ?_
  refine lv_aload_n hx hb dL_law_1790 rfl (lv_at hl 1 rfl) ?_
  refine lv_iload hx hb dL_law_1791 (lv_at hl 6 rfl) ?_
  refine lv_iconst (v := 1) hx hb dL_law_1793 (by decide) ?_
  refine lv_iadd hx hb dL_law_1794 ?_
  refine va_sld hx hb hX hbl hbA hS hi1 dL_law_1795 ?_
  obtain ⟨⟨r4, mcode_5⟩, h6, hf⟩ := bnd hf
  refine cm_i (rest := []) (m_M_isOpen l ca am lq mcode mday mown mquot mprom mfiles mowner mlinks mblocks mvals msnaps mranks mkept mshot mwas mholds mheld mends mopen mentr mkinds misop mfilesT mentrT mpromT mlinksT mblocksT mvalsT (WC ca ad bq nF nO nL nA nC nV nU nP nE bF bO bL bA bC bV bU bP bE cT cK cO cQ cD pT pK pR pW pU pI pC uO uF uE uN wK jM jN jZ jB ++ (WO ca oa od oL_2 oD ++ R)) _ (xs (x5 + 1).toNatClampNeg) r4 mcode_5 h6) ⟨hx, hb, hml, hown, hts⟩ (cwV 1 hts (gV q1604 q1605 q1606 q50 q1607) rfl rfl rfl (by decide +kernel) ⟨Nat.le_of_ble_eq_true rfl, Nat.le_of_ble_eq_true rfl⟩) (va_recv hK hP (ci := 8) (q0 := 42) rfl rfl) hE hP hD hS hA rfl hl.1 rfl (lv_room (Nat.le_of_ble_eq_true rfl)) dL_law_1796 ⟨by show _ ≤ 603072; omega, by show _ ≤ 7198826; omega⟩ (fun H locs hP hD hS => ?_)
  refine lv_istore (lv' := [(7, .int r4), (6, .int r1), (0, .ref b), (1, .ref (ad 0)), (2, .ref (am 0)), (3, .ref oa), (4, .ref od), (5, .int x5)]) hx hb dL_law_1799 hl (by decide) rfl (fun ls hl => ?_)
  refine lv_aload_n hx hb dL_law_1801 rfl (lv_at hl 4 rfl) ?_
  obtain ⟨r7, h8, hf⟩ := bnd hf
  refine cm_i (rest := []) (m_M_thrown l ca am lq mcode_5 mday mown mquot mprom mfiles mowner mlinks mblocks mvals msnaps mranks mkept mshot mwas mholds mheld mends mopen mentr mkinds misop mfilesT mentrT mpromT mlinksT mblocksT mvalsT (WC ca ad bq nF nO nL nA nC nV nU nP nE bF bO bL bA bC bV bU bP bE cT cK cO cQ cD pT pK pR pW pU pI pC uO uF uE uN wK jM jN jZ jB ++ (WO ca oa od oL_2 oD ++ R)) _ r7 h8) ⟨hx, hb, hml, hown, hts⟩ (cwV 0 hts (gV q1417 q1418 q1419 q50 q1420) rfl rfl rfl (by decide +kernel) ⟨Nat.le_of_ble_eq_true rfl, Nat.le_of_ble_eq_true rfl⟩) (va_recv hK hP (ci := 8) (q0 := 42) rfl rfl) hE hP hD hS hA rfl hl.1 rfl (lv_room (Nat.le_of_ble_eq_true rfl)) dL_law_1802 ⟨by show _ ≤ 603072; omega, by show _ ≤ 7198826; omega⟩ (fun H locs hP hD hS => ?_)
  refine lv_iload hx hb dL_law_1805 (lv_at hl 1 rfl) ?_
  refine lv_icmp_eq (tgt := 1812) hx hb dL_law_1807 (by decide) (fun c9 => ?_) (fun c9 => ?_)
  · have hf := br_pos c9 hf
    refine lv_iload hx hb dL_law_1812 (lv_at hl 1 rfl) ?_
    refine lv_if_ne (tgt := 1836) hx hb dL_law_1814 (by decide) (fun c10 => ?_) (fun c10 => ?_)
    · have hf := br_neg c10 hf
      refine lv_goto (tgt := 2434) hx hb dL_law_1836 (by decide) ?_
      cases hf
      refine W.widen (k := cN + 1100) (n := sN + 13000) (by omega) (by omega) ?_
      exact kk _ _ _ hP hD hS (lv_sub hl [2, 3, 4, 5, 6, 7] rfl)
    · have hf := br_pos c10 hf
      refine lv_aload_n hx hb dL_law_1817 rfl (lv_at hl 5 rfl) ?_
      refine lv_iconst (v := 0) hx hb dL_law_1818 (by decide) ?_
      refine va_lald (D := D) hx hb hK hP 40 5 rfl rfl (by unfold vp_in; decide) dL_law_1819 ?_
      refine lv_iload hx hb dL_law_1820 (lv_at hl 0 rfl) ?_
      refine lv_if_eq (tgt := 1829) hx hb dL_law_1822 (by decide) (fun c11 => ?_) (fun c11 => ?_)
      · have hf := br_pos c11 hf
        refine lv_lconst (v := 0) hx hb dL_law_1829 (by decide) ?_
        refine W.lcmp hx hb dL_law_1830 ?_
        refine lv_if_eq (tgt := 1836) hx hb dL_law_1831 (by decide) (fun c12 => ?_) (fun c12 => ?_)
        · have hf := br_pos c12 hf
          refine lv_goto (tgt := 2434) hx hb dL_law_1836 (by decide) ?_
          cases hf
          refine W.widen (k := cN + 1100) (n := sN + 13000) (by omega) (by omega) ?_
          exact kk _ _ _ hP hD hS (lv_sub hl [2, 3, 4, 5, 6, 7] rfl)
        · have hf := br_neg c12 hf
          refine lv_iconst (v := 0) hx hb dL_law_1834 (by decide) ?_
          cases hf
      · have hf := br_neg c11 hf
        refine lv_lconst (v := 1) hx hb dL_law_1825 (by decide) ?_
        refine lv_goto (tgt := 1830) hx hb dL_law_1826 (by decide) ?_
        refine W.lcmp hx hb dL_law_1830 ?_
        refine lv_if_eq (tgt := 1836) hx hb dL_law_1831 (by decide) (fun c13 => ?_) (fun c13 => ?_)
        · have hf := br_pos c13 hf
          refine lv_goto (tgt := 2434) hx hb dL_law_1836 (by decide) ?_
          cases hf
          refine W.widen (k := cN + 1100) (n := sN + 13000) (by omega) (by omega) ?_
          exact kk _ _ _ hP hD hS (lv_sub hl [2, 3, 4, 5, 6, 7] rfl)
        · have hf := br_neg c13 hf
          refine lv_iconst (v := 0) hx hb dL_law_1834 (by decide) ?_
          cases hf
  · have hf := br_neg c9 hf
    refine lv_iconst (v := 0) hx hb dL_law_1810 (by decide) ?_
    cases hf
def f_case28 (p1 : Int32) (nF : Int32) (uO : Int32) (uF : Nat → Int32) (uN : Nat → Int32) (oL : Nat → Int64) (mfiles : Int32) (mholds : Int32) (mheld : Nat → Int32) (mopen : Nat → Int32) : Option ((Nat → Int64) × Int32) :=
  (f_L_holdsOn p1 nF uO uF uN oL).bind fun (r1, oL_2) =>
  (f_M_holdsOn p1 mfiles mholds mheld mopen).bind fun (r4, mcode_5) =>
  (f_M_thrown mcode_5).bind fun r7 =>
  if r7 = r1 then
    if r1 = 0 then
      if (lg_cmp (oL_2 (0 : Int32).toNatClampNeg) ((r4).toInt64)) = 0 then
        some (oL_2, mcode_5)
      else
        none
    else
      some (oL_2, mcode_5)
  else
    none
set_option maxHeartbeats 4000000 in
set_option maxRecDepth 100000 in
theorem l_case28 {p : Program} {l : Launch} {e : Env} {s : State} {m : MethodId} {below : List Frame} {meth : Method} {c : Code} {Q : State → Prop} {D : va_G} {A : Nat → Prop} {b L : Nat} {xs : Nat → Int32} (ca : Nat → ClassId) (hst : l.stackTraces = false) (hx : p.tables.exec = Jvm.exec) (hb : c.code = code) (hml : c.maxLocals = 9) (hown : s.vm.findClass RL = some m.cls) (hts : ∀ w ∈ WW, w.before #[Value.ref b] s = true) (hE : EE D ca SL0 s) (hA : ∀ q, s.heap.size ≤ q → A q) (hZ : ZZ A s s.heap) (hNC : NCE s) (hX : va_X b L xs s s.heap) (hbl : b < s.heap.size) (hbA : ¬ A b) (ad am : Nat → Nat) (bq oa od lq : Nat) (nF : Int32) (nO : Nat → Int32) (nL : Nat → Int32) (nA : Nat → Int32) (nC : Nat → Int32) (nV : Nat → Int32) (nU : Nat → Int32) (nP : Nat → Int32) (nE : Int32) (bF : Int32) (bO : Nat → Int32) (bL : Nat → Int32) (bA : Nat → Int32) (bC : Nat → Int32) (bV : Nat → Int32) (bU : Nat → Int32) (bP : Nat → Int32) (bE : Int32) (cT : Int32) (cK : Nat → Int32) (cO : Int32) (cQ : Nat → Int32) (cD : Int32) (pT : Int32) (pK : Int32) (pR : Nat → Int32) (pW : Nat → Int32) (pU : Nat → Int32) (pI : Nat → Int32) (pC : Nat → Nat → Int32) (uO : Int32) (uF : Nat → Int32) (uE : Nat → Int32) (uN : Nat → Int32) (wK : Nat → Int32) (jM : Int32) (jN : Int32) (jZ : Nat) (jB : Nat → Int32) (oL : Nat → Int64) (oD : Nat → UInt64) (mcode : Int32) (mday : Int32) (mown : Int32) (mquot : Nat → Int32) (mprom : Nat → Int32) (mfiles : Int32) (mowner : Nat → Int32) (mlinks : Nat → Int32) (mblocks : Nat → Int32) (mvals : Nat → Int32) (msnaps : Int32) (mranks : Nat → Int32) (mkept : Nat → Int32) (mshot : Nat → Int32) (mwas : Nat → Int32) (mholds : Int32) (mheld : Nat → Int32) (mends : Nat → Int32) (mopen : Nat → Int32) (mentr : Int32) (mkinds : Nat → Int32) (misop : Int32) (mfilesT : Int32) (mentrT : Int32) (mpromT : Nat → Int32) (mlinksT : Nat → Int32) (mblocksT : Nat → Int32) (mvalsT : Nat → Int32) (R : va_W) (x5 : Int32) (hi1 : vp_in (x5 + 1) L) (hi2 : vp_in (x5 + 2) L) (hi3 : vp_in (x5 + 3) L) (cN sN : Nat) (hcN : cN + 1100 ≤ 603072) (hsN : sN + 13000 ≤ 7198826) (ooL : Nat → Int64) (omcode : Int32) (hf : f_case28 (xs (x5 + 1).toNatClampNeg) nF uO uF uN oL mfiles mholds mheld mopen = some (ooL, omcode)) {H : Heap} {locs : List Loc} {ls : Array Slot} (hP : va_P D vwCl (WC ca ad bq nF nO nL nA nC nV nU nP nE bF bO bL bA bC bV bU bP bE cT cK cO cQ cD pT pK pR pW pU pI pC uO uF uE uN wK jM jN jZ jB ++ (WO ca oa od oL oD ++ (WM ca am lq mcode mday mown mquot mprom mfiles mowner mlinks mblocks mvals msnaps mranks mkept mshot mwas mholds mheld mends mopen mentr mkinds misop mfilesT mentrT mpromT mlinksT mblocksT mvalsT ++ R))) H) (hD : va_D A (WC ca ad bq nF nO nL nA nC nV nU nP nE bF bO bL bA bC bV bU bP bE cT cK cO cQ cD pT pK pR pW pU pI pC uO uF uE uN wK jM jN jZ jB ++ (WO ca oa od oL oD ++ (WM ca am lq mcode mday mown mquot mprom mfiles mowner mlinks mblocks mvals msnaps mranks mkept mshot mwas mholds mheld mends mopen mentr mkinds misop mfilesT mentrT mpromT mlinksT mblocksT mvalsT ++ R)))) (hS : va_S A s.heap H locs) (hl : lv_has ls 9 [(0, .ref b), (1, .ref (ad 0)), (2, .ref (am 0)), (3, .ref oa), (4, .ref od), (5, .int x5)]) (kk : ∀ (H : Heap) (locs : List Loc) (ls : Array Slot), va_P D vwCl (WC ca ad bq nF nO nL nA nC nV nU nP nE bF bO bL bA bC bV bU bP bE cT cK cO cQ cD pT pK pR pW pU pI pC uO uF uE uN wK jM jN jZ jB ++ (WO ca oa od ooL oD ++ (WM ca am lq omcode mday mown mquot mprom mfiles mowner mlinks mblocks mvals msnaps mranks mkept mshot mwas mholds mheld mends mopen mentr mkinds misop mfilesT mentrT mpromT mlinksT mblocksT mvalsT ++ R))) H → va_D A (WC ca ad bq nF nO nL nA nC nV nU nP nE bF bO bL bA bC bV bU bP bE cT cK cO cQ cD pT pK pR pW pU pI pC uO uF uE uN wK jM jN jZ jB ++ (WO ca oa od ooL oD ++ (WM ca am lq omcode mday mown mquot mprom mfiles mowner mlinks mblocks mvals msnaps mranks mkept mshot mwas mholds mheld mends mopen mentr mkinds misop mfilesT mentrT mpromT mlinksT mblocksT mvalsT ++ R))) → va_S A s.heap H locs → lv_has ls 9 [(0, .ref b), (1, .ref (ad 0)), (2, .ref (am 0)), (3, .ref oa), (4, .ref od), (5, .int x5)] → W p l e room_1 s m #[Value.ref b] below meth c H locs (cN + 1100) (sN + 13000) Q (F0 m 2434 ls [])) : W p l e room_1 s m #[Value.ref b] below meth c H locs cN sN Q (F0 m 1839 ls []) := by
  have hK := hE.1
  unfold f_case28 at hf
  change W p l e room_1 s m #[Value.ref b] below meth c H locs (cN + 0) (sN + 0) Q (F0 m 1839 ls [])
  refine lv_aload_n hx hb dL_law_1839 rfl (lv_at hl 1 rfl) ?_
  refine lv_aload_n hx hb dL_law_1840 rfl (lv_at hl 0 rfl) ?_
  refine lv_iload hx hb dL_law_1841 (lv_at hl 5 rfl) ?_
  refine lv_iconst (v := 1) hx hb dL_law_1843 (by decide) ?_
  refine lv_iadd hx hb dL_law_1844 ?_
  refine va_sld hx hb hX hbl hbA hS hi1 dL_law_1845 ?_
  refine lv_aload_n hx hb dL_law_1846 rfl (lv_at hl 3 rfl) ?_
  obtain ⟨⟨r1, oL_2⟩, h3, hf⟩ := bnd hf
  refine cl_wi (rest := []) (m_L_holdsOn l hst ca ad bq oa od nF nO nL nA nC nV nU nP nE bF bO bL bA bC bV bU bP bE cT cK cO cQ cD pT pK pR pW pU pI pC uO uF uE uN wK jM jN jZ jB oL oD (WM ca am lq mcode mday mown mquot mprom mfiles mowner mlinks mblocks mvals msnaps mranks mkept mshot mwas mholds mheld mends mopen mentr mkinds misop mfilesT mentrT mpromT mlinksT mblocksT mvalsT ++ R) _ (xs (x5 + 1).toNatClampNeg) r1 oL_2 h3) ⟨hx, hb, hml, hown, hts⟩ (vx_cwSW 3 hts (gSW q933 q934 q40 q935) rfl rfl rfl (by decide +kernel) ⟨Nat.le_of_ble_eq_true rfl, Nat.le_of_ble_eq_true rfl⟩) hE hP hD hS hA hZ hNC rfl hl.1 rfl (lv_room (Nat.le_of_ble_eq_true rfl)) dL_law_1847 ⟨by show _ ≤ 603072; omega, by show _ ≤ 7198826; omega⟩ (fun H locs hP hD hS => ?_)
  refine lv_istore (lv' := [(6, .int r1), (0, .ref b), (1, .ref (ad 0)), (2, .ref (am 0)), (3, .ref oa), (4, .ref od), (5, .int x5)]) hx hb dL_law_1850 hl (by decide) rfl (fun ls hl => ?_)
  refine lv_aload_n hx hb dL_law_1852 rfl (lv_at hl 3 rfl) ?_
  refine lv_aload_n hx hb dL_law_1853 rfl (lv_at hl 1 rfl) ?_
  refine lv_iload hx hb dL_law_1854 (lv_at hl 6 rfl) ?_
  refine lv_iconst (v := 1) hx hb dL_law_1856 (by decide) ?_
  refine lv_iadd hx hb dL_law_1857 ?_
  refine va_sld hx hb hX hbl hbA hS hi1 dL_law_1858 ?_
  obtain ⟨⟨r4, mcode_5⟩, h6, hf⟩ := bnd hf
  refine cm_i (rest := []) (m_M_holdsOn l ca am lq mcode mday mown mquot mprom mfiles mowner mlinks mblocks mvals msnaps mranks mkept mshot mwas mholds mheld mends mopen mentr mkinds misop mfilesT mentrT mpromT mlinksT mblocksT mvalsT (WC ca ad bq nF nO nL nA nC nV nU nP nE bF bO bL bA bC bV bU bP bE cT cK cO cQ cD pT pK pR pW pU pI pC uO uF uE uN wK jM jN jZ jB ++ (WO ca oa od oL_2 oD ++ R)) _ (xs (x5 + 1).toNatClampNeg) r4 mcode_5 h6) ⟨hx, hb, hml, hown, hts⟩ (cwV 1 hts (gV q1608 q1609 q1610 q50 q1611) rfl rfl rfl (by decide +kernel) ⟨Nat.le_of_ble_eq_true rfl, Nat.le_of_ble_eq_true rfl⟩) (va_recv hK hP (ci := 8) (q0 := 42) rfl rfl) hE hP hD hS hA rfl hl.1 rfl (lv_room (Nat.le_of_ble_eq_true rfl)) dL_law_1859 ⟨by show _ ≤ 603072; omega, by show _ ≤ 7198826; omega⟩ (fun H locs hP hD hS => ?_)
  refine lv_istore (lv' := [(7, .int r4), (6, .int r1), (0, .ref b), (1, .ref (ad 0)), (2, .ref (am 0)), (3, .ref oa), (4, .ref od), (5, .int x5)]) hx hb dL_law_1862 hl (by decide) rfl (fun ls hl => ?_)
  refine lv_aload_n hx hb dL_law_1864 rfl (lv_at hl 4 rfl) ?_
  obtain ⟨r7, h8, hf⟩ := bnd hf
  refine cm_i (rest := []) (m_M_thrown l ca am lq mcode_5 mday mown mquot mprom mfiles mowner mlinks mblocks mvals msnaps mranks mkept mshot mwas mholds mheld mends mopen mentr mkinds misop mfilesT mentrT mpromT mlinksT mblocksT mvalsT (WC ca ad bq nF nO nL nA nC nV nU nP nE bF bO bL bA bC bV bU bP bE cT cK cO cQ cD pT pK pR pW pU pI pC uO uF uE uN wK jM jN jZ jB ++ (WO ca oa od oL_2 oD ++ R)) _ r7 h8) ⟨hx, hb, hml, hown, hts⟩ (cwV 0 hts (gV q1417 q1418 q1419 q50 q1420) rfl rfl rfl (by decide +kernel) ⟨Nat.le_of_ble_eq_true rfl, Nat.le_of_ble_eq_true rfl⟩) (va_recv hK hP (ci := 8) (q0 := 42) rfl rfl) hE hP hD hS hA rfl hl.1 rfl (lv_room (Nat.le_of_ble_eq_true rfl)) dL_law_1865 ⟨by show _ ≤ 603072; omega, by show _ ≤ 7198826; omega⟩ (fun H locs hP hD hS => ?_)
  refine lv_iload hx hb dL_law_1868 (lv_at hl 1 rfl) ?_
  refine lv_icmp_eq (tgt := 1875) hx hb dL_law_1870 (by decide) (fun c9 => ?_) (fun c9 => ?_)
  · have hf := br_pos c9 hf
    refine lv_iload hx hb dL_law_1875 (lv_at hl 1 rfl) ?_
    refine lv_if_ne (tgt := 1892) hx hb dL_law_1877 (by decide) (fun c10 => ?_) (fun c10 => ?_)
    · have hf := br_neg c10 hf
      refine lv_goto (tgt := 2434) hx hb dL_law_1892 (by decide) ?_
      cases hf
      refine W.widen (k := cN + 1100) (n := sN + 13000) (by omega) (by omega) ?_
      exact kk _ _ _ hP hD hS (lv_sub hl [2, 3, 4, 5, 6, 7] rfl)
    · have hf := br_pos c10 hf
      refine lv_aload_n hx hb dL_law_1880 rfl (lv_at hl 5 rfl) ?_
      refine lv_iconst (v := 0) hx hb dL_law_1881 (by decide) ?_
      refine va_lald (D := D) hx hb hK hP 40 5 rfl rfl (by unfold vp_in; decide) dL_law_1882 ?_
      refine lv_iload hx hb dL_law_1883 (lv_at hl 0 rfl) ?_
      refine lv_i2l hx hb dL_law_1885 rfl ?_
      refine W.lcmp hx hb dL_law_1886 ?_
      refine lv_if_eq (tgt := 1892) hx hb dL_law_1887 (by decide) (fun c11 => ?_) (fun c11 => ?_)
      · have hf := br_pos c11 hf
        refine lv_goto (tgt := 2434) hx hb dL_law_1892 (by decide) ?_
        cases hf
        refine W.widen (k := cN + 1100) (n := sN + 13000) (by omega) (by omega) ?_
        exact kk _ _ _ hP hD hS (lv_sub hl [2, 3, 4, 5, 6, 7] rfl)
      · have hf := br_neg c11 hf
        refine lv_iconst (v := 0) hx hb dL_law_1890 (by decide) ?_
        cases hf
  · have hf := br_neg c9 hf
    refine lv_iconst (v := 0) hx hb dL_law_1873 (by decide) ?_
    cases hf
def f_case29 (uO : Int32) (uE : Nat → Int32) (uN : Nat → Int32) (oL : Nat → Int64) (mholds : Int32) (mends : Nat → Int32) (mopen : Nat → Int32) : Option ((Nat → Int64) × Int32) :=
  (f_L_nextEnd uO uE uN oL).bind fun (r1, oL_2) =>
  (f_M_nextEnd mholds mends mopen).bind fun (r4, mcode_5) =>
  (f_M_thrown mcode_5).bind fun r7 =>
  if r7 = r1 then
    if r1 = 0 then
      if (lg_cmp (oL_2 (0 : Int32).toNatClampNeg) ((r4).toInt64)) = 0 then
        some (oL_2, mcode_5)
      else
        none
    else
      some (oL_2, mcode_5)
  else
    none
set_option maxHeartbeats 4000000 in
set_option maxRecDepth 100000 in
theorem l_case29 {p : Program} {l : Launch} {e : Env} {s : State} {m : MethodId} {below : List Frame} {meth : Method} {c : Code} {Q : State → Prop} {D : va_G} {A : Nat → Prop} {b L : Nat} {xs : Nat → Int32} (ca : Nat → ClassId) (hst : l.stackTraces = false) (hx : p.tables.exec = Jvm.exec) (hb : c.code = code) (hml : c.maxLocals = 9) (hown : s.vm.findClass RL = some m.cls) (hts : ∀ w ∈ WW, w.before #[Value.ref b] s = true) (hE : EE D ca SL0 s) (hA : ∀ q, s.heap.size ≤ q → A q) (hZ : ZZ A s s.heap) (hNC : NCE s) (hX : va_X b L xs s s.heap) (hbl : b < s.heap.size) (hbA : ¬ A b) (ad am : Nat → Nat) (bq oa od lq : Nat) (nF : Int32) (nO : Nat → Int32) (nL : Nat → Int32) (nA : Nat → Int32) (nC : Nat → Int32) (nV : Nat → Int32) (nU : Nat → Int32) (nP : Nat → Int32) (nE : Int32) (bF : Int32) (bO : Nat → Int32) (bL : Nat → Int32) (bA : Nat → Int32) (bC : Nat → Int32) (bV : Nat → Int32) (bU : Nat → Int32) (bP : Nat → Int32) (bE : Int32) (cT : Int32) (cK : Nat → Int32) (cO : Int32) (cQ : Nat → Int32) (cD : Int32) (pT : Int32) (pK : Int32) (pR : Nat → Int32) (pW : Nat → Int32) (pU : Nat → Int32) (pI : Nat → Int32) (pC : Nat → Nat → Int32) (uO : Int32) (uF : Nat → Int32) (uE : Nat → Int32) (uN : Nat → Int32) (wK : Nat → Int32) (jM : Int32) (jN : Int32) (jZ : Nat) (jB : Nat → Int32) (oL : Nat → Int64) (oD : Nat → UInt64) (mcode : Int32) (mday : Int32) (mown : Int32) (mquot : Nat → Int32) (mprom : Nat → Int32) (mfiles : Int32) (mowner : Nat → Int32) (mlinks : Nat → Int32) (mblocks : Nat → Int32) (mvals : Nat → Int32) (msnaps : Int32) (mranks : Nat → Int32) (mkept : Nat → Int32) (mshot : Nat → Int32) (mwas : Nat → Int32) (mholds : Int32) (mheld : Nat → Int32) (mends : Nat → Int32) (mopen : Nat → Int32) (mentr : Int32) (mkinds : Nat → Int32) (misop : Int32) (mfilesT : Int32) (mentrT : Int32) (mpromT : Nat → Int32) (mlinksT : Nat → Int32) (mblocksT : Nat → Int32) (mvalsT : Nat → Int32) (R : va_W) (x5 : Int32) (hi1 : vp_in (x5 + 1) L) (hi2 : vp_in (x5 + 2) L) (hi3 : vp_in (x5 + 3) L) (cN sN : Nat) (hcN : cN + 1100 ≤ 603072) (hsN : sN + 13000 ≤ 7198826) (ooL : Nat → Int64) (omcode : Int32) (hf : f_case29 uO uE uN oL mholds mends mopen = some (ooL, omcode)) {H : Heap} {locs : List Loc} {ls : Array Slot} (hP : va_P D vwCl (WC ca ad bq nF nO nL nA nC nV nU nP nE bF bO bL bA bC bV bU bP bE cT cK cO cQ cD pT pK pR pW pU pI pC uO uF uE uN wK jM jN jZ jB ++ (WO ca oa od oL oD ++ (WM ca am lq mcode mday mown mquot mprom mfiles mowner mlinks mblocks mvals msnaps mranks mkept mshot mwas mholds mheld mends mopen mentr mkinds misop mfilesT mentrT mpromT mlinksT mblocksT mvalsT ++ R))) H) (hD : va_D A (WC ca ad bq nF nO nL nA nC nV nU nP nE bF bO bL bA bC bV bU bP bE cT cK cO cQ cD pT pK pR pW pU pI pC uO uF uE uN wK jM jN jZ jB ++ (WO ca oa od oL oD ++ (WM ca am lq mcode mday mown mquot mprom mfiles mowner mlinks mblocks mvals msnaps mranks mkept mshot mwas mholds mheld mends mopen mentr mkinds misop mfilesT mentrT mpromT mlinksT mblocksT mvalsT ++ R)))) (hS : va_S A s.heap H locs) (hl : lv_has ls 9 [(0, .ref b), (1, .ref (ad 0)), (2, .ref (am 0)), (3, .ref oa), (4, .ref od), (5, .int x5)]) (kk : ∀ (H : Heap) (locs : List Loc) (ls : Array Slot), va_P D vwCl (WC ca ad bq nF nO nL nA nC nV nU nP nE bF bO bL bA bC bV bU bP bE cT cK cO cQ cD pT pK pR pW pU pI pC uO uF uE uN wK jM jN jZ jB ++ (WO ca oa od ooL oD ++ (WM ca am lq omcode mday mown mquot mprom mfiles mowner mlinks mblocks mvals msnaps mranks mkept mshot mwas mholds mheld mends mopen mentr mkinds misop mfilesT mentrT mpromT mlinksT mblocksT mvalsT ++ R))) H → va_D A (WC ca ad bq nF nO nL nA nC nV nU nP nE bF bO bL bA bC bV bU bP bE cT cK cO cQ cD pT pK pR pW pU pI pC uO uF uE uN wK jM jN jZ jB ++ (WO ca oa od ooL oD ++ (WM ca am lq omcode mday mown mquot mprom mfiles mowner mlinks mblocks mvals msnaps mranks mkept mshot mwas mholds mheld mends mopen mentr mkinds misop mfilesT mentrT mpromT mlinksT mblocksT mvalsT ++ R))) → va_S A s.heap H locs → lv_has ls 9 [(0, .ref b), (1, .ref (ad 0)), (2, .ref (am 0)), (3, .ref oa), (4, .ref od), (5, .int x5)] → W p l e room_1 s m #[Value.ref b] below meth c H locs (cN + 1100) (sN + 13000) Q (F0 m 2434 ls [])) : W p l e room_1 s m #[Value.ref b] below meth c H locs cN sN Q (F0 m 1895 ls []) := by
  have hK := hE.1
  unfold f_case29 at hf
  change W p l e room_1 s m #[Value.ref b] below meth c H locs (cN + 0) (sN + 0) Q (F0 m 1895 ls [])
  refine lv_aload_n hx hb dL_law_1895 rfl (lv_at hl 1 rfl) ?_
  refine lv_aload_n hx hb dL_law_1896 rfl (lv_at hl 3 rfl) ?_
  obtain ⟨⟨r1, oL_2⟩, h3, hf⟩ := bnd hf
  refine cl_wi (rest := []) (m_L_nextEnd l hst ca ad bq oa od nF nO nL nA nC nV nU nP nE bF bO bL bA bC bV bU bP bE cT cK cO cQ cD pT pK pR pW pU pI pC uO uF uE uN wK jM jN jZ jB oL oD (WM ca am lq mcode mday mown mquot mprom mfiles mowner mlinks mblocks mvals msnaps mranks mkept mshot mwas mholds mheld mends mopen mentr mkinds misop mfilesT mentrT mpromT mlinksT mblocksT mvalsT ++ R) _ r1 oL_2 h3) ⟨hx, hb, hml, hown, hts⟩ (vx_cwSW 2 hts (gSW q940 q941 q40 q942) rfl rfl rfl (by decide +kernel) ⟨Nat.le_of_ble_eq_true rfl, Nat.le_of_ble_eq_true rfl⟩) hE hP hD hS hA hZ hNC rfl hl.1 rfl (lv_room (Nat.le_of_ble_eq_true rfl)) dL_law_1897 ⟨by show _ ≤ 603072; omega, by show _ ≤ 7198826; omega⟩ (fun H locs hP hD hS => ?_)
  refine lv_istore (lv' := [(6, .int r1), (0, .ref b), (1, .ref (ad 0)), (2, .ref (am 0)), (3, .ref oa), (4, .ref od), (5, .int x5)]) hx hb dL_law_1900 hl (by decide) rfl (fun ls hl => ?_)
  refine lv_aload_n hx hb dL_law_1902 rfl (lv_at hl 3 rfl) ?_
  obtain ⟨⟨r4, mcode_5⟩, h6, hf⟩ := bnd hf
  refine cm_i (rest := []) (m_M_nextEnd l ca am lq mcode mday mown mquot mprom mfiles mowner mlinks mblocks mvals msnaps mranks mkept mshot mwas mholds mheld mends mopen mentr mkinds misop mfilesT mentrT mpromT mlinksT mblocksT mvalsT (WC ca ad bq nF nO nL nA nC nV nU nP nE bF bO bL bA bC bV bU bP bE cT cK cO cQ cD pT pK pR pW pU pI pC uO uF uE uN wK jM jN jZ jB ++ (WO ca oa od oL_2 oD ++ R)) _ r4 mcode_5 h6) ⟨hx, hb, hml, hown, hts⟩ (cwV 0 hts (gV q1612 q1613 q1614 q50 q1615) rfl rfl rfl (by decide +kernel) ⟨Nat.le_of_ble_eq_true rfl, Nat.le_of_ble_eq_true rfl⟩) (va_recv hK hP (ci := 8) (q0 := 42) rfl rfl) hE hP hD hS hA rfl hl.1 rfl (lv_room (Nat.le_of_ble_eq_true rfl)) dL_law_1903 ⟨by show _ ≤ 603072; omega, by show _ ≤ 7198826; omega⟩ (fun H locs hP hD hS => ?_)
  refine lv_istore (lv' := [(7, .int r4), (6, .int r1), (0, .ref b), (1, .ref (ad 0)), (2, .ref (am 0)), (3, .ref oa), (4, .ref od), (5, .int x5)]) hx hb dL_law_1906 hl (by decide) rfl (fun ls hl => ?_)
  refine lv_aload_n hx hb dL_law_1908 rfl (lv_at hl 4 rfl) ?_
  obtain ⟨r7, h8, hf⟩ := bnd hf
  refine cm_i (rest := []) (m_M_thrown l ca am lq mcode_5 mday mown mquot mprom mfiles mowner mlinks mblocks mvals msnaps mranks mkept mshot mwas mholds mheld mends mopen mentr mkinds misop mfilesT mentrT mpromT mlinksT mblocksT mvalsT (WC ca ad bq nF nO nL nA nC nV nU nP nE bF bO bL bA bC bV bU bP bE cT cK cO cQ cD pT pK pR pW pU pI pC uO uF uE uN wK jM jN jZ jB ++ (WO ca oa od oL_2 oD ++ R)) _ r7 h8) ⟨hx, hb, hml, hown, hts⟩ (cwV 0 hts (gV q1417 q1418 q1419 q50 q1420) rfl rfl rfl (by decide +kernel) ⟨Nat.le_of_ble_eq_true rfl, Nat.le_of_ble_eq_true rfl⟩) (va_recv hK hP (ci := 8) (q0 := 42) rfl rfl) hE hP hD hS hA rfl hl.1 rfl (lv_room (Nat.le_of_ble_eq_true rfl)) dL_law_1909 ⟨by show _ ≤ 603072; omega, by show _ ≤ 7198826; omega⟩ (fun H locs hP hD hS => ?_)
  refine lv_iload hx hb dL_law_1912 (lv_at hl 1 rfl) ?_
  refine lv_icmp_eq (tgt := 1919) hx hb dL_law_1914 (by decide) (fun c9 => ?_) (fun c9 => ?_)
  · have hf := br_pos c9 hf
    refine lv_iload hx hb dL_law_1919 (lv_at hl 1 rfl) ?_
    refine lv_if_ne (tgt := 1936) hx hb dL_law_1921 (by decide) (fun c10 => ?_) (fun c10 => ?_)
    · have hf := br_neg c10 hf
      refine lv_goto (tgt := 2434) hx hb dL_law_1936 (by decide) ?_
      cases hf
      refine W.widen (k := cN + 1100) (n := sN + 13000) (by omega) (by omega) ?_
      exact kk _ _ _ hP hD hS (lv_sub hl [2, 3, 4, 5, 6, 7] rfl)
    · have hf := br_pos c10 hf
      refine lv_aload_n hx hb dL_law_1924 rfl (lv_at hl 5 rfl) ?_
      refine lv_iconst (v := 0) hx hb dL_law_1925 (by decide) ?_
      refine va_lald (D := D) hx hb hK hP 40 5 rfl rfl (by unfold vp_in; decide) dL_law_1926 ?_
      refine lv_iload hx hb dL_law_1927 (lv_at hl 0 rfl) ?_
      refine lv_i2l hx hb dL_law_1929 rfl ?_
      refine W.lcmp hx hb dL_law_1930 ?_
      refine lv_if_eq (tgt := 1936) hx hb dL_law_1931 (by decide) (fun c11 => ?_) (fun c11 => ?_)
      · have hf := br_pos c11 hf
        refine lv_goto (tgt := 2434) hx hb dL_law_1936 (by decide) ?_
        cases hf
        refine W.widen (k := cN + 1100) (n := sN + 13000) (by omega) (by omega) ?_
        exact kk _ _ _ hP hD hS (lv_sub hl [2, 3, 4, 5, 6, 7] rfl)
      · have hf := br_neg c11 hf
        refine lv_iconst (v := 0) hx hb dL_law_1934 (by decide) ?_
        cases hf
  · have hf := br_neg c9 hf
    refine lv_iconst (v := 0) hx hb dL_law_1917 (by decide) ?_
    cases hf
def f_case30 (p1 : Int32) (nF : Int32) (nL : Nat → Int32) (nA : Nat → Int32) (nC : Nat → Int32) (nU : Nat → Int32) (cT : Int32) (cD : Int32) (uO : Int32) (uF : Nat → Int32) (uE : Nat → Int32) (uN : Nat → Int32) (oL : Nat → Int64) (mday : Int32) (mlinks : Nat → Int32) (mblocks : Nat → Int32) (mholds : Int32) (mheld : Nat → Int32) (mends : Nat → Int32) (mopen : Nat → Int32) (misop : Int32) : Option ((Nat → Int32) × (Nat → Int32) × (Nat → Int32) × Int32 × (Nat → Int32) × (Nat → Int64) × Int32 × Int32 × (Nat → Int32) × (Nat → Int32)) :=
  (f_L_pass p1 nF nL nA nC nU cT cD uO uF uE uN oL).bind fun (r1, nA_2, nC_3, nU_4, cD_5, uN_6, oL_7) =>
  (f_M_pass p1 mday mlinks mblocks mholds mheld mends mopen misop).bind fun (r9, mcode_10, mday_11, mblocks_12, mopen_13) =>
  (f_M_thrown mcode_10).bind fun r15 =>
  if r15 = r1 then
    if r1 = 0 then
      if (lg_cmp (oL_7 (0 : Int32).toNatClampNeg) ((r9).toInt64)) = 0 then
        some (nA_2, nC_3, nU_4, cD_5, uN_6, oL_7, mcode_10, mday_11, mblocks_12, mopen_13)
      else
        none
    else
      some (nA_2, nC_3, nU_4, cD_5, uN_6, oL_7, mcode_10, mday_11, mblocks_12, mopen_13)
  else
    none
set_option maxHeartbeats 4000000 in
set_option maxRecDepth 100000 in
theorem l_case30 {p : Program} {l : Launch} {e : Env} {s : State} {m : MethodId} {below : List Frame} {meth : Method} {c : Code} {Q : State → Prop} {D : va_G} {A : Nat → Prop} {b L : Nat} {xs : Nat → Int32} (ca : Nat → ClassId) (hst : l.stackTraces = false) (hx : p.tables.exec = Jvm.exec) (hb : c.code = code) (hml : c.maxLocals = 9) (hown : s.vm.findClass RL = some m.cls) (hts : ∀ w ∈ WW, w.before #[Value.ref b] s = true) (hE : EE D ca SL0 s) (hA : ∀ q, s.heap.size ≤ q → A q) (hZ : ZZ A s s.heap) (hNC : NCE s) (hX : va_X b L xs s s.heap) (hbl : b < s.heap.size) (hbA : ¬ A b) (ad am : Nat → Nat) (bq oa od lq : Nat) (nF : Int32) (nO : Nat → Int32) (nL : Nat → Int32) (nA : Nat → Int32) (nC : Nat → Int32) (nV : Nat → Int32) (nU : Nat → Int32) (nP : Nat → Int32) (nE : Int32) (bF : Int32) (bO : Nat → Int32) (bL : Nat → Int32) (bA : Nat → Int32) (bC : Nat → Int32) (bV : Nat → Int32) (bU : Nat → Int32) (bP : Nat → Int32) (bE : Int32) (cT : Int32) (cK : Nat → Int32) (cO : Int32) (cQ : Nat → Int32) (cD : Int32) (pT : Int32) (pK : Int32) (pR : Nat → Int32) (pW : Nat → Int32) (pU : Nat → Int32) (pI : Nat → Int32) (pC : Nat → Nat → Int32) (uO : Int32) (uF : Nat → Int32) (uE : Nat → Int32) (uN : Nat → Int32) (wK : Nat → Int32) (jM : Int32) (jN : Int32) (jZ : Nat) (jB : Nat → Int32) (oL : Nat → Int64) (oD : Nat → UInt64) (mcode : Int32) (mday : Int32) (mown : Int32) (mquot : Nat → Int32) (mprom : Nat → Int32) (mfiles : Int32) (mowner : Nat → Int32) (mlinks : Nat → Int32) (mblocks : Nat → Int32) (mvals : Nat → Int32) (msnaps : Int32) (mranks : Nat → Int32) (mkept : Nat → Int32) (mshot : Nat → Int32) (mwas : Nat → Int32) (mholds : Int32) (mheld : Nat → Int32) (mends : Nat → Int32) (mopen : Nat → Int32) (mentr : Int32) (mkinds : Nat → Int32) (misop : Int32) (mfilesT : Int32) (mentrT : Int32) (mpromT : Nat → Int32) (mlinksT : Nat → Int32) (mblocksT : Nat → Int32) (mvalsT : Nat → Int32) (R : va_W) (x5 : Int32) (hi1 : vp_in (x5 + 1) L) (hi2 : vp_in (x5 + 2) L) (hi3 : vp_in (x5 + 3) L) (cN sN : Nat) (hcN : cN + 1100 ≤ 603072) (hsN : sN + 13000 ≤ 7198826) (onA : Nat → Int32) (onC : Nat → Int32) (onU : Nat → Int32) (ocD : Int32) (ouN : Nat → Int32) (ooL : Nat → Int64) (omcode : Int32) (omday : Int32) (omblocks : Nat → Int32) (omopen : Nat → Int32) (hf : f_case30 (xs (x5 + 1).toNatClampNeg) nF nL nA nC nU cT cD uO uF uE uN oL mday mlinks mblocks mholds mheld mends mopen misop = some (onA, onC, onU, ocD, ouN, ooL, omcode, omday, omblocks, omopen)) {H : Heap} {locs : List Loc} {ls : Array Slot} (hP : va_P D vwCl (WC ca ad bq nF nO nL nA nC nV nU nP nE bF bO bL bA bC bV bU bP bE cT cK cO cQ cD pT pK pR pW pU pI pC uO uF uE uN wK jM jN jZ jB ++ (WO ca oa od oL oD ++ (WM ca am lq mcode mday mown mquot mprom mfiles mowner mlinks mblocks mvals msnaps mranks mkept mshot mwas mholds mheld mends mopen mentr mkinds misop mfilesT mentrT mpromT mlinksT mblocksT mvalsT ++ R))) H) (hD : va_D A (WC ca ad bq nF nO nL nA nC nV nU nP nE bF bO bL bA bC bV bU bP bE cT cK cO cQ cD pT pK pR pW pU pI pC uO uF uE uN wK jM jN jZ jB ++ (WO ca oa od oL oD ++ (WM ca am lq mcode mday mown mquot mprom mfiles mowner mlinks mblocks mvals msnaps mranks mkept mshot mwas mholds mheld mends mopen mentr mkinds misop mfilesT mentrT mpromT mlinksT mblocksT mvalsT ++ R)))) (hS : va_S A s.heap H locs) (hl : lv_has ls 9 [(0, .ref b), (1, .ref (ad 0)), (2, .ref (am 0)), (3, .ref oa), (4, .ref od), (5, .int x5)]) (kk : ∀ (H : Heap) (locs : List Loc) (ls : Array Slot), va_P D vwCl (WC ca ad bq nF nO nL onA onC nV onU nP nE bF bO bL bA bC bV bU bP bE cT cK cO cQ ocD pT pK pR pW pU pI pC uO uF uE ouN wK jM jN jZ jB ++ (WO ca oa od ooL oD ++ (WM ca am lq omcode omday mown mquot mprom mfiles mowner mlinks omblocks mvals msnaps mranks mkept mshot mwas mholds mheld mends omopen mentr mkinds misop mfilesT mentrT mpromT mlinksT mblocksT mvalsT ++ R))) H → va_D A (WC ca ad bq nF nO nL onA onC nV onU nP nE bF bO bL bA bC bV bU bP bE cT cK cO cQ ocD pT pK pR pW pU pI pC uO uF uE ouN wK jM jN jZ jB ++ (WO ca oa od ooL oD ++ (WM ca am lq omcode omday mown mquot mprom mfiles mowner mlinks omblocks mvals msnaps mranks mkept mshot mwas mholds mheld mends omopen mentr mkinds misop mfilesT mentrT mpromT mlinksT mblocksT mvalsT ++ R))) → va_S A s.heap H locs → lv_has ls 9 [(0, .ref b), (1, .ref (ad 0)), (2, .ref (am 0)), (3, .ref oa), (4, .ref od), (5, .int x5)] → W p l e room_1 s m #[Value.ref b] below meth c H locs (cN + 1100) (sN + 13000) Q (F0 m 2434 ls [])) : W p l e room_1 s m #[Value.ref b] below meth c H locs cN sN Q (F0 m 1939 ls []) := by
  have hK := hE.1
  unfold f_case30 at hf
  change W p l e room_1 s m #[Value.ref b] below meth c H locs (cN + 0) (sN + 0) Q (F0 m 1939 ls [])
  refine lv_aload_n hx hb dL_law_1939 rfl (lv_at hl 1 rfl) ?_
  refine lv_aload_n hx hb dL_law_1940 rfl (lv_at hl 0 rfl) ?_
  refine lv_iload hx hb dL_law_1941 (lv_at hl 5 rfl) ?_
  refine lv_iconst (v := 1) hx hb dL_law_1943 (by decide) ?_
  refine lv_iadd hx hb dL_law_1944 ?_
  refine va_sld hx hb hX hbl hbA hS hi1 dL_law_1945 ?_
  refine lv_aload_n hx hb dL_law_1946 rfl (lv_at hl 3 rfl) ?_
  obtain ⟨⟨r1, nA_2, nC_3, nU_4, cD_5, uN_6, oL_7⟩, h8, hf⟩ := bnd hf
  refine cl_wi (rest := []) (m_L_pass l hst ca ad bq oa od nF nO nL nA nC nV nU nP nE bF bO bL bA bC bV bU bP bE cT cK cO cQ cD pT pK pR pW pU pI pC uO uF uE uN wK jM jN jZ jB oL oD (WM ca am lq mcode mday mown mquot mprom mfiles mowner mlinks mblocks mvals msnaps mranks mkept mshot mwas mholds mheld mends mopen mentr mkinds misop mfilesT mentrT mpromT mlinksT mblocksT mvalsT ++ R) _ (xs (x5 + 1).toNatClampNeg) r1 nA_2 nC_3 nU_4 cD_5 uN_6 oL_7 h8) ⟨hx, hb, hml, hown, hts⟩ (vx_cwSW 3 hts (gSW q956 q957 q40 q958) rfl rfl rfl (by decide +kernel) ⟨Nat.le_of_ble_eq_true rfl, Nat.le_of_ble_eq_true rfl⟩) hE hP hD hS hA hZ hNC rfl hl.1 rfl (lv_room (Nat.le_of_ble_eq_true rfl)) dL_law_1947 ⟨by show _ ≤ 603072; omega, by show _ ≤ 7198826; omega⟩ (fun H locs hP hD hS => ?_)
  refine lv_istore (lv' := [(6, .int r1), (0, .ref b), (1, .ref (ad 0)), (2, .ref (am 0)), (3, .ref oa), (4, .ref od), (5, .int x5)]) hx hb dL_law_1950 hl (by decide) rfl (fun ls hl => ?_)
  refine lv_aload_n hx hb dL_law_1952 rfl (lv_at hl 3 rfl) ?_
  refine lv_aload_n hx hb dL_law_1953 rfl (lv_at hl 1 rfl) ?_
  refine lv_iload hx hb dL_law_1954 (lv_at hl 6 rfl) ?_
  refine lv_iconst (v := 1) hx hb dL_law_1956 (by decide) ?_
  refine lv_iadd hx hb dL_law_1957 ?_
  refine va_sld hx hb hX hbl hbA hS hi1 dL_law_1958 ?_
  obtain ⟨⟨r9, mcode_10, mday_11, mblocks_12, mopen_13⟩, h14, hf⟩ := bnd hf
  refine cm_i (rest := []) (m_M_pass l ca am lq mcode mday mown mquot mprom mfiles mowner mlinks mblocks mvals msnaps mranks mkept mshot mwas mholds mheld mends mopen mentr mkinds misop mfilesT mentrT mpromT mlinksT mblocksT mvalsT (WC ca ad bq nF nO nL nA_2 nC_3 nV nU_4 nP nE bF bO bL bA bC bV bU bP bE cT cK cO cQ cD_5 pT pK pR pW pU pI pC uO uF uE uN_6 wK jM jN jZ jB ++ (WO ca oa od oL_7 oD ++ R)) _ (xs (x5 + 1).toNatClampNeg) r9 mcode_10 mday_11 mblocks_12 mopen_13 h14) ⟨hx, hb, hml, hown, hts⟩ (cwV 1 hts (gV q1616 q1617 q1618 q50 q1619) rfl rfl rfl (by decide +kernel) ⟨Nat.le_of_ble_eq_true rfl, Nat.le_of_ble_eq_true rfl⟩) (va_recv hK hP (ci := 8) (q0 := 42) rfl rfl) hE hP hD hS hA rfl hl.1 rfl (lv_room (Nat.le_of_ble_eq_true rfl)) dL_law_1959 ⟨by show _ ≤ 603072; omega, by show _ ≤ 7198826; omega⟩ (fun H locs hP hD hS => ?_)
  refine lv_istore (lv' := [(7, .int r9), (6, .int r1), (0, .ref b), (1, .ref (ad 0)), (2, .ref (am 0)), (3, .ref oa), (4, .ref od), (5, .int x5)]) hx hb dL_law_1962 hl (by decide) rfl (fun ls hl => ?_)
  refine lv_aload_n hx hb dL_law_1964 rfl (lv_at hl 4 rfl) ?_
  obtain ⟨r15, h16, hf⟩ := bnd hf
  refine cm_i (rest := []) (m_M_thrown l ca am lq mcode_10 mday_11 mown mquot mprom mfiles mowner mlinks mblocks_12 mvals msnaps mranks mkept mshot mwas mholds mheld mends mopen_13 mentr mkinds misop mfilesT mentrT mpromT mlinksT mblocksT mvalsT (WC ca ad bq nF nO nL nA_2 nC_3 nV nU_4 nP nE bF bO bL bA bC bV bU bP bE cT cK cO cQ cD_5 pT pK pR pW pU pI pC uO uF uE uN_6 wK jM jN jZ jB ++ (WO ca oa od oL_7 oD ++ R)) _ r15 h16) ⟨hx, hb, hml, hown, hts⟩ (cwV 0 hts (gV q1417 q1418 q1419 q50 q1420) rfl rfl rfl (by decide +kernel) ⟨Nat.le_of_ble_eq_true rfl, Nat.le_of_ble_eq_true rfl⟩) (va_recv hK hP (ci := 8) (q0 := 42) rfl rfl) hE hP hD hS hA rfl hl.1 rfl (lv_room (Nat.le_of_ble_eq_true rfl)) dL_law_1965 ⟨by show _ ≤ 603072; omega, by show _ ≤ 7198826; omega⟩ (fun H locs hP hD hS => ?_)
  refine lv_iload hx hb dL_law_1968 (lv_at hl 1 rfl) ?_
  refine lv_icmp_eq (tgt := 1975) hx hb dL_law_1970 (by decide) (fun c17 => ?_) (fun c17 => ?_)
  · have hf := br_pos c17 hf
    refine lv_iload hx hb dL_law_1975 (lv_at hl 1 rfl) ?_
    refine lv_if_ne (tgt := 1992) hx hb dL_law_1977 (by decide) (fun c18 => ?_) (fun c18 => ?_)
    · have hf := br_neg c18 hf
      refine lv_goto (tgt := 2434) hx hb dL_law_1992 (by decide) ?_
      cases hf
      refine W.widen (k := cN + 1100) (n := sN + 13000) (by omega) (by omega) ?_
      exact kk _ _ _ hP hD hS (lv_sub hl [2, 3, 4, 5, 6, 7] rfl)
    · have hf := br_pos c18 hf
      refine lv_aload_n hx hb dL_law_1980 rfl (lv_at hl 5 rfl) ?_
      refine lv_iconst (v := 0) hx hb dL_law_1981 (by decide) ?_
      refine va_lald (D := D) hx hb hK hP 40 5 rfl rfl (by unfold vp_in; decide) dL_law_1982 ?_
      refine lv_iload hx hb dL_law_1983 (lv_at hl 0 rfl) ?_
      refine lv_i2l hx hb dL_law_1985 rfl ?_
      refine W.lcmp hx hb dL_law_1986 ?_
      refine lv_if_eq (tgt := 1992) hx hb dL_law_1987 (by decide) (fun c19 => ?_) (fun c19 => ?_)
      · have hf := br_pos c19 hf
        refine lv_goto (tgt := 2434) hx hb dL_law_1992 (by decide) ?_
        cases hf
        refine W.widen (k := cN + 1100) (n := sN + 13000) (by omega) (by omega) ?_
        exact kk _ _ _ hP hD hS (lv_sub hl [2, 3, 4, 5, 6, 7] rfl)
      · have hf := br_neg c19 hf
        refine lv_iconst (v := 0) hx hb dL_law_1990 (by decide) ?_
        cases hf
  · have hf := br_neg c17 hf
    refine lv_iconst (v := 0) hx hb dL_law_1973 (by decide) ?_
    cases hf
def f_case31 (cD : Int32) (mday : Int32) : Option (Int32) :=
  (f_C_day cD).bind fun r1 =>
  (f_M_day mday).bind fun (r3, mcode_4) =>
  if r1 = r3 then
    some mcode_4
  else
    none
set_option maxHeartbeats 4000000 in
set_option maxRecDepth 100000 in
theorem l_case31 {p : Program} {l : Launch} {e : Env} {s : State} {m : MethodId} {below : List Frame} {meth : Method} {c : Code} {Q : State → Prop} {D : va_G} {A : Nat → Prop} {b L : Nat} {xs : Nat → Int32} (ca : Nat → ClassId) (hst : l.stackTraces = false) (hx : p.tables.exec = Jvm.exec) (hb : c.code = code) (hml : c.maxLocals = 9) (hown : s.vm.findClass RL = some m.cls) (hts : ∀ w ∈ WW, w.before #[Value.ref b] s = true) (hE : EE D ca SL0 s) (hA : ∀ q, s.heap.size ≤ q → A q) (hZ : ZZ A s s.heap) (hNC : NCE s) (hX : va_X b L xs s s.heap) (hbl : b < s.heap.size) (hbA : ¬ A b) (ad am : Nat → Nat) (bq oa od lq : Nat) (nF : Int32) (nO : Nat → Int32) (nL : Nat → Int32) (nA : Nat → Int32) (nC : Nat → Int32) (nV : Nat → Int32) (nU : Nat → Int32) (nP : Nat → Int32) (nE : Int32) (bF : Int32) (bO : Nat → Int32) (bL : Nat → Int32) (bA : Nat → Int32) (bC : Nat → Int32) (bV : Nat → Int32) (bU : Nat → Int32) (bP : Nat → Int32) (bE : Int32) (cT : Int32) (cK : Nat → Int32) (cO : Int32) (cQ : Nat → Int32) (cD : Int32) (pT : Int32) (pK : Int32) (pR : Nat → Int32) (pW : Nat → Int32) (pU : Nat → Int32) (pI : Nat → Int32) (pC : Nat → Nat → Int32) (uO : Int32) (uF : Nat → Int32) (uE : Nat → Int32) (uN : Nat → Int32) (wK : Nat → Int32) (jM : Int32) (jN : Int32) (jZ : Nat) (jB : Nat → Int32) (oL : Nat → Int64) (oD : Nat → UInt64) (mcode : Int32) (mday : Int32) (mown : Int32) (mquot : Nat → Int32) (mprom : Nat → Int32) (mfiles : Int32) (mowner : Nat → Int32) (mlinks : Nat → Int32) (mblocks : Nat → Int32) (mvals : Nat → Int32) (msnaps : Int32) (mranks : Nat → Int32) (mkept : Nat → Int32) (mshot : Nat → Int32) (mwas : Nat → Int32) (mholds : Int32) (mheld : Nat → Int32) (mends : Nat → Int32) (mopen : Nat → Int32) (mentr : Int32) (mkinds : Nat → Int32) (misop : Int32) (mfilesT : Int32) (mentrT : Int32) (mpromT : Nat → Int32) (mlinksT : Nat → Int32) (mblocksT : Nat → Int32) (mvalsT : Nat → Int32) (R : va_W) (x5 : Int32) (hi1 : vp_in (x5 + 1) L) (hi2 : vp_in (x5 + 2) L) (hi3 : vp_in (x5 + 3) L) (cN sN : Nat) (hcN : cN + 1100 ≤ 603072) (hsN : sN + 13000 ≤ 7198826) (omcode : Int32) (hf : f_case31 cD mday = some omcode) {H : Heap} {locs : List Loc} {ls : Array Slot} (hP : va_P D vwCl (WC ca ad bq nF nO nL nA nC nV nU nP nE bF bO bL bA bC bV bU bP bE cT cK cO cQ cD pT pK pR pW pU pI pC uO uF uE uN wK jM jN jZ jB ++ (WO ca oa od oL oD ++ (WM ca am lq mcode mday mown mquot mprom mfiles mowner mlinks mblocks mvals msnaps mranks mkept mshot mwas mholds mheld mends mopen mentr mkinds misop mfilesT mentrT mpromT mlinksT mblocksT mvalsT ++ R))) H) (hD : va_D A (WC ca ad bq nF nO nL nA nC nV nU nP nE bF bO bL bA bC bV bU bP bE cT cK cO cQ cD pT pK pR pW pU pI pC uO uF uE uN wK jM jN jZ jB ++ (WO ca oa od oL oD ++ (WM ca am lq mcode mday mown mquot mprom mfiles mowner mlinks mblocks mvals msnaps mranks mkept mshot mwas mholds mheld mends mopen mentr mkinds misop mfilesT mentrT mpromT mlinksT mblocksT mvalsT ++ R)))) (hS : va_S A s.heap H locs) (hl : lv_has ls 9 [(0, .ref b), (1, .ref (ad 0)), (2, .ref (am 0)), (3, .ref oa), (4, .ref od), (5, .int x5)]) (kk : ∀ (H : Heap) (locs : List Loc) (ls : Array Slot), va_P D vwCl (WC ca ad bq nF nO nL nA nC nV nU nP nE bF bO bL bA bC bV bU bP bE cT cK cO cQ cD pT pK pR pW pU pI pC uO uF uE uN wK jM jN jZ jB ++ (WO ca oa od oL oD ++ (WM ca am lq omcode mday mown mquot mprom mfiles mowner mlinks mblocks mvals msnaps mranks mkept mshot mwas mholds mheld mends mopen mentr mkinds misop mfilesT mentrT mpromT mlinksT mblocksT mvalsT ++ R))) H → va_D A (WC ca ad bq nF nO nL nA nC nV nU nP nE bF bO bL bA bC bV bU bP bE cT cK cO cQ cD pT pK pR pW pU pI pC uO uF uE uN wK jM jN jZ jB ++ (WO ca oa od oL oD ++ (WM ca am lq omcode mday mown mquot mprom mfiles mowner mlinks mblocks mvals msnaps mranks mkept mshot mwas mholds mheld mends mopen mentr mkinds misop mfilesT mentrT mpromT mlinksT mblocksT mvalsT ++ R))) → va_S A s.heap H locs → lv_has ls 9 [(0, .ref b), (1, .ref (ad 0)), (2, .ref (am 0)), (3, .ref oa), (4, .ref od), (5, .int x5)] → W p l e room_1 s m #[Value.ref b] below meth c H locs (cN + 1100) (sN + 13000) Q (F0 m 2434 ls [])) : W p l e room_1 s m #[Value.ref b] below meth c H locs cN sN Q (F0 m 1995 ls []) := by
  have hK := hE.1
  unfold f_case31 at hf
  change W p l e room_1 s m #[Value.ref b] below meth c H locs (cN + 0) (sN + 0) Q (F0 m 1995 ls [])
  refine lv_aload_n hx hb dL_law_1995 rfl (lv_at hl 1 rfl) ?_
  obtain ⟨r1, h2, hf⟩ := bnd hf
  refine call_vi (rest := []) (m_C_day l ca ad bq nF nO nL nA nC nV nU nP nE bF bO bL bA bC bV bU bP bE cT cK cO cQ cD pT pK pR pW pU pI pC uO uF uE uN wK jM jN jZ jB (WO ca oa od oL oD ++ (WM ca am lq mcode mday mown mquot mprom mfiles mowner mlinks mblocks mvals msnaps mranks mkept mshot mwas mholds mheld mends mopen mentr mkinds misop mfilesT mentrT mpromT mlinksT mblocksT mvalsT ++ R)) _ r1 h2) ⟨hx, hb, hml, hown, hts⟩ (cwV 0 hts (gV q251 q252 q253 q41 q254) rfl rfl rfl (by decide +kernel) ⟨Nat.le_of_ble_eq_true rfl, Nat.le_of_ble_eq_true rfl⟩) (va_recv hK hP (ci := 7) (q0 := 0) rfl rfl) hE hP hD hS hA rfl hl.1 rfl (lv_room (Nat.le_of_ble_eq_true rfl)) dL_law_1996 ⟨by show _ ≤ 603072; omega, by show _ ≤ 7198826; omega⟩ (fun H locs hP hD hS => ?_)
  refine lv_aload_n hx hb dL_law_1999 rfl (lv_at hl 2 rfl) ?_
  obtain ⟨⟨r3, mcode_4⟩, h5, hf⟩ := bnd hf
  refine cm_i (rest := [.int r1]) (m_M_day l ca am lq mcode mday mown mquot mprom mfiles mowner mlinks mblocks mvals msnaps mranks mkept mshot mwas mholds mheld mends mopen mentr mkinds misop mfilesT mentrT mpromT mlinksT mblocksT mvalsT (WC ca ad bq nF nO nL nA nC nV nU nP nE bF bO bL bA bC bV bU bP bE cT cK cO cQ cD pT pK pR pW pU pI pC uO uF uE uN wK jM jN jZ jB ++ (WO ca oa od oL oD ++ R)) _ r3 mcode_4 h5) ⟨hx, hb, hml, hown, hts⟩ (cwV 0 hts (gV q1620 q1621 q1622 q50 q1623) rfl rfl rfl (by decide +kernel) ⟨Nat.le_of_ble_eq_true rfl, Nat.le_of_ble_eq_true rfl⟩) (va_recv hK hP (ci := 8) (q0 := 42) rfl rfl) hE hP hD hS hA rfl hl.1 rfl (lv_room (Nat.le_of_ble_eq_true rfl)) dL_law_2000 ⟨by show _ ≤ 603072; omega, by show _ ≤ 7198826; omega⟩ (fun H locs hP hD hS => ?_)
  refine lv_icmp_eq (tgt := 2434) hx hb dL_law_2003 (by decide) (fun c6 => ?_) (fun c6 => ?_)
  · have hf := br_pos c6 hf
    cases hf
    refine W.widen (k := cN + 1100) (n := sN + 13000) (by omega) (by omega) ?_
    exact kk _ _ _ hP hD hS (lv_sub hl [0, 1, 2, 3, 4, 5] rfl)
  · have hf := br_neg c6 hf
    refine lv_iconst (v := 0) hx hb dL_law_2006 (by decide) ?_
    cases hf
def f_case32 (nF : Int32) (nO : Nat → Int32) (nL : Nat → Int32) (nA : Nat → Int32) (nC : Nat → Int32) (nV : Nat → Int32) (nU : Nat → Int32) (nP : Nat → Int32) (nE : Int32) (bF : Int32) (bO : Nat → Int32) (bL : Nat → Int32) (bA : Nat → Int32) (bC : Nat → Int32) (bV : Nat → Int32) (bU : Nat → Int32) (bP : Nat → Int32) (bE : Int32) (cT : Int32) (oL : Nat → Int64) (mprom : Nat → Int32) (mfiles : Int32) (mlinks : Nat → Int32) (mblocks : Nat → Int32) (mvals : Nat → Int32) (mentr : Int32) (misop : Int32) (mfilesT : Int32) (mentrT : Int32) (mpromT : Nat → Int32) (mlinksT : Nat → Int32) (mblocksT : Nat → Int32) (mvalsT : Nat → Int32) : Option (Int32 × (Nat → Int32) × (Nat → Int32) × (Nat → Int32) × (Nat → Int32) × (Nat → Int32) × (Nat → Int32) × (Nat → Int32) × Int32 × Int32 × (Nat → Int64) × Int32 × Int32 × Int32 × Int32 × (Nat → Int32) × (Nat → Int32) × (Nat → Int32) × (Nat → Int32)) :=
  (f_L_begin nF nO nL nA nC nV nU nP nE bF bO bL bA bC bV bU bP bE cT oL).bind fun (r1, bF_2, bO_3, bL_4, bA_5, bC_6, bV_7, bU_8, bP_9, bE_10, cT_11, oL_12) =>
  (f_M_begin mprom mfiles mlinks mblocks mvals mentr misop mfilesT mentrT mpromT mlinksT mblocksT mvalsT).bind fun (r14, mcode_15, misop_16, mfilesT_17, mentrT_18, mpromT_19, mlinksT_20, mblocksT_21, mvalsT_22) =>
  (f_M_thrown mcode_15).bind fun r24 =>
  if r24 = r1 then
    if r1 = 0 then
      if (lg_cmp (oL_12 (0 : Int32).toNatClampNeg) ((r14).toInt64)) = 0 then
        some (bF_2, bO_3, bL_4, bA_5, bC_6, bV_7, bU_8, bP_9, bE_10, cT_11, oL_12, mcode_15, misop_16, mfilesT_17, mentrT_18, mpromT_19, mlinksT_20, mblocksT_21, mvalsT_22)
      else
        none
    else
      some (bF_2, bO_3, bL_4, bA_5, bC_6, bV_7, bU_8, bP_9, bE_10, cT_11, oL_12, mcode_15, misop_16, mfilesT_17, mentrT_18, mpromT_19, mlinksT_20, mblocksT_21, mvalsT_22)
  else
    none
set_option maxHeartbeats 4000000 in
set_option maxRecDepth 100000 in
theorem l_case32 {p : Program} {l : Launch} {e : Env} {s : State} {m : MethodId} {below : List Frame} {meth : Method} {c : Code} {Q : State → Prop} {D : va_G} {A : Nat → Prop} {b L : Nat} {xs : Nat → Int32} (ca : Nat → ClassId) (hst : l.stackTraces = false) (hx : p.tables.exec = Jvm.exec) (hb : c.code = code) (hml : c.maxLocals = 9) (hown : s.vm.findClass RL = some m.cls) (hts : ∀ w ∈ WW, w.before #[Value.ref b] s = true) (hE : EE D ca SL0 s) (hA : ∀ q, s.heap.size ≤ q → A q) (hZ : ZZ A s s.heap) (hNC : NCE s) (hX : va_X b L xs s s.heap) (hbl : b < s.heap.size) (hbA : ¬ A b) (ad am : Nat → Nat) (bq oa od lq : Nat) (nF : Int32) (nO : Nat → Int32) (nL : Nat → Int32) (nA : Nat → Int32) (nC : Nat → Int32) (nV : Nat → Int32) (nU : Nat → Int32) (nP : Nat → Int32) (nE : Int32) (bF : Int32) (bO : Nat → Int32) (bL : Nat → Int32) (bA : Nat → Int32) (bC : Nat → Int32) (bV : Nat → Int32) (bU : Nat → Int32) (bP : Nat → Int32) (bE : Int32) (cT : Int32) (cK : Nat → Int32) (cO : Int32) (cQ : Nat → Int32) (cD : Int32) (pT : Int32) (pK : Int32) (pR : Nat → Int32) (pW : Nat → Int32) (pU : Nat → Int32) (pI : Nat → Int32) (pC : Nat → Nat → Int32) (uO : Int32) (uF : Nat → Int32) (uE : Nat → Int32) (uN : Nat → Int32) (wK : Nat → Int32) (jM : Int32) (jN : Int32) (jZ : Nat) (jB : Nat → Int32) (oL : Nat → Int64) (oD : Nat → UInt64) (mcode : Int32) (mday : Int32) (mown : Int32) (mquot : Nat → Int32) (mprom : Nat → Int32) (mfiles : Int32) (mowner : Nat → Int32) (mlinks : Nat → Int32) (mblocks : Nat → Int32) (mvals : Nat → Int32) (msnaps : Int32) (mranks : Nat → Int32) (mkept : Nat → Int32) (mshot : Nat → Int32) (mwas : Nat → Int32) (mholds : Int32) (mheld : Nat → Int32) (mends : Nat → Int32) (mopen : Nat → Int32) (mentr : Int32) (mkinds : Nat → Int32) (misop : Int32) (mfilesT : Int32) (mentrT : Int32) (mpromT : Nat → Int32) (mlinksT : Nat → Int32) (mblocksT : Nat → Int32) (mvalsT : Nat → Int32) (R : va_W) (x5 : Int32) (hi1 : vp_in (x5 + 1) L) (hi2 : vp_in (x5 + 2) L) (hi3 : vp_in (x5 + 3) L) (cN sN : Nat) (hcN : cN + 1100 ≤ 603072) (hsN : sN + 13000 ≤ 7198826) (obF : Int32) (obO : Nat → Int32) (obL : Nat → Int32) (obA : Nat → Int32) (obC : Nat → Int32) (obV : Nat → Int32) (obU : Nat → Int32) (obP : Nat → Int32) (obE : Int32) (ocT : Int32) (ooL : Nat → Int64) (omcode : Int32) (omisop : Int32) (omfilesT : Int32) (omentrT : Int32) (ompromT : Nat → Int32) (omlinksT : Nat → Int32) (omblocksT : Nat → Int32) (omvalsT : Nat → Int32) (hf : f_case32 nF nO nL nA nC nV nU nP nE bF bO bL bA bC bV bU bP bE cT oL mprom mfiles mlinks mblocks mvals mentr misop mfilesT mentrT mpromT mlinksT mblocksT mvalsT = some (obF, obO, obL, obA, obC, obV, obU, obP, obE, ocT, ooL, omcode, omisop, omfilesT, omentrT, ompromT, omlinksT, omblocksT, omvalsT)) {H : Heap} {locs : List Loc} {ls : Array Slot} (hP : va_P D vwCl (WC ca ad bq nF nO nL nA nC nV nU nP nE bF bO bL bA bC bV bU bP bE cT cK cO cQ cD pT pK pR pW pU pI pC uO uF uE uN wK jM jN jZ jB ++ (WO ca oa od oL oD ++ (WM ca am lq mcode mday mown mquot mprom mfiles mowner mlinks mblocks mvals msnaps mranks mkept mshot mwas mholds mheld mends mopen mentr mkinds misop mfilesT mentrT mpromT mlinksT mblocksT mvalsT ++ R))) H) (hD : va_D A (WC ca ad bq nF nO nL nA nC nV nU nP nE bF bO bL bA bC bV bU bP bE cT cK cO cQ cD pT pK pR pW pU pI pC uO uF uE uN wK jM jN jZ jB ++ (WO ca oa od oL oD ++ (WM ca am lq mcode mday mown mquot mprom mfiles mowner mlinks mblocks mvals msnaps mranks mkept mshot mwas mholds mheld mends mopen mentr mkinds misop mfilesT mentrT mpromT mlinksT mblocksT mvalsT ++ R)))) (hS : va_S A s.heap H locs) (hl : lv_has ls 9 [(0, .ref b), (1, .ref (ad 0)), (2, .ref (am 0)), (3, .ref oa), (4, .ref od), (5, .int x5)]) (kk : ∀ (H : Heap) (locs : List Loc) (ls : Array Slot), va_P D vwCl (WC ca ad bq nF nO nL nA nC nV nU nP nE obF obO obL obA obC obV obU obP obE ocT cK cO cQ cD pT pK pR pW pU pI pC uO uF uE uN wK jM jN jZ jB ++ (WO ca oa od ooL oD ++ (WM ca am lq omcode mday mown mquot mprom mfiles mowner mlinks mblocks mvals msnaps mranks mkept mshot mwas mholds mheld mends mopen mentr mkinds omisop omfilesT omentrT ompromT omlinksT omblocksT omvalsT ++ R))) H → va_D A (WC ca ad bq nF nO nL nA nC nV nU nP nE obF obO obL obA obC obV obU obP obE ocT cK cO cQ cD pT pK pR pW pU pI pC uO uF uE uN wK jM jN jZ jB ++ (WO ca oa od ooL oD ++ (WM ca am lq omcode mday mown mquot mprom mfiles mowner mlinks mblocks mvals msnaps mranks mkept mshot mwas mholds mheld mends mopen mentr mkinds omisop omfilesT omentrT ompromT omlinksT omblocksT omvalsT ++ R))) → va_S A s.heap H locs → lv_has ls 9 [(0, .ref b), (1, .ref (ad 0)), (2, .ref (am 0)), (3, .ref oa), (4, .ref od), (5, .int x5)] → W p l e room_1 s m #[Value.ref b] below meth c H locs (cN + 1100) (sN + 13000) Q (F0 m 2434 ls [])) : W p l e room_1 s m #[Value.ref b] below meth c H locs cN sN Q (F0 m 2008 ls []) := by
  have hK := hE.1
  unfold f_case32 at hf
  change W p l e room_1 s m #[Value.ref b] below meth c H locs (cN + 0) (sN + 0) Q (F0 m 2008 ls [])
  refine lv_aload_n hx hb dL_law_2008 rfl (lv_at hl 1 rfl) ?_
  refine lv_aload_n hx hb dL_law_2009 rfl (lv_at hl 3 rfl) ?_
  obtain ⟨⟨r1, bF_2, bO_3, bL_4, bA_5, bC_6, bV_7, bU_8, bP_9, bE_10, cT_11, oL_12⟩, h13, hf⟩ := bnd hf
  refine cl_wi (rest := []) (m_L_begin l hst ca ad bq oa od nF nO nL nA nC nV nU nP nE bF bO bL bA bC bV bU bP bE cT cK cO cQ cD pT pK pR pW pU pI pC uO uF uE uN wK jM jN jZ jB oL oD (WM ca am lq mcode mday mown mquot mprom mfiles mowner mlinks mblocks mvals msnaps mranks mkept mshot mwas mholds mheld mends mopen mentr mkinds misop mfilesT mentrT mpromT mlinksT mblocksT mvalsT ++ R) _ r1 bF_2 bO_3 bL_4 bA_5 bC_6 bV_7 bU_8 bP_9 bE_10 cT_11 oL_12 h13) ⟨hx, hb, hml, hown, hts⟩ (vx_cwSW 2 hts (gSW q965 q966 q40 q967) rfl rfl rfl (by decide +kernel) ⟨Nat.le_of_ble_eq_true rfl, Nat.le_of_ble_eq_true rfl⟩) hE hP hD hS hA hZ hNC rfl hl.1 rfl (lv_room (Nat.le_of_ble_eq_true rfl)) dL_law_2010 ⟨by show _ ≤ 603072; omega, by show _ ≤ 7198826; omega⟩ (fun H locs hP hD hS => ?_)
  refine lv_istore (lv' := [(6, .int r1), (0, .ref b), (1, .ref (ad 0)), (2, .ref (am 0)), (3, .ref oa), (4, .ref od), (5, .int x5)]) hx hb dL_law_2013 hl (by decide) rfl (fun ls hl => ?_)
  refine lv_aload_n hx hb dL_law_2015 rfl (lv_at hl 3 rfl) ?_
  obtain ⟨⟨r14, mcode_15, misop_16, mfilesT_17, mentrT_18, mpromT_19, mlinksT_20, mblocksT_21, mvalsT_22⟩, h23, hf⟩ := bnd hf
  refine cm_i (rest := []) (m_M_begin l ca am lq mcode mday mown mquot mprom mfiles mowner mlinks mblocks mvals msnaps mranks mkept mshot mwas mholds mheld mends mopen mentr mkinds misop mfilesT mentrT mpromT mlinksT mblocksT mvalsT (WC ca ad bq nF nO nL nA nC nV nU nP nE bF_2 bO_3 bL_4 bA_5 bC_6 bV_7 bU_8 bP_9 bE_10 cT_11 cK cO cQ cD pT pK pR pW pU pI pC uO uF uE uN wK jM jN jZ jB ++ (WO ca oa od oL_12 oD ++ R)) _ r14 mcode_15 misop_16 mfilesT_17 mentrT_18 mpromT_19 mlinksT_20 mblocksT_21 mvalsT_22 h23) ⟨hx, hb, hml, hown, hts⟩ (cwV 0 hts (gV q1624 q1625 q1626 q50 q1627) rfl rfl rfl (by decide +kernel) ⟨Nat.le_of_ble_eq_true rfl, Nat.le_of_ble_eq_true rfl⟩) (va_recv hK hP (ci := 8) (q0 := 42) rfl rfl) hE hP hD hS hA rfl hl.1 rfl (lv_room (Nat.le_of_ble_eq_true rfl)) dL_law_2016 ⟨by show _ ≤ 603072; omega, by show _ ≤ 7198826; omega⟩ (fun H locs hP hD hS => ?_)
  refine lv_istore (lv' := [(7, .int r14), (6, .int r1), (0, .ref b), (1, .ref (ad 0)), (2, .ref (am 0)), (3, .ref oa), (4, .ref od), (5, .int x5)]) hx hb dL_law_2019 hl (by decide) rfl (fun ls hl => ?_)
  refine lv_aload_n hx hb dL_law_2021 rfl (lv_at hl 4 rfl) ?_
  obtain ⟨r24, h25, hf⟩ := bnd hf
  refine cm_i (rest := []) (m_M_thrown l ca am lq mcode_15 mday mown mquot mprom mfiles mowner mlinks mblocks mvals msnaps mranks mkept mshot mwas mholds mheld mends mopen mentr mkinds misop_16 mfilesT_17 mentrT_18 mpromT_19 mlinksT_20 mblocksT_21 mvalsT_22 (WC ca ad bq nF nO nL nA nC nV nU nP nE bF_2 bO_3 bL_4 bA_5 bC_6 bV_7 bU_8 bP_9 bE_10 cT_11 cK cO cQ cD pT pK pR pW pU pI pC uO uF uE uN wK jM jN jZ jB ++ (WO ca oa od oL_12 oD ++ R)) _ r24 h25) ⟨hx, hb, hml, hown, hts⟩ (cwV 0 hts (gV q1417 q1418 q1419 q50 q1420) rfl rfl rfl (by decide +kernel) ⟨Nat.le_of_ble_eq_true rfl, Nat.le_of_ble_eq_true rfl⟩) (va_recv hK hP (ci := 8) (q0 := 42) rfl rfl) hE hP hD hS hA rfl hl.1 rfl (lv_room (Nat.le_of_ble_eq_true rfl)) dL_law_2022 ⟨by show _ ≤ 603072; omega, by show _ ≤ 7198826; omega⟩ (fun H locs hP hD hS => ?_)
  refine lv_iload hx hb dL_law_2025 (lv_at hl 1 rfl) ?_
  refine lv_icmp_eq (tgt := 2032) hx hb dL_law_2027 (by decide) (fun c26 => ?_) (fun c26 => ?_)
  · have hf := br_pos c26 hf
    refine lv_iload hx hb dL_law_2032 (lv_at hl 1 rfl) ?_
    refine lv_if_ne (tgt := 2049) hx hb dL_law_2034 (by decide) (fun c27 => ?_) (fun c27 => ?_)
    · have hf := br_neg c27 hf
      refine lv_goto (tgt := 2434) hx hb dL_law_2049 (by decide) ?_
      cases hf
      refine W.widen (k := cN + 1100) (n := sN + 13000) (by omega) (by omega) ?_
      exact kk _ _ _ hP hD hS (lv_sub hl [2, 3, 4, 5, 6, 7] rfl)
    · have hf := br_pos c27 hf
      refine lv_aload_n hx hb dL_law_2037 rfl (lv_at hl 5 rfl) ?_
      refine lv_iconst (v := 0) hx hb dL_law_2038 (by decide) ?_
      refine va_lald (D := D) hx hb hK hP 40 5 rfl rfl (by unfold vp_in; decide) dL_law_2039 ?_
      refine lv_iload hx hb dL_law_2040 (lv_at hl 0 rfl) ?_
      refine lv_i2l hx hb dL_law_2042 rfl ?_
      refine W.lcmp hx hb dL_law_2043 ?_
      refine lv_if_eq (tgt := 2049) hx hb dL_law_2044 (by decide) (fun c28 => ?_) (fun c28 => ?_)
      · have hf := br_pos c28 hf
        refine lv_goto (tgt := 2434) hx hb dL_law_2049 (by decide) ?_
        cases hf
        refine W.widen (k := cN + 1100) (n := sN + 13000) (by omega) (by omega) ?_
        exact kk _ _ _ hP hD hS (lv_sub hl [2, 3, 4, 5, 6, 7] rfl)
      · have hf := br_neg c28 hf
        refine lv_iconst (v := 0) hx hb dL_law_2047 (by decide) ?_
        cases hf
  · have hf := br_neg c26 hf
    refine lv_iconst (v := 0) hx hb dL_law_2030 (by decide) ?_
    cases hf
def f_case33 (nE : Int32) (bE : Int32) (cT : Int32) (oL : Nat → Int64) (mentr : Int32) (misop : Int32) (mentrT : Int32) : Option (Int32 × (Nat → Int64) × Int32 × Int32) :=
  (f_L_commit nE bE cT oL).bind fun (r1, cT_2, oL_3) =>
  (f_M_commit mentr misop mentrT).bind fun (r5, mcode_6, misop_7) =>
  (f_M_thrown mcode_6).bind fun r9 =>
  if r9 = r1 then
    if r1 = 0 then
      if (lg_cmp (oL_3 (0 : Int32).toNatClampNeg) ((r5).toInt64)) = 0 then
        some (cT_2, oL_3, mcode_6, misop_7)
      else
        none
    else
      some (cT_2, oL_3, mcode_6, misop_7)
  else
    none
set_option maxHeartbeats 4000000 in
set_option maxRecDepth 100000 in
theorem l_case33 {p : Program} {l : Launch} {e : Env} {s : State} {m : MethodId} {below : List Frame} {meth : Method} {c : Code} {Q : State → Prop} {D : va_G} {A : Nat → Prop} {b L : Nat} {xs : Nat → Int32} (ca : Nat → ClassId) (hst : l.stackTraces = false) (hx : p.tables.exec = Jvm.exec) (hb : c.code = code) (hml : c.maxLocals = 9) (hown : s.vm.findClass RL = some m.cls) (hts : ∀ w ∈ WW, w.before #[Value.ref b] s = true) (hE : EE D ca SL0 s) (hA : ∀ q, s.heap.size ≤ q → A q) (hZ : ZZ A s s.heap) (hNC : NCE s) (hX : va_X b L xs s s.heap) (hbl : b < s.heap.size) (hbA : ¬ A b) (ad am : Nat → Nat) (bq oa od lq : Nat) (nF : Int32) (nO : Nat → Int32) (nL : Nat → Int32) (nA : Nat → Int32) (nC : Nat → Int32) (nV : Nat → Int32) (nU : Nat → Int32) (nP : Nat → Int32) (nE : Int32) (bF : Int32) (bO : Nat → Int32) (bL : Nat → Int32) (bA : Nat → Int32) (bC : Nat → Int32) (bV : Nat → Int32) (bU : Nat → Int32) (bP : Nat → Int32) (bE : Int32) (cT : Int32) (cK : Nat → Int32) (cO : Int32) (cQ : Nat → Int32) (cD : Int32) (pT : Int32) (pK : Int32) (pR : Nat → Int32) (pW : Nat → Int32) (pU : Nat → Int32) (pI : Nat → Int32) (pC : Nat → Nat → Int32) (uO : Int32) (uF : Nat → Int32) (uE : Nat → Int32) (uN : Nat → Int32) (wK : Nat → Int32) (jM : Int32) (jN : Int32) (jZ : Nat) (jB : Nat → Int32) (oL : Nat → Int64) (oD : Nat → UInt64) (mcode : Int32) (mday : Int32) (mown : Int32) (mquot : Nat → Int32) (mprom : Nat → Int32) (mfiles : Int32) (mowner : Nat → Int32) (mlinks : Nat → Int32) (mblocks : Nat → Int32) (mvals : Nat → Int32) (msnaps : Int32) (mranks : Nat → Int32) (mkept : Nat → Int32) (mshot : Nat → Int32) (mwas : Nat → Int32) (mholds : Int32) (mheld : Nat → Int32) (mends : Nat → Int32) (mopen : Nat → Int32) (mentr : Int32) (mkinds : Nat → Int32) (misop : Int32) (mfilesT : Int32) (mentrT : Int32) (mpromT : Nat → Int32) (mlinksT : Nat → Int32) (mblocksT : Nat → Int32) (mvalsT : Nat → Int32) (R : va_W) (x5 : Int32) (hi1 : vp_in (x5 + 1) L) (hi2 : vp_in (x5 + 2) L) (hi3 : vp_in (x5 + 3) L) (cN sN : Nat) (hcN : cN + 1100 ≤ 603072) (hsN : sN + 13000 ≤ 7198826) (ocT : Int32) (ooL : Nat → Int64) (omcode : Int32) (omisop : Int32) (hf : f_case33 nE bE cT oL mentr misop mentrT = some (ocT, ooL, omcode, omisop)) {H : Heap} {locs : List Loc} {ls : Array Slot} (hP : va_P D vwCl (WC ca ad bq nF nO nL nA nC nV nU nP nE bF bO bL bA bC bV bU bP bE cT cK cO cQ cD pT pK pR pW pU pI pC uO uF uE uN wK jM jN jZ jB ++ (WO ca oa od oL oD ++ (WM ca am lq mcode mday mown mquot mprom mfiles mowner mlinks mblocks mvals msnaps mranks mkept mshot mwas mholds mheld mends mopen mentr mkinds misop mfilesT mentrT mpromT mlinksT mblocksT mvalsT ++ R))) H) (hD : va_D A (WC ca ad bq nF nO nL nA nC nV nU nP nE bF bO bL bA bC bV bU bP bE cT cK cO cQ cD pT pK pR pW pU pI pC uO uF uE uN wK jM jN jZ jB ++ (WO ca oa od oL oD ++ (WM ca am lq mcode mday mown mquot mprom mfiles mowner mlinks mblocks mvals msnaps mranks mkept mshot mwas mholds mheld mends mopen mentr mkinds misop mfilesT mentrT mpromT mlinksT mblocksT mvalsT ++ R)))) (hS : va_S A s.heap H locs) (hl : lv_has ls 9 [(0, .ref b), (1, .ref (ad 0)), (2, .ref (am 0)), (3, .ref oa), (4, .ref od), (5, .int x5)]) (kk : ∀ (H : Heap) (locs : List Loc) (ls : Array Slot), va_P D vwCl (WC ca ad bq nF nO nL nA nC nV nU nP nE bF bO bL bA bC bV bU bP bE ocT cK cO cQ cD pT pK pR pW pU pI pC uO uF uE uN wK jM jN jZ jB ++ (WO ca oa od ooL oD ++ (WM ca am lq omcode mday mown mquot mprom mfiles mowner mlinks mblocks mvals msnaps mranks mkept mshot mwas mholds mheld mends mopen mentr mkinds omisop mfilesT mentrT mpromT mlinksT mblocksT mvalsT ++ R))) H → va_D A (WC ca ad bq nF nO nL nA nC nV nU nP nE bF bO bL bA bC bV bU bP bE ocT cK cO cQ cD pT pK pR pW pU pI pC uO uF uE uN wK jM jN jZ jB ++ (WO ca oa od ooL oD ++ (WM ca am lq omcode mday mown mquot mprom mfiles mowner mlinks mblocks mvals msnaps mranks mkept mshot mwas mholds mheld mends mopen mentr mkinds omisop mfilesT mentrT mpromT mlinksT mblocksT mvalsT ++ R))) → va_S A s.heap H locs → lv_has ls 9 [(0, .ref b), (1, .ref (ad 0)), (2, .ref (am 0)), (3, .ref oa), (4, .ref od), (5, .int x5)] → W p l e room_1 s m #[Value.ref b] below meth c H locs (cN + 1100) (sN + 13000) Q (F0 m 2434 ls [])) : W p l e room_1 s m #[Value.ref b] below meth c H locs cN sN Q (F0 m 2052 ls []) := by
  have hK := hE.1
  unfold f_case33 at hf
  change W p l e room_1 s m #[Value.ref b] below meth c H locs (cN + 0) (sN + 0) Q (F0 m 2052 ls [])
  refine lv_aload_n hx hb dL_law_2052 rfl (lv_at hl 1 rfl) ?_
  refine lv_aload_n hx hb dL_law_2053 rfl (lv_at hl 3 rfl) ?_
  obtain ⟨⟨r1, cT_2, oL_3⟩, h4, hf⟩ := bnd hf
  refine cl_wi (rest := []) (m_L_commit l hst ca ad bq oa od nF nO nL nA nC nV nU nP nE bF bO bL bA bC bV bU bP bE cT cK cO cQ cD pT pK pR pW pU pI pC uO uF uE uN wK jM jN jZ jB oL oD (WM ca am lq mcode mday mown mquot mprom mfiles mowner mlinks mblocks mvals msnaps mranks mkept mshot mwas mholds mheld mends mopen mentr mkinds misop mfilesT mentrT mpromT mlinksT mblocksT mvalsT ++ R) _ r1 cT_2 oL_3 h4) ⟨hx, hb, hml, hown, hts⟩ (vx_cwSW 2 hts (gSW q972 q973 q40 q974) rfl rfl rfl (by decide +kernel) ⟨Nat.le_of_ble_eq_true rfl, Nat.le_of_ble_eq_true rfl⟩) hE hP hD hS hA hZ hNC rfl hl.1 rfl (lv_room (Nat.le_of_ble_eq_true rfl)) dL_law_2054 ⟨by show _ ≤ 603072; omega, by show _ ≤ 7198826; omega⟩ (fun H locs hP hD hS => ?_)
  refine lv_istore (lv' := [(6, .int r1), (0, .ref b), (1, .ref (ad 0)), (2, .ref (am 0)), (3, .ref oa), (4, .ref od), (5, .int x5)]) hx hb dL_law_2057 hl (by decide) rfl (fun ls hl => ?_)
  refine lv_aload_n hx hb dL_law_2059 rfl (lv_at hl 3 rfl) ?_
  obtain ⟨⟨r5, mcode_6, misop_7⟩, h8, hf⟩ := bnd hf
  refine cm_i (rest := []) (m_M_commit l ca am lq mcode mday mown mquot mprom mfiles mowner mlinks mblocks mvals msnaps mranks mkept mshot mwas mholds mheld mends mopen mentr mkinds misop mfilesT mentrT mpromT mlinksT mblocksT mvalsT (WC ca ad bq nF nO nL nA nC nV nU nP nE bF bO bL bA bC bV bU bP bE cT_2 cK cO cQ cD pT pK pR pW pU pI pC uO uF uE uN wK jM jN jZ jB ++ (WO ca oa od oL_3 oD ++ R)) _ r5 mcode_6 misop_7 h8) ⟨hx, hb, hml, hown, hts⟩ (cwV 0 hts (gV q1628 q1629 q1630 q50 q1631) rfl rfl rfl (by decide +kernel) ⟨Nat.le_of_ble_eq_true rfl, Nat.le_of_ble_eq_true rfl⟩) (va_recv hK hP (ci := 8) (q0 := 42) rfl rfl) hE hP hD hS hA rfl hl.1 rfl (lv_room (Nat.le_of_ble_eq_true rfl)) dL_law_2060 ⟨by show _ ≤ 603072; omega, by show _ ≤ 7198826; omega⟩ (fun H locs hP hD hS => ?_)
  refine lv_istore (lv' := [(7, .int r5), (6, .int r1), (0, .ref b), (1, .ref (ad 0)), (2, .ref (am 0)), (3, .ref oa), (4, .ref od), (5, .int x5)]) hx hb dL_law_2063 hl (by decide) rfl (fun ls hl => ?_)
  refine lv_aload_n hx hb dL_law_2065 rfl (lv_at hl 4 rfl) ?_
  obtain ⟨r9, h10, hf⟩ := bnd hf
  refine cm_i (rest := []) (m_M_thrown l ca am lq mcode_6 mday mown mquot mprom mfiles mowner mlinks mblocks mvals msnaps mranks mkept mshot mwas mholds mheld mends mopen mentr mkinds misop_7 mfilesT mentrT mpromT mlinksT mblocksT mvalsT (WC ca ad bq nF nO nL nA nC nV nU nP nE bF bO bL bA bC bV bU bP bE cT_2 cK cO cQ cD pT pK pR pW pU pI pC uO uF uE uN wK jM jN jZ jB ++ (WO ca oa od oL_3 oD ++ R)) _ r9 h10) ⟨hx, hb, hml, hown, hts⟩ (cwV 0 hts (gV q1417 q1418 q1419 q50 q1420) rfl rfl rfl (by decide +kernel) ⟨Nat.le_of_ble_eq_true rfl, Nat.le_of_ble_eq_true rfl⟩) (va_recv hK hP (ci := 8) (q0 := 42) rfl rfl) hE hP hD hS hA rfl hl.1 rfl (lv_room (Nat.le_of_ble_eq_true rfl)) dL_law_2066 ⟨by show _ ≤ 603072; omega, by show _ ≤ 7198826; omega⟩ (fun H locs hP hD hS => ?_)
  refine lv_iload hx hb dL_law_2069 (lv_at hl 1 rfl) ?_
  refine lv_icmp_eq (tgt := 2076) hx hb dL_law_2071 (by decide) (fun c11 => ?_) (fun c11 => ?_)
  · have hf := br_pos c11 hf
    refine lv_iload hx hb dL_law_2076 (lv_at hl 1 rfl) ?_
    refine lv_if_ne (tgt := 2093) hx hb dL_law_2078 (by decide) (fun c12 => ?_) (fun c12 => ?_)
    · have hf := br_neg c12 hf
      refine lv_goto (tgt := 2434) hx hb dL_law_2093 (by decide) ?_
      cases hf
      refine W.widen (k := cN + 1100) (n := sN + 13000) (by omega) (by omega) ?_
      exact kk _ _ _ hP hD hS (lv_sub hl [2, 3, 4, 5, 6, 7] rfl)
    · have hf := br_pos c12 hf
      refine lv_aload_n hx hb dL_law_2081 rfl (lv_at hl 5 rfl) ?_
      refine lv_iconst (v := 0) hx hb dL_law_2082 (by decide) ?_
      refine va_lald (D := D) hx hb hK hP 40 5 rfl rfl (by unfold vp_in; decide) dL_law_2083 ?_
      refine lv_iload hx hb dL_law_2084 (lv_at hl 0 rfl) ?_
      refine lv_i2l hx hb dL_law_2086 rfl ?_
      refine W.lcmp hx hb dL_law_2087 ?_
      refine lv_if_eq (tgt := 2093) hx hb dL_law_2088 (by decide) (fun c13 => ?_) (fun c13 => ?_)
      · have hf := br_pos c13 hf
        refine lv_goto (tgt := 2434) hx hb dL_law_2093 (by decide) ?_
        cases hf
        refine W.widen (k := cN + 1100) (n := sN + 13000) (by omega) (by omega) ?_
        exact kk _ _ _ hP hD hS (lv_sub hl [2, 3, 4, 5, 6, 7] rfl)
      · have hf := br_neg c13 hf
        refine lv_iconst (v := 0) hx hb dL_law_2091 (by decide) ?_
        cases hf
  · have hf := br_neg c11 hf
    refine lv_iconst (v := 0) hx hb dL_law_2074 (by decide) ?_
    cases hf
def f_case34 (nF : Int32) (nO : Nat → Int32) (nL : Nat → Int32) (nA : Nat → Int32) (nC : Nat → Int32) (nV : Nat → Int32) (nU : Nat → Int32) (nP : Nat → Int32) (nE : Int32) (bF : Int32) (bO : Nat → Int32) (bL : Nat → Int32) (bA : Nat → Int32) (bC : Nat → Int32) (bV : Nat → Int32) (bU : Nat → Int32) (bP : Nat → Int32) (bE : Int32) (cT : Int32) (mprom : Nat → Int32) (mfiles : Int32) (mlinks : Nat → Int32) (mblocks : Nat → Int32) (mvals : Nat → Int32) (mentr : Int32) (misop : Int32) (mfilesT : Int32) (mentrT : Int32) (mpromT : Nat → Int32) (mlinksT : Nat → Int32) (mblocksT : Nat → Int32) (mvalsT : Nat → Int32) : Option (Int32 × (Nat → Int32) × (Nat → Int32) × (Nat → Int32) × (Nat → Int32) × (Nat → Int32) × (Nat → Int32) × (Nat → Int32) × Int32 × Int32 × Int32 × (Nat → Int32) × Int32 × (Nat → Int32) × (Nat → Int32) × (Nat → Int32) × Int32 × Int32) :=
  (f_C_crash nF nO nL nA nC nV nU nP nE bF bO bL bA bC bV bU bP bE cT).bind fun (r1, nF_2, nO_3, nL_4, nA_5, nC_6, nV_7, nU_8, nP_9, nE_10, cT_11) =>
  (f_M_crash mprom mfiles mlinks mblocks mvals mentr misop mfilesT mentrT mpromT mlinksT mblocksT mvalsT).bind fun (r13, mcode_14, mprom_15, mfiles_16, mlinks_17, mblocks_18, mvals_19, mentr_20, misop_21) =>
  if r1 = r13 then
    some (nF_2, nO_3, nL_4, nA_5, nC_6, nV_7, nU_8, nP_9, nE_10, cT_11, mcode_14, mprom_15, mfiles_16, mlinks_17, mblocks_18, mvals_19, mentr_20, misop_21)
  else
    none
set_option maxHeartbeats 4000000 in
set_option maxRecDepth 100000 in
theorem l_case34 {p : Program} {l : Launch} {e : Env} {s : State} {m : MethodId} {below : List Frame} {meth : Method} {c : Code} {Q : State → Prop} {D : va_G} {A : Nat → Prop} {b L : Nat} {xs : Nat → Int32} (ca : Nat → ClassId) (hst : l.stackTraces = false) (hx : p.tables.exec = Jvm.exec) (hb : c.code = code) (hml : c.maxLocals = 9) (hown : s.vm.findClass RL = some m.cls) (hts : ∀ w ∈ WW, w.before #[Value.ref b] s = true) (hE : EE D ca SL0 s) (hA : ∀ q, s.heap.size ≤ q → A q) (hZ : ZZ A s s.heap) (hNC : NCE s) (hX : va_X b L xs s s.heap) (hbl : b < s.heap.size) (hbA : ¬ A b) (ad am : Nat → Nat) (bq oa od lq : Nat) (nF : Int32) (nO : Nat → Int32) (nL : Nat → Int32) (nA : Nat → Int32) (nC : Nat → Int32) (nV : Nat → Int32) (nU : Nat → Int32) (nP : Nat → Int32) (nE : Int32) (bF : Int32) (bO : Nat → Int32) (bL : Nat → Int32) (bA : Nat → Int32) (bC : Nat → Int32) (bV : Nat → Int32) (bU : Nat → Int32) (bP : Nat → Int32) (bE : Int32) (cT : Int32) (cK : Nat → Int32) (cO : Int32) (cQ : Nat → Int32) (cD : Int32) (pT : Int32) (pK : Int32) (pR : Nat → Int32) (pW : Nat → Int32) (pU : Nat → Int32) (pI : Nat → Int32) (pC : Nat → Nat → Int32) (uO : Int32) (uF : Nat → Int32) (uE : Nat → Int32) (uN : Nat → Int32) (wK : Nat → Int32) (jM : Int32) (jN : Int32) (jZ : Nat) (jB : Nat → Int32) (oL : Nat → Int64) (oD : Nat → UInt64) (mcode : Int32) (mday : Int32) (mown : Int32) (mquot : Nat → Int32) (mprom : Nat → Int32) (mfiles : Int32) (mowner : Nat → Int32) (mlinks : Nat → Int32) (mblocks : Nat → Int32) (mvals : Nat → Int32) (msnaps : Int32) (mranks : Nat → Int32) (mkept : Nat → Int32) (mshot : Nat → Int32) (mwas : Nat → Int32) (mholds : Int32) (mheld : Nat → Int32) (mends : Nat → Int32) (mopen : Nat → Int32) (mentr : Int32) (mkinds : Nat → Int32) (misop : Int32) (mfilesT : Int32) (mentrT : Int32) (mpromT : Nat → Int32) (mlinksT : Nat → Int32) (mblocksT : Nat → Int32) (mvalsT : Nat → Int32) (R : va_W) (x5 : Int32) (hi1 : vp_in (x5 + 1) L) (hi2 : vp_in (x5 + 2) L) (hi3 : vp_in (x5 + 3) L) (cN sN : Nat) (hcN : cN + 1100 ≤ 603072) (hsN : sN + 13000 ≤ 7198826) (onF : Int32) (onO : Nat → Int32) (onL : Nat → Int32) (onA : Nat → Int32) (onC : Nat → Int32) (onV : Nat → Int32) (onU : Nat → Int32) (onP : Nat → Int32) (onE : Int32) (ocT : Int32) (omcode : Int32) (omprom : Nat → Int32) (omfiles : Int32) (omlinks : Nat → Int32) (omblocks : Nat → Int32) (omvals : Nat → Int32) (omentr : Int32) (omisop : Int32) (hf : f_case34 nF nO nL nA nC nV nU nP nE bF bO bL bA bC bV bU bP bE cT mprom mfiles mlinks mblocks mvals mentr misop mfilesT mentrT mpromT mlinksT mblocksT mvalsT = some (onF, onO, onL, onA, onC, onV, onU, onP, onE, ocT, omcode, omprom, omfiles, omlinks, omblocks, omvals, omentr, omisop)) {H : Heap} {locs : List Loc} {ls : Array Slot} (hP : va_P D vwCl (WC ca ad bq nF nO nL nA nC nV nU nP nE bF bO bL bA bC bV bU bP bE cT cK cO cQ cD pT pK pR pW pU pI pC uO uF uE uN wK jM jN jZ jB ++ (WO ca oa od oL oD ++ (WM ca am lq mcode mday mown mquot mprom mfiles mowner mlinks mblocks mvals msnaps mranks mkept mshot mwas mholds mheld mends mopen mentr mkinds misop mfilesT mentrT mpromT mlinksT mblocksT mvalsT ++ R))) H) (hD : va_D A (WC ca ad bq nF nO nL nA nC nV nU nP nE bF bO bL bA bC bV bU bP bE cT cK cO cQ cD pT pK pR pW pU pI pC uO uF uE uN wK jM jN jZ jB ++ (WO ca oa od oL oD ++ (WM ca am lq mcode mday mown mquot mprom mfiles mowner mlinks mblocks mvals msnaps mranks mkept mshot mwas mholds mheld mends mopen mentr mkinds misop mfilesT mentrT mpromT mlinksT mblocksT mvalsT ++ R)))) (hS : va_S A s.heap H locs) (hl : lv_has ls 9 [(0, .ref b), (1, .ref (ad 0)), (2, .ref (am 0)), (3, .ref oa), (4, .ref od), (5, .int x5)]) (kk : ∀ (H : Heap) (locs : List Loc) (ls : Array Slot), va_P D vwCl (WC ca ad bq onF onO onL onA onC onV onU onP onE bF bO bL bA bC bV bU bP bE ocT cK cO cQ cD pT pK pR pW pU pI pC uO uF uE uN wK jM jN jZ jB ++ (WO ca oa od oL oD ++ (WM ca am lq omcode mday mown mquot omprom omfiles mowner omlinks omblocks omvals msnaps mranks mkept mshot mwas mholds mheld mends mopen omentr mkinds omisop mfilesT mentrT mpromT mlinksT mblocksT mvalsT ++ R))) H → va_D A (WC ca ad bq onF onO onL onA onC onV onU onP onE bF bO bL bA bC bV bU bP bE ocT cK cO cQ cD pT pK pR pW pU pI pC uO uF uE uN wK jM jN jZ jB ++ (WO ca oa od oL oD ++ (WM ca am lq omcode mday mown mquot omprom omfiles mowner omlinks omblocks omvals msnaps mranks mkept mshot mwas mholds mheld mends mopen omentr mkinds omisop mfilesT mentrT mpromT mlinksT mblocksT mvalsT ++ R))) → va_S A s.heap H locs → lv_has ls 9 [(0, .ref b), (1, .ref (ad 0)), (2, .ref (am 0)), (3, .ref oa), (4, .ref od), (5, .int x5)] → W p l e room_1 s m #[Value.ref b] below meth c H locs (cN + 1100) (sN + 13000) Q (F0 m 2434 ls [])) : W p l e room_1 s m #[Value.ref b] below meth c H locs cN sN Q (F0 m 2096 ls []) := by
  have hK := hE.1
  unfold f_case34 at hf
  change W p l e room_1 s m #[Value.ref b] below meth c H locs (cN + 0) (sN + 0) Q (F0 m 2096 ls [])
  refine lv_aload_n hx hb dL_law_2096 rfl (lv_at hl 1 rfl) ?_
  obtain ⟨⟨r1, nF_2, nO_3, nL_4, nA_5, nC_6, nV_7, nU_8, nP_9, nE_10, cT_11⟩, h12, hf⟩ := bnd hf
  refine call_vi (rest := []) (m_C_crash l ca ad bq nF nO nL nA nC nV nU nP nE bF bO bL bA bC bV bU bP bE cT cK cO cQ cD pT pK pR pW pU pI pC uO uF uE uN wK jM jN jZ jB (WO ca oa od oL oD ++ (WM ca am lq mcode mday mown mquot mprom mfiles mowner mlinks mblocks mvals msnaps mranks mkept mshot mwas mholds mheld mends mopen mentr mkinds misop mfilesT mentrT mpromT mlinksT mblocksT mvalsT ++ R)) _ r1 nF_2 nO_3 nL_4 nA_5 nC_6 nV_7 nU_8 nP_9 nE_10 cT_11 h12) ⟨hx, hb, hml, hown, hts⟩ (cwV 0 hts (gV q255 q256 q257 q41 q258) rfl rfl rfl (by decide +kernel) ⟨Nat.le_of_ble_eq_true rfl, Nat.le_of_ble_eq_true rfl⟩) (va_recv hK hP (ci := 7) (q0 := 0) rfl rfl) hE hP hD hS hA rfl hl.1 rfl (lv_room (Nat.le_of_ble_eq_true rfl)) dL_law_2097 ⟨by show _ ≤ 603072; omega, by show _ ≤ 7198826; omega⟩ (fun H locs hP hD hS => ?_)
  refine lv_aload_n hx hb dL_law_2100 rfl (lv_at hl 2 rfl) ?_
  obtain ⟨⟨r13, mcode_14, mprom_15, mfiles_16, mlinks_17, mblocks_18, mvals_19, mentr_20, misop_21⟩, h22, hf⟩ := bnd hf
  refine cm_i (rest := [.int r1]) (m_M_crash l ca am lq mcode mday mown mquot mprom mfiles mowner mlinks mblocks mvals msnaps mranks mkept mshot mwas mholds mheld mends mopen mentr mkinds misop mfilesT mentrT mpromT mlinksT mblocksT mvalsT (WC ca ad bq nF_2 nO_3 nL_4 nA_5 nC_6 nV_7 nU_8 nP_9 nE_10 bF bO bL bA bC bV bU bP bE cT_11 cK cO cQ cD pT pK pR pW pU pI pC uO uF uE uN wK jM jN jZ jB ++ (WO ca oa od oL oD ++ R)) _ r13 mcode_14 mprom_15 mfiles_16 mlinks_17 mblocks_18 mvals_19 mentr_20 misop_21 h22) ⟨hx, hb, hml, hown, hts⟩ (cwV 0 hts (gV q1632 q1633 q1634 q50 q1635) rfl rfl rfl (by decide +kernel) ⟨Nat.le_of_ble_eq_true rfl, Nat.le_of_ble_eq_true rfl⟩) (va_recv hK hP (ci := 8) (q0 := 42) rfl rfl) hE hP hD hS hA rfl hl.1 rfl (lv_room (Nat.le_of_ble_eq_true rfl)) dL_law_2101 ⟨by show _ ≤ 603072; omega, by show _ ≤ 7198826; omega⟩ (fun H locs hP hD hS => ?_)
  refine lv_icmp_eq (tgt := 2434) hx hb dL_law_2104 (by decide) (fun c23 => ?_) (fun c23 => ?_)
  · have hf := br_pos c23 hf
    cases hf
    refine W.widen (k := cN + 1100) (n := sN + 13000) (by omega) (by omega) ?_
    exact kk _ _ _ hP hD hS (lv_sub hl [0, 1, 2, 3, 4, 5] rfl)
  · have hf := br_neg c23 hf
    refine lv_iconst (v := 0) hx hb dL_law_2107 (by decide) ?_
    cases hf
def f_case35 (nE : Int32) (mentr : Int32) : Option (Int32) :=
  (f_C_journalSize nE).bind fun r1 =>
  (f_M_journalSize mentr).bind fun (r3, mcode_4) =>
  if r1 = r3 then
    some mcode_4
  else
    none
set_option maxHeartbeats 4000000 in
set_option maxRecDepth 100000 in
theorem l_case35 {p : Program} {l : Launch} {e : Env} {s : State} {m : MethodId} {below : List Frame} {meth : Method} {c : Code} {Q : State → Prop} {D : va_G} {A : Nat → Prop} {b L : Nat} {xs : Nat → Int32} (ca : Nat → ClassId) (hst : l.stackTraces = false) (hx : p.tables.exec = Jvm.exec) (hb : c.code = code) (hml : c.maxLocals = 9) (hown : s.vm.findClass RL = some m.cls) (hts : ∀ w ∈ WW, w.before #[Value.ref b] s = true) (hE : EE D ca SL0 s) (hA : ∀ q, s.heap.size ≤ q → A q) (hZ : ZZ A s s.heap) (hNC : NCE s) (hX : va_X b L xs s s.heap) (hbl : b < s.heap.size) (hbA : ¬ A b) (ad am : Nat → Nat) (bq oa od lq : Nat) (nF : Int32) (nO : Nat → Int32) (nL : Nat → Int32) (nA : Nat → Int32) (nC : Nat → Int32) (nV : Nat → Int32) (nU : Nat → Int32) (nP : Nat → Int32) (nE : Int32) (bF : Int32) (bO : Nat → Int32) (bL : Nat → Int32) (bA : Nat → Int32) (bC : Nat → Int32) (bV : Nat → Int32) (bU : Nat → Int32) (bP : Nat → Int32) (bE : Int32) (cT : Int32) (cK : Nat → Int32) (cO : Int32) (cQ : Nat → Int32) (cD : Int32) (pT : Int32) (pK : Int32) (pR : Nat → Int32) (pW : Nat → Int32) (pU : Nat → Int32) (pI : Nat → Int32) (pC : Nat → Nat → Int32) (uO : Int32) (uF : Nat → Int32) (uE : Nat → Int32) (uN : Nat → Int32) (wK : Nat → Int32) (jM : Int32) (jN : Int32) (jZ : Nat) (jB : Nat → Int32) (oL : Nat → Int64) (oD : Nat → UInt64) (mcode : Int32) (mday : Int32) (mown : Int32) (mquot : Nat → Int32) (mprom : Nat → Int32) (mfiles : Int32) (mowner : Nat → Int32) (mlinks : Nat → Int32) (mblocks : Nat → Int32) (mvals : Nat → Int32) (msnaps : Int32) (mranks : Nat → Int32) (mkept : Nat → Int32) (mshot : Nat → Int32) (mwas : Nat → Int32) (mholds : Int32) (mheld : Nat → Int32) (mends : Nat → Int32) (mopen : Nat → Int32) (mentr : Int32) (mkinds : Nat → Int32) (misop : Int32) (mfilesT : Int32) (mentrT : Int32) (mpromT : Nat → Int32) (mlinksT : Nat → Int32) (mblocksT : Nat → Int32) (mvalsT : Nat → Int32) (R : va_W) (x5 : Int32) (hi1 : vp_in (x5 + 1) L) (hi2 : vp_in (x5 + 2) L) (hi3 : vp_in (x5 + 3) L) (cN sN : Nat) (hcN : cN + 1100 ≤ 603072) (hsN : sN + 13000 ≤ 7198826) (omcode : Int32) (hf : f_case35 nE mentr = some omcode) {H : Heap} {locs : List Loc} {ls : Array Slot} (hP : va_P D vwCl (WC ca ad bq nF nO nL nA nC nV nU nP nE bF bO bL bA bC bV bU bP bE cT cK cO cQ cD pT pK pR pW pU pI pC uO uF uE uN wK jM jN jZ jB ++ (WO ca oa od oL oD ++ (WM ca am lq mcode mday mown mquot mprom mfiles mowner mlinks mblocks mvals msnaps mranks mkept mshot mwas mholds mheld mends mopen mentr mkinds misop mfilesT mentrT mpromT mlinksT mblocksT mvalsT ++ R))) H) (hD : va_D A (WC ca ad bq nF nO nL nA nC nV nU nP nE bF bO bL bA bC bV bU bP bE cT cK cO cQ cD pT pK pR pW pU pI pC uO uF uE uN wK jM jN jZ jB ++ (WO ca oa od oL oD ++ (WM ca am lq mcode mday mown mquot mprom mfiles mowner mlinks mblocks mvals msnaps mranks mkept mshot mwas mholds mheld mends mopen mentr mkinds misop mfilesT mentrT mpromT mlinksT mblocksT mvalsT ++ R)))) (hS : va_S A s.heap H locs) (hl : lv_has ls 9 [(0, .ref b), (1, .ref (ad 0)), (2, .ref (am 0)), (3, .ref oa), (4, .ref od), (5, .int x5)]) (kk : ∀ (H : Heap) (locs : List Loc) (ls : Array Slot), va_P D vwCl (WC ca ad bq nF nO nL nA nC nV nU nP nE bF bO bL bA bC bV bU bP bE cT cK cO cQ cD pT pK pR pW pU pI pC uO uF uE uN wK jM jN jZ jB ++ (WO ca oa od oL oD ++ (WM ca am lq omcode mday mown mquot mprom mfiles mowner mlinks mblocks mvals msnaps mranks mkept mshot mwas mholds mheld mends mopen mentr mkinds misop mfilesT mentrT mpromT mlinksT mblocksT mvalsT ++ R))) H → va_D A (WC ca ad bq nF nO nL nA nC nV nU nP nE bF bO bL bA bC bV bU bP bE cT cK cO cQ cD pT pK pR pW pU pI pC uO uF uE uN wK jM jN jZ jB ++ (WO ca oa od oL oD ++ (WM ca am lq omcode mday mown mquot mprom mfiles mowner mlinks mblocks mvals msnaps mranks mkept mshot mwas mholds mheld mends mopen mentr mkinds misop mfilesT mentrT mpromT mlinksT mblocksT mvalsT ++ R))) → va_S A s.heap H locs → lv_has ls 9 [(0, .ref b), (1, .ref (ad 0)), (2, .ref (am 0)), (3, .ref oa), (4, .ref od), (5, .int x5)] → W p l e room_1 s m #[Value.ref b] below meth c H locs (cN + 1100) (sN + 13000) Q (F0 m 2434 ls [])) : W p l e room_1 s m #[Value.ref b] below meth c H locs cN sN Q (F0 m 2109 ls []) := by
  have hK := hE.1
  unfold f_case35 at hf
  change W p l e room_1 s m #[Value.ref b] below meth c H locs (cN + 0) (sN + 0) Q (F0 m 2109 ls [])
  refine lv_aload_n hx hb dL_law_2109 rfl (lv_at hl 1 rfl) ?_
  obtain ⟨r1, h2, hf⟩ := bnd hf
  refine call_vi (rest := []) (m_C_journalSize l ca ad bq nF nO nL nA nC nV nU nP nE bF bO bL bA bC bV bU bP bE cT cK cO cQ cD pT pK pR pW pU pI pC uO uF uE uN wK jM jN jZ jB (WO ca oa od oL oD ++ (WM ca am lq mcode mday mown mquot mprom mfiles mowner mlinks mblocks mvals msnaps mranks mkept mshot mwas mholds mheld mends mopen mentr mkinds misop mfilesT mentrT mpromT mlinksT mblocksT mvalsT ++ R)) _ r1 h2) ⟨hx, hb, hml, hown, hts⟩ (cwV 0 hts (gV q270 q271 q272 q41 q273) rfl rfl rfl (by decide +kernel) ⟨Nat.le_of_ble_eq_true rfl, Nat.le_of_ble_eq_true rfl⟩) (va_recv hK hP (ci := 7) (q0 := 0) rfl rfl) hE hP hD hS hA rfl hl.1 rfl (lv_room (Nat.le_of_ble_eq_true rfl)) dL_law_2110 ⟨by show _ ≤ 603072; omega, by show _ ≤ 7198826; omega⟩ (fun H locs hP hD hS => ?_)
  refine lv_aload_n hx hb dL_law_2113 rfl (lv_at hl 2 rfl) ?_
  obtain ⟨⟨r3, mcode_4⟩, h5, hf⟩ := bnd hf
  refine cm_i (rest := [.int r1]) (m_M_journalSize l ca am lq mcode mday mown mquot mprom mfiles mowner mlinks mblocks mvals msnaps mranks mkept mshot mwas mholds mheld mends mopen mentr mkinds misop mfilesT mentrT mpromT mlinksT mblocksT mvalsT (WC ca ad bq nF nO nL nA nC nV nU nP nE bF bO bL bA bC bV bU bP bE cT cK cO cQ cD pT pK pR pW pU pI pC uO uF uE uN wK jM jN jZ jB ++ (WO ca oa od oL oD ++ R)) _ r3 mcode_4 h5) ⟨hx, hb, hml, hown, hts⟩ (cwV 0 hts (gV q1636 q1637 q1638 q50 q1639) rfl rfl rfl (by decide +kernel) ⟨Nat.le_of_ble_eq_true rfl, Nat.le_of_ble_eq_true rfl⟩) (va_recv hK hP (ci := 8) (q0 := 42) rfl rfl) hE hP hD hS hA rfl hl.1 rfl (lv_room (Nat.le_of_ble_eq_true rfl)) dL_law_2114 ⟨by show _ ≤ 603072; omega, by show _ ≤ 7198826; omega⟩ (fun H locs hP hD hS => ?_)
  refine lv_icmp_eq (tgt := 2434) hx hb dL_law_2117 (by decide) (fun c6 => ?_) (fun c6 => ?_)
  · have hf := br_pos c6 hf
    cases hf
    refine W.widen (k := cN + 1100) (n := sN + 13000) (by omega) (by omega) ?_
    exact kk _ _ _ hP hD hS (lv_sub hl [0, 1, 2, 3, 4, 5] rfl)
  · have hf := br_neg c6 hf
    refine lv_iconst (v := 0) hx hb dL_law_2120 (by decide) ?_
    cases hf
def f_case36 (p1 : Int32) (nE : Int32) (cK : Nat → Int32) (oL : Nat → Int64) (mentr : Int32) (mkinds : Nat → Int32) : Option ((Nat → Int64) × Int32) :=
  (f_L_entryKind p1 nE cK oL).bind fun (r1, oL_2) =>
  (f_M_entryKind p1 mentr mkinds).bind fun (r4, mcode_5) =>
  (f_M_thrown mcode_5).bind fun r7 =>
  if r7 = r1 then
    if r1 = 0 then
      if (lg_cmp (oL_2 (0 : Int32).toNatClampNeg) ((r4).toInt64)) = 0 then
        some (oL_2, mcode_5)
      else
        none
    else
      some (oL_2, mcode_5)
  else
    none
set_option maxHeartbeats 4000000 in
set_option maxRecDepth 100000 in
theorem l_case36 {p : Program} {l : Launch} {e : Env} {s : State} {m : MethodId} {below : List Frame} {meth : Method} {c : Code} {Q : State → Prop} {D : va_G} {A : Nat → Prop} {b L : Nat} {xs : Nat → Int32} (ca : Nat → ClassId) (hst : l.stackTraces = false) (hx : p.tables.exec = Jvm.exec) (hb : c.code = code) (hml : c.maxLocals = 9) (hown : s.vm.findClass RL = some m.cls) (hts : ∀ w ∈ WW, w.before #[Value.ref b] s = true) (hE : EE D ca SL0 s) (hA : ∀ q, s.heap.size ≤ q → A q) (hZ : ZZ A s s.heap) (hNC : NCE s) (hX : va_X b L xs s s.heap) (hbl : b < s.heap.size) (hbA : ¬ A b) (ad am : Nat → Nat) (bq oa od lq : Nat) (nF : Int32) (nO : Nat → Int32) (nL : Nat → Int32) (nA : Nat → Int32) (nC : Nat → Int32) (nV : Nat → Int32) (nU : Nat → Int32) (nP : Nat → Int32) (nE : Int32) (bF : Int32) (bO : Nat → Int32) (bL : Nat → Int32) (bA : Nat → Int32) (bC : Nat → Int32) (bV : Nat → Int32) (bU : Nat → Int32) (bP : Nat → Int32) (bE : Int32) (cT : Int32) (cK : Nat → Int32) (cO : Int32) (cQ : Nat → Int32) (cD : Int32) (pT : Int32) (pK : Int32) (pR : Nat → Int32) (pW : Nat → Int32) (pU : Nat → Int32) (pI : Nat → Int32) (pC : Nat → Nat → Int32) (uO : Int32) (uF : Nat → Int32) (uE : Nat → Int32) (uN : Nat → Int32) (wK : Nat → Int32) (jM : Int32) (jN : Int32) (jZ : Nat) (jB : Nat → Int32) (oL : Nat → Int64) (oD : Nat → UInt64) (mcode : Int32) (mday : Int32) (mown : Int32) (mquot : Nat → Int32) (mprom : Nat → Int32) (mfiles : Int32) (mowner : Nat → Int32) (mlinks : Nat → Int32) (mblocks : Nat → Int32) (mvals : Nat → Int32) (msnaps : Int32) (mranks : Nat → Int32) (mkept : Nat → Int32) (mshot : Nat → Int32) (mwas : Nat → Int32) (mholds : Int32) (mheld : Nat → Int32) (mends : Nat → Int32) (mopen : Nat → Int32) (mentr : Int32) (mkinds : Nat → Int32) (misop : Int32) (mfilesT : Int32) (mentrT : Int32) (mpromT : Nat → Int32) (mlinksT : Nat → Int32) (mblocksT : Nat → Int32) (mvalsT : Nat → Int32) (R : va_W) (x5 : Int32) (hi1 : vp_in (x5 + 1) L) (hi2 : vp_in (x5 + 2) L) (hi3 : vp_in (x5 + 3) L) (cN sN : Nat) (hcN : cN + 1100 ≤ 603072) (hsN : sN + 13000 ≤ 7198826) (ooL : Nat → Int64) (omcode : Int32) (hf : f_case36 (xs (x5 + 1).toNatClampNeg) nE cK oL mentr mkinds = some (ooL, omcode)) {H : Heap} {locs : List Loc} {ls : Array Slot} (hP : va_P D vwCl (WC ca ad bq nF nO nL nA nC nV nU nP nE bF bO bL bA bC bV bU bP bE cT cK cO cQ cD pT pK pR pW pU pI pC uO uF uE uN wK jM jN jZ jB ++ (WO ca oa od oL oD ++ (WM ca am lq mcode mday mown mquot mprom mfiles mowner mlinks mblocks mvals msnaps mranks mkept mshot mwas mholds mheld mends mopen mentr mkinds misop mfilesT mentrT mpromT mlinksT mblocksT mvalsT ++ R))) H) (hD : va_D A (WC ca ad bq nF nO nL nA nC nV nU nP nE bF bO bL bA bC bV bU bP bE cT cK cO cQ cD pT pK pR pW pU pI pC uO uF uE uN wK jM jN jZ jB ++ (WO ca oa od oL oD ++ (WM ca am lq mcode mday mown mquot mprom mfiles mowner mlinks mblocks mvals msnaps mranks mkept mshot mwas mholds mheld mends mopen mentr mkinds misop mfilesT mentrT mpromT mlinksT mblocksT mvalsT ++ R)))) (hS : va_S A s.heap H locs) (hl : lv_has ls 9 [(0, .ref b), (1, .ref (ad 0)), (2, .ref (am 0)), (3, .ref oa), (4, .ref od), (5, .int x5)]) (kk : ∀ (H : Heap) (locs : List Loc) (ls : Array Slot), va_P D vwCl (WC ca ad bq nF nO nL nA nC nV nU nP nE bF bO bL bA bC bV bU bP bE cT cK cO cQ cD pT pK pR pW pU pI pC uO uF uE uN wK jM jN jZ jB ++ (WO ca oa od ooL oD ++ (WM ca am lq omcode mday mown mquot mprom mfiles mowner mlinks mblocks mvals msnaps mranks mkept mshot mwas mholds mheld mends mopen mentr mkinds misop mfilesT mentrT mpromT mlinksT mblocksT mvalsT ++ R))) H → va_D A (WC ca ad bq nF nO nL nA nC nV nU nP nE bF bO bL bA bC bV bU bP bE cT cK cO cQ cD pT pK pR pW pU pI pC uO uF uE uN wK jM jN jZ jB ++ (WO ca oa od ooL oD ++ (WM ca am lq omcode mday mown mquot mprom mfiles mowner mlinks mblocks mvals msnaps mranks mkept mshot mwas mholds mheld mends mopen mentr mkinds misop mfilesT mentrT mpromT mlinksT mblocksT mvalsT ++ R))) → va_S A s.heap H locs → lv_has ls 9 [(0, .ref b), (1, .ref (ad 0)), (2, .ref (am 0)), (3, .ref oa), (4, .ref od), (5, .int x5)] → W p l e room_1 s m #[Value.ref b] below meth c H locs (cN + 1100) (sN + 13000) Q (F0 m 2434 ls [])) : W p l e room_1 s m #[Value.ref b] below meth c H locs cN sN Q (F0 m 2122 ls []) := by
  have hK := hE.1
  unfold f_case36 at hf
  change W p l e room_1 s m #[Value.ref b] below meth c H locs (cN + 0) (sN + 0) Q (F0 m 2122 ls [])
  refine lv_aload_n hx hb dL_law_2122 rfl (lv_at hl 1 rfl) ?_
  refine lv_aload_n hx hb dL_law_2123 rfl (lv_at hl 0 rfl) ?_
  refine lv_iload hx hb dL_law_2124 (lv_at hl 5 rfl) ?_
  refine lv_iconst (v := 1) hx hb dL_law_2126 (by decide) ?_
  refine lv_iadd hx hb dL_law_2127 ?_
  refine va_sld hx hb hX hbl hbA hS hi1 dL_law_2128 ?_
  refine lv_aload_n hx hb dL_law_2129 rfl (lv_at hl 3 rfl) ?_
  obtain ⟨⟨r1, oL_2⟩, h3, hf⟩ := bnd hf
  refine cl_wi (rest := []) (m_L_entryKind l hst ca ad bq oa od nF nO nL nA nC nV nU nP nE bF bO bL bA bC bV bU bP bE cT cK cO cQ cD pT pK pR pW pU pI pC uO uF uE uN wK jM jN jZ jB oL oD (WM ca am lq mcode mday mown mquot mprom mfiles mowner mlinks mblocks mvals msnaps mranks mkept mshot mwas mholds mheld mends mopen mentr mkinds misop mfilesT mentrT mpromT mlinksT mblocksT mvalsT ++ R) _ (xs (x5 + 1).toNatClampNeg) r1 oL_2 h3) ⟨hx, hb, hml, hown, hts⟩ (vx_cwSW 3 hts (gSW q980 q981 q40 q982) rfl rfl rfl (by decide +kernel) ⟨Nat.le_of_ble_eq_true rfl, Nat.le_of_ble_eq_true rfl⟩) hE hP hD hS hA hZ hNC rfl hl.1 rfl (lv_room (Nat.le_of_ble_eq_true rfl)) dL_law_2130 ⟨by show _ ≤ 603072; omega, by show _ ≤ 7198826; omega⟩ (fun H locs hP hD hS => ?_)
  refine lv_istore (lv' := [(6, .int r1), (0, .ref b), (1, .ref (ad 0)), (2, .ref (am 0)), (3, .ref oa), (4, .ref od), (5, .int x5)]) hx hb dL_law_2133 hl (by decide) rfl (fun ls hl => ?_)
  refine lv_aload_n hx hb dL_law_2135 rfl (lv_at hl 3 rfl) ?_
  refine lv_aload_n hx hb dL_law_2136 rfl (lv_at hl 1 rfl) ?_
  refine lv_iload hx hb dL_law_2137 (lv_at hl 6 rfl) ?_
  refine lv_iconst (v := 1) hx hb dL_law_2139 (by decide) ?_
  refine lv_iadd hx hb dL_law_2140 ?_
  refine va_sld hx hb hX hbl hbA hS hi1 dL_law_2141 ?_
  obtain ⟨⟨r4, mcode_5⟩, h6, hf⟩ := bnd hf
  refine cm_i (rest := []) (m_M_entryKind l ca am lq mcode mday mown mquot mprom mfiles mowner mlinks mblocks mvals msnaps mranks mkept mshot mwas mholds mheld mends mopen mentr mkinds misop mfilesT mentrT mpromT mlinksT mblocksT mvalsT (WC ca ad bq nF nO nL nA nC nV nU nP nE bF bO bL bA bC bV bU bP bE cT cK cO cQ cD pT pK pR pW pU pI pC uO uF uE uN wK jM jN jZ jB ++ (WO ca oa od oL_2 oD ++ R)) _ (xs (x5 + 1).toNatClampNeg) r4 mcode_5 h6) ⟨hx, hb, hml, hown, hts⟩ (cwV 1 hts (gV q1640 q1641 q1642 q50 q1643) rfl rfl rfl (by decide +kernel) ⟨Nat.le_of_ble_eq_true rfl, Nat.le_of_ble_eq_true rfl⟩) (va_recv hK hP (ci := 8) (q0 := 42) rfl rfl) hE hP hD hS hA rfl hl.1 rfl (lv_room (Nat.le_of_ble_eq_true rfl)) dL_law_2142 ⟨by show _ ≤ 603072; omega, by show _ ≤ 7198826; omega⟩ (fun H locs hP hD hS => ?_)
  refine lv_istore (lv' := [(7, .int r4), (6, .int r1), (0, .ref b), (1, .ref (ad 0)), (2, .ref (am 0)), (3, .ref oa), (4, .ref od), (5, .int x5)]) hx hb dL_law_2145 hl (by decide) rfl (fun ls hl => ?_)
  refine lv_aload_n hx hb dL_law_2147 rfl (lv_at hl 4 rfl) ?_
  obtain ⟨r7, h8, hf⟩ := bnd hf
  refine cm_i (rest := []) (m_M_thrown l ca am lq mcode_5 mday mown mquot mprom mfiles mowner mlinks mblocks mvals msnaps mranks mkept mshot mwas mholds mheld mends mopen mentr mkinds misop mfilesT mentrT mpromT mlinksT mblocksT mvalsT (WC ca ad bq nF nO nL nA nC nV nU nP nE bF bO bL bA bC bV bU bP bE cT cK cO cQ cD pT pK pR pW pU pI pC uO uF uE uN wK jM jN jZ jB ++ (WO ca oa od oL_2 oD ++ R)) _ r7 h8) ⟨hx, hb, hml, hown, hts⟩ (cwV 0 hts (gV q1417 q1418 q1419 q50 q1420) rfl rfl rfl (by decide +kernel) ⟨Nat.le_of_ble_eq_true rfl, Nat.le_of_ble_eq_true rfl⟩) (va_recv hK hP (ci := 8) (q0 := 42) rfl rfl) hE hP hD hS hA rfl hl.1 rfl (lv_room (Nat.le_of_ble_eq_true rfl)) dL_law_2148 ⟨by show _ ≤ 603072; omega, by show _ ≤ 7198826; omega⟩ (fun H locs hP hD hS => ?_)
  refine lv_iload hx hb dL_law_2151 (lv_at hl 1 rfl) ?_
  refine lv_icmp_eq (tgt := 2158) hx hb dL_law_2153 (by decide) (fun c9 => ?_) (fun c9 => ?_)
  · have hf := br_pos c9 hf
    refine lv_iload hx hb dL_law_2158 (lv_at hl 1 rfl) ?_
    refine lv_if_ne (tgt := 2175) hx hb dL_law_2160 (by decide) (fun c10 => ?_) (fun c10 => ?_)
    · have hf := br_neg c10 hf
      refine lv_goto (tgt := 2434) hx hb dL_law_2175 (by decide) ?_
      cases hf
      refine W.widen (k := cN + 1100) (n := sN + 13000) (by omega) (by omega) ?_
      exact kk _ _ _ hP hD hS (lv_sub hl [2, 3, 4, 5, 6, 7] rfl)
    · have hf := br_pos c10 hf
      refine lv_aload_n hx hb dL_law_2163 rfl (lv_at hl 5 rfl) ?_
      refine lv_iconst (v := 0) hx hb dL_law_2164 (by decide) ?_
      refine va_lald (D := D) hx hb hK hP 40 5 rfl rfl (by unfold vp_in; decide) dL_law_2165 ?_
      refine lv_iload hx hb dL_law_2166 (lv_at hl 0 rfl) ?_
      refine lv_i2l hx hb dL_law_2168 rfl ?_
      refine W.lcmp hx hb dL_law_2169 ?_
      refine lv_if_eq (tgt := 2175) hx hb dL_law_2170 (by decide) (fun c11 => ?_) (fun c11 => ?_)
      · have hf := br_pos c11 hf
        refine lv_goto (tgt := 2434) hx hb dL_law_2175 (by decide) ?_
        cases hf
        refine W.widen (k := cN + 1100) (n := sN + 13000) (by omega) (by omega) ?_
        exact kk _ _ _ hP hD hS (lv_sub hl [2, 3, 4, 5, 6, 7] rfl)
      · have hf := br_neg c11 hf
        refine lv_iconst (v := 0) hx hb dL_law_2173 (by decide) ?_
        cases hf
  · have hf := br_neg c9 hf
    refine lv_iconst (v := 0) hx hb dL_law_2156 (by decide) ?_
    cases hf
def f_case37 (nU : Nat → Int32) (oD : Nat → UInt64) (mblocks : Nat → Int32) (msnaps : Int32) (mkept : Nat → Int32) (mshot : Nat → Int32) : Option ((Nat → UInt64) × Int32) :=
  (f_L_meanUsers nU oD).bind fun (r1, oD_2) =>
  (f_M_meanUsers mblocks msnaps mkept mshot).bind fun (r4, mcode_5) =>
  (f_M_thrown mcode_5).bind fun r7 =>
  if r7 = r1 then
    if r1 = 0 then
      if (Op.cmpValue (FP.dcmp (oD_2 (0 : Int32).toNatClampNeg) r4) .l) = 0 then
        some (oD_2, mcode_5)
      else
        if (Op.cmpValue (FP.dcmp (oD_2 (0 : Int32).toNatClampNeg) (oD_2 (0 : Int32).toNatClampNeg)) .l) = 0 then
          none
        else
          if (Op.cmpValue (FP.dcmp r4 r4) .l) = 0 then
            none
          else
            some (oD_2, mcode_5)
    else
      some (oD_2, mcode_5)
  else
    none
set_option maxHeartbeats 4000000 in
set_option maxRecDepth 100000 in
theorem l_case37 {p : Program} {l : Launch} {e : Env} {s : State} {m : MethodId} {below : List Frame} {meth : Method} {c : Code} {Q : State → Prop} {D : va_G} {A : Nat → Prop} {b L : Nat} {xs : Nat → Int32} (ca : Nat → ClassId) (hst : l.stackTraces = false) (hx : p.tables.exec = Jvm.exec) (hb : c.code = code) (hml : c.maxLocals = 9) (hown : s.vm.findClass RL = some m.cls) (hts : ∀ w ∈ WW, w.before #[Value.ref b] s = true) (hE : EE D ca SL0 s) (hA : ∀ q, s.heap.size ≤ q → A q) (hZ : ZZ A s s.heap) (hNC : NCE s) (hX : va_X b L xs s s.heap) (hbl : b < s.heap.size) (hbA : ¬ A b) (ad am : Nat → Nat) (bq oa od lq : Nat) (nF : Int32) (nO : Nat → Int32) (nL : Nat → Int32) (nA : Nat → Int32) (nC : Nat → Int32) (nV : Nat → Int32) (nU : Nat → Int32) (nP : Nat → Int32) (nE : Int32) (bF : Int32) (bO : Nat → Int32) (bL : Nat → Int32) (bA : Nat → Int32) (bC : Nat → Int32) (bV : Nat → Int32) (bU : Nat → Int32) (bP : Nat → Int32) (bE : Int32) (cT : Int32) (cK : Nat → Int32) (cO : Int32) (cQ : Nat → Int32) (cD : Int32) (pT : Int32) (pK : Int32) (pR : Nat → Int32) (pW : Nat → Int32) (pU : Nat → Int32) (pI : Nat → Int32) (pC : Nat → Nat → Int32) (uO : Int32) (uF : Nat → Int32) (uE : Nat → Int32) (uN : Nat → Int32) (wK : Nat → Int32) (jM : Int32) (jN : Int32) (jZ : Nat) (jB : Nat → Int32) (oL : Nat → Int64) (oD : Nat → UInt64) (mcode : Int32) (mday : Int32) (mown : Int32) (mquot : Nat → Int32) (mprom : Nat → Int32) (mfiles : Int32) (mowner : Nat → Int32) (mlinks : Nat → Int32) (mblocks : Nat → Int32) (mvals : Nat → Int32) (msnaps : Int32) (mranks : Nat → Int32) (mkept : Nat → Int32) (mshot : Nat → Int32) (mwas : Nat → Int32) (mholds : Int32) (mheld : Nat → Int32) (mends : Nat → Int32) (mopen : Nat → Int32) (mentr : Int32) (mkinds : Nat → Int32) (misop : Int32) (mfilesT : Int32) (mentrT : Int32) (mpromT : Nat → Int32) (mlinksT : Nat → Int32) (mblocksT : Nat → Int32) (mvalsT : Nat → Int32) (R : va_W) (x5 : Int32) (hi1 : vp_in (x5 + 1) L) (hi2 : vp_in (x5 + 2) L) (hi3 : vp_in (x5 + 3) L) (cN sN : Nat) (hcN : cN + 1100 ≤ 603072) (hsN : sN + 13000 ≤ 7198826) (ooD : Nat → UInt64) (omcode : Int32) (hf : f_case37 nU oD mblocks msnaps mkept mshot = some (ooD, omcode)) {H : Heap} {locs : List Loc} {ls : Array Slot} (hP : va_P D vwCl (WC ca ad bq nF nO nL nA nC nV nU nP nE bF bO bL bA bC bV bU bP bE cT cK cO cQ cD pT pK pR pW pU pI pC uO uF uE uN wK jM jN jZ jB ++ (WO ca oa od oL oD ++ (WM ca am lq mcode mday mown mquot mprom mfiles mowner mlinks mblocks mvals msnaps mranks mkept mshot mwas mholds mheld mends mopen mentr mkinds misop mfilesT mentrT mpromT mlinksT mblocksT mvalsT ++ R))) H) (hD : va_D A (WC ca ad bq nF nO nL nA nC nV nU nP nE bF bO bL bA bC bV bU bP bE cT cK cO cQ cD pT pK pR pW pU pI pC uO uF uE uN wK jM jN jZ jB ++ (WO ca oa od oL oD ++ (WM ca am lq mcode mday mown mquot mprom mfiles mowner mlinks mblocks mvals msnaps mranks mkept mshot mwas mholds mheld mends mopen mentr mkinds misop mfilesT mentrT mpromT mlinksT mblocksT mvalsT ++ R)))) (hS : va_S A s.heap H locs) (hl : lv_has ls 9 [(0, .ref b), (1, .ref (ad 0)), (2, .ref (am 0)), (3, .ref oa), (4, .ref od), (5, .int x5)]) (kk : ∀ (H : Heap) (locs : List Loc) (ls : Array Slot), va_P D vwCl (WC ca ad bq nF nO nL nA nC nV nU nP nE bF bO bL bA bC bV bU bP bE cT cK cO cQ cD pT pK pR pW pU pI pC uO uF uE uN wK jM jN jZ jB ++ (WO ca oa od oL ooD ++ (WM ca am lq omcode mday mown mquot mprom mfiles mowner mlinks mblocks mvals msnaps mranks mkept mshot mwas mholds mheld mends mopen mentr mkinds misop mfilesT mentrT mpromT mlinksT mblocksT mvalsT ++ R))) H → va_D A (WC ca ad bq nF nO nL nA nC nV nU nP nE bF bO bL bA bC bV bU bP bE cT cK cO cQ cD pT pK pR pW pU pI pC uO uF uE uN wK jM jN jZ jB ++ (WO ca oa od oL ooD ++ (WM ca am lq omcode mday mown mquot mprom mfiles mowner mlinks mblocks mvals msnaps mranks mkept mshot mwas mholds mheld mends mopen mentr mkinds misop mfilesT mentrT mpromT mlinksT mblocksT mvalsT ++ R))) → va_S A s.heap H locs → lv_has ls 9 [(0, .ref b), (1, .ref (ad 0)), (2, .ref (am 0)), (3, .ref oa), (4, .ref od), (5, .int x5)] → W p l e room_1 s m #[Value.ref b] below meth c H locs (cN + 1100) (sN + 13000) Q (F0 m 2434 ls [])) : W p l e room_1 s m #[Value.ref b] below meth c H locs cN sN Q (F0 m 2178 ls []) := by
  have hK := hE.1
  unfold f_case37 at hf
  change W p l e room_1 s m #[Value.ref b] below meth c H locs (cN + 0) (sN + 0) Q (F0 m 2178 ls [])
  refine lv_aload_n hx hb dL_law_2178 rfl (lv_at hl 1 rfl) ?_
  refine lv_aload hx hb dL_law_2179 (lv_at hl 4 rfl) ?_
  obtain ⟨⟨r1, oD_2⟩, h3, hf⟩ := bnd hf
  refine cl_wi (rest := []) (m_L_meanUsers l hst ca ad bq oa od nF nO nL nA nC nV nU nP nE bF bO bL bA bC bV bU bP bE cT cK cO cQ cD pT pK pR pW pU pI pC uO uF uE uN wK jM jN jZ jB oL oD (WM ca am lq mcode mday mown mquot mprom mfiles mowner mlinks mblocks mvals msnaps mranks mkept mshot mwas mholds mheld mends mopen mentr mkinds misop mfilesT mentrT mpromT mlinksT mblocksT mvalsT ++ R) _ r1 oD_2 h3) ⟨hx, hb, hml, hown, hts⟩ (vx_cwSW 2 hts (gSW q988 q989 q40 q990) rfl rfl rfl (by decide +kernel) ⟨Nat.le_of_ble_eq_true rfl, Nat.le_of_ble_eq_true rfl⟩) hE hP hD hS hA hZ hNC rfl hl.1 rfl (lv_room (Nat.le_of_ble_eq_true rfl)) dL_law_2181 ⟨by show _ ≤ 603072; omega, by show _ ≤ 7198826; omega⟩ (fun H locs hP hD hS => ?_)
  refine lv_istore (lv' := [(6, .int r1), (0, .ref b), (1, .ref (ad 0)), (2, .ref (am 0)), (3, .ref oa), (4, .ref od), (5, .int x5)]) hx hb dL_law_2184 hl (by decide) rfl (fun ls hl => ?_)
  refine lv_aload_n hx hb dL_law_2186 rfl (lv_at hl 3 rfl) ?_
  obtain ⟨⟨r4, mcode_5⟩, h6, hf⟩ := bnd hf
  refine cm_d (rest := []) (m_M_meanUsers l ca am lq mcode mday mown mquot mprom mfiles mowner mlinks mblocks mvals msnaps mranks mkept mshot mwas mholds mheld mends mopen mentr mkinds misop mfilesT mentrT mpromT mlinksT mblocksT mvalsT (WC ca ad bq nF nO nL nA nC nV nU nP nE bF bO bL bA bC bV bU bP bE cT cK cO cQ cD pT pK pR pW pU pI pC uO uF uE uN wK jM jN jZ jB ++ (WO ca oa od oL oD_2 ++ R)) _ r4 mcode_5 h6) ⟨hx, hb, hml, hown, hts⟩ (cwV 0 hts (gV q1644 q1645 q1646 q50 q1647) rfl rfl rfl (by decide +kernel) ⟨Nat.le_of_ble_eq_true rfl, Nat.le_of_ble_eq_true rfl⟩) (va_recv hK hP (ci := 8) (q0 := 42) rfl rfl) hE hP hD hS hA rfl hl.1 rfl (lv_room (Nat.le_of_ble_eq_true rfl)) dL_law_2187 ⟨by show _ ≤ 603072; omega, by show _ ≤ 7198826; omega⟩ (fun H locs hP hD hS => ?_)
  refine lv_dstore (lv' := [(7, .double r4), (6, .int r1), (0, .ref b), (1, .ref (ad 0)), (2, .ref (am 0)), (3, .ref oa), (4, .ref od), (5, .int x5)]) hx hb dL_law_2190 hl (by decide) rfl (fun ls hl => ?_)
  refine lv_aload_n hx hb dL_law_2192 rfl (lv_at hl 4 rfl) ?_
  obtain ⟨r7, h8, hf⟩ := bnd hf
  refine cm_i (rest := []) (m_M_thrown l ca am lq mcode_5 mday mown mquot mprom mfiles mowner mlinks mblocks mvals msnaps mranks mkept mshot mwas mholds mheld mends mopen mentr mkinds misop mfilesT mentrT mpromT mlinksT mblocksT mvalsT (WC ca ad bq nF nO nL nA nC nV nU nP nE bF bO bL bA bC bV bU bP bE cT cK cO cQ cD pT pK pR pW pU pI pC uO uF uE uN wK jM jN jZ jB ++ (WO ca oa od oL oD_2 ++ R)) _ r7 h8) ⟨hx, hb, hml, hown, hts⟩ (cwV 0 hts (gV q1417 q1418 q1419 q50 q1420) rfl rfl rfl (by decide +kernel) ⟨Nat.le_of_ble_eq_true rfl, Nat.le_of_ble_eq_true rfl⟩) (va_recv hK hP (ci := 8) (q0 := 42) rfl rfl) hE hP hD hS hA rfl hl.1 rfl (lv_room (Nat.le_of_ble_eq_true rfl)) dL_law_2193 ⟨by show _ ≤ 603072; omega, by show _ ≤ 7198826; omega⟩ (fun H locs hP hD hS => ?_)
  refine lv_iload hx hb dL_law_2196 (lv_at hl 1 rfl) ?_
  refine lv_icmp_eq (tgt := 2203) hx hb dL_law_2198 (by decide) (fun c9 => ?_) (fun c9 => ?_)
  · have hf := br_pos c9 hf
    refine lv_iload hx hb dL_law_2203 (lv_at hl 1 rfl) ?_
    refine lv_if_ne (tgt := 2240) hx hb dL_law_2205 (by decide) (fun c10 => ?_) (fun c10 => ?_)
    · have hf := br_neg c10 hf
      refine lv_goto (tgt := 2434) hx hb dL_law_2240 (by decide) ?_
      cases hf
      refine W.widen (k := cN + 1100) (n := sN + 13000) (by omega) (by omega) ?_
      exact kk _ _ _ hP hD hS (lv_sub hl [2, 3, 4, 5, 6, 7] rfl)
    · have hf := br_pos c10 hf
      refine lv_aload hx hb dL_law_2208 (lv_at hl 6 rfl) ?_
      refine lv_iconst (v := 0) hx hb dL_law_2210 (by decide) ?_
      refine va_dald (D := D) hx hb hK hP 41 6 rfl rfl (by unfold vp_in; decide) dL_law_2211 ?_
      refine lv_dload hx hb dL_law_2212 (lv_at hl 0 rfl) ?_
      refine lv_dcmp hx hb dL_law_2214 ?_
      refine lv_if_eq (tgt := 2240) hx hb dL_law_2215 (by decide) (fun c11 => ?_) (fun c11 => ?_)
      · have hf := br_pos c11 hf
        refine lv_goto (tgt := 2434) hx hb dL_law_2240 (by decide) ?_
        cases hf
        refine W.widen (k := cN + 1100) (n := sN + 13000) (by omega) (by omega) ?_
        exact kk _ _ _ hP hD hS (lv_sub hl [2, 3, 4, 5, 6, 7] rfl)
      · have hf := br_neg c11 hf
        refine lv_aload hx hb dL_law_2218 (lv_at hl 6 rfl) ?_
        refine lv_iconst (v := 0) hx hb dL_law_2220 (by decide) ?_
        refine va_dald (D := D) hx hb hK hP 41 6 rfl rfl (by unfold vp_in; decide) dL_law_2221 ?_
        refine lv_aload hx hb dL_law_2222 (lv_at hl 6 rfl) ?_
        refine lv_iconst (v := 0) hx hb dL_law_2224 (by decide) ?_
        refine va_dald (D := D) hx hb hK hP 41 6 rfl rfl (by unfold vp_in; decide) dL_law_2225 ?_
        refine lv_dcmp hx hb dL_law_2226 ?_
        refine lv_if_eq (tgt := 2238) hx hb dL_law_2227 (by decide) (fun c12 => ?_) (fun c12 => ?_)
        · have hf := br_pos c12 hf
          refine lv_iconst (v := 0) hx hb dL_law_2238 (by decide) ?_
          cases hf
        · have hf := br_neg c12 hf
          refine lv_dload hx hb dL_law_2230 (lv_at hl 0 rfl) ?_
          refine lv_dload hx hb dL_law_2232 (lv_at hl 0 rfl) ?_
          refine lv_dcmp hx hb dL_law_2234 ?_
          refine lv_if_ne (tgt := 2240) hx hb dL_law_2235 (by decide) (fun c13 => ?_) (fun c13 => ?_)
          · have hf := br_neg c13 hf
            refine lv_goto (tgt := 2434) hx hb dL_law_2240 (by decide) ?_
            cases hf
            refine W.widen (k := cN + 1100) (n := sN + 13000) (by omega) (by omega) ?_
            exact kk _ _ _ hP hD hS (lv_sub hl [2, 3, 4, 5, 6, 7] rfl)
          · have hf := br_pos c13 hf
            refine lv_iconst (v := 0) hx hb dL_law_2238 (by decide) ?_
            cases hf
  · have hf := br_neg c9 hf
    refine lv_iconst (v := 0) hx hb dL_law_2201 (by decide) ?_
    cases hf
def f_case38 (nF : Int32) (nA : Nat → Int32) (uO : Int32) (uF : Nat → Int32) (uN : Nat → Int32) (oD : Nat → UInt64) (mfiles : Int32) (mlinks : Nat → Int32) (mholds : Int32) (mheld : Nat → Int32) (mopen : Nat → Int32) : Option ((Nat → UInt64) × Int32) :=
  (f_L_heldShare nF nA uO uF uN oD).bind fun (r1, oD_2) =>
  (f_M_heldShare mfiles mlinks mholds mheld mopen).bind fun (r4, mcode_5) =>
  (f_M_thrown mcode_5).bind fun r7 =>
  if r7 = r1 then
    if r1 = 0 then
      if ((FP.f2d r4) &&& 0x7fffffffffffffff ≤ 0x7ff0000000000000) then if (Op.cmpValue (FP.dcmp (oD_2 (0 : Int32).toNatClampNeg) (FP.f2d r4)) .l) = 0 then
        some (oD_2, mcode_5)
      else
        if (Op.cmpValue (FP.dcmp (oD_2 (0 : Int32).toNatClampNeg) (oD_2 (0 : Int32).toNatClampNeg)) .l) = 0 then
          none
        else
          if (Op.cmpValue (FP.fcmp r4 r4) .l) = 0 then
            none
          else
            some (oD_2, mcode_5) else none
    else
      some (oD_2, mcode_5)
  else
    none
set_option maxHeartbeats 4000000 in
set_option maxRecDepth 100000 in
theorem l_case38 {p : Program} {l : Launch} {e : Env} {s : State} {m : MethodId} {below : List Frame} {meth : Method} {c : Code} {Q : State → Prop} {D : va_G} {A : Nat → Prop} {b L : Nat} {xs : Nat → Int32} (ca : Nat → ClassId) (hst : l.stackTraces = false) (hx : p.tables.exec = Jvm.exec) (hb : c.code = code) (hml : c.maxLocals = 9) (hown : s.vm.findClass RL = some m.cls) (hts : ∀ w ∈ WW, w.before #[Value.ref b] s = true) (hE : EE D ca SL0 s) (hA : ∀ q, s.heap.size ≤ q → A q) (hZ : ZZ A s s.heap) (hNC : NCE s) (hX : va_X b L xs s s.heap) (hbl : b < s.heap.size) (hbA : ¬ A b) (ad am : Nat → Nat) (bq oa od lq : Nat) (nF : Int32) (nO : Nat → Int32) (nL : Nat → Int32) (nA : Nat → Int32) (nC : Nat → Int32) (nV : Nat → Int32) (nU : Nat → Int32) (nP : Nat → Int32) (nE : Int32) (bF : Int32) (bO : Nat → Int32) (bL : Nat → Int32) (bA : Nat → Int32) (bC : Nat → Int32) (bV : Nat → Int32) (bU : Nat → Int32) (bP : Nat → Int32) (bE : Int32) (cT : Int32) (cK : Nat → Int32) (cO : Int32) (cQ : Nat → Int32) (cD : Int32) (pT : Int32) (pK : Int32) (pR : Nat → Int32) (pW : Nat → Int32) (pU : Nat → Int32) (pI : Nat → Int32) (pC : Nat → Nat → Int32) (uO : Int32) (uF : Nat → Int32) (uE : Nat → Int32) (uN : Nat → Int32) (wK : Nat → Int32) (jM : Int32) (jN : Int32) (jZ : Nat) (jB : Nat → Int32) (oL : Nat → Int64) (oD : Nat → UInt64) (mcode : Int32) (mday : Int32) (mown : Int32) (mquot : Nat → Int32) (mprom : Nat → Int32) (mfiles : Int32) (mowner : Nat → Int32) (mlinks : Nat → Int32) (mblocks : Nat → Int32) (mvals : Nat → Int32) (msnaps : Int32) (mranks : Nat → Int32) (mkept : Nat → Int32) (mshot : Nat → Int32) (mwas : Nat → Int32) (mholds : Int32) (mheld : Nat → Int32) (mends : Nat → Int32) (mopen : Nat → Int32) (mentr : Int32) (mkinds : Nat → Int32) (misop : Int32) (mfilesT : Int32) (mentrT : Int32) (mpromT : Nat → Int32) (mlinksT : Nat → Int32) (mblocksT : Nat → Int32) (mvalsT : Nat → Int32) (R : va_W) (x5 : Int32) (hi1 : vp_in (x5 + 1) L) (hi2 : vp_in (x5 + 2) L) (hi3 : vp_in (x5 + 3) L) (cN sN : Nat) (hcN : cN + 1100 ≤ 603072) (hsN : sN + 13000 ≤ 7198826) (ooD : Nat → UInt64) (omcode : Int32) (hf : f_case38 nF nA uO uF uN oD mfiles mlinks mholds mheld mopen = some (ooD, omcode)) {H : Heap} {locs : List Loc} {ls : Array Slot} (hP : va_P D vwCl (WC ca ad bq nF nO nL nA nC nV nU nP nE bF bO bL bA bC bV bU bP bE cT cK cO cQ cD pT pK pR pW pU pI pC uO uF uE uN wK jM jN jZ jB ++ (WO ca oa od oL oD ++ (WM ca am lq mcode mday mown mquot mprom mfiles mowner mlinks mblocks mvals msnaps mranks mkept mshot mwas mholds mheld mends mopen mentr mkinds misop mfilesT mentrT mpromT mlinksT mblocksT mvalsT ++ R))) H) (hD : va_D A (WC ca ad bq nF nO nL nA nC nV nU nP nE bF bO bL bA bC bV bU bP bE cT cK cO cQ cD pT pK pR pW pU pI pC uO uF uE uN wK jM jN jZ jB ++ (WO ca oa od oL oD ++ (WM ca am lq mcode mday mown mquot mprom mfiles mowner mlinks mblocks mvals msnaps mranks mkept mshot mwas mholds mheld mends mopen mentr mkinds misop mfilesT mentrT mpromT mlinksT mblocksT mvalsT ++ R)))) (hS : va_S A s.heap H locs) (hl : lv_has ls 9 [(0, .ref b), (1, .ref (ad 0)), (2, .ref (am 0)), (3, .ref oa), (4, .ref od), (5, .int x5)]) (kk : ∀ (H : Heap) (locs : List Loc) (ls : Array Slot), va_P D vwCl (WC ca ad bq nF nO nL nA nC nV nU nP nE bF bO bL bA bC bV bU bP bE cT cK cO cQ cD pT pK pR pW pU pI pC uO uF uE uN wK jM jN jZ jB ++ (WO ca oa od oL ooD ++ (WM ca am lq omcode mday mown mquot mprom mfiles mowner mlinks mblocks mvals msnaps mranks mkept mshot mwas mholds mheld mends mopen mentr mkinds misop mfilesT mentrT mpromT mlinksT mblocksT mvalsT ++ R))) H → va_D A (WC ca ad bq nF nO nL nA nC nV nU nP nE bF bO bL bA bC bV bU bP bE cT cK cO cQ cD pT pK pR pW pU pI pC uO uF uE uN wK jM jN jZ jB ++ (WO ca oa od oL ooD ++ (WM ca am lq omcode mday mown mquot mprom mfiles mowner mlinks mblocks mvals msnaps mranks mkept mshot mwas mholds mheld mends mopen mentr mkinds misop mfilesT mentrT mpromT mlinksT mblocksT mvalsT ++ R))) → va_S A s.heap H locs → lv_has ls 9 [(0, .ref b), (1, .ref (ad 0)), (2, .ref (am 0)), (3, .ref oa), (4, .ref od), (5, .int x5)] → W p l e room_1 s m #[Value.ref b] below meth c H locs (cN + 1100) (sN + 13000) Q (F0 m 2434 ls [])) : W p l e room_1 s m #[Value.ref b] below meth c H locs cN sN Q (F0 m 2243 ls []) := by
  have hK := hE.1
  unfold f_case38 at hf
  change W p l e room_1 s m #[Value.ref b] below meth c H locs (cN + 0) (sN + 0) Q (F0 m 2243 ls [])
  refine lv_aload_n hx hb dL_law_2243 rfl (lv_at hl 1 rfl) ?_
  refine lv_aload hx hb dL_law_2244 (lv_at hl 4 rfl) ?_
  obtain ⟨⟨r1, oD_2⟩, h3, hf⟩ := bnd hf
  refine cl_wi (rest := []) (m_L_heldShare l hst ca ad bq oa od nF nO nL nA nC nV nU nP nE bF bO bL bA bC bV bU bP bE cT cK cO cQ cD pT pK pR pW pU pI pC uO uF uE uN wK jM jN jZ jB oL oD (WM ca am lq mcode mday mown mquot mprom mfiles mowner mlinks mblocks mvals msnaps mranks mkept mshot mwas mholds mheld mends mopen mentr mkinds misop mfilesT mentrT mpromT mlinksT mblocksT mvalsT ++ R) _ r1 oD_2 h3) ⟨hx, hb, hml, hown, hts⟩ (vx_cwSW 2 hts (gSW q1012 q1013 q40 q1014) rfl rfl rfl (by decide +kernel) ⟨Nat.le_of_ble_eq_true rfl, Nat.le_of_ble_eq_true rfl⟩) hE hP hD hS hA hZ hNC rfl hl.1 rfl (lv_room (Nat.le_of_ble_eq_true rfl)) dL_law_2246 ⟨by show _ ≤ 603072; omega, by show _ ≤ 7198826; omega⟩ (fun H locs hP hD hS => ?_)
  refine lv_istore (lv' := [(6, .int r1), (0, .ref b), (1, .ref (ad 0)), (2, .ref (am 0)), (3, .ref oa), (4, .ref od), (5, .int x5)]) hx hb dL_law_2249 hl (by decide) rfl (fun ls hl => ?_)
  refine lv_aload_n hx hb dL_law_2251 rfl (lv_at hl 3 rfl) ?_
  obtain ⟨⟨r4, mcode_5⟩, h6, hf⟩ := bnd hf
  refine cm_f (rest := []) (m_M_heldShare l ca am lq mcode mday mown mquot mprom mfiles mowner mlinks mblocks mvals msnaps mranks mkept mshot mwas mholds mheld mends mopen mentr mkinds misop mfilesT mentrT mpromT mlinksT mblocksT mvalsT (WC ca ad bq nF nO nL nA nC nV nU nP nE bF bO bL bA bC bV bU bP bE cT cK cO cQ cD pT pK pR pW pU pI pC uO uF uE uN wK jM jN jZ jB ++ (WO ca oa od oL oD_2 ++ R)) _ r4 mcode_5 h6) ⟨hx, hb, hml, hown, hts⟩ (cwV 0 hts (gV q1648 q1649 q1650 q50 q1651) rfl rfl rfl (by decide +kernel) ⟨Nat.le_of_ble_eq_true rfl, Nat.le_of_ble_eq_true rfl⟩) (va_recv hK hP (ci := 8) (q0 := 42) rfl rfl) hE hP hD hS hA rfl hl.1 rfl (lv_room (Nat.le_of_ble_eq_true rfl)) dL_law_2252 ⟨by show _ ≤ 603072; omega, by show _ ≤ 7198826; omega⟩ (fun H locs hP hD hS => ?_)
  refine lv_fstore (lv' := [(7, .float r4), (6, .int r1), (0, .ref b), (1, .ref (ad 0)), (2, .ref (am 0)), (3, .ref oa), (4, .ref od), (5, .int x5)]) hx hb dL_law_2255 hl (by decide) rfl (fun ls hl => ?_)
  refine lv_aload_n hx hb dL_law_2257 rfl (lv_at hl 4 rfl) ?_
  obtain ⟨r7, h8, hf⟩ := bnd hf
  refine cm_i (rest := []) (m_M_thrown l ca am lq mcode_5 mday mown mquot mprom mfiles mowner mlinks mblocks mvals msnaps mranks mkept mshot mwas mholds mheld mends mopen mentr mkinds misop mfilesT mentrT mpromT mlinksT mblocksT mvalsT (WC ca ad bq nF nO nL nA nC nV nU nP nE bF bO bL bA bC bV bU bP bE cT cK cO cQ cD pT pK pR pW pU pI pC uO uF uE uN wK jM jN jZ jB ++ (WO ca oa od oL oD_2 ++ R)) _ r7 h8) ⟨hx, hb, hml, hown, hts⟩ (cwV 0 hts (gV q1417 q1418 q1419 q50 q1420) rfl rfl rfl (by decide +kernel) ⟨Nat.le_of_ble_eq_true rfl, Nat.le_of_ble_eq_true rfl⟩) (va_recv hK hP (ci := 8) (q0 := 42) rfl rfl) hE hP hD hS hA rfl hl.1 rfl (lv_room (Nat.le_of_ble_eq_true rfl)) dL_law_2258 ⟨by show _ ≤ 603072; omega, by show _ ≤ 7198826; omega⟩ (fun H locs hP hD hS => ?_)
  refine lv_iload hx hb dL_law_2261 (lv_at hl 1 rfl) ?_
  refine lv_icmp_eq (tgt := 2268) hx hb dL_law_2263 (by decide) (fun c9 => ?_) (fun c9 => ?_)
  · have hf := br_pos c9 hf
    refine lv_iload hx hb dL_law_2268 (lv_at hl 1 rfl) ?_
    refine lv_if_ne (tgt := 2306) hx hb dL_law_2270 (by decide) (fun c10 => ?_) (fun c10 => ?_)
    · have hf := br_neg c10 hf
      refine lv_goto (tgt := 2434) hx hb dL_law_2306 (by decide) ?_
      cases hf
      refine W.widen (k := cN + 1100) (n := sN + 13000) (by omega) (by omega) ?_
      exact kk _ _ _ hP hD hS (lv_sub hl [2, 3, 4, 5, 6, 7] rfl)
    · have hf := br_pos c10 hf
      refine lv_aload hx hb dL_law_2273 (lv_at hl 6 rfl) ?_
      refine lv_iconst (v := 0) hx hb dL_law_2275 (by decide) ?_
      refine va_dald (D := D) hx hb hK hP 41 6 rfl rfl (by unfold vp_in; decide) dL_law_2276 ?_
      refine lv_fload hx hb dL_law_2277 (lv_at hl 0 rfl) ?_
      obtain ⟨k11, hf⟩ := ck_yes hf
      refine lv_f2d hx hb dL_law_2279 k11 ?_
      refine lv_dcmp hx hb dL_law_2280 ?_
      refine lv_if_eq (tgt := 2306) hx hb dL_law_2281 (by decide) (fun c12 => ?_) (fun c12 => ?_)
      · have hf := br_pos c12 hf
        refine lv_goto (tgt := 2434) hx hb dL_law_2306 (by decide) ?_
        cases hf
        refine W.widen (k := cN + 1100) (n := sN + 13000) (by omega) (by omega) ?_
        exact kk _ _ _ hP hD hS (lv_sub hl [2, 3, 4, 5, 6, 7] rfl)
      · have hf := br_neg c12 hf
        refine lv_aload hx hb dL_law_2284 (lv_at hl 6 rfl) ?_
        refine lv_iconst (v := 0) hx hb dL_law_2286 (by decide) ?_
        refine va_dald (D := D) hx hb hK hP 41 6 rfl rfl (by unfold vp_in; decide) dL_law_2287 ?_
        refine lv_aload hx hb dL_law_2288 (lv_at hl 6 rfl) ?_
        refine lv_iconst (v := 0) hx hb dL_law_2290 (by decide) ?_
        refine va_dald (D := D) hx hb hK hP 41 6 rfl rfl (by unfold vp_in; decide) dL_law_2291 ?_
        refine lv_dcmp hx hb dL_law_2292 ?_
        refine lv_if_eq (tgt := 2304) hx hb dL_law_2293 (by decide) (fun c13 => ?_) (fun c13 => ?_)
        · have hf := br_pos c13 hf
          refine lv_iconst (v := 0) hx hb dL_law_2304 (by decide) ?_
          cases hf
        · have hf := br_neg c13 hf
          refine lv_fload hx hb dL_law_2296 (lv_at hl 0 rfl) ?_
          refine lv_fload hx hb dL_law_2298 (lv_at hl 0 rfl) ?_
          refine lv_fcmp hx hb dL_law_2300 ?_
          refine lv_if_ne (tgt := 2306) hx hb dL_law_2301 (by decide) (fun c14 => ?_) (fun c14 => ?_)
          · have hf := br_neg c14 hf
            refine lv_goto (tgt := 2434) hx hb dL_law_2306 (by decide) ?_
            cases hf
            refine W.widen (k := cN + 1100) (n := sN + 13000) (by omega) (by omega) ?_
            exact kk _ _ _ hP hD hS (lv_sub hl [2, 3, 4, 5, 6, 7] rfl)
          · have hf := br_pos c14 hf
            refine lv_iconst (v := 0) hx hb dL_law_2304 (by decide) ?_
            cases hf
  · have hf := br_neg c9 hf
    refine lv_iconst (v := 0) hx hb dL_law_2266 (by decide) ?_
    cases hf
def f_case39 (nF : Int32) (nA : Nat → Int32) (nC : Nat → Int32) (nU : Nat → Int32) (nP : Nat → Int32) (pU : Nat → Int32) (pI : Nat → Int32) (pC : Nat → Nat → Int32) (uO : Int32) (uF : Nat → Int32) (uN : Nat → Int32) (wK : Nat → Int32) (mprom : Nat → Int32) (mblocks : Nat → Int32) (msnaps : Int32) (mkept : Nat → Int32) (mshot : Nat → Int32) : Option ((Nat → Int32) × Int32) :=
  (f_C_isConsistent nF nA nC nU nP pU pI pC uO uF uN wK).bind fun (r1, wK_2) =>
  (f_M_isConsistent mprom mblocks msnaps mkept mshot).bind fun (r4, mcode_5) =>
  if r1 = r4 then
    some (wK_2, mcode_5)
  else
    none
set_option maxHeartbeats 4000000 in
set_option maxRecDepth 100000 in
theorem l_case39 {p : Program} {l : Launch} {e : Env} {s : State} {m : MethodId} {below : List Frame} {meth : Method} {c : Code} {Q : State → Prop} {D : va_G} {A : Nat → Prop} {b L : Nat} {xs : Nat → Int32} (ca : Nat → ClassId) (hst : l.stackTraces = false) (hx : p.tables.exec = Jvm.exec) (hb : c.code = code) (hml : c.maxLocals = 9) (hown : s.vm.findClass RL = some m.cls) (hts : ∀ w ∈ WW, w.before #[Value.ref b] s = true) (hE : EE D ca SL0 s) (hA : ∀ q, s.heap.size ≤ q → A q) (hZ : ZZ A s s.heap) (hNC : NCE s) (hX : va_X b L xs s s.heap) (hbl : b < s.heap.size) (hbA : ¬ A b) (ad am : Nat → Nat) (bq oa od lq : Nat) (nF : Int32) (nO : Nat → Int32) (nL : Nat → Int32) (nA : Nat → Int32) (nC : Nat → Int32) (nV : Nat → Int32) (nU : Nat → Int32) (nP : Nat → Int32) (nE : Int32) (bF : Int32) (bO : Nat → Int32) (bL : Nat → Int32) (bA : Nat → Int32) (bC : Nat → Int32) (bV : Nat → Int32) (bU : Nat → Int32) (bP : Nat → Int32) (bE : Int32) (cT : Int32) (cK : Nat → Int32) (cO : Int32) (cQ : Nat → Int32) (cD : Int32) (pT : Int32) (pK : Int32) (pR : Nat → Int32) (pW : Nat → Int32) (pU : Nat → Int32) (pI : Nat → Int32) (pC : Nat → Nat → Int32) (uO : Int32) (uF : Nat → Int32) (uE : Nat → Int32) (uN : Nat → Int32) (wK : Nat → Int32) (jM : Int32) (jN : Int32) (jZ : Nat) (jB : Nat → Int32) (oL : Nat → Int64) (oD : Nat → UInt64) (mcode : Int32) (mday : Int32) (mown : Int32) (mquot : Nat → Int32) (mprom : Nat → Int32) (mfiles : Int32) (mowner : Nat → Int32) (mlinks : Nat → Int32) (mblocks : Nat → Int32) (mvals : Nat → Int32) (msnaps : Int32) (mranks : Nat → Int32) (mkept : Nat → Int32) (mshot : Nat → Int32) (mwas : Nat → Int32) (mholds : Int32) (mheld : Nat → Int32) (mends : Nat → Int32) (mopen : Nat → Int32) (mentr : Int32) (mkinds : Nat → Int32) (misop : Int32) (mfilesT : Int32) (mentrT : Int32) (mpromT : Nat → Int32) (mlinksT : Nat → Int32) (mblocksT : Nat → Int32) (mvalsT : Nat → Int32) (R : va_W) (x5 : Int32) (hi1 : vp_in (x5 + 1) L) (hi2 : vp_in (x5 + 2) L) (hi3 : vp_in (x5 + 3) L) (cN sN : Nat) (hcN : cN + 1100 ≤ 603072) (hsN : sN + 13000 ≤ 7198826) (owK : Nat → Int32) (omcode : Int32) (hf : f_case39 nF nA nC nU nP pU pI pC uO uF uN wK mprom mblocks msnaps mkept mshot = some (owK, omcode)) {H : Heap} {locs : List Loc} {ls : Array Slot} (hP : va_P D vwCl (WC ca ad bq nF nO nL nA nC nV nU nP nE bF bO bL bA bC bV bU bP bE cT cK cO cQ cD pT pK pR pW pU pI pC uO uF uE uN wK jM jN jZ jB ++ (WO ca oa od oL oD ++ (WM ca am lq mcode mday mown mquot mprom mfiles mowner mlinks mblocks mvals msnaps mranks mkept mshot mwas mholds mheld mends mopen mentr mkinds misop mfilesT mentrT mpromT mlinksT mblocksT mvalsT ++ R))) H) (hD : va_D A (WC ca ad bq nF nO nL nA nC nV nU nP nE bF bO bL bA bC bV bU bP bE cT cK cO cQ cD pT pK pR pW pU pI pC uO uF uE uN wK jM jN jZ jB ++ (WO ca oa od oL oD ++ (WM ca am lq mcode mday mown mquot mprom mfiles mowner mlinks mblocks mvals msnaps mranks mkept mshot mwas mholds mheld mends mopen mentr mkinds misop mfilesT mentrT mpromT mlinksT mblocksT mvalsT ++ R)))) (hS : va_S A s.heap H locs) (hl : lv_has ls 9 [(0, .ref b), (1, .ref (ad 0)), (2, .ref (am 0)), (3, .ref oa), (4, .ref od), (5, .int x5)]) (kk : ∀ (H : Heap) (locs : List Loc) (ls : Array Slot), va_P D vwCl (WC ca ad bq nF nO nL nA nC nV nU nP nE bF bO bL bA bC bV bU bP bE cT cK cO cQ cD pT pK pR pW pU pI pC uO uF uE uN owK jM jN jZ jB ++ (WO ca oa od oL oD ++ (WM ca am lq omcode mday mown mquot mprom mfiles mowner mlinks mblocks mvals msnaps mranks mkept mshot mwas mholds mheld mends mopen mentr mkinds misop mfilesT mentrT mpromT mlinksT mblocksT mvalsT ++ R))) H → va_D A (WC ca ad bq nF nO nL nA nC nV nU nP nE bF bO bL bA bC bV bU bP bE cT cK cO cQ cD pT pK pR pW pU pI pC uO uF uE uN owK jM jN jZ jB ++ (WO ca oa od oL oD ++ (WM ca am lq omcode mday mown mquot mprom mfiles mowner mlinks mblocks mvals msnaps mranks mkept mshot mwas mholds mheld mends mopen mentr mkinds misop mfilesT mentrT mpromT mlinksT mblocksT mvalsT ++ R))) → va_S A s.heap H locs → lv_has ls 9 [(0, .ref b), (1, .ref (ad 0)), (2, .ref (am 0)), (3, .ref oa), (4, .ref od), (5, .int x5)] → W p l e room_1 s m #[Value.ref b] below meth c H locs (cN + 1100) (sN + 13000) Q (F0 m 2434 ls [])) : W p l e room_1 s m #[Value.ref b] below meth c H locs cN sN Q (F0 m 2309 ls []) := by
  have hK := hE.1
  unfold f_case39 at hf
  change W p l e room_1 s m #[Value.ref b] below meth c H locs (cN + 0) (sN + 0) Q (F0 m 2309 ls [])
  refine lv_aload_n hx hb dL_law_2309 rfl (lv_at hl 1 rfl) ?_
  obtain ⟨⟨r1, wK_2⟩, h3, hf⟩ := bnd hf
  refine call_vi (rest := []) (m_C_isConsistent l ca ad bq nF nO nL nA nC nV nU nP nE bF bO bL bA bC bV bU bP bE cT cK cO cQ cD pT pK pR pW pU pI pC uO uF uE uN wK jM jN jZ jB (WO ca oa od oL oD ++ (WM ca am lq mcode mday mown mquot mprom mfiles mowner mlinks mblocks mvals msnaps mranks mkept mshot mwas mholds mheld mends mopen mentr mkinds misop mfilesT mentrT mpromT mlinksT mblocksT mvalsT ++ R)) _ r1 wK_2 h3) ⟨hx, hb, hml, hown, hts⟩ (cwV 0 hts (gV q274 q275 q276 q41 q277) rfl rfl rfl (by decide +kernel) ⟨Nat.le_of_ble_eq_true rfl, Nat.le_of_ble_eq_true rfl⟩) (va_recv hK hP (ci := 7) (q0 := 0) rfl rfl) hE hP hD hS hA rfl hl.1 rfl (lv_room (Nat.le_of_ble_eq_true rfl)) dL_law_2310 ⟨by show _ ≤ 603072; omega, by show _ ≤ 7198826; omega⟩ (fun H locs hP hD hS => ?_)
  refine lv_aload_n hx hb dL_law_2313 rfl (lv_at hl 2 rfl) ?_
  obtain ⟨⟨r4, mcode_5⟩, h6, hf⟩ := bnd hf
  refine cm_i (rest := [.int r1]) (m_M_isConsistent l ca am lq mcode mday mown mquot mprom mfiles mowner mlinks mblocks mvals msnaps mranks mkept mshot mwas mholds mheld mends mopen mentr mkinds misop mfilesT mentrT mpromT mlinksT mblocksT mvalsT (WC ca ad bq nF nO nL nA nC nV nU nP nE bF bO bL bA bC bV bU bP bE cT cK cO cQ cD pT pK pR pW pU pI pC uO uF uE uN wK_2 jM jN jZ jB ++ (WO ca oa od oL oD ++ R)) _ r4 mcode_5 h6) ⟨hx, hb, hml, hown, hts⟩ (cwV 0 hts (gV q1652 q1653 q1654 q50 q1655) rfl rfl rfl (by decide +kernel) ⟨Nat.le_of_ble_eq_true rfl, Nat.le_of_ble_eq_true rfl⟩) (va_recv hK hP (ci := 8) (q0 := 42) rfl rfl) hE hP hD hS hA rfl hl.1 rfl (lv_room (Nat.le_of_ble_eq_true rfl)) dL_law_2314 ⟨by show _ ≤ 603072; omega, by show _ ≤ 7198826; omega⟩ (fun H locs hP hD hS => ?_)
  refine lv_icmp_eq (tgt := 2434) hx hb dL_law_2317 (by decide) (fun c7 => ?_) (fun c7 => ?_)
  · have hf := br_pos c7 hf
    cases hf
    refine W.widen (k := cN + 1100) (n := sN + 13000) (by omega) (by omega) ?_
    exact kk _ _ _ hP hD hS (lv_sub hl [0, 1, 2, 3, 4, 5] rfl)
  · have hf := br_neg c7 hf
    refine lv_iconst (v := 0) hx hb dL_law_2320 (by decide) ?_
    cases hf
