def f_case0 (p1 : Int32) (cT : Int32) (cO : Int32) (cQ : Nat → Int32) (oL : Nat → Int64) (mown : Int32) (mquot : Nat → Int32) (misop : Int32) : Option (Int32 × (Nat → Int32) × (Nat → Int64) × Int32 × Int32 × (Nat → Int32)) :=
  (f_L_addOwner p1 cT cO cQ oL).bind fun (r1, cO_2, cQ_3, oL_4) =>
  (f_M_addOwner p1 mown mquot misop).bind fun (r6, mcode_7, mown_8, mquot_9) =>
  (f_M_thrown mcode_7).bind fun r11 =>
  if r11 = r1 then
    if r1 = 0 then
      if (lg_cmp (oL_4 (0 : Int32).toNatClampNeg) ((r6).toInt64)) = 0 then
        some (cO_2, cQ_3, oL_4, mcode_7, mown_8, mquot_9)
      else
        none
    else
      some (cO_2, cQ_3, oL_4, mcode_7, mown_8, mquot_9)
  else
    none
set_option maxHeartbeats 4000000 in
set_option maxRecDepth 100000 in
theorem l_case0 {p : Program} {l : Launch} {e : Env} {s : State} {m : MethodId} {below : List Frame} {meth : Method} {c : Code} {Q : State → Prop} {D : va_G} {A : Nat → Prop} {b L : Nat} {xs : Nat → Int32} (ca : Nat → ClassId) (hst : l.stackTraces = false) (hx : p.tables.exec = Jvm.exec) (hb : c.code = code) (hml : c.maxLocals = 9) (hown : s.vm.findClass RL = some m.cls) (hts : ∀ w ∈ WW, w.before #[Value.ref b] s = true) (hE : EE D ca SL0 s) (hA : ∀ q, s.heap.size ≤ q → A q) (hZ : ZZ A s s.heap) (hNC : NCE s) (hX : va_X b L xs s s.heap) (hbl : b < s.heap.size) (hbA : ¬ A b) (ad am : Nat → Nat) (bq oa od lq : Nat) (nF : Int32) (nO : Nat → Int32) (nL : Nat → Int32) (nA : Nat → Int32) (nC : Nat → Int32) (nV : Nat → Int32) (nU : Nat → Int32) (nP : Nat → Int32) (nE : Int32) (bF : Int32) (bO : Nat → Int32) (bL : Nat → Int32) (bA : Nat → Int32) (bC : Nat → Int32) (bV : Nat → Int32) (bU : Nat → Int32) (bP : Nat → Int32) (bE : Int32) (cT : Int32) (cK : Nat → Int32) (cO : Int32) (cQ : Nat → Int32) (cD : Int32) (pT : Int32) (pK : Int32) (pR : Nat → Int32) (pW : Nat → Int32) (pU : Nat → Int32) (pI : Nat → Int32) (pC : Nat → Nat → Int32) (uO : Int32) (uF : Nat → Int32) (uE : Nat → Int32) (uN : Nat → Int32) (wK : Nat → Int32) (jM : Int32) (jN : Int32) (jZ : Nat) (jB : Nat → Int32) (oL : Nat → Int64) (oD : Nat → UInt64) (mcode : Int32) (mday : Int32) (mown : Int32) (mquot : Nat → Int32) (mprom : Nat → Int32) (mfiles : Int32) (mowner : Nat → Int32) (mlinks : Nat → Int32) (mblocks : Nat → Int32) (mvals : Nat → Int32) (msnaps : Int32) (mranks : Nat → Int32) (mkept : Nat → Int32) (mshot : Nat → Int32) (mwas : Nat → Int32) (mholds : Int32) (mheld : Nat → Int32) (mends : Nat → Int32) (mopen : Nat → Int32) (mentr : Int32) (mkinds : Nat → Int32) (misop : Int32) (mfilesT : Int32) (mentrT : Int32) (mpromT : Nat → Int32) (mlinksT : Nat → Int32) (mblocksT : Nat → Int32) (mvalsT : Nat → Int32) (R : va_W) (x5 : Int32) (hi1 : vp_in (x5 + 1) L) (hi2 : vp_in (x5 + 2) L) (hi3 : vp_in (x5 + 3) L) (cN sN : Nat) (hcN : cN + 1100 ≤ 603072) (hsN : sN + 13000 ≤ 7198826) (ocO : Int32) (ocQ : Nat → Int32) (ooL : Nat → Int64) (omcode : Int32) (omown : Int32) (omquot : Nat → Int32) (hf : f_case0 (xs (x5 + 1).toNatClampNeg) cT cO cQ oL mown mquot misop = some (ocO, ocQ, ooL, omcode, omown, omquot)) {H : Heap} {locs : List Loc} {ls : Array Slot} (hP : va_P D vwCl (WC ca ad bq nF nO nL nA nC nV nU nP nE bF bO bL bA bC bV bU bP bE cT cK cO cQ cD pT pK pR pW pU pI pC uO uF uE uN wK jM jN jZ jB ++ (WO ca oa od oL oD ++ (WM ca am lq mcode mday mown mquot mprom mfiles mowner mlinks mblocks mvals msnaps mranks mkept mshot mwas mholds mheld mends mopen mentr mkinds misop mfilesT mentrT mpromT mlinksT mblocksT mvalsT ++ R))) H) (hD : va_D A (WC ca ad bq nF nO nL nA nC nV nU nP nE bF bO bL bA bC bV bU bP bE cT cK cO cQ cD pT pK pR pW pU pI pC uO uF uE uN wK jM jN jZ jB ++ (WO ca oa od oL oD ++ (WM ca am lq mcode mday mown mquot mprom mfiles mowner mlinks mblocks mvals msnaps mranks mkept mshot mwas mholds mheld mends mopen mentr mkinds misop mfilesT mentrT mpromT mlinksT mblocksT mvalsT ++ R)))) (hS : va_S A s.heap H locs) (hl : lv_has ls 9 [(0, .ref b), (1, .ref (ad 0)), (2, .ref (am 0)), (3, .ref oa), (4, .ref od), (5, .int x5)]) (kk : ∀ (H : Heap) (locs : List Loc) (ls : Array Slot), va_P D vwCl (WC ca ad bq nF nO nL nA nC nV nU nP nE bF bO bL bA bC bV bU bP bE cT cK ocO ocQ cD pT pK pR pW pU pI pC uO uF uE uN wK jM jN jZ jB ++ (WO ca oa od ooL oD ++ (WM ca am lq omcode mday omown omquot mprom mfiles mowner mlinks mblocks mvals msnaps mranks mkept mshot mwas mholds mheld mends mopen mentr mkinds misop mfilesT mentrT mpromT mlinksT mblocksT mvalsT ++ R))) H → va_D A (WC ca ad bq nF nO nL nA nC nV nU nP nE bF bO bL bA bC bV bU bP bE cT cK ocO ocQ cD pT pK pR pW pU pI pC uO uF uE uN wK jM jN jZ jB ++ (WO ca oa od ooL oD ++ (WM ca am lq omcode mday omown omquot mprom mfiles mowner mlinks mblocks mvals msnaps mranks mkept mshot mwas mholds mheld mends mopen mentr mkinds misop mfilesT mentrT mpromT mlinksT mblocksT mvalsT ++ R))) → va_S A s.heap H locs → lv_has ls 9 [(0, .ref b), (1, .ref (ad 0)), (2, .ref (am 0)), (3, .ref oa), (4, .ref od), (5, .int x5)] → W p l e room_1 s m #[Value.ref b] below meth c H locs (cN + 1100) (sN + 13000) Q (F0 m 2434 ls [])) : W p l e room_1 s m #[Value.ref b] below meth c H locs cN sN Q (F0 m 228 ls []) := by
  have hK := hE.1
  unfold f_case0 at hf
  change W p l e room_1 s m #[Value.ref b] below meth c H locs (cN + 0) (sN + 0) Q (F0 m 228 ls [])
  refine lv_aload_n hx hb dL_law_228 rfl (lv_at hl 1 rfl) ?_
  refine lv_aload_n hx hb dL_law_229 rfl (lv_at hl 0 rfl) ?_
  refine lv_iload hx hb dL_law_230 (lv_at hl 5 rfl) ?_
  refine lv_iconst (v := 1) hx hb dL_law_232 (by decide) ?_
  refine lv_iadd hx hb dL_law_233 ?_
  refine va_sld hx hb hX hbl hbA hS hi1 dL_law_234 ?_
  refine lv_aload_n hx hb dL_law_235 rfl (lv_at hl 3 rfl) ?_
  obtain ⟨⟨r1, cO_2, cQ_3, oL_4⟩, h5, hf⟩ := bnd hf
  refine cl_wi (rest := []) (m_L_addOwner l hst ca ad bq oa od nF nO nL nA nC nV nU nP nE bF bO bL bA bC bV bU bP bE cT cK cO cQ cD pT pK pR pW pU pI pC uO uF uE uN wK jM jN jZ jB oL oD (WM ca am lq mcode mday mown mquot mprom mfiles mowner mlinks mblocks mvals msnaps mranks mkept mshot mwas mholds mheld mends mopen mentr mkinds misop mfilesT mentrT mpromT mlinksT mblocksT mvalsT ++ R) _ (xs (x5 + 1).toNatClampNeg) r1 cO_2 cQ_3 oL_4 h5) ⟨hx, hb, hml, hown, hts⟩ (vx_cwSW 3 hts (gSW q349 q350 q40 q351) rfl rfl rfl (by decide +kernel) ⟨Nat.le_of_ble_eq_true rfl, Nat.le_of_ble_eq_true rfl⟩) hE hP hD hS hA hZ hNC rfl hl.1 rfl (lv_room (Nat.le_of_ble_eq_true rfl)) dL_law_236 ⟨by show _ ≤ 603072; omega, by show _ ≤ 7198826; omega⟩ (fun H locs hP hD hS => ?_)
  refine lv_istore (lv' := [(6, .int r1), (0, .ref b), (1, .ref (ad 0)), (2, .ref (am 0)), (3, .ref oa), (4, .ref od), (5, .int x5)]) hx hb dL_law_239 hl (by decide) rfl (fun ls hl => ?_)
  refine lv_aload_n hx hb dL_law_241 rfl (lv_at hl 3 rfl) ?_
  refine lv_aload_n hx hb dL_law_242 rfl (lv_at hl 1 rfl) ?_
  refine lv_iload hx hb dL_law_243 (lv_at hl 6 rfl) ?_
  refine lv_iconst (v := 1) hx hb dL_law_245 (by decide) ?_
  refine lv_iadd hx hb dL_law_246 ?_
  refine va_sld hx hb hX hbl hbA hS hi1 dL_law_247 ?_
  obtain ⟨⟨r6, mcode_7, mown_8, mquot_9⟩, h10, hf⟩ := bnd hf
  refine cm_i (rest := []) (m_M_addOwner l ca am lq mcode mday mown mquot mprom mfiles mowner mlinks mblocks mvals msnaps mranks mkept mshot mwas mholds mheld mends mopen mentr mkinds misop mfilesT mentrT mpromT mlinksT mblocksT mvalsT (WC ca ad bq nF nO nL nA nC nV nU nP nE bF bO bL bA bC bV bU bP bE cT cK cO_2 cQ_3 cD pT pK pR pW pU pI pC uO uF uE uN wK jM jN jZ jB ++ (WO ca oa od oL_4 oD ++ R)) _ (xs (x5 + 1).toNatClampNeg) r6 mcode_7 mown_8 mquot_9 h10) ⟨hx, hb, hml, hown, hts⟩ (cwV 1 hts (gV q1421 q1422 q1423 q50 q1424) rfl rfl rfl (by decide +kernel) ⟨Nat.le_of_ble_eq_true rfl, Nat.le_of_ble_eq_true rfl⟩) (va_recv hK hP (ci := 8) (q0 := 42) rfl rfl) hE hP hD hS hA rfl hl.1 rfl (lv_room (Nat.le_of_ble_eq_true rfl)) dL_law_248 ⟨by show _ ≤ 603072; omega, by show _ ≤ 7198826; omega⟩ (fun H locs hP hD hS => ?_)
  refine lv_istore (lv' := [(7, .int r6), (6, .int r1), (0, .ref b), (1, .ref (ad 0)), (2, .ref (am 0)), (3, .ref oa), (4, .ref od), (5, .int x5)]) hx hb dL_law_251 hl (by decide) rfl (fun ls hl => ?_)
  refine lv_aload_n hx hb dL_law_253 rfl (lv_at hl 4 rfl) ?_
  obtain ⟨r11, h12, hf⟩ := bnd hf
  refine cm_i (rest := []) (m_M_thrown l ca am lq mcode_7 mday mown_8 mquot_9 mprom mfiles mowner mlinks mblocks mvals msnaps mranks mkept mshot mwas mholds mheld mends mopen mentr mkinds misop mfilesT mentrT mpromT mlinksT mblocksT mvalsT (WC ca ad bq nF nO nL nA nC nV nU nP nE bF bO bL bA bC bV bU bP bE cT cK cO_2 cQ_3 cD pT pK pR pW pU pI pC uO uF uE uN wK jM jN jZ jB ++ (WO ca oa od oL_4 oD ++ R)) _ r11 h12) ⟨hx, hb, hml, hown, hts⟩ (cwV 0 hts (gV q1417 q1418 q1419 q50 q1420) rfl rfl rfl (by decide +kernel) ⟨Nat.le_of_ble_eq_true rfl, Nat.le_of_ble_eq_true rfl⟩) (va_recv hK hP (ci := 8) (q0 := 42) rfl rfl) hE hP hD hS hA rfl hl.1 rfl (lv_room (Nat.le_of_ble_eq_true rfl)) dL_law_254 ⟨by show _ ≤ 603072; omega, by show _ ≤ 7198826; omega⟩ (fun H locs hP hD hS => ?_)
  refine lv_iload hx hb dL_law_257 (lv_at hl 1 rfl) ?_
  refine lv_icmp_eq (tgt := 264) hx hb dL_law_259 (by decide) (fun c13 => ?_) (fun c13 => ?_)
  · have hf := br_pos c13 hf
    refine lv_iload hx hb dL_law_264 (lv_at hl 1 rfl) ?_
    refine lv_if_ne (tgt := 281) hx hb dL_law_266 (by decide) (fun c14 => ?_) (fun c14 => ?_)
    · have hf := br_neg c14 hf
      refine lv_goto (tgt := 2434) hx hb dL_law_281 (by decide) ?_
      cases hf
      refine W.widen (k := cN + 1100) (n := sN + 13000) (by omega) (by omega) ?_
      exact kk _ _ _ hP hD hS (lv_sub hl [2, 3, 4, 5, 6, 7] rfl)
    · have hf := br_pos c14 hf
      refine lv_aload_n hx hb dL_law_269 rfl (lv_at hl 5 rfl) ?_
      refine lv_iconst (v := 0) hx hb dL_law_270 (by decide) ?_
      refine va_lald (D := D) hx hb hK hP 40 5 rfl rfl (by unfold vp_in; decide) dL_law_271 ?_
      refine lv_iload hx hb dL_law_272 (lv_at hl 0 rfl) ?_
      refine lv_i2l hx hb dL_law_274 rfl ?_
      refine W.lcmp hx hb dL_law_275 ?_
      refine lv_if_eq (tgt := 281) hx hb dL_law_276 (by decide) (fun c15 => ?_) (fun c15 => ?_)
      · have hf := br_pos c15 hf
        refine lv_goto (tgt := 2434) hx hb dL_law_281 (by decide) ?_
        cases hf
        refine W.widen (k := cN + 1100) (n := sN + 13000) (by omega) (by omega) ?_
        exact kk _ _ _ hP hD hS (lv_sub hl [2, 3, 4, 5, 6, 7] rfl)
      · have hf := br_neg c15 hf
        refine lv_iconst (v := 0) hx hb dL_law_279 (by decide) ?_
        cases hf
  · have hf := br_neg c13 hf
    refine lv_iconst (v := 0) hx hb dL_law_262 (by decide) ?_
    cases hf
def f_case1 (p1 : Int32) (nF : Int32) (nO : Nat → Int32) (nL : Nat → Int32) (nA : Nat → Int32) (nE : Int32) (cK : Nat → Int32) (cO : Int32) (oL : Nat → Int64) (mown : Int32) (mfiles : Int32) (mowner : Nat → Int32) (mlinks : Nat → Int32) (mentr : Int32) (mkinds : Nat → Int32) : Option (Int32 × (Nat → Int32) × (Nat → Int32) × (Nat → Int32) × Int32 × (Nat → Int32) × (Nat → Int64) × Int32 × Int32 × (Nat → Int32) × (Nat → Int32) × Int32 × (Nat → Int32)) :=
  (f_L_createFile p1 nF nO nL nA nE cK cO oL).bind fun (r1, nF_2, nO_3, nL_4, nA_5, nE_6, cK_7, oL_8) =>
  (f_M_createFile p1 mown mfiles mowner mlinks mentr mkinds).bind fun (r10, mcode_11, mfiles_12, mowner_13, mlinks_14, mentr_15, mkinds_16) =>
  (f_M_thrown mcode_11).bind fun r18 =>
  if r18 = r1 then
    if r1 = 0 then
      if (lg_cmp (oL_8 (0 : Int32).toNatClampNeg) ((r10).toInt64)) = 0 then
        some (nF_2, nO_3, nL_4, nA_5, nE_6, cK_7, oL_8, mcode_11, mfiles_12, mowner_13, mlinks_14, mentr_15, mkinds_16)
      else
        none
    else
      some (nF_2, nO_3, nL_4, nA_5, nE_6, cK_7, oL_8, mcode_11, mfiles_12, mowner_13, mlinks_14, mentr_15, mkinds_16)
  else
    none
set_option maxHeartbeats 4000000 in
set_option maxRecDepth 100000 in
theorem l_case1 {p : Program} {l : Launch} {e : Env} {s : State} {m : MethodId} {below : List Frame} {meth : Method} {c : Code} {Q : State → Prop} {D : va_G} {A : Nat → Prop} {b L : Nat} {xs : Nat → Int32} (ca : Nat → ClassId) (hst : l.stackTraces = false) (hx : p.tables.exec = Jvm.exec) (hb : c.code = code) (hml : c.maxLocals = 9) (hown : s.vm.findClass RL = some m.cls) (hts : ∀ w ∈ WW, w.before #[Value.ref b] s = true) (hE : EE D ca SL0 s) (hA : ∀ q, s.heap.size ≤ q → A q) (hZ : ZZ A s s.heap) (hNC : NCE s) (hX : va_X b L xs s s.heap) (hbl : b < s.heap.size) (hbA : ¬ A b) (ad am : Nat → Nat) (bq oa od lq : Nat) (nF : Int32) (nO : Nat → Int32) (nL : Nat → Int32) (nA : Nat → Int32) (nC : Nat → Int32) (nV : Nat → Int32) (nU : Nat → Int32) (nP : Nat → Int32) (nE : Int32) (bF : Int32) (bO : Nat → Int32) (bL : Nat → Int32) (bA : Nat → Int32) (bC : Nat → Int32) (bV : Nat → Int32) (bU : Nat → Int32) (bP : Nat → Int32) (bE : Int32) (cT : Int32) (cK : Nat → Int32) (cO : Int32) (cQ : Nat → Int32) (cD : Int32) (pT : Int32) (pK : Int32) (pR : Nat → Int32) (pW : Nat → Int32) (pU : Nat → Int32) (pI : Nat → Int32) (pC : Nat → Nat → Int32) (uO : Int32) (uF : Nat → Int32) (uE : Nat → Int32) (uN : Nat → Int32) (wK : Nat → Int32) (jM : Int32) (jN : Int32) (jZ : Nat) (jB : Nat → Int32) (oL : Nat → Int64) (oD : Nat → UInt64) (mcode : Int32) (mday : Int32) (mown : Int32) (mquot : Nat → Int32) (mprom : Nat → Int32) (mfiles : Int32) (mowner : Nat → Int32) (mlinks : Nat → Int32) (mblocks : Nat → Int32) (mvals : Nat → Int32) (msnaps : Int32) (mranks : Nat → Int32) (mkept : Nat → Int32) (mshot : Nat → Int32) (mwas : Nat → Int32) (mholds : Int32) (mheld : Nat → Int32) (mends : Nat → Int32) (mopen : Nat → Int32) (mentr : Int32) (mkinds : Nat → Int32) (misop : Int32) (mfilesT : Int32) (mentrT : Int32) (mpromT : Nat → Int32) (mlinksT : Nat → Int32) (mblocksT : Nat → Int32) (mvalsT : Nat → Int32) (R : va_W) (x5 : Int32) (hi1 : vp_in (x5 + 1) L) (hi2 : vp_in (x5 + 2) L) (hi3 : vp_in (x5 + 3) L) (cN sN : Nat) (hcN : cN + 1100 ≤ 603072) (hsN : sN + 13000 ≤ 7198826) (onF : Int32) (onO : Nat → Int32) (onL : Nat → Int32) (onA : Nat → Int32) (onE : Int32) (ocK : Nat → Int32) (ooL : Nat → Int64) (omcode : Int32) (omfiles : Int32) (omowner : Nat → Int32) (omlinks : Nat → Int32) (omentr : Int32) (omkinds : Nat → Int32) (hf : f_case1 (xs (x5 + 1).toNatClampNeg) nF nO nL nA nE cK cO oL mown mfiles mowner mlinks mentr mkinds = some (onF, onO, onL, onA, onE, ocK, ooL, omcode, omfiles, omowner, omlinks, omentr, omkinds)) {H : Heap} {locs : List Loc} {ls : Array Slot} (hP : va_P D vwCl (WC ca ad bq nF nO nL nA nC nV nU nP nE bF bO bL bA bC bV bU bP bE cT cK cO cQ cD pT pK pR pW pU pI pC uO uF uE uN wK jM jN jZ jB ++ (WO ca oa od oL oD ++ (WM ca am lq mcode mday mown mquot mprom mfiles mowner mlinks mblocks mvals msnaps mranks mkept mshot mwas mholds mheld mends mopen mentr mkinds misop mfilesT mentrT mpromT mlinksT mblocksT mvalsT ++ R))) H) (hD : va_D A (WC ca ad bq nF nO nL nA nC nV nU nP nE bF bO bL bA bC bV bU bP bE cT cK cO cQ cD pT pK pR pW pU pI pC uO uF uE uN wK jM jN jZ jB ++ (WO ca oa od oL oD ++ (WM ca am lq mcode mday mown mquot mprom mfiles mowner mlinks mblocks mvals msnaps mranks mkept mshot mwas mholds mheld mends mopen mentr mkinds misop mfilesT mentrT mpromT mlinksT mblocksT mvalsT ++ R)))) (hS : va_S A s.heap H locs) (hl : lv_has ls 9 [(0, .ref b), (1, .ref (ad 0)), (2, .ref (am 0)), (3, .ref oa), (4, .ref od), (5, .int x5)]) (kk : ∀ (H : Heap) (locs : List Loc) (ls : Array Slot), va_P D vwCl (WC ca ad bq onF onO onL onA nC nV nU nP onE bF bO bL bA bC bV bU bP bE cT ocK cO cQ cD pT pK pR pW pU pI pC uO uF uE uN wK jM jN jZ jB ++ (WO ca oa od ooL oD ++ (WM ca am lq omcode mday mown mquot mprom omfiles omowner omlinks mblocks mvals msnaps mranks mkept mshot mwas mholds mheld mends mopen omentr omkinds misop mfilesT mentrT mpromT mlinksT mblocksT mvalsT ++ R))) H → va_D A (WC ca ad bq onF onO onL onA nC nV nU nP onE bF bO bL bA bC bV bU bP bE cT ocK cO cQ cD pT pK pR pW pU pI pC uO uF uE uN wK jM jN jZ jB ++ (WO ca oa od ooL oD ++ (WM ca am lq omcode mday mown mquot mprom omfiles omowner omlinks mblocks mvals msnaps mranks mkept mshot mwas mholds mheld mends mopen omentr omkinds misop mfilesT mentrT mpromT mlinksT mblocksT mvalsT ++ R))) → va_S A s.heap H locs → lv_has ls 9 [(0, .ref b), (1, .ref (ad 0)), (2, .ref (am 0)), (3, .ref oa), (4, .ref od), (5, .int x5)] → W p l e room_1 s m #[Value.ref b] below meth c H locs (cN + 1100) (sN + 13000) Q (F0 m 2434 ls [])) : W p l e room_1 s m #[Value.ref b] below meth c H locs cN sN Q (F0 m 284 ls []) := by
  have hK := hE.1
  unfold f_case1 at hf
  change W p l e room_1 s m #[Value.ref b] below meth c H locs (cN + 0) (sN + 0) Q (F0 m 284 ls [])
  refine lv_aload_n hx hb dL_law_284 rfl (lv_at hl 1 rfl) ?_
  refine lv_aload_n hx hb dL_law_285 rfl (lv_at hl 0 rfl) ?_
  refine lv_iload hx hb dL_law_286 (lv_at hl 5 rfl) ?_
  refine lv_iconst (v := 1) hx hb dL_law_288 (by decide) ?_
  refine lv_iadd hx hb dL_law_289 ?_
  refine va_sld hx hb hX hbl hbA hS hi1 dL_law_290 ?_
  refine lv_aload_n hx hb dL_law_291 rfl (lv_at hl 3 rfl) ?_
  obtain ⟨⟨r1, nF_2, nO_3, nL_4, nA_5, nE_6, cK_7, oL_8⟩, h9, hf⟩ := bnd hf
  refine cl_wi (rest := []) (m_L_createFile l hst ca ad bq oa od nF nO nL nA nC nV nU nP nE bF bO bL bA bC bV bU bP bE cT cK cO cQ cD pT pK pR pW pU pI pC uO uF uE uN wK jM jN jZ jB oL oD (WM ca am lq mcode mday mown mquot mprom mfiles mowner mlinks mblocks mvals msnaps mranks mkept mshot mwas mholds mheld mends mopen mentr mkinds misop mfilesT mentrT mpromT mlinksT mblocksT mvalsT ++ R) _ (xs (x5 + 1).toNatClampNeg) r1 nF_2 nO_3 nL_4 nA_5 nE_6 cK_7 oL_8 h9) ⟨hx, hb, hml, hown, hts⟩ (vx_cwSW 3 hts (gSW q455 q456 q40 q457) rfl rfl rfl (by decide +kernel) ⟨Nat.le_of_ble_eq_true rfl, Nat.le_of_ble_eq_true rfl⟩) hE hP hD hS hA hZ hNC rfl hl.1 rfl (lv_room (Nat.le_of_ble_eq_true rfl)) dL_law_292 ⟨by show _ ≤ 603072; omega, by show _ ≤ 7198826; omega⟩ (fun H locs hP hD hS => ?_)
  refine lv_istore (lv' := [(6, .int r1), (0, .ref b), (1, .ref (ad 0)), (2, .ref (am 0)), (3, .ref oa), (4, .ref od), (5, .int x5)]) hx hb dL_law_295 hl (by decide) rfl (fun ls hl => ?_)
  refine lv_aload_n hx hb dL_law_297 rfl (lv_at hl 3 rfl) ?_
  refine lv_aload_n hx hb dL_law_298 rfl (lv_at hl 1 rfl) ?_
  refine lv_iload hx hb dL_law_299 (lv_at hl 6 rfl) ?_
  refine lv_iconst (v := 1) hx hb dL_law_301 (by decide) ?_
  refine lv_iadd hx hb dL_law_302 ?_
  refine va_sld hx hb hX hbl hbA hS hi1 dL_law_303 ?_
  obtain ⟨⟨r10, mcode_11, mfiles_12, mowner_13, mlinks_14, mentr_15, mkinds_16⟩, h17, hf⟩ := bnd hf
  refine cm_i (rest := []) (m_M_createFile l ca am lq mcode mday mown mquot mprom mfiles mowner mlinks mblocks mvals msnaps mranks mkept mshot mwas mholds mheld mends mopen mentr mkinds misop mfilesT mentrT mpromT mlinksT mblocksT mvalsT (WC ca ad bq nF_2 nO_3 nL_4 nA_5 nC nV nU nP nE_6 bF bO bL bA bC bV bU bP bE cT cK_7 cO cQ cD pT pK pR pW pU pI pC uO uF uE uN wK jM jN jZ jB ++ (WO ca oa od oL_8 oD ++ R)) _ (xs (x5 + 1).toNatClampNeg) r10 mcode_11 mfiles_12 mowner_13 mlinks_14 mentr_15 mkinds_16 h17) ⟨hx, hb, hml, hown, hts⟩ (cwV 1 hts (gV q1432 q1433 q1434 q50 q1435) rfl rfl rfl (by decide +kernel) ⟨Nat.le_of_ble_eq_true rfl, Nat.le_of_ble_eq_true rfl⟩) (va_recv hK hP (ci := 8) (q0 := 42) rfl rfl) hE hP hD hS hA rfl hl.1 rfl (lv_room (Nat.le_of_ble_eq_true rfl)) dL_law_304 ⟨by show _ ≤ 603072; omega, by show _ ≤ 7198826; omega⟩ (fun H locs hP hD hS => ?_)
  refine lv_istore (lv' := [(7, .int r10), (6, .int r1), (0, .ref b), (1, .ref (ad 0)), (2, .ref (am 0)), (3, .ref oa), (4, .ref od), (5, .int x5)]) hx hb dL_law_307 hl (by decide) rfl (fun ls hl => ?_)
  refine lv_aload_n hx hb dL_law_309 rfl (lv_at hl 4 rfl) ?_
  obtain ⟨r18, h19, hf⟩ := bnd hf
  refine cm_i (rest := []) (m_M_thrown l ca am lq mcode_11 mday mown mquot mprom mfiles_12 mowner_13 mlinks_14 mblocks mvals msnaps mranks mkept mshot mwas mholds mheld mends mopen mentr_15 mkinds_16 misop mfilesT mentrT mpromT mlinksT mblocksT mvalsT (WC ca ad bq nF_2 nO_3 nL_4 nA_5 nC nV nU nP nE_6 bF bO bL bA bC bV bU bP bE cT cK_7 cO cQ cD pT pK pR pW pU pI pC uO uF uE uN wK jM jN jZ jB ++ (WO ca oa od oL_8 oD ++ R)) _ r18 h19) ⟨hx, hb, hml, hown, hts⟩ (cwV 0 hts (gV q1417 q1418 q1419 q50 q1420) rfl rfl rfl (by decide +kernel) ⟨Nat.le_of_ble_eq_true rfl, Nat.le_of_ble_eq_true rfl⟩) (va_recv hK hP (ci := 8) (q0 := 42) rfl rfl) hE hP hD hS hA rfl hl.1 rfl (lv_room (Nat.le_of_ble_eq_true rfl)) dL_law_310 ⟨by show _ ≤ 603072; omega, by show _ ≤ 7198826; omega⟩ (fun H locs hP hD hS => ?_)
  refine lv_iload hx hb dL_law_313 (lv_at hl 1 rfl) ?_
  refine lv_icmp_eq (tgt := 320) hx hb dL_law_315 (by decide) (fun c20 => ?_) (fun c20 => ?_)
  · have hf := br_pos c20 hf
    refine lv_iload hx hb dL_law_320 (lv_at hl 1 rfl) ?_
    refine lv_if_ne (tgt := 337) hx hb dL_law_322 (by decide) (fun c21 => ?_) (fun c21 => ?_)
    · have hf := br_neg c21 hf
      refine lv_goto (tgt := 2434) hx hb dL_law_337 (by decide) ?_
      cases hf
      refine W.widen (k := cN + 1100) (n := sN + 13000) (by omega) (by omega) ?_
      exact kk _ _ _ hP hD hS (lv_sub hl [2, 3, 4, 5, 6, 7] rfl)
    · have hf := br_pos c21 hf
      refine lv_aload_n hx hb dL_law_325 rfl (lv_at hl 5 rfl) ?_
      refine lv_iconst (v := 0) hx hb dL_law_326 (by decide) ?_
      refine va_lald (D := D) hx hb hK hP 40 5 rfl rfl (by unfold vp_in; decide) dL_law_327 ?_
      refine lv_iload hx hb dL_law_328 (lv_at hl 0 rfl) ?_
      refine lv_i2l hx hb dL_law_330 rfl ?_
      refine W.lcmp hx hb dL_law_331 ?_
      refine lv_if_eq (tgt := 337) hx hb dL_law_332 (by decide) (fun c22 => ?_) (fun c22 => ?_)
      · have hf := br_pos c22 hf
        refine lv_goto (tgt := 2434) hx hb dL_law_337 (by decide) ?_
        cases hf
        refine W.widen (k := cN + 1100) (n := sN + 13000) (by omega) (by omega) ?_
        exact kk _ _ _ hP hD hS (lv_sub hl [2, 3, 4, 5, 6, 7] rfl)
      · have hf := br_neg c22 hf
        refine lv_iconst (v := 0) hx hb dL_law_335 (by decide) ?_
        cases hf
  · have hf := br_neg c20 hf
    refine lv_iconst (v := 0) hx hb dL_law_318 (by decide) ?_
    cases hf
def f_case2 (nF : Int32) (mfiles : Int32) : Option (Int32) :=
  (f_C_fileCount nF).bind fun r1 =>
  (f_M_fileCount mfiles).bind fun (r3, mcode_4) =>
  if r1 = r3 then
    some mcode_4
  else
    none
set_option maxHeartbeats 4000000 in
set_option maxRecDepth 100000 in
theorem l_case2 {p : Program} {l : Launch} {e : Env} {s : State} {m : MethodId} {below : List Frame} {meth : Method} {c : Code} {Q : State → Prop} {D : va_G} {A : Nat → Prop} {b L : Nat} {xs : Nat → Int32} (ca : Nat → ClassId) (hst : l.stackTraces = false) (hx : p.tables.exec = Jvm.exec) (hb : c.code = code) (hml : c.maxLocals = 9) (hown : s.vm.findClass RL = some m.cls) (hts : ∀ w ∈ WW, w.before #[Value.ref b] s = true) (hE : EE D ca SL0 s) (hA : ∀ q, s.heap.size ≤ q → A q) (hZ : ZZ A s s.heap) (hNC : NCE s) (hX : va_X b L xs s s.heap) (hbl : b < s.heap.size) (hbA : ¬ A b) (ad am : Nat → Nat) (bq oa od lq : Nat) (nF : Int32) (nO : Nat → Int32) (nL : Nat → Int32) (nA : Nat → Int32) (nC : Nat → Int32) (nV : Nat → Int32) (nU : Nat → Int32) (nP : Nat → Int32) (nE : Int32) (bF : Int32) (bO : Nat → Int32) (bL : Nat → Int32) (bA : Nat → Int32) (bC : Nat → Int32) (bV : Nat → Int32) (bU : Nat → Int32) (bP : Nat → Int32) (bE : Int32) (cT : Int32) (cK : Nat → Int32) (cO : Int32) (cQ : Nat → Int32) (cD : Int32) (pT : Int32) (pK : Int32) (pR : Nat → Int32) (pW : Nat → Int32) (pU : Nat → Int32) (pI : Nat → Int32) (pC : Nat → Nat → Int32) (uO : Int32) (uF : Nat → Int32) (uE : Nat → Int32) (uN : Nat → Int32) (wK : Nat → Int32) (jM : Int32) (jN : Int32) (jZ : Nat) (jB : Nat → Int32) (oL : Nat → Int64) (oD : Nat → UInt64) (mcode : Int32) (mday : Int32) (mown : Int32) (mquot : Nat → Int32) (mprom : Nat → Int32) (mfiles : Int32) (mowner : Nat → Int32) (mlinks : Nat → Int32) (mblocks : Nat → Int32) (mvals : Nat → Int32) (msnaps : Int32) (mranks : Nat → Int32) (mkept : Nat → Int32) (mshot : Nat → Int32) (mwas : Nat → Int32) (mholds : Int32) (mheld : Nat → Int32) (mends : Nat → Int32) (mopen : Nat → Int32) (mentr : Int32) (mkinds : Nat → Int32) (misop : Int32) (mfilesT : Int32) (mentrT : Int32) (mpromT : Nat → Int32) (mlinksT : Nat → Int32) (mblocksT : Nat → Int32) (mvalsT : Nat → Int32) (R : va_W) (x5 : Int32) (hi1 : vp_in (x5 + 1) L) (hi2 : vp_in (x5 + 2) L) (hi3 : vp_in (x5 + 3) L) (cN sN : Nat) (hcN : cN + 1100 ≤ 603072) (hsN : sN + 13000 ≤ 7198826) (omcode : Int32) (hf : f_case2 nF mfiles = some omcode) {H : Heap} {locs : List Loc} {ls : Array Slot} (hP : va_P D vwCl (WC ca ad bq nF nO nL nA nC nV nU nP nE bF bO bL bA bC bV bU bP bE cT cK cO cQ cD pT pK pR pW pU pI pC uO uF uE uN wK jM jN jZ jB ++ (WO ca oa od oL oD ++ (WM ca am lq mcode mday mown mquot mprom mfiles mowner mlinks mblocks mvals msnaps mranks mkept mshot mwas mholds mheld mends mopen mentr mkinds misop mfilesT mentrT mpromT mlinksT mblocksT mvalsT ++ R))) H) (hD : va_D A (WC ca ad bq nF nO nL nA nC nV nU nP nE bF bO bL bA bC bV bU bP bE cT cK cO cQ cD pT pK pR pW pU pI pC uO uF uE uN wK jM jN jZ jB ++ (WO ca oa od oL oD ++ (WM ca am lq mcode mday mown mquot mprom mfiles mowner mlinks mblocks mvals msnaps mranks mkept mshot mwas mholds mheld mends mopen mentr mkinds misop mfilesT mentrT mpromT mlinksT mblocksT mvalsT ++ R)))) (hS : va_S A s.heap H locs) (hl : lv_has ls 9 [(0, .ref b), (1, .ref (ad 0)), (2, .ref (am 0)), (3, .ref oa), (4, .ref od), (5, .int x5)]) (kk : ∀ (H : Heap) (locs : List Loc) (ls : Array Slot), va_P D vwCl (WC ca ad bq nF nO nL nA nC nV nU nP nE bF bO bL bA bC bV bU bP bE cT cK cO cQ cD pT pK pR pW pU pI pC uO uF uE uN wK jM jN jZ jB ++ (WO ca oa od oL oD ++ (WM ca am lq omcode mday mown mquot mprom mfiles mowner mlinks mblocks mvals msnaps mranks mkept mshot mwas mholds mheld mends mopen mentr mkinds misop mfilesT mentrT mpromT mlinksT mblocksT mvalsT ++ R))) H → va_D A (WC ca ad bq nF nO nL nA nC nV nU nP nE bF bO bL bA bC bV bU bP bE cT cK cO cQ cD pT pK pR pW pU pI pC uO uF uE uN wK jM jN jZ jB ++ (WO ca oa od oL oD ++ (WM ca am lq omcode mday mown mquot mprom mfiles mowner mlinks mblocks mvals msnaps mranks mkept mshot mwas mholds mheld mends mopen mentr mkinds misop mfilesT mentrT mpromT mlinksT mblocksT mvalsT ++ R))) → va_S A s.heap H locs → lv_has ls 9 [(0, .ref b), (1, .ref (ad 0)), (2, .ref (am 0)), (3, .ref oa), (4, .ref od), (5, .int x5)] → W p l e room_1 s m #[Value.ref b] below meth c H locs (cN + 1100) (sN + 13000) Q (F0 m 2434 ls [])) : W p l e room_1 s m #[Value.ref b] below meth c H locs cN sN Q (F0 m 340 ls []) := by
  have hK := hE.1
  unfold f_case2 at hf
  change W p l e room_1 s m #[Value.ref b] below meth c H locs (cN + 0) (sN + 0) Q (F0 m 340 ls [])
  refine lv_aload_n hx hb dL_law_340 rfl (lv_at hl 1 rfl) ?_
  obtain ⟨r1, h2, hf⟩ := bnd hf
  refine call_vi (rest := []) (m_C_fileCount l ca ad bq nF nO nL nA nC nV nU nP nE bF bO bL bA bC bV bU bP bE cT cK cO cQ cD pT pK pR pW pU pI pC uO uF uE uN wK jM jN jZ jB (WO ca oa od oL oD ++ (WM ca am lq mcode mday mown mquot mprom mfiles mowner mlinks mblocks mvals msnaps mranks mkept mshot mwas mholds mheld mends mopen mentr mkinds misop mfilesT mentrT mpromT mlinksT mblocksT mvalsT ++ R)) _ r1 h2) ⟨hx, hb, hml, hown, hts⟩ (cwV 0 hts (gV q235 q236 q237 q41 q238) rfl rfl rfl (by decide +kernel) ⟨Nat.le_of_ble_eq_true rfl, Nat.le_of_ble_eq_true rfl⟩) (va_recv hK hP (ci := 7) (q0 := 0) rfl rfl) hE hP hD hS hA rfl hl.1 rfl (lv_room (Nat.le_of_ble_eq_true rfl)) dL_law_341 ⟨by show _ ≤ 603072; omega, by show _ ≤ 7198826; omega⟩ (fun H locs hP hD hS => ?_)
  refine lv_aload_n hx hb dL_law_344 rfl (lv_at hl 2 rfl) ?_
  obtain ⟨⟨r3, mcode_4⟩, h5, hf⟩ := bnd hf
  refine cm_i (rest := [.int r1]) (m_M_fileCount l ca am lq mcode mday mown mquot mprom mfiles mowner mlinks mblocks mvals msnaps mranks mkept mshot mwas mholds mheld mends mopen mentr mkinds misop mfilesT mentrT mpromT mlinksT mblocksT mvalsT (WC ca ad bq nF nO nL nA nC nV nU nP nE bF bO bL bA bC bV bU bP bE cT cK cO cQ cD pT pK pR pW pU pI pC uO uF uE uN wK jM jN jZ jB ++ (WO ca oa od oL oD ++ R)) _ r3 mcode_4 h5) ⟨hx, hb, hml, hown, hts⟩ (cwV 0 hts (gV q1444 q1445 q1446 q50 q1447) rfl rfl rfl (by decide +kernel) ⟨Nat.le_of_ble_eq_true rfl, Nat.le_of_ble_eq_true rfl⟩) (va_recv hK hP (ci := 8) (q0 := 42) rfl rfl) hE hP hD hS hA rfl hl.1 rfl (lv_room (Nat.le_of_ble_eq_true rfl)) dL_law_345 ⟨by show _ ≤ 603072; omega, by show _ ≤ 7198826; omega⟩ (fun H locs hP hD hS => ?_)
  refine lv_icmp_eq (tgt := 2434) hx hb dL_law_348 (by decide) (fun c6 => ?_) (fun c6 => ?_)
  · have hf := br_pos c6 hf
    cases hf
    refine W.widen (k := cN + 1100) (n := sN + 13000) (by omega) (by omega) ?_
    exact kk _ _ _ hP hD hS (lv_sub hl [0, 1, 2, 3, 4, 5] rfl)
  · have hf := br_neg c6 hf
    refine lv_iconst (v := 0) hx hb dL_law_351 (by decide) ?_
    cases hf
def f_case3 (p1 : Int32) (nF : Int32) (nA : Nat → Int32) (oL : Nat → Int64) (mfiles : Int32) (mlinks : Nat → Int32) (mholds : Int32) (mheld : Nat → Int32) (mopen : Nat → Int32) : Option ((Nat → Int64) × Int32) :=
  (f_L_doesExist p1 nF nA oL).bind fun (r1, oL_2) =>
  (f_M_doesExist p1 mfiles mlinks mholds mheld mopen).bind fun (r4, mcode_5) =>
  (f_M_thrown mcode_5).bind fun r7 =>
  if r7 = r1 then
    if r1 = 0 then
      if r4 = 0 then
        if (lg_cmp (oL_2 (0 : Int32).toNatClampNeg) 0) = 0 then
          some (oL_2, mcode_5)
        else
          none
      else
        if (lg_cmp (oL_2 (0 : Int32).toNatClampNeg) 1) = 0 then
          some (oL_2, mcode_5)
        else
          none
    else
      some (oL_2, mcode_5)
  else
    none
set_option maxHeartbeats 4000000 in
set_option maxRecDepth 100000 in
theorem l_case3 {p : Program} {l : Launch} {e : Env} {s : State} {m : MethodId} {below : List Frame} {meth : Method} {c : Code} {Q : State → Prop} {D : va_G} {A : Nat → Prop} {b L : Nat} {xs : Nat → Int32} (ca : Nat → ClassId) (hst : l.stackTraces = false) (hx : p.tables.exec = Jvm.exec) (hb : c.code = code) (hml : c.maxLocals = 9) (hown : s.vm.findClass RL = some m.cls) (hts : ∀ w ∈ WW, w.before #[Value.ref b] s = true) (hE : EE D ca SL0 s) (hA : ∀ q, s.heap.size ≤ q → A q) (hZ : ZZ A s s.heap) (hNC : NCE s) (hX : va_X b L xs s s.heap) (hbl : b < s.heap.size) (hbA : ¬ A b) (ad am : Nat → Nat) (bq oa od lq : Nat) (nF : Int32) (nO : Nat → Int32) (nL : Nat → Int32) (nA : Nat → Int32) (nC : Nat → Int32) (nV : Nat → Int32) (nU : Nat → Int32) (nP : Nat → Int32) (nE : Int32) (bF : Int32) (bO : Nat → Int32) (bL : Nat → Int32) (bA : Nat → Int32) (bC : Nat → Int32) (bV : Nat → Int32) (bU : Nat → Int32) (bP : Nat → Int32) (bE : Int32) (cT : Int32) (cK : Nat → Int32) (cO : Int32) (cQ : Nat → Int32) (cD : Int32) (pT : Int32) (pK : Int32) (pR : Nat → Int32) (pW : Nat → Int32) (pU : Nat → Int32) (pI : Nat → Int32) (pC : Nat → Nat → Int32) (uO : Int32) (uF : Nat → Int32) (uE : Nat → Int32) (uN : Nat → Int32) (wK : Nat → Int32) (jM : Int32) (jN : Int32) (jZ : Nat) (jB : Nat → Int32) (oL : Nat → Int64) (oD : Nat → UInt64) (mcode : Int32) (mday : Int32) (mown : Int32) (mquot : Nat → Int32) (mprom : Nat → Int32) (mfiles : Int32) (mowner : Nat → Int32) (mlinks : Nat → Int32) (mblocks : Nat → Int32) (mvals : Nat → Int32) (msnaps : Int32) (mranks : Nat → Int32) (mkept : Nat → Int32) (mshot : Nat → Int32) (mwas : Nat → Int32) (mholds : Int32) (mheld : Nat → Int32) (mends : Nat → Int32) (mopen : Nat → Int32) (mentr : Int32) (mkinds : Nat → Int32) (misop : Int32) (mfilesT : Int32) (mentrT : Int32) (mpromT : Nat → Int32) (mlinksT : Nat → Int32) (mblocksT : Nat → Int32) (mvalsT : Nat → Int32) (R : va_W) (x5 : Int32) (hi1 : vp_in (x5 + 1) L) (hi2 : vp_in (x5 + 2) L) (hi3 : vp_in (x5 + 3) L) (cN sN : Nat) (hcN : cN + 1100 ≤ 603072) (hsN : sN + 13000 ≤ 7198826) (ooL : Nat → Int64) (omcode : Int32) (hf : f_case3 (xs (x5 + 1).toNatClampNeg) nF nA oL mfiles mlinks mholds mheld mopen = some (ooL, omcode)) {H : Heap} {locs : List Loc} {ls : Array Slot} (hP : va_P D vwCl (WC ca ad bq nF nO nL nA nC nV nU nP nE bF bO bL bA bC bV bU bP bE cT cK cO cQ cD pT pK pR pW pU pI pC uO uF uE uN wK jM jN jZ jB ++ (WO ca oa od oL oD ++ (WM ca am lq mcode mday mown mquot mprom mfiles mowner mlinks mblocks mvals msnaps mranks mkept mshot mwas mholds mheld mends mopen mentr mkinds misop mfilesT mentrT mpromT mlinksT mblocksT mvalsT ++ R))) H) (hD : va_D A (WC ca ad bq nF nO nL nA nC nV nU nP nE bF bO bL bA bC bV bU bP bE cT cK cO cQ cD pT pK pR pW pU pI pC uO uF uE uN wK jM jN jZ jB ++ (WO ca oa od oL oD ++ (WM ca am lq mcode mday mown mquot mprom mfiles mowner mlinks mblocks mvals msnaps mranks mkept mshot mwas mholds mheld mends mopen mentr mkinds misop mfilesT mentrT mpromT mlinksT mblocksT mvalsT ++ R)))) (hS : va_S A s.heap H locs) (hl : lv_has ls 9 [(0, .ref b), (1, .ref (ad 0)), (2, .ref (am 0)), (3, .ref oa), (4, .ref od), (5, .int x5)]) (kk : ∀ (H : Heap) (locs : List Loc) (ls : Array Slot), va_P D vwCl (WC ca ad bq nF nO nL nA nC nV nU nP nE bF bO bL bA bC bV bU bP bE cT cK cO cQ cD pT pK pR pW pU pI pC uO uF uE uN wK jM jN jZ jB ++ (WO ca oa od ooL oD ++ (WM ca am lq omcode mday mown mquot mprom mfiles mowner mlinks mblocks mvals msnaps mranks mkept mshot mwas mholds mheld mends mopen mentr mkinds misop mfilesT mentrT mpromT mlinksT mblocksT mvalsT ++ R))) H → va_D A (WC ca ad bq nF nO nL nA nC nV nU nP nE bF bO bL bA bC bV bU bP bE cT cK cO cQ cD pT pK pR pW pU pI pC uO uF uE uN wK jM jN jZ jB ++ (WO ca oa od ooL oD ++ (WM ca am lq omcode mday mown mquot mprom mfiles mowner mlinks mblocks mvals msnaps mranks mkept mshot mwas mholds mheld mends mopen mentr mkinds misop mfilesT mentrT mpromT mlinksT mblocksT mvalsT ++ R))) → va_S A s.heap H locs → lv_has ls 9 [(0, .ref b), (1, .ref (ad 0)), (2, .ref (am 0)), (3, .ref oa), (4, .ref od), (5, .int x5)] → W p l e room_1 s m #[Value.ref b] below meth c H locs (cN + 1100) (sN + 13000) Q (F0 m 2434 ls [])) : W p l e room_1 s m #[Value.ref b] below meth c H locs cN sN Q (F0 m 353 ls []) := by
  have hK := hE.1
  unfold f_case3 at hf
  change W p l e room_1 s m #[Value.ref b] below meth c H locs (cN + 0) (sN + 0) Q (F0 m 353 ls [])
  refine lv_aload_n hx hb dL_law_353 rfl (lv_at hl 1 rfl) ?_
  refine lv_aload_n hx hb dL_law_354 rfl (lv_at hl 0 rfl) ?_
  refine lv_iload hx hb dL_law_355 (lv_at hl 5 rfl) ?_
  refine lv_iconst (v := 1) hx hb dL_law_357 (by decide) ?_
  refine lv_iadd hx hb dL_law_358 ?_
  refine va_sld hx hb hX hbl hbA hS hi1 dL_law_359 ?_
  refine lv_aload_n hx hb dL_law_360 rfl (lv_at hl 3 rfl) ?_
  obtain ⟨⟨r1, oL_2⟩, h3, hf⟩ := bnd hf
  refine cl_wi (rest := []) (m_L_doesExist l hst ca ad bq oa od nF nO nL nA nC nV nU nP nE bF bO bL bA bC bV bU bP bE cT cK cO cQ cD pT pK pR pW pU pI pC uO uF uE uN wK jM jN jZ jB oL oD (WM ca am lq mcode mday mown mquot mprom mfiles mowner mlinks mblocks mvals msnaps mranks mkept mshot mwas mholds mheld mends mopen mentr mkinds misop mfilesT mentrT mpromT mlinksT mblocksT mvalsT ++ R) _ (xs (x5 + 1).toNatClampNeg) r1 oL_2 h3) ⟨hx, hb, hml, hown, hts⟩ (vx_cwSW 3 hts (gSW q516 q517 q40 q518) rfl rfl rfl (by decide +kernel) ⟨Nat.le_of_ble_eq_true rfl, Nat.le_of_ble_eq_true rfl⟩) hE hP hD hS hA hZ hNC rfl hl.1 rfl (lv_room (Nat.le_of_ble_eq_true rfl)) dL_law_361 ⟨by show _ ≤ 603072; omega, by show _ ≤ 7198826; omega⟩ (fun H locs hP hD hS => ?_)
  refine lv_istore (lv' := [(6, .int r1), (0, .ref b), (1, .ref (ad 0)), (2, .ref (am 0)), (3, .ref oa), (4, .ref od), (5, .int x5)]) hx hb dL_law_364 hl (by decide) rfl (fun ls hl => ?_)
  refine lv_aload_n hx hb dL_law_366 rfl (lv_at hl 3 rfl) ?_
  refine lv_aload_n hx hb dL_law_367 rfl (lv_at hl 1 rfl) ?_
  refine lv_iload hx hb dL_law_368 (lv_at hl 6 rfl) ?_
  refine lv_iconst (v := 1) hx hb dL_law_370 (by decide) ?_
  refine lv_iadd hx hb dL_law_371 ?_
  refine va_sld hx hb hX hbl hbA hS hi1 dL_law_372 ?_
  obtain ⟨⟨r4, mcode_5⟩, h6, hf⟩ := bnd hf
  refine cm_i (rest := []) (m_M_doesExist l ca am lq mcode mday mown mquot mprom mfiles mowner mlinks mblocks mvals msnaps mranks mkept mshot mwas mholds mheld mends mopen mentr mkinds misop mfilesT mentrT mpromT mlinksT mblocksT mvalsT (WC ca ad bq nF nO nL nA nC nV nU nP nE bF bO bL bA bC bV bU bP bE cT cK cO cQ cD pT pK pR pW pU pI pC uO uF uE uN wK jM jN jZ jB ++ (WO ca oa od oL_2 oD ++ R)) _ (xs (x5 + 1).toNatClampNeg) r4 mcode_5 h6) ⟨hx, hb, hml, hown, hts⟩ (cwV 1 hts (gV q1448 q1449 q1450 q50 q1451) rfl rfl rfl (by decide +kernel) ⟨Nat.le_of_ble_eq_true rfl, Nat.le_of_ble_eq_true rfl⟩) (va_recv hK hP (ci := 8) (q0 := 42) rfl rfl) hE hP hD hS hA rfl hl.1 rfl (lv_room (Nat.le_of_ble_eq_true rfl)) dL_law_373 ⟨by show _ ≤ 603072; omega, by show _ ≤ 7198826; omega⟩ (fun H locs hP hD hS => ?_)
  refine lv_istore (lv' := [(7, .int r4), (6, .int r1), (0, .ref b), (1, .ref (ad 0)), (2, .ref (am 0)), (3, .ref oa), (4, .ref od), (5, .int x5)]) hx hb dL_law_376 hl (by decide) rfl (fun ls hl => ?_)
  refine lv_aload_n hx hb dL_law_378 rfl (lv_at hl 4 rfl) ?_
  obtain ⟨r7, h8, hf⟩ := bnd hf
  refine cm_i (rest := []) (m_M_thrown l ca am lq mcode_5 mday mown mquot mprom mfiles mowner mlinks mblocks mvals msnaps mranks mkept mshot mwas mholds mheld mends mopen mentr mkinds misop mfilesT mentrT mpromT mlinksT mblocksT mvalsT (WC ca ad bq nF nO nL nA nC nV nU nP nE bF bO bL bA bC bV bU bP bE cT cK cO cQ cD pT pK pR pW pU pI pC uO uF uE uN wK jM jN jZ jB ++ (WO ca oa od oL_2 oD ++ R)) _ r7 h8) ⟨hx, hb, hml, hown, hts⟩ (cwV 0 hts (gV q1417 q1418 q1419 q50 q1420) rfl rfl rfl (by decide +kernel) ⟨Nat.le_of_ble_eq_true rfl, Nat.le_of_ble_eq_true rfl⟩) (va_recv hK hP (ci := 8) (q0 := 42) rfl rfl) hE hP hD hS hA rfl hl.1 rfl (lv_room (Nat.le_of_ble_eq_true rfl)) dL_law_379 ⟨by show _ ≤ 603072; omega, by show _ ≤ 7198826; omega⟩ (fun H locs hP hD hS => ?_)
  refine lv_iload hx hb dL_law_382 (lv_at hl 1 rfl) ?_
  refine lv_icmp_eq (tgt := 389) hx hb dL_law_384 (by decide) (fun c9 => ?_) (fun c9 => ?_)
  · have hf := br_pos c9 hf
    refine lv_iload hx hb dL_law_389 (lv_at hl 1 rfl) ?_
    refine lv_if_ne (tgt := 413) hx hb dL_law_391 (by decide) (fun c10 => ?_) (fun c10 => ?_)
    · have hf := br_neg c10 hf
      refine lv_goto (tgt := 2434) hx hb dL_law_413 (by decide) ?_
      cases hf
      refine W.widen (k := cN + 1100) (n := sN + 13000) (by omega) (by omega) ?_
      exact kk _ _ _ hP hD hS (lv_sub hl [2, 3, 4, 5, 6, 7] rfl)
    · have hf := br_pos c10 hf
      refine lv_aload_n hx hb dL_law_394 rfl (lv_at hl 5 rfl) ?_
      refine lv_iconst (v := 0) hx hb dL_law_395 (by decide) ?_
      refine va_lald (D := D) hx hb hK hP 40 5 rfl rfl (by unfold vp_in; decide) dL_law_396 ?_
      refine lv_iload hx hb dL_law_397 (lv_at hl 0 rfl) ?_
      refine lv_if_eq (tgt := 406) hx hb dL_law_399 (by decide) (fun c11 => ?_) (fun c11 => ?_)
      · have hf := br_pos c11 hf
        refine lv_lconst (v := 0) hx hb dL_law_406 (by decide) ?_
        refine W.lcmp hx hb dL_law_407 ?_
        refine lv_if_eq (tgt := 413) hx hb dL_law_408 (by decide) (fun c12 => ?_) (fun c12 => ?_)
        · have hf := br_pos c12 hf
          refine lv_goto (tgt := 2434) hx hb dL_law_413 (by decide) ?_
          cases hf
          refine W.widen (k := cN + 1100) (n := sN + 13000) (by omega) (by omega) ?_
          exact kk _ _ _ hP hD hS (lv_sub hl [2, 3, 4, 5, 6, 7] rfl)
        · have hf := br_neg c12 hf
          refine lv_iconst (v := 0) hx hb dL_law_411 (by decide) ?_
          cases hf
      · have hf := br_neg c11 hf
        refine lv_lconst (v := 1) hx hb dL_law_402 (by decide) ?_
        refine lv_goto (tgt := 407) hx hb dL_law_403 (by decide) ?_
        refine W.lcmp hx hb dL_law_407 ?_
        refine lv_if_eq (tgt := 413) hx hb dL_law_408 (by decide) (fun c13 => ?_) (fun c13 => ?_)
        · have hf := br_pos c13 hf
          refine lv_goto (tgt := 2434) hx hb dL_law_413 (by decide) ?_
          cases hf
          refine W.widen (k := cN + 1100) (n := sN + 13000) (by omega) (by omega) ?_
          exact kk _ _ _ hP hD hS (lv_sub hl [2, 3, 4, 5, 6, 7] rfl)
        · have hf := br_neg c13 hf
          refine lv_iconst (v := 0) hx hb dL_law_411 (by decide) ?_
          cases hf
  · have hf := br_neg c9 hf
    refine lv_iconst (v := 0) hx hb dL_law_387 (by decide) ?_
    cases hf
def f_case4 (p1 : Int32) (nF : Int32) (nL : Nat → Int32) (oL : Nat → Int64) (mfiles : Int32) (mlinks : Nat → Int32) : Option ((Nat → Int64) × Int32) :=
  (f_L_linksOf p1 nF nL oL).bind fun (r1, oL_2) =>
  (f_M_linksOf p1 mfiles mlinks).bind fun (r4, mcode_5) =>
  (f_M_thrown mcode_5).bind fun r7 =>
  if r7 = r1 then
    if r1 = 0 then
      if (lg_cmp (oL_2 (0 : Int32).toNatClampNeg) ((r4).toInt64)) = 0 then
        some (oL_2, mcode_5)
      else
        none
    else
      some (oL_2, mcode_5)
  else
    none
set_option maxHeartbeats 4000000 in
set_option maxRecDepth 100000 in
theorem l_case4 {p : Program} {l : Launch} {e : Env} {s : State} {m : MethodId} {below : List Frame} {meth : Method} {c : Code} {Q : State → Prop} {D : va_G} {A : Nat → Prop} {b L : Nat} {xs : Nat → Int32} (ca : Nat → ClassId) (hst : l.stackTraces = false) (hx : p.tables.exec = Jvm.exec) (hb : c.code = code) (hml : c.maxLocals = 9) (hown : s.vm.findClass RL = some m.cls) (hts : ∀ w ∈ WW, w.before #[Value.ref b] s = true) (hE : EE D ca SL0 s) (hA : ∀ q, s.heap.size ≤ q → A q) (hZ : ZZ A s s.heap) (hNC : NCE s) (hX : va_X b L xs s s.heap) (hbl : b < s.heap.size) (hbA : ¬ A b) (ad am : Nat → Nat) (bq oa od lq : Nat) (nF : Int32) (nO : Nat → Int32) (nL : Nat → Int32) (nA : Nat → Int32) (nC : Nat → Int32) (nV : Nat → Int32) (nU : Nat → Int32) (nP : Nat → Int32) (nE : Int32) (bF : Int32) (bO : Nat → Int32) (bL : Nat → Int32) (bA : Nat → Int32) (bC : Nat → Int32) (bV : Nat → Int32) (bU : Nat → Int32) (bP : Nat → Int32) (bE : Int32) (cT : Int32) (cK : Nat → Int32) (cO : Int32) (cQ : Nat → Int32) (cD : Int32) (pT : Int32) (pK : Int32) (pR : Nat → Int32) (pW : Nat → Int32) (pU : Nat → Int32) (pI : Nat → Int32) (pC : Nat → Nat → Int32) (uO : Int32) (uF : Nat → Int32) (uE : Nat → Int32) (uN : Nat → Int32) (wK : Nat → Int32) (jM : Int32) (jN : Int32) (jZ : Nat) (jB : Nat → Int32) (oL : Nat → Int64) (oD : Nat → UInt64) (mcode : Int32) (mday : Int32) (mown : Int32) (mquot : Nat → Int32) (mprom : Nat → Int32) (mfiles : Int32) (mowner : Nat → Int32) (mlinks : Nat → Int32) (mblocks : Nat → Int32) (mvals : Nat → Int32) (msnaps : Int32) (mranks : Nat → Int32) (mkept : Nat → Int32) (mshot : Nat → Int32) (mwas : Nat → Int32) (mholds : Int32) (mheld : Nat → Int32) (mends : Nat → Int32) (mopen : Nat → Int32) (mentr : Int32) (mkinds : Nat → Int32) (misop : Int32) (mfilesT : Int32) (mentrT : Int32) (mpromT : Nat → Int32) (mlinksT : Nat → Int32) (mblocksT : Nat → Int32) (mvalsT : Nat → Int32) (R : va_W) (x5 : Int32) (hi1 : vp_in (x5 + 1) L) (hi2 : vp_in (x5 + 2) L) (hi3 : vp_in (x5 + 3) L) (cN sN : Nat) (hcN : cN + 1100 ≤ 603072) (hsN : sN + 13000 ≤ 7198826) (ooL : Nat → Int64) (omcode : Int32) (hf : f_case4 (xs (x5 + 1).toNatClampNeg) nF nL oL mfiles mlinks = some (ooL, omcode)) {H : Heap} {locs : List Loc} {ls : Array Slot} (hP : va_P D vwCl (WC ca ad bq nF nO nL nA nC nV nU nP nE bF bO bL bA bC bV bU bP bE cT cK cO cQ cD pT pK pR pW pU pI pC uO uF uE uN wK jM jN jZ jB ++ (WO ca oa od oL oD ++ (WM ca am lq mcode mday mown mquot mprom mfiles mowner mlinks mblocks mvals msnaps mranks mkept mshot mwas mholds mheld mends mopen mentr mkinds misop mfilesT mentrT mpromT mlinksT mblocksT mvalsT ++ R))) H) (hD : va_D A (WC ca ad bq nF nO nL nA nC nV nU nP nE bF bO bL bA bC bV bU bP bE cT cK cO cQ cD pT pK pR pW pU pI pC uO uF uE uN wK jM jN jZ jB ++ (WO ca oa od oL oD ++ (WM ca am lq mcode mday mown mquot mprom mfiles mowner mlinks mblocks mvals msnaps mranks mkept mshot mwas mholds mheld mends mopen mentr mkinds misop mfilesT mentrT mpromT mlinksT mblocksT mvalsT ++ R)))) (hS : va_S A s.heap H locs) (hl : lv_has ls 9 [(0, .ref b), (1, .ref (ad 0)), (2, .ref (am 0)), (3, .ref oa), (4, .ref od), (5, .int x5)]) (kk : ∀ (H : Heap) (locs : List Loc) (ls : Array Slot), va_P D vwCl (WC ca ad bq nF nO nL nA nC nV nU nP nE bF bO bL bA bC bV bU bP bE cT cK cO cQ cD pT pK pR pW pU pI pC uO uF uE uN wK jM jN jZ jB ++ (WO ca oa od ooL oD ++ (WM ca am lq omcode mday mown mquot mprom mfiles mowner mlinks mblocks mvals msnaps mranks mkept mshot mwas mholds mheld mends mopen mentr mkinds misop mfilesT mentrT mpromT mlinksT mblocksT mvalsT ++ R))) H → va_D A (WC ca ad bq nF nO nL nA nC nV nU nP nE bF bO bL bA bC bV bU bP bE cT cK cO cQ cD pT pK pR pW pU pI pC uO uF uE uN wK jM jN jZ jB ++ (WO ca oa od ooL oD ++ (WM ca am lq omcode mday mown mquot mprom mfiles mowner mlinks mblocks mvals msnaps mranks mkept mshot mwas mholds mheld mends mopen mentr mkinds misop mfilesT mentrT mpromT mlinksT mblocksT mvalsT ++ R))) → va_S A s.heap H locs → lv_has ls 9 [(0, .ref b), (1, .ref (ad 0)), (2, .ref (am 0)), (3, .ref oa), (4, .ref od), (5, .int x5)] → W p l e room_1 s m #[Value.ref b] below meth c H locs (cN + 1100) (sN + 13000) Q (F0 m 2434 ls [])) : W p l e room_1 s m #[Value.ref b] below meth c H locs cN sN Q (F0 m 416 ls []) := by
  have hK := hE.1
  unfold f_case4 at hf
  change W p l e room_1 s m #[Value.ref b] below meth c H locs (cN + 0) (sN + 0) Q (F0 m 416 ls [])
  refine lv_aload_n hx hb dL_law_416 rfl (lv_at hl 1 rfl) ?_
  refine lv_aload_n hx hb dL_law_417 rfl (lv_at hl 0 rfl) ?_
  refine lv_iload hx hb dL_law_418 (lv_at hl 5 rfl) ?_
  refine lv_iconst (v := 1) hx hb dL_law_420 (by decide) ?_
  refine lv_iadd hx hb dL_law_421 ?_
  refine va_sld hx hb hX hbl hbA hS hi1 dL_law_422 ?_
  refine lv_aload_n hx hb dL_law_423 rfl (lv_at hl 3 rfl) ?_
  obtain ⟨⟨r1, oL_2⟩, h3, hf⟩ := bnd hf
  refine cl_wi (rest := []) (m_L_linksOf l hst ca ad bq oa od nF nO nL nA nC nV nU nP nE bF bO bL bA bC bV bU bP bE cT cK cO cQ cD pT pK pR pW pU pI pC uO uF uE uN wK jM jN jZ jB oL oD (WM ca am lq mcode mday mown mquot mprom mfiles mowner mlinks mblocks mvals msnaps mranks mkept mshot mwas mholds mheld mends mopen mentr mkinds misop mfilesT mentrT mpromT mlinksT mblocksT mvalsT ++ R) _ (xs (x5 + 1).toNatClampNeg) r1 oL_2 h3) ⟨hx, hb, hml, hown, hts⟩ (vx_cwSW 3 hts (gSW q529 q530 q40 q531) rfl rfl rfl (by decide +kernel) ⟨Nat.le_of_ble_eq_true rfl, Nat.le_of_ble_eq_true rfl⟩) hE hP hD hS hA hZ hNC rfl hl.1 rfl (lv_room (Nat.le_of_ble_eq_true rfl)) dL_law_424 ⟨by show _ ≤ 603072; omega, by show _ ≤ 7198826; omega⟩ (fun H locs hP hD hS => ?_)
  refine lv_istore (lv' := [(6, .int r1), (0, .ref b), (1, .ref (ad 0)), (2, .ref (am 0)), (3, .ref oa), (4, .ref od), (5, .int x5)]) hx hb dL_law_427 hl (by decide) rfl (fun ls hl => ?_)
  refine lv_aload_n hx hb dL_law_429 rfl (lv_at hl 3 rfl) ?_
  refine lv_aload_n hx hb dL_law_430 rfl (lv_at hl 1 rfl) ?_
  refine lv_iload hx hb dL_law_431 (lv_at hl 6 rfl) ?_
  refine lv_iconst (v := 1) hx hb dL_law_433 (by decide) ?_
  refine lv_iadd hx hb dL_law_434 ?_
  refine va_sld hx hb hX hbl hbA hS hi1 dL_law_435 ?_
  obtain ⟨⟨r4, mcode_5⟩, h6, hf⟩ := bnd hf
  refine cm_i (rest := []) (m_M_linksOf l ca am lq mcode mday mown mquot mprom mfiles mowner mlinks mblocks mvals msnaps mranks mkept mshot mwas mholds mheld mends mopen mentr mkinds misop mfilesT mentrT mpromT mlinksT mblocksT mvalsT (WC ca ad bq nF nO nL nA nC nV nU nP nE bF bO bL bA bC bV bU bP bE cT cK cO cQ cD pT pK pR pW pU pI pC uO uF uE uN wK jM jN jZ jB ++ (WO ca oa od oL_2 oD ++ R)) _ (xs (x5 + 1).toNatClampNeg) r4 mcode_5 h6) ⟨hx, hb, hml, hown, hts⟩ (cwV 1 hts (gV q1464 q1465 q1466 q50 q1467) rfl rfl rfl (by decide +kernel) ⟨Nat.le_of_ble_eq_true rfl, Nat.le_of_ble_eq_true rfl⟩) (va_recv hK hP (ci := 8) (q0 := 42) rfl rfl) hE hP hD hS hA rfl hl.1 rfl (lv_room (Nat.le_of_ble_eq_true rfl)) dL_law_436 ⟨by show _ ≤ 603072; omega, by show _ ≤ 7198826; omega⟩ (fun H locs hP hD hS => ?_)
  refine lv_istore (lv' := [(7, .int r4), (6, .int r1), (0, .ref b), (1, .ref (ad 0)), (2, .ref (am 0)), (3, .ref oa), (4, .ref od), (5, .int x5)]) hx hb dL_law_439 hl (by decide) rfl (fun ls hl => ?_)
  refine lv_aload_n hx hb dL_law_441 rfl (lv_at hl 4 rfl) ?_
  obtain ⟨r7, h8, hf⟩ := bnd hf
  refine cm_i (rest := []) (m_M_thrown l ca am lq mcode_5 mday mown mquot mprom mfiles mowner mlinks mblocks mvals msnaps mranks mkept mshot mwas mholds mheld mends mopen mentr mkinds misop mfilesT mentrT mpromT mlinksT mblocksT mvalsT (WC ca ad bq nF nO nL nA nC nV nU nP nE bF bO bL bA bC bV bU bP bE cT cK cO cQ cD pT pK pR pW pU pI pC uO uF uE uN wK jM jN jZ jB ++ (WO ca oa od oL_2 oD ++ R)) _ r7 h8) ⟨hx, hb, hml, hown, hts⟩ (cwV 0 hts (gV q1417 q1418 q1419 q50 q1420) rfl rfl rfl (by decide +kernel) ⟨Nat.le_of_ble_eq_true rfl, Nat.le_of_ble_eq_true rfl⟩) (va_recv hK hP (ci := 8) (q0 := 42) rfl rfl) hE hP hD hS hA rfl hl.1 rfl (lv_room (Nat.le_of_ble_eq_true rfl)) dL_law_442 ⟨by show _ ≤ 603072; omega, by show _ ≤ 7198826; omega⟩ (fun H locs hP hD hS => ?_)
  refine lv_iload hx hb dL_law_445 (lv_at hl 1 rfl) ?_
  refine lv_icmp_eq (tgt := 452) hx hb dL_law_447 (by decide) (fun c9 => ?_) (fun c9 => ?_)
  · have hf := br_pos c9 hf
    refine lv_iload hx hb dL_law_452 (lv_at hl 1 rfl) ?_
    refine lv_if_ne (tgt := 469) hx hb dL_law_454 (by decide) (fun c10 => ?_) (fun c10 => ?_)
    · have hf := br_neg c10 hf
      refine lv_goto (tgt := 2434) hx hb dL_law_469 (by decide) ?_
      cases hf
      refine W.widen (k := cN + 1100) (n := sN + 13000) (by omega) (by omega) ?_
      exact kk _ _ _ hP hD hS (lv_sub hl [2, 3, 4, 5, 6, 7] rfl)
    · have hf := br_pos c10 hf
      refine lv_aload_n hx hb dL_law_457 rfl (lv_at hl 5 rfl) ?_
      refine lv_iconst (v := 0) hx hb dL_law_458 (by decide) ?_
      refine va_lald (D := D) hx hb hK hP 40 5 rfl rfl (by unfold vp_in; decide) dL_law_459 ?_
      refine lv_iload hx hb dL_law_460 (lv_at hl 0 rfl) ?_
      refine lv_i2l hx hb dL_law_462 rfl ?_
      refine W.lcmp hx hb dL_law_463 ?_
      refine lv_if_eq (tgt := 469) hx hb dL_law_464 (by decide) (fun c11 => ?_) (fun c11 => ?_)
      · have hf := br_pos c11 hf
        refine lv_goto (tgt := 2434) hx hb dL_law_469 (by decide) ?_
        cases hf
        refine W.widen (k := cN + 1100) (n := sN + 13000) (by omega) (by omega) ?_
        exact kk _ _ _ hP hD hS (lv_sub hl [2, 3, 4, 5, 6, 7] rfl)
      · have hf := br_neg c11 hf
        refine lv_iconst (v := 0) hx hb dL_law_467 (by decide) ?_
        cases hf
  · have hf := br_neg c9 hf
    refine lv_iconst (v := 0) hx hb dL_law_450 (by decide) ?_
    cases hf
def f_case5 (p1 : Int32) (nF : Int32) (nL : Nat → Int32) (nE : Int32) (cK : Nat → Int32) (oL : Nat → Int64) (mfiles : Int32) (mlinks : Nat → Int32) (mentr : Int32) (mkinds : Nat → Int32) : Option ((Nat → Int32) × Int32 × (Nat → Int32) × (Nat → Int64) × Int32 × (Nat → Int32) × Int32 × (Nat → Int32)) :=
  (f_L_link p1 nF nL nE cK oL).bind fun (r1, nL_2, nE_3, cK_4, oL_5) =>
  (f_M_link p1 mfiles mlinks mentr mkinds).bind fun (r7, mcode_8, mlinks_9, mentr_10, mkinds_11) =>
  (f_M_thrown mcode_8).bind fun r13 =>
  if r13 = r1 then
    if r1 = 0 then
      if (lg_cmp (oL_5 (0 : Int32).toNatClampNeg) ((r7).toInt64)) = 0 then
        some (nL_2, nE_3, cK_4, oL_5, mcode_8, mlinks_9, mentr_10, mkinds_11)
      else
        none
    else
      some (nL_2, nE_3, cK_4, oL_5, mcode_8, mlinks_9, mentr_10, mkinds_11)
  else
    none
set_option maxHeartbeats 4000000 in
set_option maxRecDepth 100000 in
theorem l_case5 {p : Program} {l : Launch} {e : Env} {s : State} {m : MethodId} {below : List Frame} {meth : Method} {c : Code} {Q : State → Prop} {D : va_G} {A : Nat → Prop} {b L : Nat} {xs : Nat → Int32} (ca : Nat → ClassId) (hst : l.stackTraces = false) (hx : p.tables.exec = Jvm.exec) (hb : c.code = code) (hml : c.maxLocals = 9) (hown : s.vm.findClass RL = some m.cls) (hts : ∀ w ∈ WW, w.before #[Value.ref b] s = true) (hE : EE D ca SL0 s) (hA : ∀ q, s.heap.size ≤ q → A q) (hZ : ZZ A s s.heap) (hNC : NCE s) (hX : va_X b L xs s s.heap) (hbl : b < s.heap.size) (hbA : ¬ A b) (ad am : Nat → Nat) (bq oa od lq : Nat) (nF : Int32) (nO : Nat → Int32) (nL : Nat → Int32) (nA : Nat → Int32) (nC : Nat → Int32) (nV : Nat → Int32) (nU : Nat → Int32) (nP : Nat → Int32) (nE : Int32) (bF : Int32) (bO : Nat → Int32) (bL : Nat → Int32) (bA : Nat → Int32) (bC : Nat → Int32) (bV : Nat → Int32) (bU : Nat → Int32) (bP : Nat → Int32) (bE : Int32) (cT : Int32) (cK : Nat → Int32) (cO : Int32) (cQ : Nat → Int32) (cD : Int32) (pT : Int32) (pK : Int32) (pR : Nat → Int32) (pW : Nat → Int32) (pU : Nat → Int32) (pI : Nat → Int32) (pC : Nat → Nat → Int32) (uO : Int32) (uF : Nat → Int32) (uE : Nat → Int32) (uN : Nat → Int32) (wK : Nat → Int32) (jM : Int32) (jN : Int32) (jZ : Nat) (jB : Nat → Int32) (oL : Nat → Int64) (oD : Nat → UInt64) (mcode : Int32) (mday : Int32) (mown : Int32) (mquot : Nat → Int32) (mprom : Nat → Int32) (mfiles : Int32) (mowner : Nat → Int32) (mlinks : Nat → Int32) (mblocks : Nat → Int32) (mvals : Nat → Int32) (msnaps : Int32) (mranks : Nat → Int32) (mkept : Nat → Int32) (mshot : Nat → Int32) (mwas : Nat → Int32) (mholds : Int32) (mheld : Nat → Int32) (mends : Nat → Int32) (mopen : Nat → Int32) (mentr : Int32) (mkinds : Nat → Int32) (misop : Int32) (mfilesT : Int32) (mentrT : Int32) (mpromT : Nat → Int32) (mlinksT : Nat → Int32) (mblocksT : Nat → Int32) (mvalsT : Nat → Int32) (R : va_W) (x5 : Int32) (hi1 : vp_in (x5 + 1) L) (hi2 : vp_in (x5 + 2) L) (hi3 : vp_in (x5 + 3) L) (cN sN : Nat) (hcN : cN + 1100 ≤ 603072) (hsN : sN + 13000 ≤ 7198826) (onL : Nat → Int32) (onE : Int32) (ocK : Nat → Int32) (ooL : Nat → Int64) (omcode : Int32) (omlinks : Nat → Int32) (omentr : Int32) (omkinds : Nat → Int32) (hf : f_case5 (xs (x5 + 1).toNatClampNeg) nF nL nE cK oL mfiles mlinks mentr mkinds = some (onL, onE, ocK, ooL, omcode, omlinks, omentr, omkinds)) {H : Heap} {locs : List Loc} {ls : Array Slot} (hP : va_P D vwCl (WC ca ad bq nF nO nL nA nC nV nU nP nE bF bO bL bA bC bV bU bP bE cT cK cO cQ cD pT pK pR pW pU pI pC uO uF uE uN wK jM jN jZ jB ++ (WO ca oa od oL oD ++ (WM ca am lq mcode mday mown mquot mprom mfiles mowner mlinks mblocks mvals msnaps mranks mkept mshot mwas mholds mheld mends mopen mentr mkinds misop mfilesT mentrT mpromT mlinksT mblocksT mvalsT ++ R))) H) (hD : va_D A (WC ca ad bq nF nO nL nA nC nV nU nP nE bF bO bL bA bC bV bU bP bE cT cK cO cQ cD pT pK pR pW pU pI pC uO uF uE uN wK jM jN jZ jB ++ (WO ca oa od oL oD ++ (WM ca am lq mcode mday mown mquot mprom mfiles mowner mlinks mblocks mvals msnaps mranks mkept mshot mwas mholds mheld mends mopen mentr mkinds misop mfilesT mentrT mpromT mlinksT mblocksT mvalsT ++ R)))) (hS : va_S A s.heap H locs) (hl : lv_has ls 9 [(0, .ref b), (1, .ref (ad 0)), (2, .ref (am 0)), (3, .ref oa), (4, .ref od), (5, .int x5)]) (kk : ∀ (H : Heap) (locs : List Loc) (ls : Array Slot), va_P D vwCl (WC ca ad bq nF nO onL nA nC nV nU nP onE bF bO bL bA bC bV bU bP bE cT ocK cO cQ cD pT pK pR pW pU pI pC uO uF uE uN wK jM jN jZ jB ++ (WO ca oa od ooL oD ++ (WM ca am lq omcode mday mown mquot mprom mfiles mowner omlinks mblocks mvals msnaps mranks mkept mshot mwas mholds mheld mends mopen omentr omkinds misop mfilesT mentrT mpromT mlinksT mblocksT mvalsT ++ R))) H → va_D A (WC ca ad bq nF nO onL nA nC nV nU nP onE bF bO bL bA bC bV bU bP bE cT ocK cO cQ cD pT pK pR pW pU pI pC uO uF uE uN wK jM jN jZ jB ++ (WO ca oa od ooL oD ++ (WM ca am lq omcode mday mown mquot mprom mfiles mowner omlinks mblocks mvals msnaps mranks mkept mshot mwas mholds mheld mends mopen omentr omkinds misop mfilesT mentrT mpromT mlinksT mblocksT mvalsT ++ R))) → va_S A s.heap H locs → lv_has ls 9 [(0, .ref b), (1, .ref (ad 0)), (2, .ref (am 0)), (3, .ref oa), (4, .ref od), (5, .int x5)] → W p l e room_1 s m #[Value.ref b] below meth c H locs (cN + 1100) (sN + 13000) Q (F0 m 2434 ls [])) : W p l e room_1 s m #[Value.ref b] below meth c H locs cN sN Q (F0 m 472 ls []) := by
  have hK := hE.1
  unfold f_case5 at hf
  change W p l e room_1 s m #[Value.ref b] below meth c H locs (cN + 0) (sN + 0) Q (F0 m 472 ls [])
  refine lv_aload_n hx hb dL_law_472 rfl (lv_at hl 1 rfl) ?_
  refine lv_aload_n hx hb dL_law_473 rfl (lv_at hl 0 rfl) ?_
  refine lv_iload hx hb dL_law_474 (lv_at hl 5 rfl) ?_
  refine lv_iconst (v := 1) hx hb dL_law_476 (by decide) ?_
  refine lv_iadd hx hb dL_law_477 ?_
  refine va_sld hx hb hX hbl hbA hS hi1 dL_law_478 ?_
  refine lv_aload_n hx hb dL_law_479 rfl (lv_at hl 3 rfl) ?_
  obtain ⟨⟨r1, nL_2, nE_3, cK_4, oL_5⟩, h6, hf⟩ := bnd hf
  refine cl_wi (rest := []) (m_L_link l hst ca ad bq oa od nF nO nL nA nC nV nU nP nE bF bO bL bA bC bV bU bP bE cT cK cO cQ cD pT pK pR pW pU pI pC uO uF uE uN wK jM jN jZ jB oL oD (WM ca am lq mcode mday mown mquot mprom mfiles mowner mlinks mblocks mvals msnaps mranks mkept mshot mwas mholds mheld mends mopen mentr mkinds misop mfilesT mentrT mpromT mlinksT mblocksT mvalsT ++ R) _ (xs (x5 + 1).toNatClampNeg) r1 nL_2 nE_3 cK_4 oL_5 h6) ⟨hx, hb, hml, hown, hts⟩ (vx_cwSW 3 hts (gSW q540 q541 q40 q542) rfl rfl rfl (by decide +kernel) ⟨Nat.le_of_ble_eq_true rfl, Nat.le_of_ble_eq_true rfl⟩) hE hP hD hS hA hZ hNC rfl hl.1 rfl (lv_room (Nat.le_of_ble_eq_true rfl)) dL_law_480 ⟨by show _ ≤ 603072; omega, by show _ ≤ 7198826; omega⟩ (fun H locs hP hD hS => ?_)
  refine lv_istore (lv' := [(6, .int r1), (0, .ref b), (1, .ref (ad 0)), (2, .ref (am 0)), (3, .ref oa), (4, .ref od), (5, .int x5)]) hx hb dL_law_483 hl (by decide) rfl (fun ls hl => ?_)
  refine lv_aload_n hx hb dL_law_485 rfl (lv_at hl 3 rfl) ?_
  refine lv_aload_n hx hb dL_law_486 rfl (lv_at hl 1 rfl) ?_
  refine lv_iload hx hb dL_law_487 (lv_at hl 6 rfl) ?_
  refine lv_iconst (v := 1) hx hb dL_law_489 (by decide) ?_
  refine lv_iadd hx hb dL_law_490 ?_
  refine va_sld hx hb hX hbl hbA hS hi1 dL_law_491 ?_
  obtain ⟨⟨r7, mcode_8, mlinks_9, mentr_10, mkinds_11⟩, h12, hf⟩ := bnd hf
  refine cm_i (rest := []) (m_M_link l ca am lq mcode mday mown mquot mprom mfiles mowner mlinks mblocks mvals msnaps mranks mkept mshot mwas mholds mheld mends mopen mentr mkinds misop mfilesT mentrT mpromT mlinksT mblocksT mvalsT (WC ca ad bq nF nO nL_2 nA nC nV nU nP nE_3 bF bO bL bA bC bV bU bP bE cT cK_4 cO cQ cD pT pK pR pW pU pI pC uO uF uE uN wK jM jN jZ jB ++ (WO ca oa od oL_5 oD ++ R)) _ (xs (x5 + 1).toNatClampNeg) r7 mcode_8 mlinks_9 mentr_10 mkinds_11 h12) ⟨hx, hb, hml, hown, hts⟩ (cwV 1 hts (gV q1468 q1469 q1470 q50 q1471) rfl rfl rfl (by decide +kernel) ⟨Nat.le_of_ble_eq_true rfl, Nat.le_of_ble_eq_true rfl⟩) (va_recv hK hP (ci := 8) (q0 := 42) rfl rfl) hE hP hD hS hA rfl hl.1 rfl (lv_room (Nat.le_of_ble_eq_true rfl)) dL_law_492 ⟨by show _ ≤ 603072; omega, by show _ ≤ 7198826; omega⟩ (fun H locs hP hD hS => ?_)
  refine lv_istore (lv' := [(7, .int r7), (6, .int r1), (0, .ref b), (1, .ref (ad 0)), (2, .ref (am 0)), (3, .ref oa), (4, .ref od), (5, .int x5)]) hx hb dL_law_495 hl (by decide) rfl (fun ls hl => ?_)
  refine lv_aload_n hx hb dL_law_497 rfl (lv_at hl 4 rfl) ?_
  obtain ⟨r13, h14, hf⟩ := bnd hf
  refine cm_i (rest := []) (m_M_thrown l ca am lq mcode_8 mday mown mquot mprom mfiles mowner mlinks_9 mblocks mvals msnaps mranks mkept mshot mwas mholds mheld mends mopen mentr_10 mkinds_11 misop mfilesT mentrT mpromT mlinksT mblocksT mvalsT (WC ca ad bq nF nO nL_2 nA nC nV nU nP nE_3 bF bO bL bA bC bV bU bP bE cT cK_4 cO cQ cD pT pK pR pW pU pI pC uO uF uE uN wK jM jN jZ jB ++ (WO ca oa od oL_5 oD ++ R)) _ r13 h14) ⟨hx, hb, hml, hown, hts⟩ (cwV 0 hts (gV q1417 q1418 q1419 q50 q1420) rfl rfl rfl (by decide +kernel) ⟨Nat.le_of_ble_eq_true rfl, Nat.le_of_ble_eq_true rfl⟩) (va_recv hK hP (ci := 8) (q0 := 42) rfl rfl) hE hP hD hS hA rfl hl.1 rfl (lv_room (Nat.le_of_ble_eq_true rfl)) dL_law_498 ⟨by show _ ≤ 603072; omega, by show _ ≤ 7198826; omega⟩ (fun H locs hP hD hS => ?_)
  refine lv_iload hx hb dL_law_501 (lv_at hl 1 rfl) ?_
  refine lv_icmp_eq (tgt := 508) hx hb dL_law_503 (by decide) (fun c15 => ?_) (fun c15 => ?_)
  · have hf := br_pos c15 hf
    refine lv_iload hx hb dL_law_508 (lv_at hl 1 rfl) ?_
    refine lv_if_ne (tgt := 525) hx hb dL_law_510 (by decide) (fun c16 => ?_) (fun c16 => ?_)
    · have hf := br_neg c16 hf
      refine lv_goto (tgt := 2434) hx hb dL_law_525 (by decide) ?_
      cases hf
      refine W.widen (k := cN + 1100) (n := sN + 13000) (by omega) (by omega) ?_
      exact kk _ _ _ hP hD hS (lv_sub hl [2, 3, 4, 5, 6, 7] rfl)
    · have hf := br_pos c16 hf
      refine lv_aload_n hx hb dL_law_513 rfl (lv_at hl 5 rfl) ?_
      refine lv_iconst (v := 0) hx hb dL_law_514 (by decide) ?_
      refine va_lald (D := D) hx hb hK hP 40 5 rfl rfl (by unfold vp_in; decide) dL_law_515 ?_
      refine lv_iload hx hb dL_law_516 (lv_at hl 0 rfl) ?_
      refine lv_i2l hx hb dL_law_518 rfl ?_
      refine W.lcmp hx hb dL_law_519 ?_
      refine lv_if_eq (tgt := 525) hx hb dL_law_520 (by decide) (fun c17 => ?_) (fun c17 => ?_)
      · have hf := br_pos c17 hf
        refine lv_goto (tgt := 2434) hx hb dL_law_525 (by decide) ?_
        cases hf
        refine W.widen (k := cN + 1100) (n := sN + 13000) (by omega) (by omega) ?_
        exact kk _ _ _ hP hD hS (lv_sub hl [2, 3, 4, 5, 6, 7] rfl)
      · have hf := br_neg c17 hf
        refine lv_iconst (v := 0) hx hb dL_law_523 (by decide) ?_
        cases hf
  · have hf := br_neg c15 hf
    refine lv_iconst (v := 0) hx hb dL_law_506 (by decide) ?_
    cases hf
def f_case6 (p1 : Int32) (nF : Int32) (nL : Nat → Int32) (nA : Nat → Int32) (nC : Nat → Int32) (nU : Nat → Int32) (nE : Int32) (cK : Nat → Int32) (uO : Int32) (uF : Nat → Int32) (uN : Nat → Int32) (oL : Nat → Int64) (mfiles : Int32) (mlinks : Nat → Int32) (mblocks : Nat → Int32) (mholds : Int32) (mheld : Nat → Int32) (mopen : Nat → Int32) (mentr : Int32) (mkinds : Nat → Int32) : Option ((Nat → Int32) × (Nat → Int32) × (Nat → Int32) × (Nat → Int32) × Int32 × (Nat → Int32) × (Nat → Int64) × Int32 × (Nat → Int32) × (Nat → Int32) × Int32 × (Nat → Int32)) :=
  (f_L_unlink p1 nF nL nA nC nU nE cK uO uF uN oL).bind fun (r1, nL_2, nA_3, nC_4, nU_5, nE_6, cK_7, oL_8) =>
  (f_M_unlink p1 mfiles mlinks mblocks mholds mheld mopen mentr mkinds).bind fun (r10, mcode_11, mlinks_12, mblocks_13, mentr_14, mkinds_15) =>
  (f_M_thrown mcode_11).bind fun r17 =>
  if r17 = r1 then
    if r1 = 0 then
      if (lg_cmp (oL_8 (0 : Int32).toNatClampNeg) ((r10).toInt64)) = 0 then
        some (nL_2, nA_3, nC_4, nU_5, nE_6, cK_7, oL_8, mcode_11, mlinks_12, mblocks_13, mentr_14, mkinds_15)
      else
        none
    else
      some (nL_2, nA_3, nC_4, nU_5, nE_6, cK_7, oL_8, mcode_11, mlinks_12, mblocks_13, mentr_14, mkinds_15)
  else
    none
set_option maxHeartbeats 4000000 in
set_option maxRecDepth 100000 in
theorem l_case6 {p : Program} {l : Launch} {e : Env} {s : State} {m : MethodId} {below : List Frame} {meth : Method} {c : Code} {Q : State → Prop} {D : va_G} {A : Nat → Prop} {b L : Nat} {xs : Nat → Int32} (ca : Nat → ClassId) (hst : l.stackTraces = false) (hx : p.tables.exec = Jvm.exec) (hb : c.code = code) (hml : c.maxLocals = 9) (hown : s.vm.findClass RL = some m.cls) (hts : ∀ w ∈ WW, w.before #[Value.ref b] s = true) (hE : EE D ca SL0 s) (hA : ∀ q, s.heap.size ≤ q → A q) (hZ : ZZ A s s.heap) (hNC : NCE s) (hX : va_X b L xs s s.heap) (hbl : b < s.heap.size) (hbA : ¬ A b) (ad am : Nat → Nat) (bq oa od lq : Nat) (nF : Int32) (nO : Nat → Int32) (nL : Nat → Int32) (nA : Nat → Int32) (nC : Nat → Int32) (nV : Nat → Int32) (nU : Nat → Int32) (nP : Nat → Int32) (nE : Int32) (bF : Int32) (bO : Nat → Int32) (bL : Nat → Int32) (bA : Nat → Int32) (bC : Nat → Int32) (bV : Nat → Int32) (bU : Nat → Int32) (bP : Nat → Int32) (bE : Int32) (cT : Int32) (cK : Nat → Int32) (cO : Int32) (cQ : Nat → Int32) (cD : Int32) (pT : Int32) (pK : Int32) (pR : Nat → Int32) (pW : Nat → Int32) (pU : Nat → Int32) (pI : Nat → Int32) (pC : Nat → Nat → Int32) (uO : Int32) (uF : Nat → Int32) (uE : Nat → Int32) (uN : Nat → Int32) (wK : Nat → Int32) (jM : Int32) (jN : Int32) (jZ : Nat) (jB : Nat → Int32) (oL : Nat → Int64) (oD : Nat → UInt64) (mcode : Int32) (mday : Int32) (mown : Int32) (mquot : Nat → Int32) (mprom : Nat → Int32) (mfiles : Int32) (mowner : Nat → Int32) (mlinks : Nat → Int32) (mblocks : Nat → Int32) (mvals : Nat → Int32) (msnaps : Int32) (mranks : Nat → Int32) (mkept : Nat → Int32) (mshot : Nat → Int32) (mwas : Nat → Int32) (mholds : Int32) (mheld : Nat → Int32) (mends : Nat → Int32) (mopen : Nat → Int32) (mentr : Int32) (mkinds : Nat → Int32) (misop : Int32) (mfilesT : Int32) (mentrT : Int32) (mpromT : Nat → Int32) (mlinksT : Nat → Int32) (mblocksT : Nat → Int32) (mvalsT : Nat → Int32) (R : va_W) (x5 : Int32) (hi1 : vp_in (x5 + 1) L) (hi2 : vp_in (x5 + 2) L) (hi3 : vp_in (x5 + 3) L) (cN sN : Nat) (hcN : cN + 1100 ≤ 603072) (hsN : sN + 13000 ≤ 7198826) (onL : Nat → Int32) (onA : Nat → Int32) (onC : Nat → Int32) (onU : Nat → Int32) (onE : Int32) (ocK : Nat → Int32) (ooL : Nat → Int64) (omcode : Int32) (omlinks : Nat → Int32) (omblocks : Nat → Int32) (omentr : Int32) (omkinds : Nat → Int32) (hf : f_case6 (xs (x5 + 1).toNatClampNeg) nF nL nA nC nU nE cK uO uF uN oL mfiles mlinks mblocks mholds mheld mopen mentr mkinds = some (onL, onA, onC, onU, onE, ocK, ooL, omcode, omlinks, omblocks, omentr, omkinds)) {H : Heap} {locs : List Loc} {ls : Array Slot} (hP : va_P D vwCl (WC ca ad bq nF nO nL nA nC nV nU nP nE bF bO bL bA bC bV bU bP bE cT cK cO cQ cD pT pK pR pW pU pI pC uO uF uE uN wK jM jN jZ jB ++ (WO ca oa od oL oD ++ (WM ca am lq mcode mday mown mquot mprom mfiles mowner mlinks mblocks mvals msnaps mranks mkept mshot mwas mholds mheld mends mopen mentr mkinds misop mfilesT mentrT mpromT mlinksT mblocksT mvalsT ++ R))) H) (hD : va_D A (WC ca ad bq nF nO nL nA nC nV nU nP nE bF bO bL bA bC bV bU bP bE cT cK cO cQ cD pT pK pR pW pU pI pC uO uF uE uN wK jM jN jZ jB ++ (WO ca oa od oL oD ++ (WM ca am lq mcode mday mown mquot mprom mfiles mowner mlinks mblocks mvals msnaps mranks mkept mshot mwas mholds mheld mends mopen mentr mkinds misop mfilesT mentrT mpromT mlinksT mblocksT mvalsT ++ R)))) (hS : va_S A s.heap H locs) (hl : lv_has ls 9 [(0, .ref b), (1, .ref (ad 0)), (2, .ref (am 0)), (3, .ref oa), (4, .ref od), (5, .int x5)]) (kk : ∀ (H : Heap) (locs : List Loc) (ls : Array Slot), va_P D vwCl (WC ca ad bq nF nO onL onA onC nV onU nP onE bF bO bL bA bC bV bU bP bE cT ocK cO cQ cD pT pK pR pW pU pI pC uO uF uE uN wK jM jN jZ jB ++ (WO ca oa od ooL oD ++ (WM ca am lq omcode mday mown mquot mprom mfiles mowner omlinks omblocks mvals msnaps mranks mkept mshot mwas mholds mheld mends mopen omentr omkinds misop mfilesT mentrT mpromT mlinksT mblocksT mvalsT ++ R))) H → va_D A (WC ca ad bq nF nO onL onA onC nV onU nP onE bF bO bL bA bC bV bU bP bE cT ocK cO cQ cD pT pK pR pW pU pI pC uO uF uE uN wK jM jN jZ jB ++ (WO ca oa od ooL oD ++ (WM ca am lq omcode mday mown mquot mprom mfiles mowner omlinks omblocks mvals msnaps mranks mkept mshot mwas mholds mheld mends mopen omentr omkinds misop mfilesT mentrT mpromT mlinksT mblocksT mvalsT ++ R))) → va_S A s.heap H locs → lv_has ls 9 [(0, .ref b), (1, .ref (ad 0)), (2, .ref (am 0)), (3, .ref oa), (4, .ref od), (5, .int x5)] → W p l e room_1 s m #[Value.ref b] below meth c H locs (cN + 1100) (sN + 13000) Q (F0 m 2434 ls [])) : W p l e room_1 s m #[Value.ref b] below meth c H locs cN sN Q (F0 m 528 ls []) := by
  have hK := hE.1
  unfold f_case6 at hf
  change W p l e room_1 s m #[Value.ref b] below meth c H locs (cN + 0) (sN + 0) Q (F0 m 528 ls [])
  refine lv_aload_n hx hb dL_law_528 rfl (lv_at hl 1 rfl) ?_
  refine lv_aload_n hx hb dL_law_529 rfl (lv_at hl 0 rfl) ?_
  refine lv_iload hx hb dL_law_530 (lv_at hl 5 rfl) ?_
  refine lv_iconst (v := 1) hx hb dL_law_532 (by decide) ?_
  refine lv_iadd hx hb dL_law_533 ?_
  refine va_sld hx hb hX hbl hbA hS hi1 dL_law_534 ?_
  refine lv_aload_n hx hb dL_law_535 rfl (lv_at hl 3 rfl) ?_
  obtain ⟨⟨r1, nL_2, nA_3, nC_4, nU_5, nE_6, cK_7, oL_8⟩, h9, hf⟩ := bnd hf
  refine cl_wi (rest := []) (m_L_unlink l hst ca ad bq oa od nF nO nL nA nC nV nU nP nE bF bO bL bA bC bV bU bP bE cT cK cO cQ cD pT pK pR pW pU pI pC uO uF uE uN wK jM jN jZ jB oL oD (WM ca am lq mcode mday mown mquot mprom mfiles mowner mlinks mblocks mvals msnaps mranks mkept mshot mwas mholds mheld mends mopen mentr mkinds misop mfilesT mentrT mpromT mlinksT mblocksT mvalsT ++ R) _ (xs (x5 + 1).toNatClampNeg) r1 nL_2 nA_3 nC_4 nU_5 nE_6 cK_7 oL_8 h9) ⟨hx, hb, hml, hown, hts⟩ (vx_cwSW 3 hts (gSW q557 q558 q40 q559) rfl rfl rfl (by decide +kernel) ⟨Nat.le_of_ble_eq_true rfl, Nat.le_of_ble_eq_true rfl⟩) hE hP hD hS hA hZ hNC rfl hl.1 rfl (lv_room (Nat.le_of_ble_eq_true rfl)) dL_law_536 ⟨by show _ ≤ 603072; omega, by show _ ≤ 7198826; omega⟩ (fun H locs hP hD hS => ?_)
  refine lv_istore (lv' := [(6, .int r1), (0, .ref b), (1, .ref (ad 0)), (2, .ref (am 0)), (3, .ref oa), (4, .ref od), (5, .int x5)]) hx hb dL_law_539 hl (by decide) rfl (fun ls hl => ?_)
  refine lv_aload_n hx hb dL_law_541 rfl (lv_at hl 3 rfl) ?_
  refine lv_aload_n hx hb dL_law_542 rfl (lv_at hl 1 rfl) ?_
  refine lv_iload hx hb dL_law_543 (lv_at hl 6 rfl) ?_
  refine lv_iconst (v := 1) hx hb dL_law_545 (by decide) ?_
  refine lv_iadd hx hb dL_law_546 ?_
  refine va_sld hx hb hX hbl hbA hS hi1 dL_law_547 ?_
  obtain ⟨⟨r10, mcode_11, mlinks_12, mblocks_13, mentr_14, mkinds_15⟩, h16, hf⟩ := bnd hf
  refine cm_i (rest := []) (m_M_unlink l ca am lq mcode mday mown mquot mprom mfiles mowner mlinks mblocks mvals msnaps mranks mkept mshot mwas mholds mheld mends mopen mentr mkinds misop mfilesT mentrT mpromT mlinksT mblocksT mvalsT (WC ca ad bq nF nO nL_2 nA_3 nC_4 nV nU_5 nP nE_6 bF bO bL bA bC bV bU bP bE cT cK_7 cO cQ cD pT pK pR pW pU pI pC uO uF uE uN wK jM jN jZ jB ++ (WO ca oa od oL_8 oD ++ R)) _ (xs (x5 + 1).toNatClampNeg) r10 mcode_11 mlinks_12 mblocks_13 mentr_14 mkinds_15 h16) ⟨hx, hb, hml, hown, hts⟩ (cwV 1 hts (gV q1472 q1473 q1474 q50 q1475) rfl rfl rfl (by decide +kernel) ⟨Nat.le_of_ble_eq_true rfl, Nat.le_of_ble_eq_true rfl⟩) (va_recv hK hP (ci := 8) (q0 := 42) rfl rfl) hE hP hD hS hA rfl hl.1 rfl (lv_room (Nat.le_of_ble_eq_true rfl)) dL_law_548 ⟨by show _ ≤ 603072; omega, by show _ ≤ 7198826; omega⟩ (fun H locs hP hD hS => ?_)
  refine lv_istore (lv' := [(7, .int r10), (6, .int r1), (0, .ref b), (1, .ref (ad 0)), (2, .ref (am 0)), (3, .ref oa), (4, .ref od), (5, .int x5)]) hx hb dL_law_551 hl (by decide) rfl (fun ls hl => ?_)
  refine lv_aload_n hx hb dL_law_553 rfl (lv_at hl 4 rfl) ?_
  obtain ⟨r17, h18, hf⟩ := bnd hf
  refine cm_i (rest := []) (m_M_thrown l ca am lq mcode_11 mday mown mquot mprom mfiles mowner mlinks_12 mblocks_13 mvals msnaps mranks mkept mshot mwas mholds mheld mends mopen mentr_14 mkinds_15 misop mfilesT mentrT mpromT mlinksT mblocksT mvalsT (WC ca ad bq nF nO nL_2 nA_3 nC_4 nV nU_5 nP nE_6 bF bO bL bA bC bV bU bP bE cT cK_7 cO cQ cD pT pK pR pW pU pI pC uO uF uE uN wK jM jN jZ jB ++ (WO ca oa od oL_8 oD ++ R)) _ r17 h18) ⟨hx, hb, hml, hown, hts⟩ (cwV 0 hts (gV q1417 q1418 q1419 q50 q1420) rfl rfl rfl (by decide +kernel) ⟨Nat.le_of_ble_eq_true rfl, Nat.le_of_ble_eq_true rfl⟩) (va_recv hK hP (ci := 8) (q0 := 42) rfl rfl) hE hP hD hS hA rfl hl.1 rfl (lv_room (Nat.le_of_ble_eq_true rfl)) dL_law_554 ⟨by show _ ≤ 603072; omega, by show _ ≤ 7198826; omega⟩ (fun H locs hP hD hS => ?_)
  refine lv_iload hx hb dL_law_557 (lv_at hl 1 rfl) ?_
  refine lv_icmp_eq (tgt := 564) hx hb dL_law_559 (by decide) (fun c19 => ?_) (fun c19 => ?_)
  · have hf := br_pos c19 hf
    refine lv_iload hx hb dL_law_564 (lv_at hl 1 rfl) ?_
    refine lv_if_ne (tgt := 581) hx hb dL_law_566 (by decide) (fun c20 => ?_) (fun c20 => ?_)
    · have hf := br_neg c20 hf
      refine lv_goto (tgt := 2434) hx hb dL_law_581 (by decide) ?_
      cases hf
      refine W.widen (k := cN + 1100) (n := sN + 13000) (by omega) (by omega) ?_
      exact kk _ _ _ hP hD hS (lv_sub hl [2, 3, 4, 5, 6, 7] rfl)
    · have hf := br_pos c20 hf
      refine lv_aload_n hx hb dL_law_569 rfl (lv_at hl 5 rfl) ?_
      refine lv_iconst (v := 0) hx hb dL_law_570 (by decide) ?_
      refine va_lald (D := D) hx hb hK hP 40 5 rfl rfl (by unfold vp_in; decide) dL_law_571 ?_
      refine lv_iload hx hb dL_law_572 (lv_at hl 0 rfl) ?_
      refine lv_i2l hx hb dL_law_574 rfl ?_
      refine W.lcmp hx hb dL_law_575 ?_
      refine lv_if_eq (tgt := 581) hx hb dL_law_576 (by decide) (fun c21 => ?_) (fun c21 => ?_)
      · have hf := br_pos c21 hf
        refine lv_goto (tgt := 2434) hx hb dL_law_581 (by decide) ?_
        cases hf
        refine W.widen (k := cN + 1100) (n := sN + 13000) (by omega) (by omega) ?_
        exact kk _ _ _ hP hD hS (lv_sub hl [2, 3, 4, 5, 6, 7] rfl)
      · have hf := br_neg c21 hf
        refine lv_iconst (v := 0) hx hb dL_law_579 (by decide) ?_
        cases hf
  · have hf := br_neg c19 hf
    refine lv_iconst (v := 0) hx hb dL_law_562 (by decide) ?_
    cases hf
def f_case7 (p1 : Int32) (p2 : Int32) (p3 : Int32) (nF : Int32) (nO : Nat → Int32) (nL : Nat → Int32) (nC : Nat → Int32) (nV : Nat → Int32) (nU : Nat → Int32) (nP : Nat → Int32) (nE : Int32) (cK : Nat → Int32) (cO : Int32) (cQ : Nat → Int32) (oL : Nat → Int64) (mquot : Nat → Int32) (mprom : Nat → Int32) (mfiles : Int32) (mowner : Nat → Int32) (mlinks : Nat → Int32) (mblocks : Nat → Int32) (mvals : Nat → Int32) (msnaps : Int32) (mkept : Nat → Int32) (mshot : Nat → Int32) (mentr : Int32) (mkinds : Nat → Int32) : Option ((Nat → Int32) × (Nat → Int32) × (Nat → Int32) × (Nat → Int32) × Int32 × (Nat → Int32) × (Nat → Int64) × Int32 × (Nat → Int32) × (Nat → Int32) × (Nat → Int32) × Int32 × (Nat → Int32)) :=
  (f_L_write p1 p2 p3 nF nO nL nC nV nU nP nE cK cO cQ oL).bind fun (r1, nC_2, nV_3, nU_4, nP_5, nE_6, cK_7, oL_8) =>
  (f_M_write p1 p2 p3 mquot mprom mfiles mowner mlinks mblocks mvals msnaps mkept mshot mentr mkinds).bind fun (r10, mcode_11, mprom_12, mblocks_13, mvals_14, mentr_15, mkinds_16) =>
  (f_M_thrown mcode_11).bind fun r18 =>
  if r18 = r1 then
    if r1 = 0 then
      if (lg_cmp (oL_8 (0 : Int32).toNatClampNeg) ((r10).toInt64)) = 0 then
        some (nC_2, nV_3, nU_4, nP_5, nE_6, cK_7, oL_8, mcode_11, mprom_12, mblocks_13, mvals_14, mentr_15, mkinds_16)
      else
        none
    else
      some (nC_2, nV_3, nU_4, nP_5, nE_6, cK_7, oL_8, mcode_11, mprom_12, mblocks_13, mvals_14, mentr_15, mkinds_16)
  else
    none
set_option maxHeartbeats 4000000 in
set_option maxRecDepth 100000 in
theorem l_case7 {p : Program} {l : Launch} {e : Env} {s : State} {m : MethodId} {below : List Frame} {meth : Method} {c : Code} {Q : State → Prop} {D : va_G} {A : Nat → Prop} {b L : Nat} {xs : Nat → Int32} (ca : Nat → ClassId) (hst : l.stackTraces = false) (hx : p.tables.exec = Jvm.exec) (hb : c.code = code) (hml : c.maxLocals = 9) (hown : s.vm.findClass RL = some m.cls) (hts : ∀ w ∈ WW, w.before #[Value.ref b] s = true) (hE : EE D ca SL0 s) (hA : ∀ q, s.heap.size ≤ q → A q) (hZ : ZZ A s s.heap) (hNC : NCE s) (hX : va_X b L xs s s.heap) (hbl : b < s.heap.size) (hbA : ¬ A b) (ad am : Nat → Nat) (bq oa od lq : Nat) (nF : Int32) (nO : Nat → Int32) (nL : Nat → Int32) (nA : Nat → Int32) (nC : Nat → Int32) (nV : Nat → Int32) (nU : Nat → Int32) (nP : Nat → Int32) (nE : Int32) (bF : Int32) (bO : Nat → Int32) (bL : Nat → Int32) (bA : Nat → Int32) (bC : Nat → Int32) (bV : Nat → Int32) (bU : Nat → Int32) (bP : Nat → Int32) (bE : Int32) (cT : Int32) (cK : Nat → Int32) (cO : Int32) (cQ : Nat → Int32) (cD : Int32) (pT : Int32) (pK : Int32) (pR : Nat → Int32) (pW : Nat → Int32) (pU : Nat → Int32) (pI : Nat → Int32) (pC : Nat → Nat → Int32) (uO : Int32) (uF : Nat → Int32) (uE : Nat → Int32) (uN : Nat → Int32) (wK : Nat → Int32) (jM : Int32) (jN : Int32) (jZ : Nat) (jB : Nat → Int32) (oL : Nat → Int64) (oD : Nat → UInt64) (mcode : Int32) (mday : Int32) (mown : Int32) (mquot : Nat → Int32) (mprom : Nat → Int32) (mfiles : Int32) (mowner : Nat → Int32) (mlinks : Nat → Int32) (mblocks : Nat → Int32) (mvals : Nat → Int32) (msnaps : Int32) (mranks : Nat → Int32) (mkept : Nat → Int32) (mshot : Nat → Int32) (mwas : Nat → Int32) (mholds : Int32) (mheld : Nat → Int32) (mends : Nat → Int32) (mopen : Nat → Int32) (mentr : Int32) (mkinds : Nat → Int32) (misop : Int32) (mfilesT : Int32) (mentrT : Int32) (mpromT : Nat → Int32) (mlinksT : Nat → Int32) (mblocksT : Nat → Int32) (mvalsT : Nat → Int32) (R : va_W) (x5 : Int32) (hi1 : vp_in (x5 + 1) L) (hi2 : vp_in (x5 + 2) L) (hi3 : vp_in (x5 + 3) L) (cN sN : Nat) (hcN : cN + 1100 ≤ 603072) (hsN : sN + 13000 ≤ 7198826) (onC : Nat → Int32) (onV : Nat → Int32) (onU : Nat → Int32) (onP : Nat → Int32) (onE : Int32) (ocK : Nat → Int32) (ooL : Nat → Int64) (omcode : Int32) (omprom : Nat → Int32) (omblocks : Nat → Int32) (omvals : Nat → Int32) (omentr : Int32) (omkinds : Nat → Int32) (hf : f_case7 (xs (x5 + 1).toNatClampNeg) (xs (x5 + 2).toNatClampNeg) (xs (x5 + 3).toNatClampNeg) nF nO nL nC nV nU nP nE cK cO cQ oL mquot mprom mfiles mowner mlinks mblocks mvals msnaps mkept mshot mentr mkinds = some (onC, onV, onU, onP, onE, ocK, ooL, omcode, omprom, omblocks, omvals, omentr, omkinds)) {H : Heap} {locs : List Loc} {ls : Array Slot} (hP : va_P D vwCl (WC ca ad bq nF nO nL nA nC nV nU nP nE bF bO bL bA bC bV bU bP bE cT cK cO cQ cD pT pK pR pW pU pI pC uO uF uE uN wK jM jN jZ jB ++ (WO ca oa od oL oD ++ (WM ca am lq mcode mday mown mquot mprom mfiles mowner mlinks mblocks mvals msnaps mranks mkept mshot mwas mholds mheld mends mopen mentr mkinds misop mfilesT mentrT mpromT mlinksT mblocksT mvalsT ++ R))) H) (hD : va_D A (WC ca ad bq nF nO nL nA nC nV nU nP nE bF bO bL bA bC bV bU bP bE cT cK cO cQ cD pT pK pR pW pU pI pC uO uF uE uN wK jM jN jZ jB ++ (WO ca oa od oL oD ++ (WM ca am lq mcode mday mown mquot mprom mfiles mowner mlinks mblocks mvals msnaps mranks mkept mshot mwas mholds mheld mends mopen mentr mkinds misop mfilesT mentrT mpromT mlinksT mblocksT mvalsT ++ R)))) (hS : va_S A s.heap H locs) (hl : lv_has ls 9 [(0, .ref b), (1, .ref (ad 0)), (2, .ref (am 0)), (3, .ref oa), (4, .ref od), (5, .int x5)]) (kk : ∀ (H : Heap) (locs : List Loc) (ls : Array Slot), va_P D vwCl (WC ca ad bq nF nO nL nA onC onV onU onP onE bF bO bL bA bC bV bU bP bE cT ocK cO cQ cD pT pK pR pW pU pI pC uO uF uE uN wK jM jN jZ jB ++ (WO ca oa od ooL oD ++ (WM ca am lq omcode mday mown mquot omprom mfiles mowner mlinks omblocks omvals msnaps mranks mkept mshot mwas mholds mheld mends mopen omentr omkinds misop mfilesT mentrT mpromT mlinksT mblocksT mvalsT ++ R))) H → va_D A (WC ca ad bq nF nO nL nA onC onV onU onP onE bF bO bL bA bC bV bU bP bE cT ocK cO cQ cD pT pK pR pW pU pI pC uO uF uE uN wK jM jN jZ jB ++ (WO ca oa od ooL oD ++ (WM ca am lq omcode mday mown mquot omprom mfiles mowner mlinks omblocks omvals msnaps mranks mkept mshot mwas mholds mheld mends mopen omentr omkinds misop mfilesT mentrT mpromT mlinksT mblocksT mvalsT ++ R))) → va_S A s.heap H locs → lv_has ls 9 [(0, .ref b), (1, .ref (ad 0)), (2, .ref (am 0)), (3, .ref oa), (4, .ref od), (5, .int x5)] → W p l e room_1 s m #[Value.ref b] below meth c H locs (cN + 1100) (sN + 13000) Q (F0 m 2434 ls [])) : W p l e room_1 s m #[Value.ref b] below meth c H locs cN sN Q (F0 m 584 ls []) := by
  have hK := hE.1
  unfold f_case7 at hf
  change W p l e room_1 s m #[Value.ref b] below meth c H locs (cN + 0) (sN + 0) Q (F0 m 584 ls [])
  refine lv_aload_n hx hb dL_law_584 rfl (lv_at hl 1 rfl) ?_
  refine lv_aload_n hx hb dL_law_585 rfl (lv_at hl 0 rfl) ?_
  refine lv_iload hx hb dL_law_586 (lv_at hl 5 rfl) ?_
  refine lv_iconst (v := 1) hx hb dL_law_588 (by decide) ?_
  refine lv_iadd hx hb dL_law_589 ?_
  refine va_sld hx hb hX hbl hbA hS hi1 dL_law_590 ?_
  refine lv_aload_n hx hb dL_law_591 rfl (lv_at hl 0 rfl) ?_
  refine lv_iload hx hb dL_law_592 (lv_at hl 5 rfl) ?_
  refine lv_iconst (v := 2) hx hb dL_law_594 (by decide) ?_
  refine lv_iadd hx hb dL_law_595 ?_
  refine va_sld hx hb hX hbl hbA hS hi2 dL_law_596 ?_
  refine lv_aload_n hx hb dL_law_597 rfl (lv_at hl 0 rfl) ?_
  refine lv_iload hx hb dL_law_598 (lv_at hl 5 rfl) ?_
  refine lv_iconst (v := 3) hx hb dL_law_600 (by decide) ?_
  refine lv_iadd hx hb dL_law_601 ?_
  refine va_sld hx hb hX hbl hbA hS hi3 dL_law_602 ?_
  refine lv_aload_n hx hb dL_law_603 rfl (lv_at hl 3 rfl) ?_
  obtain ⟨⟨r1, nC_2, nV_3, nU_4, nP_5, nE_6, cK_7, oL_8⟩, h9, hf⟩ := bnd hf
  refine cl_wi (rest := []) (m_L_write l hst ca ad bq oa od nF nO nL nA nC nV nU nP nE bF bO bL bA bC bV bU bP bE cT cK cO cQ cD pT pK pR pW pU pI pC uO uF uE uN wK jM jN jZ jB oL oD (WM ca am lq mcode mday mown mquot mprom mfiles mowner mlinks mblocks mvals msnaps mranks mkept mshot mwas mholds mheld mends mopen mentr mkinds misop mfilesT mentrT mpromT mlinksT mblocksT mvalsT ++ R) _ (xs (x5 + 1).toNatClampNeg) (xs (x5 + 2).toNatClampNeg) (xs (x5 + 3).toNatClampNeg) r1 nC_2 nV_3 nU_4 nP_5 nE_6 cK_7 oL_8 h9) ⟨hx, hb, hml, hown, hts⟩ (vx_cwSW 5 hts (gSW q589 q590 q40 q591) rfl rfl rfl (by decide +kernel) ⟨Nat.le_of_ble_eq_true rfl, Nat.le_of_ble_eq_true rfl⟩) hE hP hD hS hA hZ hNC rfl hl.1 rfl (lv_room (Nat.le_of_ble_eq_true rfl)) dL_law_604 ⟨by show _ ≤ 603072; omega, by show _ ≤ 7198826; omega⟩ (fun H locs hP hD hS => ?_)
  refine lv_istore (lv' := [(6, .int r1), (0, .ref b), (1, .ref (ad 0)), (2, .ref (am 0)), (3, .ref oa), (4, .ref od), (5, .int x5)]) hx hb dL_law_607 hl (by decide) rfl (fun ls hl => ?_)
  refine lv_aload_n hx hb dL_law_609 rfl (lv_at hl 3 rfl) ?_
  refine lv_aload_n hx hb dL_law_610 rfl (lv_at hl 1 rfl) ?_
  refine lv_iload hx hb dL_law_611 (lv_at hl 6 rfl) ?_
  refine lv_iconst (v := 1) hx hb dL_law_613 (by decide) ?_
  refine lv_iadd hx hb dL_law_614 ?_
  refine va_sld hx hb hX hbl hbA hS hi1 dL_law_615 ?_
  refine lv_aload_n hx hb dL_law_616 rfl (lv_at hl 1 rfl) ?_
  refine lv_iload hx hb dL_law_617 (lv_at hl 6 rfl) ?_
  refine lv_iconst (v := 2) hx hb dL_law_619 (by decide) ?_
  refine lv_iadd hx hb dL_law_620 ?_
  refine va_sld hx hb hX hbl hbA hS hi2 dL_law_621 ?_
  refine lv_aload_n hx hb dL_law_622 rfl (lv_at hl 1 rfl) ?_
  refine lv_iload hx hb dL_law_623 (lv_at hl 6 rfl) ?_
  refine lv_iconst (v := 3) hx hb dL_law_625 (by decide) ?_
  refine lv_iadd hx hb dL_law_626 ?_
  refine va_sld hx hb hX hbl hbA hS hi3 dL_law_627 ?_
  obtain ⟨⟨r10, mcode_11, mprom_12, mblocks_13, mvals_14, mentr_15, mkinds_16⟩, h17, hf⟩ := bnd hf
  refine cm_i (rest := []) (m_M_write l ca am lq mcode mday mown mquot mprom mfiles mowner mlinks mblocks mvals msnaps mranks mkept mshot mwas mholds mheld mends mopen mentr mkinds misop mfilesT mentrT mpromT mlinksT mblocksT mvalsT (WC ca ad bq nF nO nL nA nC_2 nV_3 nU_4 nP_5 nE_6 bF bO bL bA bC bV bU bP bE cT cK_7 cO cQ cD pT pK pR pW pU pI pC uO uF uE uN wK jM jN jZ jB ++ (WO ca oa od oL_8 oD ++ R)) _ (xs (x5 + 1).toNatClampNeg) (xs (x5 + 2).toNatClampNeg) (xs (x5 + 3).toNatClampNeg) r10 mcode_11 mprom_12 mblocks_13 mvals_14 mentr_15 mkinds_16 h17) ⟨hx, hb, hml, hown, hts⟩ (cwV 3 hts (gV q1480 q1481 q1482 q50 q1483) rfl rfl rfl (by decide +kernel) ⟨Nat.le_of_ble_eq_true rfl, Nat.le_of_ble_eq_true rfl⟩) (va_recv hK hP (ci := 8) (q0 := 42) rfl rfl) hE hP hD hS hA rfl hl.1 rfl (lv_room (Nat.le_of_ble_eq_true rfl)) dL_law_628 ⟨by show _ ≤ 603072; omega, by show _ ≤ 7198826; omega⟩ (fun H locs hP hD hS => ?_)
  refine lv_istore (lv' := [(7, .int r10), (6, .int r1), (0, .ref b), (1, .ref (ad 0)), (2, .ref (am 0)), (3, .ref oa), (4, .ref od), (5, .int x5)]) hx hb dL_law_631 hl (by decide) rfl (fun ls hl => ?_)
  refine lv_aload_n hx hb dL_law_633 rfl (lv_at hl 4 rfl) ?_
  obtain ⟨r18, h19, hf⟩ := bnd hf
  refine cm_i (rest := []) (m_M_thrown l ca am lq mcode_11 mday mown mquot mprom_12 mfiles mowner mlinks mblocks_13 mvals_14 msnaps mranks mkept mshot mwas mholds mheld mends mopen mentr_15 mkinds_16 misop mfilesT mentrT mpromT mlinksT mblocksT mvalsT (WC ca ad bq nF nO nL nA nC_2 nV_3 nU_4 nP_5 nE_6 bF bO bL bA bC bV bU bP bE cT cK_7 cO cQ cD pT pK pR pW pU pI pC uO uF uE uN wK jM jN jZ jB ++ (WO ca oa od oL_8 oD ++ R)) _ r18 h19) ⟨hx, hb, hml, hown, hts⟩ (cwV 0 hts (gV q1417 q1418 q1419 q50 q1420) rfl rfl rfl (by decide +kernel) ⟨Nat.le_of_ble_eq_true rfl, Nat.le_of_ble_eq_true rfl⟩) (va_recv hK hP (ci := 8) (q0 := 42) rfl rfl) hE hP hD hS hA rfl hl.1 rfl (lv_room (Nat.le_of_ble_eq_true rfl)) dL_law_634 ⟨by show _ ≤ 603072; omega, by show _ ≤ 7198826; omega⟩ (fun H locs hP hD hS => ?_)
  refine lv_iload hx hb dL_law_637 (lv_at hl 1 rfl) ?_
  refine lv_icmp_eq (tgt := 644) hx hb dL_law_639 (by decide) (fun c20 => ?_) (fun c20 => ?_)
  · have hf := br_pos c20 hf
    refine lv_iload hx hb dL_law_644 (lv_at hl 1 rfl) ?_
    refine lv_if_ne (tgt := 661) hx hb dL_law_646 (by decide) (fun c21 => ?_) (fun c21 => ?_)
    · have hf := br_neg c21 hf
      refine lv_goto (tgt := 2434) hx hb dL_law_661 (by decide) ?_
      cases hf
      refine W.widen (k := cN + 1100) (n := sN + 13000) (by omega) (by omega) ?_
      exact kk _ _ _ hP hD hS (lv_sub hl [2, 3, 4, 5, 6, 7] rfl)
    · have hf := br_pos c21 hf
      refine lv_aload_n hx hb dL_law_649 rfl (lv_at hl 5 rfl) ?_
      refine lv_iconst (v := 0) hx hb dL_law_650 (by decide) ?_
      refine va_lald (D := D) hx hb hK hP 40 5 rfl rfl (by unfold vp_in; decide) dL_law_651 ?_
      refine lv_iload hx hb dL_law_652 (lv_at hl 0 rfl) ?_
      refine lv_i2l hx hb dL_law_654 rfl ?_
      refine W.lcmp hx hb dL_law_655 ?_
      refine lv_if_eq (tgt := 661) hx hb dL_law_656 (by decide) (fun c22 => ?_) (fun c22 => ?_)
      · have hf := br_pos c22 hf
        refine lv_goto (tgt := 2434) hx hb dL_law_661 (by decide) ?_
        cases hf
        refine W.widen (k := cN + 1100) (n := sN + 13000) (by omega) (by omega) ?_
        exact kk _ _ _ hP hD hS (lv_sub hl [2, 3, 4, 5, 6, 7] rfl)
      · have hf := br_neg c22 hf
        refine lv_iconst (v := 0) hx hb dL_law_659 (by decide) ?_
        cases hf
  · have hf := br_neg c20 hf
    refine lv_iconst (v := 0) hx hb dL_law_642 (by decide) ?_
    cases hf
def f_case8 (p1 : Int32) (p2 : Int32) (nF : Int32) (nL : Nat → Int32) (nC : Nat → Int32) (nU : Nat → Int32) (nE : Int32) (cK : Nat → Int32) (oL : Nat → Int64) (mfiles : Int32) (mlinks : Nat → Int32) (mblocks : Nat → Int32) (mentr : Int32) (mkinds : Nat → Int32) : Option ((Nat → Int32) × (Nat → Int32) × Int32 × (Nat → Int32) × (Nat → Int64) × Int32 × (Nat → Int32) × Int32 × (Nat → Int32)) :=
  (f_L_punch p1 p2 nF nL nC nU nE cK oL).bind fun (r1, nC_2, nU_3, nE_4, cK_5, oL_6) =>
  (f_M_punch p1 p2 mfiles mlinks mblocks mentr mkinds).bind fun (r8, mcode_9, mblocks_10, mentr_11, mkinds_12) =>
  (f_M_thrown mcode_9).bind fun r14 =>
  if r14 = r1 then
    if r1 = 0 then
      if (lg_cmp (oL_6 (0 : Int32).toNatClampNeg) ((r8).toInt64)) = 0 then
        some (nC_2, nU_3, nE_4, cK_5, oL_6, mcode_9, mblocks_10, mentr_11, mkinds_12)
      else
        none
    else
      some (nC_2, nU_3, nE_4, cK_5, oL_6, mcode_9, mblocks_10, mentr_11, mkinds_12)
  else
    none
set_option maxHeartbeats 4000000 in
set_option maxRecDepth 100000 in
theorem l_case8 {p : Program} {l : Launch} {e : Env} {s : State} {m : MethodId} {below : List Frame} {meth : Method} {c : Code} {Q : State → Prop} {D : va_G} {A : Nat → Prop} {b L : Nat} {xs : Nat → Int32} (ca : Nat → ClassId) (hst : l.stackTraces = false) (hx : p.tables.exec = Jvm.exec) (hb : c.code = code) (hml : c.maxLocals = 9) (hown : s.vm.findClass RL = some m.cls) (hts : ∀ w ∈ WW, w.before #[Value.ref b] s = true) (hE : EE D ca SL0 s) (hA : ∀ q, s.heap.size ≤ q → A q) (hZ : ZZ A s s.heap) (hNC : NCE s) (hX : va_X b L xs s s.heap) (hbl : b < s.heap.size) (hbA : ¬ A b) (ad am : Nat → Nat) (bq oa od lq : Nat) (nF : Int32) (nO : Nat → Int32) (nL : Nat → Int32) (nA : Nat → Int32) (nC : Nat → Int32) (nV : Nat → Int32) (nU : Nat → Int32) (nP : Nat → Int32) (nE : Int32) (bF : Int32) (bO : Nat → Int32) (bL : Nat → Int32) (bA : Nat → Int32) (bC : Nat → Int32) (bV : Nat → Int32) (bU : Nat → Int32) (bP : Nat → Int32) (bE : Int32) (cT : Int32) (cK : Nat → Int32) (cO : Int32) (cQ : Nat → Int32) (cD : Int32) (pT : Int32) (pK : Int32) (pR : Nat → Int32) (pW : Nat → Int32) (pU : Nat → Int32) (pI : Nat → Int32) (pC : Nat → Nat → Int32) (uO : Int32) (uF : Nat → Int32) (uE : Nat → Int32) (uN : Nat → Int32) (wK : Nat → Int32) (jM : Int32) (jN : Int32) (jZ : Nat) (jB : Nat → Int32) (oL : Nat → Int64) (oD : Nat → UInt64) (mcode : Int32) (mday : Int32) (mown : Int32) (mquot : Nat → Int32) (mprom : Nat → Int32) (mfiles : Int32) (mowner : Nat → Int32) (mlinks : Nat → Int32) (mblocks : Nat → Int32) (mvals : Nat → Int32) (msnaps : Int32) (mranks : Nat → Int32) (mkept : Nat → Int32) (mshot : Nat → Int32) (mwas : Nat → Int32) (mholds : Int32) (mheld : Nat → Int32) (mends : Nat → Int32) (mopen : Nat → Int32) (mentr : Int32) (mkinds : Nat → Int32) (misop : Int32) (mfilesT : Int32) (mentrT : Int32) (mpromT : Nat → Int32) (mlinksT : Nat → Int32) (mblocksT : Nat → Int32) (mvalsT : Nat → Int32) (R : va_W) (x5 : Int32) (hi1 : vp_in (x5 + 1) L) (hi2 : vp_in (x5 + 2) L) (hi3 : vp_in (x5 + 3) L) (cN sN : Nat) (hcN : cN + 1100 ≤ 603072) (hsN : sN + 13000 ≤ 7198826) (onC : Nat → Int32) (onU : Nat → Int32) (onE : Int32) (ocK : Nat → Int32) (ooL : Nat → Int64) (omcode : Int32) (omblocks : Nat → Int32) (omentr : Int32) (omkinds : Nat → Int32) (hf : f_case8 (xs (x5 + 1).toNatClampNeg) (xs (x5 + 2).toNatClampNeg) nF nL nC nU nE cK oL mfiles mlinks mblocks mentr mkinds = some (onC, onU, onE, ocK, ooL, omcode, omblocks, omentr, omkinds)) {H : Heap} {locs : List Loc} {ls : Array Slot} (hP : va_P D vwCl (WC ca ad bq nF nO nL nA nC nV nU nP nE bF bO bL bA bC bV bU bP bE cT cK cO cQ cD pT pK pR pW pU pI pC uO uF uE uN wK jM jN jZ jB ++ (WO ca oa od oL oD ++ (WM ca am lq mcode mday mown mquot mprom mfiles mowner mlinks mblocks mvals msnaps mranks mkept mshot mwas mholds mheld mends mopen mentr mkinds misop mfilesT mentrT mpromT mlinksT mblocksT mvalsT ++ R))) H) (hD : va_D A (WC ca ad bq nF nO nL nA nC nV nU nP nE bF bO bL bA bC bV bU bP bE cT cK cO cQ cD pT pK pR pW pU pI pC uO uF uE uN wK jM jN jZ jB ++ (WO ca oa od oL oD ++ (WM ca am lq mcode mday mown mquot mprom mfiles mowner mlinks mblocks mvals msnaps mranks mkept mshot mwas mholds mheld mends mopen mentr mkinds misop mfilesT mentrT mpromT mlinksT mblocksT mvalsT ++ R)))) (hS : va_S A s.heap H locs) (hl : lv_has ls 9 [(0, .ref b), (1, .ref (ad 0)), (2, .ref (am 0)), (3, .ref oa), (4, .ref od), (5, .int x5)]) (kk : ∀ (H : Heap) (locs : List Loc) (ls : Array Slot), va_P D vwCl (WC ca ad bq nF nO nL nA onC nV onU nP onE bF bO bL bA bC bV bU bP bE cT ocK cO cQ cD pT pK pR pW pU pI pC uO uF uE uN wK jM jN jZ jB ++ (WO ca oa od ooL oD ++ (WM ca am lq omcode mday mown mquot mprom mfiles mowner mlinks omblocks mvals msnaps mranks mkept mshot mwas mholds mheld mends mopen omentr omkinds misop mfilesT mentrT mpromT mlinksT mblocksT mvalsT ++ R))) H → va_D A (WC ca ad bq nF nO nL nA onC nV onU nP onE bF bO bL bA bC bV bU bP bE cT ocK cO cQ cD pT pK pR pW pU pI pC uO uF uE uN wK jM jN jZ jB ++ (WO ca oa od ooL oD ++ (WM ca am lq omcode mday mown mquot mprom mfiles mowner mlinks omblocks mvals msnaps mranks mkept mshot mwas mholds mheld mends mopen omentr omkinds misop mfilesT mentrT mpromT mlinksT mblocksT mvalsT ++ R))) → va_S A s.heap H locs → lv_has ls 9 [(0, .ref b), (1, .ref (ad 0)), (2, .ref (am 0)), (3, .ref oa), (4, .ref od), (5, .int x5)] → W p l e room_1 s m #[Value.ref b] below meth c H locs (cN + 1100) (sN + 13000) Q (F0 m 2434 ls [])) : W p l e room_1 s m #[Value.ref b] below meth c H locs cN sN Q (F0 m 664 ls []) := by
  have hK := hE.1
  unfold f_case8 at hf
  change W p l e room_1 s m #[Value.ref b] below meth c H locs (cN + 0) (sN + 0) Q (F0 m 664 ls [])
  refine lv_aload_n hx hb dL_law_664 rfl (lv_at hl 1 rfl) ?_
  refine lv_aload_n hx hb dL_law_665 rfl (lv_at hl 0 rfl) ?_
  refine lv_iload hx hb dL_law_666 (lv_at hl 5 rfl) ?_
  refine lv_iconst (v := 1) hx hb dL_law_668 (by decide) ?_
  refine lv_iadd hx hb dL_law_669 ?_
  refine va_sld hx hb hX hbl hbA hS hi1 dL_law_670 ?_
  refine lv_aload_n hx hb dL_law_671 rfl (lv_at hl 0 rfl) ?_
  refine lv_iload hx hb dL_law_672 (lv_at hl 5 rfl) ?_
  refine lv_iconst (v := 2) hx hb dL_law_674 (by decide) ?_
  refine lv_iadd hx hb dL_law_675 ?_
  refine va_sld hx hb hX hbl hbA hS hi2 dL_law_676 ?_
  refine lv_aload_n hx hb dL_law_677 rfl (lv_at hl 3 rfl) ?_
  obtain ⟨⟨r1, nC_2, nU_3, nE_4, cK_5, oL_6⟩, h7, hf⟩ := bnd hf
  refine cl_wi (rest := []) (m_L_punch l hst ca ad bq oa od nF nO nL nA nC nV nU nP nE bF bO bL bA bC bV bU bP bE cT cK cO cQ cD pT pK pR pW pU pI pC uO uF uE uN wK jM jN jZ jB oL oD (WM ca am lq mcode mday mown mquot mprom mfiles mowner mlinks mblocks mvals msnaps mranks mkept mshot mwas mholds mheld mends mopen mentr mkinds misop mfilesT mentrT mpromT mlinksT mblocksT mvalsT ++ R) _ (xs (x5 + 1).toNatClampNeg) (xs (x5 + 2).toNatClampNeg) r1 nC_2 nU_3 nE_4 cK_5 oL_6 h7) ⟨hx, hb, hml, hown, hts⟩ (vx_cwSW 4 hts (gSW q670 q671 q40 q672) rfl rfl rfl (by decide +kernel) ⟨Nat.le_of_ble_eq_true rfl, Nat.le_of_ble_eq_true rfl⟩) hE hP hD hS hA hZ hNC rfl hl.1 rfl (lv_room (Nat.le_of_ble_eq_true rfl)) dL_law_678 ⟨by show _ ≤ 603072; omega, by show _ ≤ 7198826; omega⟩ (fun H locs hP hD hS => ?_)
  refine lv_istore (lv' := [(6, .int r1), (0, .ref b), (1, .ref (ad 0)), (2, .ref (am 0)), (3, .ref oa), (4, .ref od), (5, .int x5)]) hx hb dL_law_681 hl (by decide) rfl (fun ls hl => ?_)
  refine lv_aload_n hx hb dL_law_683 rfl (lv_at hl 3 rfl) ?_
  refine lv_aload_n hx hb dL_law_684 rfl (lv_at hl 1 rfl) ?_
  refine lv_iload hx hb dL_law_685 (lv_at hl 6 rfl) ?_
  refine lv_iconst (v := 1) hx hb dL_law_687 (by decide) ?_
  refine lv_iadd hx hb dL_law_688 ?_
  refine va_sld hx hb hX hbl hbA hS hi1 dL_law_689 ?_
  refine lv_aload_n hx hb dL_law_690 rfl (lv_at hl 1 rfl) ?_
  refine lv_iload hx hb dL_law_691 (lv_at hl 6 rfl) ?_
  refine lv_iconst (v := 2) hx hb dL_law_693 (by decide) ?_
  refine lv_iadd hx hb dL_law_694 ?_
  refine va_sld hx hb hX hbl hbA hS hi2 dL_law_695 ?_
  obtain ⟨⟨r8, mcode_9, mblocks_10, mentr_11, mkinds_12⟩, h13, hf⟩ := bnd hf
  refine cm_i (rest := []) (m_M_punch l ca am lq mcode mday mown mquot mprom mfiles mowner mlinks mblocks mvals msnaps mranks mkept mshot mwas mholds mheld mends mopen mentr mkinds misop mfilesT mentrT mpromT mlinksT mblocksT mvalsT (WC ca ad bq nF nO nL nA nC_2 nV nU_3 nP nE_4 bF bO bL bA bC bV bU bP bE cT cK_5 cO cQ cD pT pK pR pW pU pI pC uO uF uE uN wK jM jN jZ jB ++ (WO ca oa od oL_6 oD ++ R)) _ (xs (x5 + 1).toNatClampNeg) (xs (x5 + 2).toNatClampNeg) r8 mcode_9 mblocks_10 mentr_11 mkinds_12 h13) ⟨hx, hb, hml, hown, hts⟩ (cwV 2 hts (gV q1511 q1512 q1513 q50 q1514) rfl rfl rfl (by decide +kernel) ⟨Nat.le_of_ble_eq_true rfl, Nat.le_of_ble_eq_true rfl⟩) (va_recv hK hP (ci := 8) (q0 := 42) rfl rfl) hE hP hD hS hA rfl hl.1 rfl (lv_room (Nat.le_of_ble_eq_true rfl)) dL_law_696 ⟨by show _ ≤ 603072; omega, by show _ ≤ 7198826; omega⟩ (fun H locs hP hD hS => ?_)
  refine lv_istore (lv' := [(7, .int r8), (6, .int r1), (0, .ref b), (1, .ref (ad 0)), (2, .ref (am 0)), (3, .ref oa), (4, .ref od), (5, .int x5)]) hx hb dL_law_699 hl (by decide) rfl (fun ls hl => ?_)
  refine lv_aload_n hx hb dL_law_701 rfl (lv_at hl 4 rfl) ?_
  obtain ⟨r14, h15, hf⟩ := bnd hf
  refine cm_i (rest := []) (m_M_thrown l ca am lq mcode_9 mday mown mquot mprom mfiles mowner mlinks mblocks_10 mvals msnaps mranks mkept mshot mwas mholds mheld mends mopen mentr_11 mkinds_12 misop mfilesT mentrT mpromT mlinksT mblocksT mvalsT (WC ca ad bq nF nO nL nA nC_2 nV nU_3 nP nE_4 bF bO bL bA bC bV bU bP bE cT cK_5 cO cQ cD pT pK pR pW pU pI pC uO uF uE uN wK jM jN jZ jB ++ (WO ca oa od oL_6 oD ++ R)) _ r14 h15) ⟨hx, hb, hml, hown, hts⟩ (cwV 0 hts (gV q1417 q1418 q1419 q50 q1420) rfl rfl rfl (by decide +kernel) ⟨Nat.le_of_ble_eq_true rfl, Nat.le_of_ble_eq_true rfl⟩) (va_recv hK hP (ci := 8) (q0 := 42) rfl rfl) hE hP hD hS hA rfl hl.1 rfl (lv_room (Nat.le_of_ble_eq_true rfl)) dL_law_702 ⟨by show _ ≤ 603072; omega, by show _ ≤ 7198826; omega⟩ (fun H locs hP hD hS => ?_)
  refine lv_iload hx hb dL_law_705 (lv_at hl 1 rfl) ?_
  refine lv_icmp_eq (tgt := 712) hx hb dL_law_707 (by decide) (fun c16 => ?_) (fun c16 => ?_)
  · have hf := br_pos c16 hf
    refine lv_iload hx hb dL_law_712 (lv_at hl 1 rfl) ?_
    refine lv_if_ne (tgt := 729) hx hb dL_law_714 (by decide) (fun c17 => ?_) (fun c17 => ?_)
    · have hf := br_neg c17 hf
      refine lv_goto (tgt := 2434) hx hb dL_law_729 (by decide) ?_
      cases hf
      refine W.widen (k := cN + 1100) (n := sN + 13000) (by omega) (by omega) ?_
      exact kk _ _ _ hP hD hS (lv_sub hl [2, 3, 4, 5, 6, 7] rfl)
    · have hf := br_pos c17 hf
      refine lv_aload_n hx hb dL_law_717 rfl (lv_at hl 5 rfl) ?_
      refine lv_iconst (v := 0) hx hb dL_law_718 (by decide) ?_
      refine va_lald (D := D) hx hb hK hP 40 5 rfl rfl (by unfold vp_in; decide) dL_law_719 ?_
      refine lv_iload hx hb dL_law_720 (lv_at hl 0 rfl) ?_
      refine lv_i2l hx hb dL_law_722 rfl ?_
      refine W.lcmp hx hb dL_law_723 ?_
      refine lv_if_eq (tgt := 729) hx hb dL_law_724 (by decide) (fun c18 => ?_) (fun c18 => ?_)
      · have hf := br_pos c18 hf
        refine lv_goto (tgt := 2434) hx hb dL_law_729 (by decide) ?_
        cases hf
        refine W.widen (k := cN + 1100) (n := sN + 13000) (by omega) (by omega) ?_
        exact kk _ _ _ hP hD hS (lv_sub hl [2, 3, 4, 5, 6, 7] rfl)
      · have hf := br_neg c18 hf
        refine lv_iconst (v := 0) hx hb dL_law_727 (by decide) ?_
        cases hf
  · have hf := br_neg c16 hf
    refine lv_iconst (v := 0) hx hb dL_law_710 (by decide) ?_
    cases hf
def f_case9 (p1 : Int32) (p2 : Int32) (nF : Int32) (nC : Nat → Int32) (nV : Nat → Int32) (oL : Nat → Int64) (mfiles : Int32) (mblocks : Nat → Int32) (mvals : Nat → Int32) : Option ((Nat → Int64) × Int32) :=
  (f_L_read p1 p2 nF nC nV oL).bind fun (r1, oL_2) =>
  (f_M_read p1 p2 mfiles mblocks mvals).bind fun (r4, mcode_5) =>
  (f_M_thrown mcode_5).bind fun r7 =>
  if r7 = r1 then
    if r1 = 0 then
      if (lg_cmp (oL_2 (0 : Int32).toNatClampNeg) ((r4).toInt64)) = 0 then
        some (oL_2, mcode_5)
      else
        none
    else
      some (oL_2, mcode_5)
  else
    none
set_option maxHeartbeats 4000000 in
set_option maxRecDepth 100000 in
theorem l_case9 {p : Program} {l : Launch} {e : Env} {s : State} {m : MethodId} {below : List Frame} {meth : Method} {c : Code} {Q : State → Prop} {D : va_G} {A : Nat → Prop} {b L : Nat} {xs : Nat → Int32} (ca : Nat → ClassId) (hst : l.stackTraces = false) (hx : p.tables.exec = Jvm.exec) (hb : c.code = code) (hml : c.maxLocals = 9) (hown : s.vm.findClass RL = some m.cls) (hts : ∀ w ∈ WW, w.before #[Value.ref b] s = true) (hE : EE D ca SL0 s) (hA : ∀ q, s.heap.size ≤ q → A q) (hZ : ZZ A s s.heap) (hNC : NCE s) (hX : va_X b L xs s s.heap) (hbl : b < s.heap.size) (hbA : ¬ A b) (ad am : Nat → Nat) (bq oa od lq : Nat) (nF : Int32) (nO : Nat → Int32) (nL : Nat → Int32) (nA : Nat → Int32) (nC : Nat → Int32) (nV : Nat → Int32) (nU : Nat → Int32) (nP : Nat → Int32) (nE : Int32) (bF : Int32) (bO : Nat → Int32) (bL : Nat → Int32) (bA : Nat → Int32) (bC : Nat → Int32) (bV : Nat → Int32) (bU : Nat → Int32) (bP : Nat → Int32) (bE : Int32) (cT : Int32) (cK : Nat → Int32) (cO : Int32) (cQ : Nat → Int32) (cD : Int32) (pT : Int32) (pK : Int32) (pR : Nat → Int32) (pW : Nat → Int32) (pU : Nat → Int32) (pI : Nat → Int32) (pC : Nat → Nat → Int32) (uO : Int32) (uF : Nat → Int32) (uE : Nat → Int32) (uN : Nat → Int32) (wK : Nat → Int32) (jM : Int32) (jN : Int32) (jZ : Nat) (jB : Nat → Int32) (oL : Nat → Int64) (oD : Nat → UInt64) (mcode : Int32) (mday : Int32) (mown : Int32) (mquot : Nat → Int32) (mprom : Nat → Int32) (mfiles : Int32) (mowner : Nat → Int32) (mlinks : Nat → Int32) (mblocks : Nat → Int32) (mvals : Nat → Int32) (msnaps : Int32) (mranks : Nat → Int32) (mkept : Nat → Int32) (mshot : Nat → Int32) (mwas : Nat → Int32) (mholds : Int32) (mheld : Nat → Int32) (mends : Nat → Int32) (mopen : Nat → Int32) (mentr : Int32) (mkinds : Nat → Int32) (misop : Int32) (mfilesT : Int32) (mentrT : Int32) (mpromT : Nat → Int32) (mlinksT : Nat → Int32) (mblocksT : Nat → Int32) (mvalsT : Nat → Int32) (R : va_W) (x5 : Int32) (hi1 : vp_in (x5 + 1) L) (hi2 : vp_in (x5 + 2) L) (hi3 : vp_in (x5 + 3) L) (cN sN : Nat) (hcN : cN + 1100 ≤ 603072) (hsN : sN + 13000 ≤ 7198826) (ooL : Nat → Int64) (omcode : Int32) (hf : f_case9 (xs (x5 + 1).toNatClampNeg) (xs (x5 + 2).toNatClampNeg) nF nC nV oL mfiles mblocks mvals = some (ooL, omcode)) {H : Heap} {locs : List Loc} {ls : Array Slot} (hP : va_P D vwCl (WC ca ad bq nF nO nL nA nC nV nU nP nE bF bO bL bA bC bV bU bP bE cT cK cO cQ cD pT pK pR pW pU pI pC uO uF uE uN wK jM jN jZ jB ++ (WO ca oa od oL oD ++ (WM ca am lq mcode mday mown mquot mprom mfiles mowner mlinks mblocks mvals msnaps mranks mkept mshot mwas mholds mheld mends mopen mentr mkinds misop mfilesT mentrT mpromT mlinksT mblocksT mvalsT ++ R))) H) (hD : va_D A (WC ca ad bq nF nO nL nA nC nV nU nP nE bF bO bL bA bC bV bU bP bE cT cK cO cQ cD pT pK pR pW pU pI pC uO uF uE uN wK jM jN jZ jB ++ (WO ca oa od oL oD ++ (WM ca am lq mcode mday mown mquot mprom mfiles mowner mlinks mblocks mvals msnaps mranks mkept mshot mwas mholds mheld mends mopen mentr mkinds misop mfilesT mentrT mpromT mlinksT mblocksT mvalsT ++ R)))) (hS : va_S A s.heap H locs) (hl : lv_has ls 9 [(0, .ref b), (1, .ref (ad 0)), (2, .ref (am 0)), (3, .ref oa), (4, .ref od), (5, .int x5)]) (kk : ∀ (H : Heap) (locs : List Loc) (ls : Array Slot), va_P D vwCl (WC ca ad bq nF nO nL nA nC nV nU nP nE bF bO bL bA bC bV bU bP bE cT cK cO cQ cD pT pK pR pW pU pI pC uO uF uE uN wK jM jN jZ jB ++ (WO ca oa od ooL oD ++ (WM ca am lq omcode mday mown mquot mprom mfiles mowner mlinks mblocks mvals msnaps mranks mkept mshot mwas mholds mheld mends mopen mentr mkinds misop mfilesT mentrT mpromT mlinksT mblocksT mvalsT ++ R))) H → va_D A (WC ca ad bq nF nO nL nA nC nV nU nP nE bF bO bL bA bC bV bU bP bE cT cK cO cQ cD pT pK pR pW pU pI pC uO uF uE uN wK jM jN jZ jB ++ (WO ca oa od ooL oD ++ (WM ca am lq omcode mday mown mquot mprom mfiles mowner mlinks mblocks mvals msnaps mranks mkept mshot mwas mholds mheld mends mopen mentr mkinds misop mfilesT mentrT mpromT mlinksT mblocksT mvalsT ++ R))) → va_S A s.heap H locs → lv_has ls 9 [(0, .ref b), (1, .ref (ad 0)), (2, .ref (am 0)), (3, .ref oa), (4, .ref od), (5, .int x5)] → W p l e room_1 s m #[Value.ref b] below meth c H locs (cN + 1100) (sN + 13000) Q (F0 m 2434 ls [])) : W p l e room_1 s m #[Value.ref b] below meth c H locs cN sN Q (F0 m 732 ls []) := by
  have hK := hE.1
  unfold f_case9 at hf
  change W p l e room_1 s m #[Value.ref b] below meth c H locs (cN + 0) (sN + 0) Q (F0 m 732 ls [])
  refine lv_aload_n hx hb dL_law_732 rfl (lv_at hl 1 rfl) ?_
  refine lv_aload_n hx hb dL_law_733 rfl (lv_at hl 0 rfl) ?_
  refine lv_iload hx hb dL_law_734 (lv_at hl 5 rfl) ?_
  refine lv_iconst (v := 1) hx hb dL_law_736 (by decide) ?_
  refine lv_iadd hx hb dL_law_737 ?_
  refine va_sld hx hb hX hbl hbA hS hi1 dL_law_738 ?_
  refine lv_aload_n hx hb dL_law_739 rfl (lv_at hl 0 rfl) ?_
  refine lv_iload hx hb dL_law_740 (lv_at hl 5 rfl) ?_
  refine lv_iconst (v := 2) hx hb dL_law_742 (by decide) ?_
  refine lv_iadd hx hb dL_law_743 ?_
  refine va_sld hx hb hX hbl hbA hS hi2 dL_law_744 ?_
  refine lv_aload_n hx hb dL_law_745 rfl (lv_at hl 3 rfl) ?_
  obtain ⟨⟨r1, oL_2⟩, h3, hf⟩ := bnd hf
  refine cl_wi (rest := []) (m_L_read l hst ca ad bq oa od nF nO nL nA nC nV nU nP nE bF bO bL bA bC bV bU bP bE cT cK cO cQ cD pT pK pR pW pU pI pC uO uF uE uN wK jM jN jZ jB oL oD (WM ca am lq mcode mday mown mquot mprom mfiles mowner mlinks mblocks mvals msnaps mranks mkept mshot mwas mholds mheld mends mopen mentr mkinds misop mfilesT mentrT mpromT mlinksT mblocksT mvalsT ++ R) _ (xs (x5 + 1).toNatClampNeg) (xs (x5 + 2).toNatClampNeg) r1 oL_2 h3) ⟨hx, hb, hml, hown, hts⟩ (vx_cwSW 4 hts (gSW q678 q679 q40 q680) rfl rfl rfl (by decide +kernel) ⟨Nat.le_of_ble_eq_true rfl, Nat.le_of_ble_eq_true rfl⟩) hE hP hD hS hA hZ hNC rfl hl.1 rfl (lv_room (Nat.le_of_ble_eq_true rfl)) dL_law_746 ⟨by show _ ≤ 603072; omega, by show _ ≤ 7198826; omega⟩ (fun H locs hP hD hS => ?_)
  refine lv_istore (lv' := [(6, .int r1), (0, .ref b), (1, .ref (ad 0)), (2, .ref (am 0)), (3, .ref oa), (4, .ref od), (5, .int x5)]) hx hb dL_law_749 hl (by decide) rfl (fun ls hl => ?_)
  refine lv_aload_n hx hb dL_law_751 rfl (lv_at hl 3 rfl) ?_
  refine lv_aload_n hx hb dL_law_752 rfl (lv_at hl 1 rfl) ?_
  refine lv_iload hx hb dL_law_753 (lv_at hl 6 rfl) ?_
  refine lv_iconst (v := 1) hx hb dL_law_755 (by decide) ?_
  refine lv_iadd hx hb dL_law_756 ?_
  refine va_sld hx hb hX hbl hbA hS hi1 dL_law_757 ?_
  refine lv_aload_n hx hb dL_law_758 rfl (lv_at hl 1 rfl) ?_
  refine lv_iload hx hb dL_law_759 (lv_at hl 6 rfl) ?_
  refine lv_iconst (v := 2) hx hb dL_law_761 (by decide) ?_
  refine lv_iadd hx hb dL_law_762 ?_
  refine va_sld hx hb hX hbl hbA hS hi2 dL_law_763 ?_
  obtain ⟨⟨r4, mcode_5⟩, h6, hf⟩ := bnd hf
  refine cm_i (rest := []) (m_M_read l ca am lq mcode mday mown mquot mprom mfiles mowner mlinks mblocks mvals msnaps mranks mkept mshot mwas mholds mheld mends mopen mentr mkinds misop mfilesT mentrT mpromT mlinksT mblocksT mvalsT (WC ca ad bq nF nO nL nA nC nV nU nP nE bF bO bL bA bC bV bU bP bE cT cK cO cQ cD pT pK pR pW pU pI pC uO uF uE uN wK jM jN jZ jB ++ (WO ca oa od oL_2 oD ++ R)) _ (xs (x5 + 1).toNatClampNeg) (xs (x5 + 2).toNatClampNeg) r4 mcode_5 h6) ⟨hx, hb, hml, hown, hts⟩ (cwV 2 hts (gV q1515 q1516 q1517 q50 q1518) rfl rfl rfl (by decide +kernel) ⟨Nat.le_of_ble_eq_true rfl, Nat.le_of_ble_eq_true rfl⟩) (va_recv hK hP (ci := 8) (q0 := 42) rfl rfl) hE hP hD hS hA rfl hl.1 rfl (lv_room (Nat.le_of_ble_eq_true rfl)) dL_law_764 ⟨by show _ ≤ 603072; omega, by show _ ≤ 7198826; omega⟩ (fun H locs hP hD hS => ?_)
  refine lv_istore (lv' := [(7, .int r4), (6, .int r1), (0, .ref b), (1, .ref (ad 0)), (2, .ref (am 0)), (3, .ref oa), (4, .ref od), (5, .int x5)]) hx hb dL_law_767 hl (by decide) rfl (fun ls hl => ?_)
  refine lv_aload_n hx hb dL_law_769 rfl (lv_at hl 4 rfl) ?_
  obtain ⟨r7, h8, hf⟩ := bnd hf
  refine cm_i (rest := []) (m_M_thrown l ca am lq mcode_5 mday mown mquot mprom mfiles mowner mlinks mblocks mvals msnaps mranks mkept mshot mwas mholds mheld mends mopen mentr mkinds misop mfilesT mentrT mpromT mlinksT mblocksT mvalsT (WC ca ad bq nF nO nL nA nC nV nU nP nE bF bO bL bA bC bV bU bP bE cT cK cO cQ cD pT pK pR pW pU pI pC uO uF uE uN wK jM jN jZ jB ++ (WO ca oa od oL_2 oD ++ R)) _ r7 h8) ⟨hx, hb, hml, hown, hts⟩ (cwV 0 hts (gV q1417 q1418 q1419 q50 q1420) rfl rfl rfl (by decide +kernel) ⟨Nat.le_of_ble_eq_true rfl, Nat.le_of_ble_eq_true rfl⟩) (va_recv hK hP (ci := 8) (q0 := 42) rfl rfl) hE hP hD hS hA rfl hl.1 rfl (lv_room (Nat.le_of_ble_eq_true rfl)) dL_law_770 ⟨by show _ ≤ 603072; omega, by show _ ≤ 7198826; omega⟩ (fun H locs hP hD hS => ?_)
  refine lv_iload hx hb dL_law_773 (lv_at hl 1 rfl) ?_
  refine lv_icmp_eq (tgt := 780) hx hb dL_law_775 (by decide) (fun c9 => ?_) (fun c9 => ?_)
  · have hf := br_pos c9 hf
    refine lv_iload hx hb dL_law_780 (lv_at hl 1 rfl) ?_
    refine lv_if_ne (tgt := 797) hx hb dL_law_782 (by decide) (fun c10 => ?_) (fun c10 => ?_)
    · have hf := br_neg c10 hf
      refine lv_goto (tgt := 2434) hx hb dL_law_797 (by decide) ?_
      cases hf
      refine W.widen (k := cN + 1100) (n := sN + 13000) (by omega) (by omega) ?_
      exact kk _ _ _ hP hD hS (lv_sub hl [2, 3, 4, 5, 6, 7] rfl)
    · have hf := br_pos c10 hf
      refine lv_aload_n hx hb dL_law_785 rfl (lv_at hl 5 rfl) ?_
      refine lv_iconst (v := 0) hx hb dL_law_786 (by decide) ?_
      refine va_lald (D := D) hx hb hK hP 40 5 rfl rfl (by unfold vp_in; decide) dL_law_787 ?_
      refine lv_iload hx hb dL_law_788 (lv_at hl 0 rfl) ?_
      refine lv_i2l hx hb dL_law_790 rfl ?_
      refine W.lcmp hx hb dL_law_791 ?_
      refine lv_if_eq (tgt := 797) hx hb dL_law_792 (by decide) (fun c11 => ?_) (fun c11 => ?_)
      · have hf := br_pos c11 hf
        refine lv_goto (tgt := 2434) hx hb dL_law_797 (by decide) ?_
        cases hf
        refine W.widen (k := cN + 1100) (n := sN + 13000) (by omega) (by omega) ?_
        exact kk _ _ _ hP hD hS (lv_sub hl [2, 3, 4, 5, 6, 7] rfl)
      · have hf := br_neg c11 hf
        refine lv_iconst (v := 0) hx hb dL_law_795 (by decide) ?_
        cases hf
  · have hf := br_neg c9 hf
    refine lv_iconst (v := 0) hx hb dL_law_778 (by decide) ?_
    cases hf
def f_case10 (p1 : Int32) (p2 : Int32) (nF : Int32) (nC : Nat → Int32) (oL : Nat → Int64) (mfiles : Int32) (mblocks : Nat → Int32) : Option ((Nat → Int64) × Int32) :=
  (f_L_blockAt p1 p2 nF nC oL).bind fun (r1, oL_2) =>
  (f_M_blockAt p1 p2 mfiles mblocks).bind fun (r4, mcode_5) =>
  (f_M_thrown mcode_5).bind fun r7 =>
  if r7 = r1 then
    if r1 = 0 then
      if (lg_cmp (oL_2 (0 : Int32).toNatClampNeg) ((r4).toInt64)) = 0 then
        some (oL_2, mcode_5)
      else
        none
    else
      some (oL_2, mcode_5)
  else
    none
set_option maxHeartbeats 4000000 in
set_option maxRecDepth 100000 in
theorem l_case10 {p : Program} {l : Launch} {e : Env} {s : State} {m : MethodId} {below : List Frame} {meth : Method} {c : Code} {Q : State → Prop} {D : va_G} {A : Nat → Prop} {b L : Nat} {xs : Nat → Int32} (ca : Nat → ClassId) (hst : l.stackTraces = false) (hx : p.tables.exec = Jvm.exec) (hb : c.code = code) (hml : c.maxLocals = 9) (hown : s.vm.findClass RL = some m.cls) (hts : ∀ w ∈ WW, w.before #[Value.ref b] s = true) (hE : EE D ca SL0 s) (hA : ∀ q, s.heap.size ≤ q → A q) (hZ : ZZ A s s.heap) (hNC : NCE s) (hX : va_X b L xs s s.heap) (hbl : b < s.heap.size) (hbA : ¬ A b) (ad am : Nat → Nat) (bq oa od lq : Nat) (nF : Int32) (nO : Nat → Int32) (nL : Nat → Int32) (nA : Nat → Int32) (nC : Nat → Int32) (nV : Nat → Int32) (nU : Nat → Int32) (nP : Nat → Int32) (nE : Int32) (bF : Int32) (bO : Nat → Int32) (bL : Nat → Int32) (bA : Nat → Int32) (bC : Nat → Int32) (bV : Nat → Int32) (bU : Nat → Int32) (bP : Nat → Int32) (bE : Int32) (cT : Int32) (cK : Nat → Int32) (cO : Int32) (cQ : Nat → Int32) (cD : Int32) (pT : Int32) (pK : Int32) (pR : Nat → Int32) (pW : Nat → Int32) (pU : Nat → Int32) (pI : Nat → Int32) (pC : Nat → Nat → Int32) (uO : Int32) (uF : Nat → Int32) (uE : Nat → Int32) (uN : Nat → Int32) (wK : Nat → Int32) (jM : Int32) (jN : Int32) (jZ : Nat) (jB : Nat → Int32) (oL : Nat → Int64) (oD : Nat → UInt64) (mcode : Int32) (mday : Int32) (mown : Int32) (mquot : Nat → Int32) (mprom : Nat → Int32) (mfiles : Int32) (mowner : Nat → Int32) (mlinks : Nat → Int32) (mblocks : Nat → Int32) (mvals : Nat → Int32) (msnaps : Int32) (mranks : Nat → Int32) (mkept : Nat → Int32) (mshot : Nat → Int32) (mwas : Nat → Int32) (mholds : Int32) (mheld : Nat → Int32) (mends : Nat → Int32) (mopen : Nat → Int32) (mentr : Int32) (mkinds : Nat → Int32) (misop : Int32) (mfilesT : Int32) (mentrT : Int32) (mpromT : Nat → Int32) (mlinksT : Nat → Int32) (mblocksT : Nat → Int32) (mvalsT : Nat → Int32) (R : va_W) (x5 : Int32) (hi1 : vp_in (x5 + 1) L) (hi2 : vp_in (x5 + 2) L) (hi3 : vp_in (x5 + 3) L) (cN sN : Nat) (hcN : cN + 1100 ≤ 603072) (hsN : sN + 13000 ≤ 7198826) (ooL : Nat → Int64) (omcode : Int32) (hf : f_case10 (xs (x5 + 1).toNatClampNeg) (xs (x5 + 2).toNatClampNeg) nF nC oL mfiles mblocks = some (ooL, omcode)) {H : Heap} {locs : List Loc} {ls : Array Slot} (hP : va_P D vwCl (WC ca ad bq nF nO nL nA nC nV nU nP nE bF bO bL bA bC bV bU bP bE cT cK cO cQ cD pT pK pR pW pU pI pC uO uF uE uN wK jM jN jZ jB ++ (WO ca oa od oL oD ++ (WM ca am lq mcode mday mown mquot mprom mfiles mowner mlinks mblocks mvals msnaps mranks mkept mshot mwas mholds mheld mends mopen mentr mkinds misop mfilesT mentrT mpromT mlinksT mblocksT mvalsT ++ R))) H) (hD : va_D A (WC ca ad bq nF nO nL nA nC nV nU nP nE bF bO bL bA bC bV bU bP bE cT cK cO cQ cD pT pK pR pW pU pI pC uO uF uE uN wK jM jN jZ jB ++ (WO ca oa od oL oD ++ (WM ca am lq mcode mday mown mquot mprom mfiles mowner mlinks mblocks mvals msnaps mranks mkept mshot mwas mholds mheld mends mopen mentr mkinds misop mfilesT mentrT mpromT mlinksT mblocksT mvalsT ++ R)))) (hS : va_S A s.heap H locs) (hl : lv_has ls 9 [(0, .ref b), (1, .ref (ad 0)), (2, .ref (am 0)), (3, .ref oa), (4, .ref od), (5, .int x5)]) (kk : ∀ (H : Heap) (locs : List Loc) (ls : Array Slot), va_P D vwCl (WC ca ad bq nF nO nL nA nC nV nU nP nE bF bO bL bA bC bV bU bP bE cT cK cO cQ cD pT pK pR pW pU pI pC uO uF uE uN wK jM jN jZ jB ++ (WO ca oa od ooL oD ++ (WM ca am lq omcode mday mown mquot mprom mfiles mowner mlinks mblocks mvals msnaps mranks mkept mshot mwas mholds mheld mends mopen mentr mkinds misop mfilesT mentrT mpromT mlinksT mblocksT mvalsT ++ R))) H → va_D A (WC ca ad bq nF nO nL nA nC nV nU nP nE bF bO bL bA bC bV bU bP bE cT cK cO cQ cD pT pK pR pW pU pI pC uO uF uE uN wK jM jN jZ jB ++ (WO ca oa od ooL oD ++ (WM ca am lq omcode mday mown mquot mprom mfiles mowner mlinks mblocks mvals msnaps mranks mkept mshot mwas mholds mheld mends mopen mentr mkinds misop mfilesT mentrT mpromT mlinksT mblocksT mvalsT ++ R))) → va_S A s.heap H locs → lv_has ls 9 [(0, .ref b), (1, .ref (ad 0)), (2, .ref (am 0)), (3, .ref oa), (4, .ref od), (5, .int x5)] → W p l e room_1 s m #[Value.ref b] below meth c H locs (cN + 1100) (sN + 13000) Q (F0 m 2434 ls [])) : W p l e room_1 s m #[Value.ref b] below meth c H locs cN sN Q (F0 m 800 ls []) := by
  have hK := hE.1
  unfold f_case10 at hf
  change W p l e room_1 s m #[Value.ref b] below meth c H locs (cN + 0) (sN + 0) Q (F0 m 800 ls [])
  refine lv_aload_n hx hb dL_law_800 rfl (lv_at hl 1 rfl) ?_
  refine lv_aload_n hx hb dL_law_801 rfl (lv_at hl 0 rfl) ?_
  refine lv_iload hx hb dL_law_802 (lv_at hl 5 rfl) ?_
  refine lv_iconst (v := 1) hx hb dL_law_804 (by decide) ?_
  refine lv_iadd hx hb dL_law_805 ?_
  refine va_sld hx hb hX hbl hbA hS hi1 dL_law_806 ?_
  refine lv_aload_n hx hb dL_law_807 rfl (lv_at hl 0 rfl) ?_
  refine lv_iload hx hb dL_law_808 (lv_at hl 5 rfl) ?_
  refine lv_iconst (v := 2) hx hb dL_law_810 (by decide) ?_
  refine lv_iadd hx hb dL_law_811 ?_
  refine va_sld hx hb hX hbl hbA hS hi2 dL_law_812 ?_
  refine lv_aload_n hx hb dL_law_813 rfl (lv_at hl 3 rfl) ?_
  obtain ⟨⟨r1, oL_2⟩, h3, hf⟩ := bnd hf
  refine cl_wi (rest := []) (m_L_blockAt l hst ca ad bq oa od nF nO nL nA nC nV nU nP nE bF bO bL bA bC bV bU bP bE cT cK cO cQ cD pT pK pR pW pU pI pC uO uF uE uN wK jM jN jZ jB oL oD (WM ca am lq mcode mday mown mquot mprom mfiles mowner mlinks mblocks mvals msnaps mranks mkept mshot mwas mholds mheld mends mopen mentr mkinds misop mfilesT mentrT mpromT mlinksT mblocksT mvalsT ++ R) _ (xs (x5 + 1).toNatClampNeg) (xs (x5 + 2).toNatClampNeg) r1 oL_2 h3) ⟨hx, hb, hml, hown, hts⟩ (vx_cwSW 4 hts (gSW q710 q711 q40 q712) rfl rfl rfl (by decide +kernel) ⟨Nat.le_of_ble_eq_true rfl, Nat.le_of_ble_eq_true rfl⟩) hE hP hD hS hA hZ hNC rfl hl.1 rfl (lv_room (Nat.le_of_ble_eq_true rfl)) dL_law_814 ⟨by show _ ≤ 603072; omega, by show _ ≤ 7198826; omega⟩ (fun H locs hP hD hS => ?_)
  refine lv_istore (lv' := [(6, .int r1), (0, .ref b), (1, .ref (ad 0)), (2, .ref (am 0)), (3, .ref oa), (4, .ref od), (5, .int x5)]) hx hb dL_law_817 hl (by decide) rfl (fun ls hl => ?_)
  refine lv_aload_n hx hb dL_law_819 rfl (lv_at hl 3 rfl) ?_
  refine lv_aload_n hx hb dL_law_820 rfl (lv_at hl 1 rfl) ?_
  refine lv_iload hx hb dL_law_821 (lv_at hl 6 rfl) ?_
  refine lv_iconst (v := 1) hx hb dL_law_823 (by decide) ?_
  refine lv_iadd hx hb dL_law_824 ?_
  refine va_sld hx hb hX hbl hbA hS hi1 dL_law_825 ?_
  refine lv_aload_n hx hb dL_law_826 rfl (lv_at hl 1 rfl) ?_
  refine lv_iload hx hb dL_law_827 (lv_at hl 6 rfl) ?_
  refine lv_iconst (v := 2) hx hb dL_law_829 (by decide) ?_
  refine lv_iadd hx hb dL_law_830 ?_
  refine va_sld hx hb hX hbl hbA hS hi2 dL_law_831 ?_
  obtain ⟨⟨r4, mcode_5⟩, h6, hf⟩ := bnd hf
  refine cm_i (rest := []) (m_M_blockAt l ca am lq mcode mday mown mquot mprom mfiles mowner mlinks mblocks mvals msnaps mranks mkept mshot mwas mholds mheld mends mopen mentr mkinds misop mfilesT mentrT mpromT mlinksT mblocksT mvalsT (WC ca ad bq nF nO nL nA nC nV nU nP nE bF bO bL bA bC bV bU bP bE cT cK cO cQ cD pT pK pR pW pU pI pC uO uF uE uN wK jM jN jZ jB ++ (WO ca oa od oL_2 oD ++ R)) _ (xs (x5 + 1).toNatClampNeg) (xs (x5 + 2).toNatClampNeg) r4 mcode_5 h6) ⟨hx, hb, hml, hown, hts⟩ (cwV 2 hts (gV q1519 q1520 q1521 q50 q1522) rfl rfl rfl (by decide +kernel) ⟨Nat.le_of_ble_eq_true rfl, Nat.le_of_ble_eq_true rfl⟩) (va_recv hK hP (ci := 8) (q0 := 42) rfl rfl) hE hP hD hS hA rfl hl.1 rfl (lv_room (Nat.le_of_ble_eq_true rfl)) dL_law_832 ⟨by show _ ≤ 603072; omega, by show _ ≤ 7198826; omega⟩ (fun H locs hP hD hS => ?_)
  refine lv_istore (lv' := [(7, .int r4), (6, .int r1), (0, .ref b), (1, .ref (ad 0)), (2, .ref (am 0)), (3, .ref oa), (4, .ref od), (5, .int x5)]) hx hb dL_law_835 hl (by decide) rfl (fun ls hl => ?_)
  refine lv_aload_n hx hb dL_law_837 rfl (lv_at hl 4 rfl) ?_
  obtain ⟨r7, h8, hf⟩ := bnd hf
  refine cm_i (rest := []) (m_M_thrown l ca am lq mcode_5 mday mown mquot mprom mfiles mowner mlinks mblocks mvals msnaps mranks mkept mshot mwas mholds mheld mends mopen mentr mkinds misop mfilesT mentrT mpromT mlinksT mblocksT mvalsT (WC ca ad bq nF nO nL nA nC nV nU nP nE bF bO bL bA bC bV bU bP bE cT cK cO cQ cD pT pK pR pW pU pI pC uO uF uE uN wK jM jN jZ jB ++ (WO ca oa od oL_2 oD ++ R)) _ r7 h8) ⟨hx, hb, hml, hown, hts⟩ (cwV 0 hts (gV q1417 q1418 q1419 q50 q1420) rfl rfl rfl (by decide +kernel) ⟨Nat.le_of_ble_eq_true rfl, Nat.le_of_ble_eq_true rfl⟩) (va_recv hK hP (ci := 8) (q0 := 42) rfl rfl) hE hP hD hS hA rfl hl.1 rfl (lv_room (Nat.le_of_ble_eq_true rfl)) dL_law_838 ⟨by show _ ≤ 603072; omega, by show _ ≤ 7198826; omega⟩ (fun H locs hP hD hS => ?_)
  refine lv_iload hx hb dL_law_841 (lv_at hl 1 rfl) ?_
  refine lv_icmp_eq (tgt := 848) hx hb dL_law_843 (by decide) (fun c9 => ?_) (fun c9 => ?_)
  · have hf := br_pos c9 hf
    refine lv_iload hx hb dL_law_848 (lv_at hl 1 rfl) ?_
    refine lv_if_ne (tgt := 865) hx hb dL_law_850 (by decide) (fun c10 => ?_) (fun c10 => ?_)
    · have hf := br_neg c10 hf
      refine lv_goto (tgt := 2434) hx hb dL_law_865 (by decide) ?_
      cases hf
      refine W.widen (k := cN + 1100) (n := sN + 13000) (by omega) (by omega) ?_
      exact kk _ _ _ hP hD hS (lv_sub hl [2, 3, 4, 5, 6, 7] rfl)
    · have hf := br_pos c10 hf
      refine lv_aload_n hx hb dL_law_853 rfl (lv_at hl 5 rfl) ?_
      refine lv_iconst (v := 0) hx hb dL_law_854 (by decide) ?_
      refine va_lald (D := D) hx hb hK hP 40 5 rfl rfl (by unfold vp_in; decide) dL_law_855 ?_
      refine lv_iload hx hb dL_law_856 (lv_at hl 0 rfl) ?_
      refine lv_i2l hx hb dL_law_858 rfl ?_
      refine W.lcmp hx hb dL_law_859 ?_
      refine lv_if_eq (tgt := 865) hx hb dL_law_860 (by decide) (fun c11 => ?_) (fun c11 => ?_)
      · have hf := br_pos c11 hf
        refine lv_goto (tgt := 2434) hx hb dL_law_865 (by decide) ?_
        cases hf
        refine W.widen (k := cN + 1100) (n := sN + 13000) (by omega) (by omega) ?_
        exact kk _ _ _ hP hD hS (lv_sub hl [2, 3, 4, 5, 6, 7] rfl)
      · have hf := br_neg c11 hf
        refine lv_iconst (v := 0) hx hb dL_law_863 (by decide) ?_
        cases hf
  · have hf := br_neg c9 hf
    refine lv_iconst (v := 0) hx hb dL_law_846 (by decide) ?_
    cases hf
def f_case11 (p1 : Int32) (nF : Int32) (nC : Nat → Int32) (oL : Nat → Int64) (mfiles : Int32) (mblocks : Nat → Int32) : Option ((Nat → Int64) × Int32) :=
  (f_L_blocksOf p1 nF nC oL).bind fun (r1, oL_2) =>
  (f_M_blocksOf p1 mfiles mblocks).bind fun (r4, mcode_5) =>
  (f_M_thrown mcode_5).bind fun r7 =>
  if r7 = r1 then
    if r1 = 0 then
      if (lg_cmp (oL_2 (0 : Int32).toNatClampNeg) ((r4).toInt64)) = 0 then
        some (oL_2, mcode_5)
      else
        none
    else
      some (oL_2, mcode_5)
  else
    none
set_option maxHeartbeats 4000000 in
set_option maxRecDepth 100000 in
theorem l_case11 {p : Program} {l : Launch} {e : Env} {s : State} {m : MethodId} {below : List Frame} {meth : Method} {c : Code} {Q : State → Prop} {D : va_G} {A : Nat → Prop} {b L : Nat} {xs : Nat → Int32} (ca : Nat → ClassId) (hst : l.stackTraces = false) (hx : p.tables.exec = Jvm.exec) (hb : c.code = code) (hml : c.maxLocals = 9) (hown : s.vm.findClass RL = some m.cls) (hts : ∀ w ∈ WW, w.before #[Value.ref b] s = true) (hE : EE D ca SL0 s) (hA : ∀ q, s.heap.size ≤ q → A q) (hZ : ZZ A s s.heap) (hNC : NCE s) (hX : va_X b L xs s s.heap) (hbl : b < s.heap.size) (hbA : ¬ A b) (ad am : Nat → Nat) (bq oa od lq : Nat) (nF : Int32) (nO : Nat → Int32) (nL : Nat → Int32) (nA : Nat → Int32) (nC : Nat → Int32) (nV : Nat → Int32) (nU : Nat → Int32) (nP : Nat → Int32) (nE : Int32) (bF : Int32) (bO : Nat → Int32) (bL : Nat → Int32) (bA : Nat → Int32) (bC : Nat → Int32) (bV : Nat → Int32) (bU : Nat → Int32) (bP : Nat → Int32) (bE : Int32) (cT : Int32) (cK : Nat → Int32) (cO : Int32) (cQ : Nat → Int32) (cD : Int32) (pT : Int32) (pK : Int32) (pR : Nat → Int32) (pW : Nat → Int32) (pU : Nat → Int32) (pI : Nat → Int32) (pC : Nat → Nat → Int32) (uO : Int32) (uF : Nat → Int32) (uE : Nat → Int32) (uN : Nat → Int32) (wK : Nat → Int32) (jM : Int32) (jN : Int32) (jZ : Nat) (jB : Nat → Int32) (oL : Nat → Int64) (oD : Nat → UInt64) (mcode : Int32) (mday : Int32) (mown : Int32) (mquot : Nat → Int32) (mprom : Nat → Int32) (mfiles : Int32) (mowner : Nat → Int32) (mlinks : Nat → Int32) (mblocks : Nat → Int32) (mvals : Nat → Int32) (msnaps : Int32) (mranks : Nat → Int32) (mkept : Nat → Int32) (mshot : Nat → Int32) (mwas : Nat → Int32) (mholds : Int32) (mheld : Nat → Int32) (mends : Nat → Int32) (mopen : Nat → Int32) (mentr : Int32) (mkinds : Nat → Int32) (misop : Int32) (mfilesT : Int32) (mentrT : Int32) (mpromT : Nat → Int32) (mlinksT : Nat → Int32) (mblocksT : Nat → Int32) (mvalsT : Nat → Int32) (R : va_W) (x5 : Int32) (hi1 : vp_in (x5 + 1) L) (hi2 : vp_in (x5 + 2) L) (hi3 : vp_in (x5 + 3) L) (cN sN : Nat) (hcN : cN + 1100 ≤ 603072) (hsN : sN + 13000 ≤ 7198826) (ooL : Nat → Int64) (omcode : Int32) (hf : f_case11 (xs (x5 + 1).toNatClampNeg) nF nC oL mfiles mblocks = some (ooL, omcode)) {H : Heap} {locs : List Loc} {ls : Array Slot} (hP : va_P D vwCl (WC ca ad bq nF nO nL nA nC nV nU nP nE bF bO bL bA bC bV bU bP bE cT cK cO cQ cD pT pK pR pW pU pI pC uO uF uE uN wK jM jN jZ jB ++ (WO ca oa od oL oD ++ (WM ca am lq mcode mday mown mquot mprom mfiles mowner mlinks mblocks mvals msnaps mranks mkept mshot mwas mholds mheld mends mopen mentr mkinds misop mfilesT mentrT mpromT mlinksT mblocksT mvalsT ++ R))) H) (hD : va_D A (WC ca ad bq nF nO nL nA nC nV nU nP nE bF bO bL bA bC bV bU bP bE cT cK cO cQ cD pT pK pR pW pU pI pC uO uF uE uN wK jM jN jZ jB ++ (WO ca oa od oL oD ++ (WM ca am lq mcode mday mown mquot mprom mfiles mowner mlinks mblocks mvals msnaps mranks mkept mshot mwas mholds mheld mends mopen mentr mkinds misop mfilesT mentrT mpromT mlinksT mblocksT mvalsT ++ R)))) (hS : va_S A s.heap H locs) (hl : lv_has ls 9 [(0, .ref b), (1, .ref (ad 0)), (2, .ref (am 0)), (3, .ref oa), (4, .ref od), (5, .int x5)]) (kk : ∀ (H : Heap) (locs : List Loc) (ls : Array Slot), va_P D vwCl (WC ca ad bq nF nO nL nA nC nV nU nP nE bF bO bL bA bC bV bU bP bE cT cK cO cQ cD pT pK pR pW pU pI pC uO uF uE uN wK jM jN jZ jB ++ (WO ca oa od ooL oD ++ (WM ca am lq omcode mday mown mquot mprom mfiles mowner mlinks mblocks mvals msnaps mranks mkept mshot mwas mholds mheld mends mopen mentr mkinds misop mfilesT mentrT mpromT mlinksT mblocksT mvalsT ++ R))) H → va_D A (WC ca ad bq nF nO nL nA nC nV nU nP nE bF bO bL bA bC bV bU bP bE cT cK cO cQ cD pT pK pR pW pU pI pC uO uF uE uN wK jM jN jZ jB ++ (WO ca oa od ooL oD ++ (WM ca am lq omcode mday mown mquot mprom mfiles mowner mlinks mblocks mvals msnaps mranks mkept mshot mwas mholds mheld mends mopen mentr mkinds misop mfilesT mentrT mpromT mlinksT mblocksT mvalsT ++ R))) → va_S A s.heap H locs → lv_has ls 9 [(0, .ref b), (1, .ref (ad 0)), (2, .ref (am 0)), (3, .ref oa), (4, .ref od), (5, .int x5)] → W p l e room_1 s m #[Value.ref b] below meth c H locs (cN + 1100) (sN + 13000) Q (F0 m 2434 ls [])) : W p l e room_1 s m #[Value.ref b] below meth c H locs cN sN Q (F0 m 868 ls []) := by
  have hK := hE.1
  unfold f_case11 at hf
  change W p l e room_1 s m #[Value.ref b] below meth c H locs (cN + 0) (sN + 0) Q (F0 m 868 ls [])
  refine lv_aload_n hx hb dL_law_868 rfl (lv_at hl 1 rfl) ?_
  refine lv_aload_n hx hb dL_law_869 rfl (lv_at hl 0 rfl) ?_
  refine lv_iload hx hb dL_law_870 (lv_at hl 5 rfl) ?_
  refine lv_iconst (v := 1) hx hb dL_law_872 (by decide) ?_
  refine lv_iadd hx hb dL_law_873 ?_
  refine va_sld hx hb hX hbl hbA hS hi1 dL_law_874 ?_
  refine lv_aload_n hx hb dL_law_875 rfl (lv_at hl 3 rfl) ?_
  obtain ⟨⟨r1, oL_2⟩, h3, hf⟩ := bnd hf
  refine cl_wi (rest := []) (m_L_blocksOf l hst ca ad bq oa od nF nO nL nA nC nV nU nP nE bF bO bL bA bC bV bU bP bE cT cK cO cQ cD pT pK pR pW pU pI pC uO uF uE uN wK jM jN jZ jB oL oD (WM ca am lq mcode mday mown mquot mprom mfiles mowner mlinks mblocks mvals msnaps mranks mkept mshot mwas mholds mheld mends mopen mentr mkinds misop mfilesT mentrT mpromT mlinksT mblocksT mvalsT ++ R) _ (xs (x5 + 1).toNatClampNeg) r1 oL_2 h3) ⟨hx, hb, hml, hown, hts⟩ (vx_cwSW 3 hts (gSW q717 q718 q40 q719) rfl rfl rfl (by decide +kernel) ⟨Nat.le_of_ble_eq_true rfl, Nat.le_of_ble_eq_true rfl⟩) hE hP hD hS hA hZ hNC rfl hl.1 rfl (lv_room (Nat.le_of_ble_eq_true rfl)) dL_law_876 ⟨by show _ ≤ 603072; omega, by show _ ≤ 7198826; omega⟩ (fun H locs hP hD hS => ?_)
  refine lv_istore (lv' := [(6, .int r1), (0, .ref b), (1, .ref (ad 0)), (2, .ref (am 0)), (3, .ref oa), (4, .ref od), (5, .int x5)]) hx hb dL_law_879 hl (by decide) rfl (fun ls hl => ?_)
  refine lv_aload_n hx hb dL_law_881 rfl (lv_at hl 3 rfl) ?_
  refine lv_aload_n hx hb dL_law_882 rfl (lv_at hl 1 rfl) ?_
  refine lv_iload hx hb dL_law_883 (lv_at hl 6 rfl) ?_
  refine lv_iconst (v := 1) hx hb dL_law_885 (by decide) ?_
  refine lv_iadd hx hb dL_law_886 ?_
  refine va_sld hx hb hX hbl hbA hS hi1 dL_law_887 ?_
  obtain ⟨⟨r4, mcode_5⟩, h6, hf⟩ := bnd hf
  refine cm_i (rest := []) (m_M_blocksOf l ca am lq mcode mday mown mquot mprom mfiles mowner mlinks mblocks mvals msnaps mranks mkept mshot mwas mholds mheld mends mopen mentr mkinds misop mfilesT mentrT mpromT mlinksT mblocksT mvalsT (WC ca ad bq nF nO nL nA nC nV nU nP nE bF bO bL bA bC bV bU bP bE cT cK cO cQ cD pT pK pR pW pU pI pC uO uF uE uN wK jM jN jZ jB ++ (WO ca oa od oL_2 oD ++ R)) _ (xs (x5 + 1).toNatClampNeg) r4 mcode_5 h6) ⟨hx, hb, hml, hown, hts⟩ (cwV 1 hts (gV q1523 q1524 q1525 q50 q1526) rfl rfl rfl (by decide +kernel) ⟨Nat.le_of_ble_eq_true rfl, Nat.le_of_ble_eq_true rfl⟩) (va_recv hK hP (ci := 8) (q0 := 42) rfl rfl) hE hP hD hS hA rfl hl.1 rfl (lv_room (Nat.le_of_ble_eq_true rfl)) dL_law_888 ⟨by show _ ≤ 603072; omega, by show _ ≤ 7198826; omega⟩ (fun H locs hP hD hS => ?_)
  refine lv_istore (lv' := [(7, .int r4), (6, .int r1), (0, .ref b), (1, .ref (ad 0)), (2, .ref (am 0)), (3, .ref oa), (4, .ref od), (5, .int x5)]) hx hb dL_law_891 hl (by decide) rfl (fun ls hl => ?_)
  refine lv_aload_n hx hb dL_law_893 rfl (lv_at hl 4 rfl) ?_
  obtain ⟨r7, h8, hf⟩ := bnd hf
  refine cm_i (rest := []) (m_M_thrown l ca am lq mcode_5 mday mown mquot mprom mfiles mowner mlinks mblocks mvals msnaps mranks mkept mshot mwas mholds mheld mends mopen mentr mkinds misop mfilesT mentrT mpromT mlinksT mblocksT mvalsT (WC ca ad bq nF nO nL nA nC nV nU nP nE bF bO bL bA bC bV bU bP bE cT cK cO cQ cD pT pK pR pW pU pI pC uO uF uE uN wK jM jN jZ jB ++ (WO ca oa od oL_2 oD ++ R)) _ r7 h8) ⟨hx, hb, hml, hown, hts⟩ (cwV 0 hts (gV q1417 q1418 q1419 q50 q1420) rfl rfl rfl (by decide +kernel) ⟨Nat.le_of_ble_eq_true rfl, Nat.le_of_ble_eq_true rfl⟩) (va_recv hK hP (ci := 8) (q0 := 42) rfl rfl) hE hP hD hS hA rfl hl.1 rfl (lv_room (Nat.le_of_ble_eq_true rfl)) dL_law_894 ⟨by show _ ≤ 603072; omega, by show _ ≤ 7198826; omega⟩ (fun H locs hP hD hS => ?_)
  refine lv_iload hx hb dL_law_897 (lv_at hl 1 rfl) ?_
  refine lv_icmp_eq (tgt := 904) hx hb dL_law_899 (by decide) (fun c9 => ?_) (fun c9 => ?_)
  · have hf := br_pos c9 hf
    refine lv_iload hx hb dL_law_904 (lv_at hl 1 rfl) ?_
    refine lv_if_ne (tgt := 921) hx hb dL_law_906 (by decide) (fun c10 => ?_) (fun c10 => ?_)
    · have hf := br_neg c10 hf
      refine lv_goto (tgt := 2434) hx hb dL_law_921 (by decide) ?_
      cases hf
      refine W.widen (k := cN + 1100) (n := sN + 13000) (by omega) (by omega) ?_
      exact kk _ _ _ hP hD hS (lv_sub hl [2, 3, 4, 5, 6, 7] rfl)
    · have hf := br_pos c10 hf
      refine lv_aload_n hx hb dL_law_909 rfl (lv_at hl 5 rfl) ?_
      refine lv_iconst (v := 0) hx hb dL_law_910 (by decide) ?_
      refine va_lald (D := D) hx hb hK hP 40 5 rfl rfl (by unfold vp_in; decide) dL_law_911 ?_
      refine lv_iload hx hb dL_law_912 (lv_at hl 0 rfl) ?_
      refine lv_i2l hx hb dL_law_914 rfl ?_
      refine W.lcmp hx hb dL_law_915 ?_
      refine lv_if_eq (tgt := 921) hx hb dL_law_916 (by decide) (fun c11 => ?_) (fun c11 => ?_)
      · have hf := br_pos c11 hf
        refine lv_goto (tgt := 2434) hx hb dL_law_921 (by decide) ?_
        cases hf
        refine W.widen (k := cN + 1100) (n := sN + 13000) (by omega) (by omega) ?_
        exact kk _ _ _ hP hD hS (lv_sub hl [2, 3, 4, 5, 6, 7] rfl)
      · have hf := br_neg c11 hf
        refine lv_iconst (v := 0) hx hb dL_law_919 (by decide) ?_
        cases hf
  · have hf := br_neg c9 hf
    refine lv_iconst (v := 0) hx hb dL_law_902 (by decide) ?_
    cases hf
def f_case12 (p1 : Int32) (nF : Int32) (nO : Nat → Int32) (nC : Nat → Int32) (cO : Int32) (oL : Nat → Int64) (mown : Int32) (mowner : Nat → Int32) (mblocks : Nat → Int32) : Option ((Nat → Int64) × Int32) :=
  (f_L_usedBy p1 nF nO nC cO oL).bind fun (r1, oL_2) =>
  (f_M_usedBy p1 mown mowner mblocks).bind fun (r4, mcode_5) =>
  (f_M_thrown mcode_5).bind fun r7 =>
  if r7 = r1 then
    if r1 = 0 then
      if (lg_cmp (oL_2 (0 : Int32).toNatClampNeg) ((r4).toInt64)) = 0 then
        some (oL_2, mcode_5)
      else
        none
    else
      some (oL_2, mcode_5)
  else
    none
set_option maxHeartbeats 4000000 in
set_option maxRecDepth 100000 in
theorem l_case12 {p : Program} {l : Launch} {e : Env} {s : State} {m : MethodId} {below : List Frame} {meth : Method} {c : Code} {Q : State → Prop} {D : va_G} {A : Nat → Prop} {b L : Nat} {xs : Nat → Int32} (ca : Nat → ClassId) (hst : l.stackTraces = false) (hx : p.tables.exec = Jvm.exec) (hb : c.code = code) (hml : c.maxLocals = 9) (hown : s.vm.findClass RL = some m.cls) (hts : ∀ w ∈ WW, w.before #[Value.ref b] s = true) (hE : EE D ca SL0 s) (hA : ∀ q, s.heap.size ≤ q → A q) (hZ : ZZ A s s.heap) (hNC : NCE s) (hX : va_X b L xs s s.heap) (hbl : b < s.heap.size) (hbA : ¬ A b) (ad am : Nat → Nat) (bq oa od lq : Nat) (nF : Int32) (nO : Nat → Int32) (nL : Nat → Int32) (nA : Nat → Int32) (nC : Nat → Int32) (nV : Nat → Int32) (nU : Nat → Int32) (nP : Nat → Int32) (nE : Int32) (bF : Int32) (bO : Nat → Int32) (bL : Nat → Int32) (bA : Nat → Int32) (bC : Nat → Int32) (bV : Nat → Int32) (bU : Nat → Int32) (bP : Nat → Int32) (bE : Int32) (cT : Int32) (cK : Nat → Int32) (cO : Int32) (cQ : Nat → Int32) (cD : Int32) (pT : Int32) (pK : Int32) (pR : Nat → Int32) (pW : Nat → Int32) (pU : Nat → Int32) (pI : Nat → Int32) (pC : Nat → Nat → Int32) (uO : Int32) (uF : Nat → Int32) (uE : Nat → Int32) (uN : Nat → Int32) (wK : Nat → Int32) (jM : Int32) (jN : Int32) (jZ : Nat) (jB : Nat → Int32) (oL : Nat → Int64) (oD : Nat → UInt64) (mcode : Int32) (mday : Int32) (mown : Int32) (mquot : Nat → Int32) (mprom : Nat → Int32) (mfiles : Int32) (mowner : Nat → Int32) (mlinks : Nat → Int32) (mblocks : Nat → Int32) (mvals : Nat → Int32) (msnaps : Int32) (mranks : Nat → Int32) (mkept : Nat → Int32) (mshot : Nat → Int32) (mwas : Nat → Int32) (mholds : Int32) (mheld : Nat → Int32) (mends : Nat → Int32) (mopen : Nat → Int32) (mentr : Int32) (mkinds : Nat → Int32) (misop : Int32) (mfilesT : Int32) (mentrT : Int32) (mpromT : Nat → Int32) (mlinksT : Nat → Int32) (mblocksT : Nat → Int32) (mvalsT : Nat → Int32) (R : va_W) (x5 : Int32) (hi1 : vp_in (x5 + 1) L) (hi2 : vp_in (x5 + 2) L) (hi3 : vp_in (x5 + 3) L) (cN sN : Nat) (hcN : cN + 1100 ≤ 603072) (hsN : sN + 13000 ≤ 7198826) (ooL : Nat → Int64) (omcode : Int32) (hf : f_case12 (xs (x5 + 1).toNatClampNeg) nF nO nC cO oL mown mowner mblocks = some (ooL, omcode)) {H : Heap} {locs : List Loc} {ls : Array Slot} (hP : va_P D vwCl (WC ca ad bq nF nO nL nA nC nV nU nP nE bF bO bL bA bC bV bU bP bE cT cK cO cQ cD pT pK pR pW pU pI pC uO uF uE uN wK jM jN jZ jB ++ (WO ca oa od oL oD ++ (WM ca am lq mcode mday mown mquot mprom mfiles mowner mlinks mblocks mvals msnaps mranks mkept mshot mwas mholds mheld mends mopen mentr mkinds misop mfilesT mentrT mpromT mlinksT mblocksT mvalsT ++ R))) H) (hD : va_D A (WC ca ad bq nF nO nL nA nC nV nU nP nE bF bO bL bA bC bV bU bP bE cT cK cO cQ cD pT pK pR pW pU pI pC uO uF uE uN wK jM jN jZ jB ++ (WO ca oa od oL oD ++ (WM ca am lq mcode mday mown mquot mprom mfiles mowner mlinks mblocks mvals msnaps mranks mkept mshot mwas mholds mheld mends mopen mentr mkinds misop mfilesT mentrT mpromT mlinksT mblocksT mvalsT ++ R)))) (hS : va_S A s.heap H locs) (hl : lv_has ls 9 [(0, .ref b), (1, .ref (ad 0)), (2, .ref (am 0)), (3, .ref oa), (4, .ref od), (5, .int x5)]) (kk : ∀ (H : Heap) (locs : List Loc) (ls : Array Slot), va_P D vwCl (WC ca ad bq nF nO nL nA nC nV nU nP nE bF bO bL bA bC bV bU bP bE cT cK cO cQ cD pT pK pR pW pU pI pC uO uF uE uN wK jM jN jZ jB ++ (WO ca oa od ooL oD ++ (WM ca am lq omcode mday mown mquot mprom mfiles mowner mlinks mblocks mvals msnaps mranks mkept mshot mwas mholds mheld mends mopen mentr mkinds misop mfilesT mentrT mpromT mlinksT mblocksT mvalsT ++ R))) H → va_D A (WC ca ad bq nF nO nL nA nC nV nU nP nE bF bO bL bA bC bV bU bP bE cT cK cO cQ cD pT pK pR pW pU pI pC uO uF uE uN wK jM jN jZ jB ++ (WO ca oa od ooL oD ++ (WM ca am lq omcode mday mown mquot mprom mfiles mowner mlinks mblocks mvals msnaps mranks mkept mshot mwas mholds mheld mends mopen mentr mkinds misop mfilesT mentrT mpromT mlinksT mblocksT mvalsT ++ R))) → va_S A s.heap H locs → lv_has ls 9 [(0, .ref b), (1, .ref (ad 0)), (2, .ref (am 0)), (3, .ref oa), (4, .ref od), (5, .int x5)] → W p l e room_1 s m #[Value.ref b] below meth c H locs (cN + 1100) (sN + 13000) Q (F0 m 2434 ls [])) : W p l e room_1 s m #[Value.ref b] below meth c H locs cN sN Q (F0 m 924 ls []) := by
  have hK := hE.1
  unfold f_case12 at hf
  change W p l e room_1 s m #[Value.ref b] below meth c H locs (cN + 0) (sN + 0) Q (F0 m 924 ls [])
  refine lv_aload_n hx hb dL_law_924 rfl (lv_at hl 1 rfl) ?_
  refine lv_aload_n hx hb dL_law_925 rfl (lv_at hl 0 rfl) ?_
  refine lv_iload hx hb dL_law_926 (lv_at hl 5 rfl) ?_
  refine lv_iconst (v := 1) hx hb dL_law_928 (by decide) ?_
  refine lv_iadd hx hb dL_law_929 ?_
  refine va_sld hx hb hX hbl hbA hS hi1 dL_law_930 ?_
  refine lv_aload_n hx hb dL_law_931 rfl (lv_at hl 3 rfl) ?_
  obtain ⟨⟨r1, oL_2⟩, h3, hf⟩ := bnd hf
  refine cl_wi (rest := []) (m_L_usedBy l hst ca ad bq oa od nF nO nL nA nC nV nU nP nE bF bO bL bA bC bV bU bP bE cT cK cO cQ cD pT pK pR pW pU pI pC uO uF uE uN wK jM jN jZ jB oL oD (WM ca am lq mcode mday mown mquot mprom mfiles mowner mlinks mblocks mvals msnaps mranks mkept mshot mwas mholds mheld mends mopen mentr mkinds misop mfilesT mentrT mpromT mlinksT mblocksT mvalsT ++ R) _ (xs (x5 + 1).toNatClampNeg) r1 oL_2 h3) ⟨hx, hb, hml, hown, hts⟩ (vx_cwSW 3 hts (gSW q724 q725 q40 q726) rfl rfl rfl (by decide +kernel) ⟨Nat.le_of_ble_eq_true rfl, Nat.le_of_ble_eq_true rfl⟩) hE hP hD hS hA hZ hNC rfl hl.1 rfl (lv_room (Nat.le_of_ble_eq_true rfl)) dL_law_932 ⟨by show _ ≤ 603072; omega, by show _ ≤ 7198826; omega⟩ (fun H locs hP hD hS => ?_)
  refine lv_istore (lv' := [(6, .int r1), (0, .ref b), (1, .ref (ad 0)), (2, .ref (am 0)), (3, .ref oa), (4, .ref od), (5, .int x5)]) hx hb dL_law_935 hl (by decide) rfl (fun ls hl => ?_)
  refine lv_aload_n hx hb dL_law_937 rfl (lv_at hl 3 rfl) ?_
  refine lv_aload_n hx hb dL_law_938 rfl (lv_at hl 1 rfl) ?_
  refine lv_iload hx hb dL_law_939 (lv_at hl 6 rfl) ?_
  refine lv_iconst (v := 1) hx hb dL_law_941 (by decide) ?_
  refine lv_iadd hx hb dL_law_942 ?_
  refine va_sld hx hb hX hbl hbA hS hi1 dL_law_943 ?_
  obtain ⟨⟨r4, mcode_5⟩, h6, hf⟩ := bnd hf
  refine cm_i (rest := []) (m_M_usedBy l ca am lq mcode mday mown mquot mprom mfiles mowner mlinks mblocks mvals msnaps mranks mkept mshot mwas mholds mheld mends mopen mentr mkinds misop mfilesT mentrT mpromT mlinksT mblocksT mvalsT (WC ca ad bq nF nO nL nA nC nV nU nP nE bF bO bL bA bC bV bU bP bE cT cK cO cQ cD pT pK pR pW pU pI pC uO uF uE uN wK jM jN jZ jB ++ (WO ca oa od oL_2 oD ++ R)) _ (xs (x5 + 1).toNatClampNeg) r4 mcode_5 h6) ⟨hx, hb, hml, hown, hts⟩ (cwV 1 hts (gV q1527 q1528 q1529 q50 q1530) rfl rfl rfl (by decide +kernel) ⟨Nat.le_of_ble_eq_true rfl, Nat.le_of_ble_eq_true rfl⟩) (va_recv hK hP (ci := 8) (q0 := 42) rfl rfl) hE hP hD hS hA rfl hl.1 rfl (lv_room (Nat.le_of_ble_eq_true rfl)) dL_law_944 ⟨by show _ ≤ 603072; omega, by show _ ≤ 7198826; omega⟩ (fun H locs hP hD hS => ?_)
  refine lv_istore (lv' := [(7, .int r4), (6, .int r1), (0, .ref b), (1, .ref (ad 0)), (2, .ref (am 0)), (3, .ref oa), (4, .ref od), (5, .int x5)]) hx hb dL_law_947 hl (by decide) rfl (fun ls hl => ?_)
  refine lv_aload_n hx hb dL_law_949 rfl (lv_at hl 4 rfl) ?_
  obtain ⟨r7, h8, hf⟩ := bnd hf
  refine cm_i (rest := []) (m_M_thrown l ca am lq mcode_5 mday mown mquot mprom mfiles mowner mlinks mblocks mvals msnaps mranks mkept mshot mwas mholds mheld mends mopen mentr mkinds misop mfilesT mentrT mpromT mlinksT mblocksT mvalsT (WC ca ad bq nF nO nL nA nC nV nU nP nE bF bO bL bA bC bV bU bP bE cT cK cO cQ cD pT pK pR pW pU pI pC uO uF uE uN wK jM jN jZ jB ++ (WO ca oa od oL_2 oD ++ R)) _ r7 h8) ⟨hx, hb, hml, hown, hts⟩ (cwV 0 hts (gV q1417 q1418 q1419 q50 q1420) rfl rfl rfl (by decide +kernel) ⟨Nat.le_of_ble_eq_true rfl, Nat.le_of_ble_eq_true rfl⟩) (va_recv hK hP (ci := 8) (q0 := 42) rfl rfl) hE hP hD hS hA rfl hl.1 rfl (lv_room (Nat.le_of_ble_eq_true rfl)) dL_law_950 ⟨by show _ ≤ 603072; omega, by show _ ≤ 7198826; omega⟩ (fun H locs hP hD hS => ?_)
  refine lv_iload hx hb dL_law_953 (lv_at hl 1 rfl) ?_
  refine lv_icmp_eq (tgt := 960) hx hb dL_law_955 (by decide) (fun c9 => ?_) (fun c9 => ?_)
  · have hf := br_pos c9 hf
    refine lv_iload hx hb dL_law_960 (lv_at hl 1 rfl) ?_
    refine lv_if_ne (tgt := 977) hx hb dL_law_962 (by decide) (fun c10 => ?_) (fun c10 => ?_)
    · have hf := br_neg c10 hf
      refine lv_goto (tgt := 2434) hx hb dL_law_977 (by decide) ?_
      cases hf
      refine W.widen (k := cN + 1100) (n := sN + 13000) (by omega) (by omega) ?_
      exact kk _ _ _ hP hD hS (lv_sub hl [2, 3, 4, 5, 6, 7] rfl)
    · have hf := br_pos c10 hf
      refine lv_aload_n hx hb dL_law_965 rfl (lv_at hl 5 rfl) ?_
      refine lv_iconst (v := 0) hx hb dL_law_966 (by decide) ?_
      refine va_lald (D := D) hx hb hK hP 40 5 rfl rfl (by unfold vp_in; decide) dL_law_967 ?_
      refine lv_iload hx hb dL_law_968 (lv_at hl 0 rfl) ?_
      refine lv_i2l hx hb dL_law_970 rfl ?_
      refine W.lcmp hx hb dL_law_971 ?_
      refine lv_if_eq (tgt := 977) hx hb dL_law_972 (by decide) (fun c11 => ?_) (fun c11 => ?_)
      · have hf := br_pos c11 hf
        refine lv_goto (tgt := 2434) hx hb dL_law_977 (by decide) ?_
        cases hf
        refine W.widen (k := cN + 1100) (n := sN + 13000) (by omega) (by omega) ?_
        exact kk _ _ _ hP hD hS (lv_sub hl [2, 3, 4, 5, 6, 7] rfl)
      · have hf := br_neg c11 hf
        refine lv_iconst (v := 0) hx hb dL_law_975 (by decide) ?_
        cases hf
  · have hf := br_neg c9 hf
    refine lv_iconst (v := 0) hx hb dL_law_958 (by decide) ?_
    cases hf
def f_case13 (nU : Nat → Int32) (mblocks : Nat → Int32) (msnaps : Int32) (mkept : Nat → Int32) (mshot : Nat → Int32) : Option (Int32) :=
  (f_C_free nU).bind fun r1 =>
  (f_M_free mblocks msnaps mkept mshot).bind fun (r3, mcode_4) =>
  if r1 = r3 then
    some mcode_4
  else
    none
set_option maxHeartbeats 4000000 in
set_option maxRecDepth 100000 in
theorem l_case13 {p : Program} {l : Launch} {e : Env} {s : State} {m : MethodId} {below : List Frame} {meth : Method} {c : Code} {Q : State → Prop} {D : va_G} {A : Nat → Prop} {b L : Nat} {xs : Nat → Int32} (ca : Nat → ClassId) (hst : l.stackTraces = false) (hx : p.tables.exec = Jvm.exec) (hb : c.code = code) (hml : c.maxLocals = 9) (hown : s.vm.findClass RL = some m.cls) (hts : ∀ w ∈ WW, w.before #[Value.ref b] s = true) (hE : EE D ca SL0 s) (hA : ∀ q, s.heap.size ≤ q → A q) (hZ : ZZ A s s.heap) (hNC : NCE s) (hX : va_X b L xs s s.heap) (hbl : b < s.heap.size) (hbA : ¬ A b) (ad am : Nat → Nat) (bq oa od lq : Nat) (nF : Int32) (nO : Nat → Int32) (nL : Nat → Int32) (nA : Nat → Int32) (nC : Nat → Int32) (nV : Nat → Int32) (nU : Nat → Int32) (nP : Nat → Int32) (nE : Int32) (bF : Int32) (bO : Nat → Int32) (bL : Nat → Int32) (bA : Nat → Int32) (bC : Nat → Int32) (bV : Nat → Int32) (bU : Nat → Int32) (bP : Nat → Int32) (bE : Int32) (cT : Int32) (cK : Nat → Int32) (cO : Int32) (cQ : Nat → Int32) (cD : Int32) (pT : Int32) (pK : Int32) (pR : Nat → Int32) (pW : Nat → Int32) (pU : Nat → Int32) (pI : Nat → Int32) (pC : Nat → Nat → Int32) (uO : Int32) (uF : Nat → Int32) (uE : Nat → Int32) (uN : Nat → Int32) (wK : Nat → Int32) (jM : Int32) (jN : Int32) (jZ : Nat) (jB : Nat → Int32) (oL : Nat → Int64) (oD : Nat → UInt64) (mcode : Int32) (mday : Int32) (mown : Int32) (mquot : Nat → Int32) (mprom : Nat → Int32) (mfiles : Int32) (mowner : Nat → Int32) (mlinks : Nat → Int32) (mblocks : Nat → Int32) (mvals : Nat → Int32) (msnaps : Int32) (mranks : Nat → Int32) (mkept : Nat → Int32) (mshot : Nat → Int32) (mwas : Nat → Int32) (mholds : Int32) (mheld : Nat → Int32) (mends : Nat → Int32) (mopen : Nat → Int32) (mentr : Int32) (mkinds : Nat → Int32) (misop : Int32) (mfilesT : Int32) (mentrT : Int32) (mpromT : Nat → Int32) (mlinksT : Nat → Int32) (mblocksT : Nat → Int32) (mvalsT : Nat → Int32) (R : va_W) (x5 : Int32) (hi1 : vp_in (x5 + 1) L) (hi2 : vp_in (x5 + 2) L) (hi3 : vp_in (x5 + 3) L) (cN sN : Nat) (hcN : cN + 1100 ≤ 603072) (hsN : sN + 13000 ≤ 7198826) (omcode : Int32) (hf : f_case13 nU mblocks msnaps mkept mshot = some omcode) {H : Heap} {locs : List Loc} {ls : Array Slot} (hP : va_P D vwCl (WC ca ad bq nF nO nL nA nC nV nU nP nE bF bO bL bA bC bV bU bP bE cT cK cO cQ cD pT pK pR pW pU pI pC uO uF uE uN wK jM jN jZ jB ++ (WO ca oa od oL oD ++ (WM ca am lq mcode mday mown mquot mprom mfiles mowner mlinks mblocks mvals msnaps mranks mkept mshot mwas mholds mheld mends mopen mentr mkinds misop mfilesT mentrT mpromT mlinksT mblocksT mvalsT ++ R))) H) (hD : va_D A (WC ca ad bq nF nO nL nA nC nV nU nP nE bF bO bL bA bC bV bU bP bE cT cK cO cQ cD pT pK pR pW pU pI pC uO uF uE uN wK jM jN jZ jB ++ (WO ca oa od oL oD ++ (WM ca am lq mcode mday mown mquot mprom mfiles mowner mlinks mblocks mvals msnaps mranks mkept mshot mwas mholds mheld mends mopen mentr mkinds misop mfilesT mentrT mpromT mlinksT mblocksT mvalsT ++ R)))) (hS : va_S A s.heap H locs) (hl : lv_has ls 9 [(0, .ref b), (1, .ref (ad 0)), (2, .ref (am 0)), (3, .ref oa), (4, .ref od), (5, .int x5)]) (kk : ∀ (H : Heap) (locs : List Loc) (ls : Array Slot), va_P D vwCl (WC ca ad bq nF nO nL nA nC nV nU nP nE bF bO bL bA bC bV bU bP bE cT cK cO cQ cD pT pK pR pW pU pI pC uO uF uE uN wK jM jN jZ jB ++ (WO ca oa od oL oD ++ (WM ca am lq omcode mday mown mquot mprom mfiles mowner mlinks mblocks mvals msnaps mranks mkept mshot mwas mholds mheld mends mopen mentr mkinds misop mfilesT mentrT mpromT mlinksT mblocksT mvalsT ++ R))) H → va_D A (WC ca ad bq nF nO nL nA nC nV nU nP nE bF bO bL bA bC bV bU bP bE cT cK cO cQ cD pT pK pR pW pU pI pC uO uF uE uN wK jM jN jZ jB ++ (WO ca oa od oL oD ++ (WM ca am lq omcode mday mown mquot mprom mfiles mowner mlinks mblocks mvals msnaps mranks mkept mshot mwas mholds mheld mends mopen mentr mkinds misop mfilesT mentrT mpromT mlinksT mblocksT mvalsT ++ R))) → va_S A s.heap H locs → lv_has ls 9 [(0, .ref b), (1, .ref (ad 0)), (2, .ref (am 0)), (3, .ref oa), (4, .ref od), (5, .int x5)] → W p l e room_1 s m #[Value.ref b] below meth c H locs (cN + 1100) (sN + 13000) Q (F0 m 2434 ls [])) : W p l e room_1 s m #[Value.ref b] below meth c H locs cN sN Q (F0 m 980 ls []) := by
  have hK := hE.1
  unfold f_case13 at hf
  change W p l e room_1 s m #[Value.ref b] below meth c H locs (cN + 0) (sN + 0) Q (F0 m 980 ls [])
  refine lv_aload_n hx hb dL_law_980 rfl (lv_at hl 1 rfl) ?_
  obtain ⟨r1, h2, hf⟩ := bnd hf
  refine call_vi (rest := []) (m_C_free l ca ad bq nF nO nL nA nC nV nU nP nE bF bO bL bA bC bV bU bP bE cT cK cO cQ cD pT pK pR pW pU pI pC uO uF uE uN wK jM jN jZ jB (WO ca oa od oL oD ++ (WM ca am lq mcode mday mown mquot mprom mfiles mowner mlinks mblocks mvals msnaps mranks mkept mshot mwas mholds mheld mends mopen mentr mkinds misop mfilesT mentrT mpromT mlinksT mblocksT mvalsT ++ R)) _ r1 h2) ⟨hx, hb, hml, hown, hts⟩ (cwV 0 hts (gV q243 q244 q245 q41 q246) rfl rfl rfl (by decide +kernel) ⟨Nat.le_of_ble_eq_true rfl, Nat.le_of_ble_eq_true rfl⟩) (va_recv hK hP (ci := 7) (q0 := 0) rfl rfl) hE hP hD hS hA rfl hl.1 rfl (lv_room (Nat.le_of_ble_eq_true rfl)) dL_law_981 ⟨by show _ ≤ 603072; omega, by show _ ≤ 7198826; omega⟩ (fun H locs hP hD hS => ?_)
  refine lv_aload_n hx hb dL_law_984 rfl (lv_at hl 2 rfl) ?_
  obtain ⟨⟨r3, mcode_4⟩, h5, hf⟩ := bnd hf
  refine cm_i (rest := [.int r1]) (m_M_free l ca am lq mcode mday mown mquot mprom mfiles mowner mlinks mblocks mvals msnaps mranks mkept mshot mwas mholds mheld mends mopen mentr mkinds misop mfilesT mentrT mpromT mlinksT mblocksT mvalsT (WC ca ad bq nF nO nL nA nC nV nU nP nE bF bO bL bA bC bV bU bP bE cT cK cO cQ cD pT pK pR pW pU pI pC uO uF uE uN wK jM jN jZ jB ++ (WO ca oa od oL oD ++ R)) _ r3 mcode_4 h5) ⟨hx, hb, hml, hown, hts⟩ (cwV 0 hts (gV q1531 q1532 q1533 q50 q1534) rfl rfl rfl (by decide +kernel) ⟨Nat.le_of_ble_eq_true rfl, Nat.le_of_ble_eq_true rfl⟩) (va_recv hK hP (ci := 8) (q0 := 42) rfl rfl) hE hP hD hS hA rfl hl.1 rfl (lv_room (Nat.le_of_ble_eq_true rfl)) dL_law_985 ⟨by show _ ≤ 603072; omega, by show _ ≤ 7198826; omega⟩ (fun H locs hP hD hS => ?_)
  refine lv_icmp_eq (tgt := 2434) hx hb dL_law_988 (by decide) (fun c6 => ?_) (fun c6 => ?_)
  · have hf := br_pos c6 hf
    cases hf
    refine W.widen (k := cN + 1100) (n := sN + 13000) (by omega) (by omega) ?_
    exact kk _ _ _ hP hD hS (lv_sub hl [0, 1, 2, 3, 4, 5] rfl)
  · have hf := br_neg c6 hf
    refine lv_iconst (v := 0) hx hb dL_law_991 (by decide) ?_
    cases hf
def f_case14 (p1 : Int32) (nU : Nat → Int32) (oL : Nat → Int64) (mblocks : Nat → Int32) (msnaps : Int32) (mkept : Nat → Int32) (mshot : Nat → Int32) : Option ((Nat → Int64) × Int32) :=
  (f_L_usersOf p1 nU oL).bind fun (r1, oL_2) =>
  (f_M_usersOf p1 mblocks msnaps mkept mshot).bind fun (r4, mcode_5) =>
  (f_M_thrown mcode_5).bind fun r7 =>
  if r7 = r1 then
    if r1 = 0 then
      if (lg_cmp (oL_2 (0 : Int32).toNatClampNeg) ((r4).toInt64)) = 0 then
        some (oL_2, mcode_5)
      else
        none
    else
      some (oL_2, mcode_5)
  else
    none
set_option maxHeartbeats 4000000 in
set_option maxRecDepth 100000 in
theorem l_case14 {p : Program} {l : Launch} {e : Env} {s : State} {m : MethodId} {below : List Frame} {meth : Method} {c : Code} {Q : State → Prop} {D : va_G} {A : Nat → Prop} {b L : Nat} {xs : Nat → Int32} (ca : Nat → ClassId) (hst : l.stackTraces = false) (hx : p.tables.exec = Jvm.exec) (hb : c.code = code) (hml : c.maxLocals = 9) (hown : s.vm.findClass RL = some m.cls) (hts : ∀ w ∈ WW, w.before #[Value.ref b] s = true) (hE : EE D ca SL0 s) (hA : ∀ q, s.heap.size ≤ q → A q) (hZ : ZZ A s s.heap) (hNC : NCE s) (hX : va_X b L xs s s.heap) (hbl : b < s.heap.size) (hbA : ¬ A b) (ad am : Nat → Nat) (bq oa od lq : Nat) (nF : Int32) (nO : Nat → Int32) (nL : Nat → Int32) (nA : Nat → Int32) (nC : Nat → Int32) (nV : Nat → Int32) (nU : Nat → Int32) (nP : Nat → Int32) (nE : Int32) (bF : Int32) (bO : Nat → Int32) (bL : Nat → Int32) (bA : Nat → Int32) (bC : Nat → Int32) (bV : Nat → Int32) (bU : Nat → Int32) (bP : Nat → Int32) (bE : Int32) (cT : Int32) (cK : Nat → Int32) (cO : Int32) (cQ : Nat → Int32) (cD : Int32) (pT : Int32) (pK : Int32) (pR : Nat → Int32) (pW : Nat → Int32) (pU : Nat → Int32) (pI : Nat → Int32) (pC : Nat → Nat → Int32) (uO : Int32) (uF : Nat → Int32) (uE : Nat → Int32) (uN : Nat → Int32) (wK : Nat → Int32) (jM : Int32) (jN : Int32) (jZ : Nat) (jB : Nat → Int32) (oL : Nat → Int64) (oD : Nat → UInt64) (mcode : Int32) (mday : Int32) (mown : Int32) (mquot : Nat → Int32) (mprom : Nat → Int32) (mfiles : Int32) (mowner : Nat → Int32) (mlinks : Nat → Int32) (mblocks : Nat → Int32) (mvals : Nat → Int32) (msnaps : Int32) (mranks : Nat → Int32) (mkept : Nat → Int32) (mshot : Nat → Int32) (mwas : Nat → Int32) (mholds : Int32) (mheld : Nat → Int32) (mends : Nat → Int32) (mopen : Nat → Int32) (mentr : Int32) (mkinds : Nat → Int32) (misop : Int32) (mfilesT : Int32) (mentrT : Int32) (mpromT : Nat → Int32) (mlinksT : Nat → Int32) (mblocksT : Nat → Int32) (mvalsT : Nat → Int32) (R : va_W) (x5 : Int32) (hi1 : vp_in (x5 + 1) L) (hi2 : vp_in (x5 + 2) L) (hi3 : vp_in (x5 + 3) L) (cN sN : Nat) (hcN : cN + 1100 ≤ 603072) (hsN : sN + 13000 ≤ 7198826) (ooL : Nat → Int64) (omcode : Int32) (hf : f_case14 (xs (x5 + 1).toNatClampNeg) nU oL mblocks msnaps mkept mshot = some (ooL, omcode)) {H : Heap} {locs : List Loc} {ls : Array Slot} (hP : va_P D vwCl (WC ca ad bq nF nO nL nA nC nV nU nP nE bF bO bL bA bC bV bU bP bE cT cK cO cQ cD pT pK pR pW pU pI pC uO uF uE uN wK jM jN jZ jB ++ (WO ca oa od oL oD ++ (WM ca am lq mcode mday mown mquot mprom mfiles mowner mlinks mblocks mvals msnaps mranks mkept mshot mwas mholds mheld mends mopen mentr mkinds misop mfilesT mentrT mpromT mlinksT mblocksT mvalsT ++ R))) H) (hD : va_D A (WC ca ad bq nF nO nL nA nC nV nU nP nE bF bO bL bA bC bV bU bP bE cT cK cO cQ cD pT pK pR pW pU pI pC uO uF uE uN wK jM jN jZ jB ++ (WO ca oa od oL oD ++ (WM ca am lq mcode mday mown mquot mprom mfiles mowner mlinks mblocks mvals msnaps mranks mkept mshot mwas mholds mheld mends mopen mentr mkinds misop mfilesT mentrT mpromT mlinksT mblocksT mvalsT ++ R)))) (hS : va_S A s.heap H locs) (hl : lv_has ls 9 [(0, .ref b), (1, .ref (ad 0)), (2, .ref (am 0)), (3, .ref oa), (4, .ref od), (5, .int x5)]) (kk : ∀ (H : Heap) (locs : List Loc) (ls : Array Slot), va_P D vwCl (WC ca ad bq nF nO nL nA nC nV nU nP nE bF bO bL bA bC bV bU bP bE cT cK cO cQ cD pT pK pR pW pU pI pC uO uF uE uN wK jM jN jZ jB ++ (WO ca oa od ooL oD ++ (WM ca am lq omcode mday mown mquot mprom mfiles mowner mlinks mblocks mvals msnaps mranks mkept mshot mwas mholds mheld mends mopen mentr mkinds misop mfilesT mentrT mpromT mlinksT mblocksT mvalsT ++ R))) H → va_D A (WC ca ad bq nF nO nL nA nC nV nU nP nE bF bO bL bA bC bV bU bP bE cT cK cO cQ cD pT pK pR pW pU pI pC uO uF uE uN wK jM jN jZ jB ++ (WO ca oa od ooL oD ++ (WM ca am lq omcode mday mown mquot mprom mfiles mowner mlinks mblocks mvals msnaps mranks mkept mshot mwas mholds mheld mends mopen mentr mkinds misop mfilesT mentrT mpromT mlinksT mblocksT mvalsT ++ R))) → va_S A s.heap H locs → lv_has ls 9 [(0, .ref b), (1, .ref (ad 0)), (2, .ref (am 0)), (3, .ref oa), (4, .ref od), (5, .int x5)] → W p l e room_1 s m #[Value.ref b] below meth c H locs (cN + 1100) (sN + 13000) Q (F0 m 2434 ls [])) : W p l e room_1 s m #[Value.ref b] below meth c H locs cN sN Q (F0 m 993 ls []) := by
  have hK := hE.1
  unfold f_case14 at hf
  change W p l e room_1 s m #[Value.ref b] below meth c H locs (cN + 0) (sN + 0) Q (F0 m 993 ls [])
  refine lv_aload_n hx hb dL_law_993 rfl (lv_at hl 1 rfl) ?_
  refine lv_aload_n hx hb dL_law_994 rfl (lv_at hl 0 rfl) ?_
  refine lv_iload hx hb dL_law_995 (lv_at hl 5 rfl) ?_
  refine lv_iconst (v := 1) hx hb dL_law_997 (by decide) ?_
  refine lv_iadd hx hb dL_law_998 ?_
  refine va_sld hx hb hX hbl hbA hS hi1 dL_law_999 ?_
  refine lv_aload_n hx hb dL_law_1000 rfl (lv_at hl 3 rfl) ?_
  obtain ⟨⟨r1, oL_2⟩, h3, hf⟩ := bnd hf
  refine cl_wi (rest := []) (m_L_usersOf l hst ca ad bq oa od nF nO nL nA nC nV nU nP nE bF bO bL bA bC bV bU bP bE cT cK cO cQ cD pT pK pR pW pU pI pC uO uF uE uN wK jM jN jZ jB oL oD (WM ca am lq mcode mday mown mquot mprom mfiles mowner mlinks mblocks mvals msnaps mranks mkept mshot mwas mholds mheld mends mopen mentr mkinds misop mfilesT mentrT mpromT mlinksT mblocksT mvalsT ++ R) _ (xs (x5 + 1).toNatClampNeg) r1 oL_2 h3) ⟨hx, hb, hml, hown, hts⟩ (vx_cwSW 3 hts (gSW q731 q732 q40 q733) rfl rfl rfl (by decide +kernel) ⟨Nat.le_of_ble_eq_true rfl, Nat.le_of_ble_eq_true rfl⟩) hE hP hD hS hA hZ hNC rfl hl.1 rfl (lv_room (Nat.le_of_ble_eq_true rfl)) dL_law_1001 ⟨by show _ ≤ 603072; omega, by show _ ≤ 7198826; omega⟩ (fun H locs hP hD hS => ?_)
  refine lv_istore (lv' := [(6, .int r1), (0, .ref b), (1, .ref (ad 0)), (2, .ref (am 0)), (3, .ref oa), (4, .ref od), (5, .int x5)]) hx hb dL_law_1004 hl (by decide) rfl (fun ls hl => ?_)
  refine lv_aload_n hx hb dL_law_1006 rfl (lv_at hl 3 rfl) ?_
  refine lv_aload_n hx hb dL_law_1007 rfl (lv_at hl 1 rfl) ?_
  refine lv_iload hx hb dL_law_1008 (lv_at hl 6 rfl) ?_
  refine lv_iconst (v := 1) hx hb dL_law_1010 (by decide) ?_
  refine lv_iadd hx hb dL_law_1011 ?_
  refine va_sld hx hb hX hbl hbA hS hi1 dL_law_1012 ?_
  obtain ⟨⟨r4, mcode_5⟩, h6, hf⟩ := bnd hf
  refine cm_i (rest := []) (m_M_usersOf l ca am lq mcode mday mown mquot mprom mfiles mowner mlinks mblocks mvals msnaps mranks mkept mshot mwas mholds mheld mends mopen mentr mkinds misop mfilesT mentrT mpromT mlinksT mblocksT mvalsT (WC ca ad bq nF nO nL nA nC nV nU nP nE bF bO bL bA bC bV bU bP bE cT cK cO cQ cD pT pK pR pW pU pI pC uO uF uE uN wK jM jN jZ jB ++ (WO ca oa od oL_2 oD ++ R)) _ (xs (x5 + 1).toNatClampNeg) r4 mcode_5 h6) ⟨hx, hb, hml, hown, hts⟩ (cwV 1 hts (gV q1535 q1536 q1537 q50 q1538) rfl rfl rfl (by decide +kernel) ⟨Nat.le_of_ble_eq_true rfl, Nat.le_of_ble_eq_true rfl⟩) (va_recv hK hP (ci := 8) (q0 := 42) rfl rfl) hE hP hD hS hA rfl hl.1 rfl (lv_room (Nat.le_of_ble_eq_true rfl)) dL_law_1013 ⟨by show _ ≤ 603072; omega, by show _ ≤ 7198826; omega⟩ (fun H locs hP hD hS => ?_)
  refine lv_istore (lv' := [(7, .int r4), (6, .int r1), (0, .ref b), (1, .ref (ad 0)), (2, .ref (am 0)), (3, .ref oa), (4, .ref od), (5, .int x5)]) hx hb dL_law_1016 hl (by decide) rfl (fun ls hl => ?_)
  refine lv_aload_n hx hb dL_law_1018 rfl (lv_at hl 4 rfl) ?_
  obtain ⟨r7, h8, hf⟩ := bnd hf
  refine cm_i (rest := []) (m_M_thrown l ca am lq mcode_5 mday mown mquot mprom mfiles mowner mlinks mblocks mvals msnaps mranks mkept mshot mwas mholds mheld mends mopen mentr mkinds misop mfilesT mentrT mpromT mlinksT mblocksT mvalsT (WC ca ad bq nF nO nL nA nC nV nU nP nE bF bO bL bA bC bV bU bP bE cT cK cO cQ cD pT pK pR pW pU pI pC uO uF uE uN wK jM jN jZ jB ++ (WO ca oa od oL_2 oD ++ R)) _ r7 h8) ⟨hx, hb, hml, hown, hts⟩ (cwV 0 hts (gV q1417 q1418 q1419 q50 q1420) rfl rfl rfl (by decide +kernel) ⟨Nat.le_of_ble_eq_true rfl, Nat.le_of_ble_eq_true rfl⟩) (va_recv hK hP (ci := 8) (q0 := 42) rfl rfl) hE hP hD hS hA rfl hl.1 rfl (lv_room (Nat.le_of_ble_eq_true rfl)) dL_law_1019 ⟨by show _ ≤ 603072; omega, by show _ ≤ 7198826; omega⟩ (fun H locs hP hD hS => ?_)
  refine lv_iload hx hb dL_law_1022 (lv_at hl 1 rfl) ?_
  refine lv_icmp_eq (tgt := 1029) hx hb dL_law_1024 (by decide) (fun c9 => ?_) (fun c9 => ?_)
  · have hf := br_pos c9 hf
    refine lv_iload hx hb dL_law_1029 (lv_at hl 1 rfl) ?_
    refine lv_if_ne (tgt := 1046) hx hb dL_law_1031 (by decide) (fun c10 => ?_) (fun c10 => ?_)
    · have hf := br_neg c10 hf
      refine lv_goto (tgt := 2434) hx hb dL_law_1046 (by decide) ?_
      cases hf
      refine W.widen (k := cN + 1100) (n := sN + 13000) (by omega) (by omega) ?_
      exact kk _ _ _ hP hD hS (lv_sub hl [2, 3, 4, 5, 6, 7] rfl)
    · have hf := br_pos c10 hf
      refine lv_aload_n hx hb dL_law_1034 rfl (lv_at hl 5 rfl) ?_
      refine lv_iconst (v := 0) hx hb dL_law_1035 (by decide) ?_
      refine va_lald (D := D) hx hb hK hP 40 5 rfl rfl (by unfold vp_in; decide) dL_law_1036 ?_
      refine lv_iload hx hb dL_law_1037 (lv_at hl 0 rfl) ?_
      refine lv_i2l hx hb dL_law_1039 rfl ?_
      refine W.lcmp hx hb dL_law_1040 ?_
      refine lv_if_eq (tgt := 1046) hx hb dL_law_1041 (by decide) (fun c11 => ?_) (fun c11 => ?_)
      · have hf := br_pos c11 hf
        refine lv_goto (tgt := 2434) hx hb dL_law_1046 (by decide) ?_
        cases hf
        refine W.widen (k := cN + 1100) (n := sN + 13000) (by omega) (by omega) ?_
        exact kk _ _ _ hP hD hS (lv_sub hl [2, 3, 4, 5, 6, 7] rfl)
      · have hf := br_neg c11 hf
        refine lv_iconst (v := 0) hx hb dL_law_1044 (by decide) ?_
        cases hf
  · have hf := br_neg c9 hf
    refine lv_iconst (v := 0) hx hb dL_law_1027 (by decide) ?_
    cases hf
def f_case15 (p1 : Int32) (nF : Int32) (nC : Nat → Int32) (pU : Nat → Int32) (pI : Nat → Int32) (pC : Nat → Nat → Int32) (wK : Nat → Int32) (oL : Nat → Int64) (mblocks : Nat → Int32) (msnaps : Int32) (mkept : Nat → Int32) (mshot : Nat → Int32) : Option ((Nat → Int32) × (Nat → Int64) × Int32) :=
  (f_L_usersByWalk p1 nF nC pU pI pC wK oL).bind fun (r1, wK_2, oL_3) =>
  (f_M_usersByWalk p1 mblocks msnaps mkept mshot).bind fun (r5, mcode_6) =>
  (f_M_thrown mcode_6).bind fun r8 =>
  if r8 = r1 then
    if r1 = 0 then
      if (lg_cmp (oL_3 (0 : Int32).toNatClampNeg) ((r5).toInt64)) = 0 then
        some (wK_2, oL_3, mcode_6)
      else
        none
    else
      some (wK_2, oL_3, mcode_6)
  else
    none
set_option maxHeartbeats 4000000 in
set_option maxRecDepth 100000 in
theorem l_case15 {p : Program} {l : Launch} {e : Env} {s : State} {m : MethodId} {below : List Frame} {meth : Method} {c : Code} {Q : State → Prop} {D : va_G} {A : Nat → Prop} {b L : Nat} {xs : Nat → Int32} (ca : Nat → ClassId) (hst : l.stackTraces = false) (hx : p.tables.exec = Jvm.exec) (hb : c.code = code) (hml : c.maxLocals = 9) (hown : s.vm.findClass RL = some m.cls) (hts : ∀ w ∈ WW, w.before #[Value.ref b] s = true) (hE : EE D ca SL0 s) (hA : ∀ q, s.heap.size ≤ q → A q) (hZ : ZZ A s s.heap) (hNC : NCE s) (hX : va_X b L xs s s.heap) (hbl : b < s.heap.size) (hbA : ¬ A b) (ad am : Nat → Nat) (bq oa od lq : Nat) (nF : Int32) (nO : Nat → Int32) (nL : Nat → Int32) (nA : Nat → Int32) (nC : Nat → Int32) (nV : Nat → Int32) (nU : Nat → Int32) (nP : Nat → Int32) (nE : Int32) (bF : Int32) (bO : Nat → Int32) (bL : Nat → Int32) (bA : Nat → Int32) (bC : Nat → Int32) (bV : Nat → Int32) (bU : Nat → Int32) (bP : Nat → Int32) (bE : Int32) (cT : Int32) (cK : Nat → Int32) (cO : Int32) (cQ : Nat → Int32) (cD : Int32) (pT : Int32) (pK : Int32) (pR : Nat → Int32) (pW : Nat → Int32) (pU : Nat → Int32) (pI : Nat → Int32) (pC : Nat → Nat → Int32) (uO : Int32) (uF : Nat → Int32) (uE : Nat → Int32) (uN : Nat → Int32) (wK : Nat → Int32) (jM : Int32) (jN : Int32) (jZ : Nat) (jB : Nat → Int32) (oL : Nat → Int64) (oD : Nat → UInt64) (mcode : Int32) (mday : Int32) (mown : Int32) (mquot : Nat → Int32) (mprom : Nat → Int32) (mfiles : Int32) (mowner : Nat → Int32) (mlinks : Nat → Int32) (mblocks : Nat → Int32) (mvals : Nat → Int32) (msnaps : Int32) (mranks : Nat → Int32) (mkept : Nat → Int32) (mshot : Nat → Int32) (mwas : Nat → Int32) (mholds : Int32) (mheld : Nat → Int32) (mends : Nat → Int32) (mopen : Nat → Int32) (mentr : Int32) (mkinds : Nat → Int32) (misop : Int32) (mfilesT : Int32) (mentrT : Int32) (mpromT : Nat → Int32) (mlinksT : Nat → Int32) (mblocksT : Nat → Int32) (mvalsT : Nat → Int32) (R : va_W) (x5 : Int32) (hi1 : vp_in (x5 + 1) L) (hi2 : vp_in (x5 + 2) L) (hi3 : vp_in (x5 + 3) L) (cN sN : Nat) (hcN : cN + 1100 ≤ 603072) (hsN : sN + 13000 ≤ 7198826) (owK : Nat → Int32) (ooL : Nat → Int64) (omcode : Int32) (hf : f_case15 (xs (x5 + 1).toNatClampNeg) nF nC pU pI pC wK oL mblocks msnaps mkept mshot = some (owK, ooL, omcode)) {H : Heap} {locs : List Loc} {ls : Array Slot} (hP : va_P D vwCl (WC ca ad bq nF nO nL nA nC nV nU nP nE bF bO bL bA bC bV bU bP bE cT cK cO cQ cD pT pK pR pW pU pI pC uO uF uE uN wK jM jN jZ jB ++ (WO ca oa od oL oD ++ (WM ca am lq mcode mday mown mquot mprom mfiles mowner mlinks mblocks mvals msnaps mranks mkept mshot mwas mholds mheld mends mopen mentr mkinds misop mfilesT mentrT mpromT mlinksT mblocksT mvalsT ++ R))) H) (hD : va_D A (WC ca ad bq nF nO nL nA nC nV nU nP nE bF bO bL bA bC bV bU bP bE cT cK cO cQ cD pT pK pR pW pU pI pC uO uF uE uN wK jM jN jZ jB ++ (WO ca oa od oL oD ++ (WM ca am lq mcode mday mown mquot mprom mfiles mowner mlinks mblocks mvals msnaps mranks mkept mshot mwas mholds mheld mends mopen mentr mkinds misop mfilesT mentrT mpromT mlinksT mblocksT mvalsT ++ R)))) (hS : va_S A s.heap H locs) (hl : lv_has ls 9 [(0, .ref b), (1, .ref (ad 0)), (2, .ref (am 0)), (3, .ref oa), (4, .ref od), (5, .int x5)]) (kk : ∀ (H : Heap) (locs : List Loc) (ls : Array Slot), va_P D vwCl (WC ca ad bq nF nO nL nA nC nV nU nP nE bF bO bL bA bC bV bU bP bE cT cK cO cQ cD pT pK pR pW pU pI pC uO uF uE uN owK jM jN jZ jB ++ (WO ca oa od ooL oD ++ (WM ca am lq omcode mday mown mquot mprom mfiles mowner mlinks mblocks mvals msnaps mranks mkept mshot mwas mholds mheld mends mopen mentr mkinds misop mfilesT mentrT mpromT mlinksT mblocksT mvalsT ++ R))) H → va_D A (WC ca ad bq nF nO nL nA nC nV nU nP nE bF bO bL bA bC bV bU bP bE cT cK cO cQ cD pT pK pR pW pU pI pC uO uF uE uN owK jM jN jZ jB ++ (WO ca oa od ooL oD ++ (WM ca am lq omcode mday mown mquot mprom mfiles mowner mlinks mblocks mvals msnaps mranks mkept mshot mwas mholds mheld mends mopen mentr mkinds misop mfilesT mentrT mpromT mlinksT mblocksT mvalsT ++ R))) → va_S A s.heap H locs → lv_has ls 9 [(0, .ref b), (1, .ref (ad 0)), (2, .ref (am 0)), (3, .ref oa), (4, .ref od), (5, .int x5)] → W p l e room_1 s m #[Value.ref b] below meth c H locs (cN + 1100) (sN + 13000) Q (F0 m 2434 ls [])) : W p l e room_1 s m #[Value.ref b] below meth c H locs cN sN Q (F0 m 1049 ls []) := by
  have hK := hE.1
  unfold f_case15 at hf
  change W p l e room_1 s m #[Value.ref b] below meth c H locs (cN + 0) (sN + 0) Q (F0 m 1049 ls [])
  refine lv_aload_n hx hb dL_law_1049 rfl (lv_at hl 1 rfl) ?_
  refine lv_aload_n hx hb dL_law_1050 rfl (lv_at hl 0 rfl) ?_
  refine lv_iload hx hb dL_law_1051 (lv_at hl 5 rfl) ?_
  refine lv_iconst (v := 1) hx hb dL_law_1053 (by decide) ?_
  refine lv_iadd hx hb dL_law_1054 ?_
  refine va_sld hx hb hX hbl hbA hS hi1 dL_law_1055 ?_
  refine lv_aload_n hx hb dL_law_1056 rfl (lv_at hl 3 rfl) ?_
  obtain ⟨⟨r1, wK_2, oL_3⟩, h4, hf⟩ := bnd hf
  refine cl_wi (rest := []) (m_L_usersByWalk l hst ca ad bq oa od nF nO nL nA nC nV nU nP nE bF bO bL bA bC bV bU bP bE cT cK cO cQ cD pT pK pR pW pU pI pC uO uF uE uN wK jM jN jZ jB oL oD (WM ca am lq mcode mday mown mquot mprom mfiles mowner mlinks mblocks mvals msnaps mranks mkept mshot mwas mholds mheld mends mopen mentr mkinds misop mfilesT mentrT mpromT mlinksT mblocksT mvalsT ++ R) _ (xs (x5 + 1).toNatClampNeg) r1 wK_2 oL_3 h4) ⟨hx, hb, hml, hown, hts⟩ (vx_cwSW 3 hts (gSW q743 q744 q40 q745) rfl rfl rfl (by decide +kernel) ⟨Nat.le_of_ble_eq_true rfl, Nat.le_of_ble_eq_true rfl⟩) hE hP hD hS hA hZ hNC rfl hl.1 rfl (lv_room (Nat.le_of_ble_eq_true rfl)) dL_law_1057 ⟨by show _ ≤ 603072; omega, by show _ ≤ 7198826; omega⟩ (fun H locs hP hD hS => ?_)
  refine lv_istore (lv' := [(6, .int r1), (0, .ref b), (1, .ref (ad 0)), (2, .ref (am 0)), (3, .ref oa), (4, .ref od), (5, .int x5)]) hx hb dL_law_1060 hl (by decide) rfl (fun ls hl => ?_)
  refine lv_aload_n hx hb dL_law_1062 rfl (lv_at hl 3 rfl) ?_
  refine lv_aload_n hx hb dL_law_1063 rfl (lv_at hl 1 rfl) ?_
  refine lv_iload hx hb dL_law_1064 (lv_at hl 6 rfl) ?_
  refine lv_iconst (v := 1) hx hb dL_law_1066 (by decide) ?_
  refine lv_iadd hx hb dL_law_1067 ?_
  refine va_sld hx hb hX hbl hbA hS hi1 dL_law_1068 ?_
  obtain ⟨⟨r5, mcode_6⟩, h7, hf⟩ := bnd hf
  refine cm_i (rest := []) (m_M_usersByWalk l ca am lq mcode mday mown mquot mprom mfiles mowner mlinks mblocks mvals msnaps mranks mkept mshot mwas mholds mheld mends mopen mentr mkinds misop mfilesT mentrT mpromT mlinksT mblocksT mvalsT (WC ca ad bq nF nO nL nA nC nV nU nP nE bF bO bL bA bC bV bU bP bE cT cK cO cQ cD pT pK pR pW pU pI pC uO uF uE uN wK_2 jM jN jZ jB ++ (WO ca oa od oL_3 oD ++ R)) _ (xs (x5 + 1).toNatClampNeg) r5 mcode_6 h7) ⟨hx, hb, hml, hown, hts⟩ (cwV 1 hts (gV q1539 q1540 q1541 q50 q1542) rfl rfl rfl (by decide +kernel) ⟨Nat.le_of_ble_eq_true rfl, Nat.le_of_ble_eq_true rfl⟩) (va_recv hK hP (ci := 8) (q0 := 42) rfl rfl) hE hP hD hS hA rfl hl.1 rfl (lv_room (Nat.le_of_ble_eq_true rfl)) dL_law_1069 ⟨by show _ ≤ 603072; omega, by show _ ≤ 7198826; omega⟩ (fun H locs hP hD hS => ?_)
  refine lv_istore (lv' := [(7, .int r5), (6, .int r1), (0, .ref b), (1, .ref (ad 0)), (2, .ref (am 0)), (3, .ref oa), (4, .ref od), (5, .int x5)]) hx hb dL_law_1072 hl (by decide) rfl (fun ls hl => ?_)
  refine lv_aload_n hx hb dL_law_1074 rfl (lv_at hl 4 rfl) ?_
  obtain ⟨r8, h9, hf⟩ := bnd hf
  refine cm_i (rest := []) (m_M_thrown l ca am lq mcode_6 mday mown mquot mprom mfiles mowner mlinks mblocks mvals msnaps mranks mkept mshot mwas mholds mheld mends mopen mentr mkinds misop mfilesT mentrT mpromT mlinksT mblocksT mvalsT (WC ca ad bq nF nO nL nA nC nV nU nP nE bF bO bL bA bC bV bU bP bE cT cK cO cQ cD pT pK pR pW pU pI pC uO uF uE uN wK_2 jM jN jZ jB ++ (WO ca oa od oL_3 oD ++ R)) _ r8 h9) ⟨hx, hb, hml, hown, hts⟩ (cwV 0 hts (gV q1417 q1418 q1419 q50 q1420) rfl rfl rfl (by decide +kernel) ⟨Nat.le_of_ble_eq_true rfl, Nat.le_of_ble_eq_true rfl⟩) (va_recv hK hP (ci := 8) (q0 := 42) rfl rfl) hE hP hD hS hA rfl hl.1 rfl (lv_room (Nat.le_of_ble_eq_true rfl)) dL_law_1075 ⟨by show _ ≤ 603072; omega, by show _ ≤ 7198826; omega⟩ (fun H locs hP hD hS => ?_)
  refine lv_iload hx hb dL_law_1078 (lv_at hl 1 rfl) ?_
  refine lv_icmp_eq (tgt := 1085) hx hb dL_law_1080 (by decide) (fun c10 => ?_) (fun c10 => ?_)
  · have hf := br_pos c10 hf
    refine lv_iload hx hb dL_law_1085 (lv_at hl 1 rfl) ?_
    refine lv_if_ne (tgt := 1102) hx hb dL_law_1087 (by decide) (fun c11 => ?_) (fun c11 => ?_)
    · have hf := br_neg c11 hf
      refine lv_goto (tgt := 2434) hx hb dL_law_1102 (by decide) ?_
      cases hf
      refine W.widen (k := cN + 1100) (n := sN + 13000) (by omega) (by omega) ?_
      exact kk _ _ _ hP hD hS (lv_sub hl [2, 3, 4, 5, 6, 7] rfl)
    · have hf := br_pos c11 hf
      refine lv_aload_n hx hb dL_law_1090 rfl (lv_at hl 5 rfl) ?_
      refine lv_iconst (v := 0) hx hb dL_law_1091 (by decide) ?_
      refine va_lald (D := D) hx hb hK hP 40 5 rfl rfl (by unfold vp_in; decide) dL_law_1092 ?_
      refine lv_iload hx hb dL_law_1093 (lv_at hl 0 rfl) ?_
      refine lv_i2l hx hb dL_law_1095 rfl ?_
      refine W.lcmp hx hb dL_law_1096 ?_
      refine lv_if_eq (tgt := 1102) hx hb dL_law_1097 (by decide) (fun c12 => ?_) (fun c12 => ?_)
      · have hf := br_pos c12 hf
        refine lv_goto (tgt := 2434) hx hb dL_law_1102 (by decide) ?_
        cases hf
        refine W.widen (k := cN + 1100) (n := sN + 13000) (by omega) (by omega) ?_
        exact kk _ _ _ hP hD hS (lv_sub hl [2, 3, 4, 5, 6, 7] rfl)
      · have hf := br_neg c12 hf
        refine lv_iconst (v := 0) hx hb dL_law_1100 (by decide) ?_
        cases hf
  · have hf := br_neg c10 hf
    refine lv_iconst (v := 0) hx hb dL_law_1083 (by decide) ?_
    cases hf
def f_case16 (p1 : Int32) (p2 : Int32) (nU : Nat → Int32) (nP : Nat → Int32) (nE : Int32) (cK : Nat → Int32) (cO : Int32) (oL : Nat → Int64) (mown : Int32) (mprom : Nat → Int32) (mblocks : Nat → Int32) (msnaps : Int32) (mkept : Nat → Int32) (mshot : Nat → Int32) (mentr : Int32) (mkinds : Nat → Int32) : Option ((Nat → Int32) × Int32 × (Nat → Int32) × (Nat → Int64) × Int32 × (Nat → Int32) × Int32 × (Nat → Int32)) :=
  (f_L_promise p1 p2 nU nP nE cK cO oL).bind fun (r1, nP_2, nE_3, cK_4, oL_5) =>
  (f_M_promise p1 p2 mown mprom mblocks msnaps mkept mshot mentr mkinds).bind fun (r7, mcode_8, mprom_9, mentr_10, mkinds_11) =>
  (f_M_thrown mcode_8).bind fun r13 =>
  if r13 = r1 then
    if r1 = 0 then
      if (lg_cmp (oL_5 (0 : Int32).toNatClampNeg) ((r7).toInt64)) = 0 then
        some (nP_2, nE_3, cK_4, oL_5, mcode_8, mprom_9, mentr_10, mkinds_11)
      else
        none
    else
      some (nP_2, nE_3, cK_4, oL_5, mcode_8, mprom_9, mentr_10, mkinds_11)
  else
    none
set_option maxHeartbeats 4000000 in
set_option maxRecDepth 100000 in
theorem l_case16 {p : Program} {l : Launch} {e : Env} {s : State} {m : MethodId} {below : List Frame} {meth : Method} {c : Code} {Q : State → Prop} {D : va_G} {A : Nat → Prop} {b L : Nat} {xs : Nat → Int32} (ca : Nat → ClassId) (hst : l.stackTraces = false) (hx : p.tables.exec = Jvm.exec) (hb : c.code = code) (hml : c.maxLocals = 9) (hown : s.vm.findClass RL = some m.cls) (hts : ∀ w ∈ WW, w.before #[Value.ref b] s = true) (hE : EE D ca SL0 s) (hA : ∀ q, s.heap.size ≤ q → A q) (hZ : ZZ A s s.heap) (hNC : NCE s) (hX : va_X b L xs s s.heap) (hbl : b < s.heap.size) (hbA : ¬ A b) (ad am : Nat → Nat) (bq oa od lq : Nat) (nF : Int32) (nO : Nat → Int32) (nL : Nat → Int32) (nA : Nat → Int32) (nC : Nat → Int32) (nV : Nat → Int32) (nU : Nat → Int32) (nP : Nat → Int32) (nE : Int32) (bF : Int32) (bO : Nat → Int32) (bL : Nat → Int32) (bA : Nat → Int32) (bC : Nat → Int32) (bV : Nat → Int32) (bU : Nat → Int32) (bP : Nat → Int32) (bE : Int32) (cT : Int32) (cK : Nat → Int32) (cO : Int32) (cQ : Nat → Int32) (cD : Int32) (pT : Int32) (pK : Int32) (pR : Nat → Int32) (pW : Nat → Int32) (pU : Nat → Int32) (pI : Nat → Int32) (pC : Nat → Nat → Int32) (uO : Int32) (uF : Nat → Int32) (uE : Nat → Int32) (uN : Nat → Int32) (wK : Nat → Int32) (jM : Int32) (jN : Int32) (jZ : Nat) (jB : Nat → Int32) (oL : Nat → Int64) (oD : Nat → UInt64) (mcode : Int32) (mday : Int32) (mown : Int32) (mquot : Nat → Int32) (mprom : Nat → Int32) (mfiles : Int32) (mowner : Nat → Int32) (mlinks : Nat → Int32) (mblocks : Nat → Int32) (mvals : Nat → Int32) (msnaps : Int32) (mranks : Nat → Int32) (mkept : Nat → Int32) (mshot : Nat → Int32) (mwas : Nat → Int32) (mholds : Int32) (mheld : Nat → Int32) (mends : Nat → Int32) (mopen : Nat → Int32) (mentr : Int32) (mkinds : Nat → Int32) (misop : Int32) (mfilesT : Int32) (mentrT : Int32) (mpromT : Nat → Int32) (mlinksT : Nat → Int32) (mblocksT : Nat → Int32) (mvalsT : Nat → Int32) (R : va_W) (x5 : Int32) (hi1 : vp_in (x5 + 1) L) (hi2 : vp_in (x5 + 2) L) (hi3 : vp_in (x5 + 3) L) (cN sN : Nat) (hcN : cN + 1100 ≤ 603072) (hsN : sN + 13000 ≤ 7198826) (onP : Nat → Int32) (onE : Int32) (ocK : Nat → Int32) (ooL : Nat → Int64) (omcode : Int32) (omprom : Nat → Int32) (omentr : Int32) (omkinds : Nat → Int32) (hf : f_case16 (xs (x5 + 1).toNatClampNeg) (xs (x5 + 2).toNatClampNeg) nU nP nE cK cO oL mown mprom mblocks msnaps mkept mshot mentr mkinds = some (onP, onE, ocK, ooL, omcode, omprom, omentr, omkinds)) {H : Heap} {locs : List Loc} {ls : Array Slot} (hP : va_P D vwCl (WC ca ad bq nF nO nL nA nC nV nU nP nE bF bO bL bA bC bV bU bP bE cT cK cO cQ cD pT pK pR pW pU pI pC uO uF uE uN wK jM jN jZ jB ++ (WO ca oa od oL oD ++ (WM ca am lq mcode mday mown mquot mprom mfiles mowner mlinks mblocks mvals msnaps mranks mkept mshot mwas mholds mheld mends mopen mentr mkinds misop mfilesT mentrT mpromT mlinksT mblocksT mvalsT ++ R))) H) (hD : va_D A (WC ca ad bq nF nO nL nA nC nV nU nP nE bF bO bL bA bC bV bU bP bE cT cK cO cQ cD pT pK pR pW pU pI pC uO uF uE uN wK jM jN jZ jB ++ (WO ca oa od oL oD ++ (WM ca am lq mcode mday mown mquot mprom mfiles mowner mlinks mblocks mvals msnaps mranks mkept mshot mwas mholds mheld mends mopen mentr mkinds misop mfilesT mentrT mpromT mlinksT mblocksT mvalsT ++ R)))) (hS : va_S A s.heap H locs) (hl : lv_has ls 9 [(0, .ref b), (1, .ref (ad 0)), (2, .ref (am 0)), (3, .ref oa), (4, .ref od), (5, .int x5)]) (kk : ∀ (H : Heap) (locs : List Loc) (ls : Array Slot), va_P D vwCl (WC ca ad bq nF nO nL nA nC nV nU onP onE bF bO bL bA bC bV bU bP bE cT ocK cO cQ cD pT pK pR pW pU pI pC uO uF uE uN wK jM jN jZ jB ++ (WO ca oa od ooL oD ++ (WM ca am lq omcode mday mown mquot omprom mfiles mowner mlinks mblocks mvals msnaps mranks mkept mshot mwas mholds mheld mends mopen omentr omkinds misop mfilesT mentrT mpromT mlinksT mblocksT mvalsT ++ R))) H → va_D A (WC ca ad bq nF nO nL nA nC nV nU onP onE bF bO bL bA bC bV bU bP bE cT ocK cO cQ cD pT pK pR pW pU pI pC uO uF uE uN wK jM jN jZ jB ++ (WO ca oa od ooL oD ++ (WM ca am lq omcode mday mown mquot omprom mfiles mowner mlinks mblocks mvals msnaps mranks mkept mshot mwas mholds mheld mends mopen omentr omkinds misop mfilesT mentrT mpromT mlinksT mblocksT mvalsT ++ R))) → va_S A s.heap H locs → lv_has ls 9 [(0, .ref b), (1, .ref (ad 0)), (2, .ref (am 0)), (3, .ref oa), (4, .ref od), (5, .int x5)] → W p l e room_1 s m #[Value.ref b] below meth c H locs (cN + 1100) (sN + 13000) Q (F0 m 2434 ls [])) : W p l e room_1 s m #[Value.ref b] below meth c H locs cN sN Q (F0 m 1105 ls []) := by
  have hK := hE.1
  unfold f_case16 at hf
  change W p l e room_1 s m #[Value.ref b] below meth c H locs (cN + 0) (sN + 0) Q (F0 m 1105 ls [])
  refine lv_aload_n hx hb dL_law_1105 rfl (lv_at hl 1 rfl) ?_
  refine lv_aload_n hx hb dL_law_1106 rfl (lv_at hl 0 rfl) ?_
  refine lv_iload hx hb dL_law_1107 (lv_at hl 5 rfl) ?_
  refine lv_iconst (v := 1) hx hb dL_law_1109 (by decide) ?_
  refine lv_iadd hx hb dL_law_1110 ?_
  refine va_sld hx hb hX hbl hbA hS hi1 dL_law_1111 ?_
  refine lv_aload_n hx hb dL_law_1112 rfl (lv_at hl 0 rfl) ?_
  refine lv_iload hx hb dL_law_1113 (lv_at hl 5 rfl) ?_
  refine lv_iconst (v := 2) hx hb dL_law_1115 (by decide) ?_
  refine lv_iadd hx hb dL_law_1116 ?_
  refine va_sld hx hb hX hbl hbA hS hi2 dL_law_1117 ?_
  refine lv_aload_n hx hb dL_law_1118 rfl (lv_at hl 3 rfl) ?_
  obtain ⟨⟨r1, nP_2, nE_3, cK_4, oL_5⟩, h6, hf⟩ := bnd hf
  refine cl_wi (rest := []) (m_L_promise l hst ca ad bq oa od nF nO nL nA nC nV nU nP nE bF bO bL bA bC bV bU bP bE cT cK cO cQ cD pT pK pR pW pU pI pC uO uF uE uN wK jM jN jZ jB oL oD (WM ca am lq mcode mday mown mquot mprom mfiles mowner mlinks mblocks mvals msnaps mranks mkept mshot mwas mholds mheld mends mopen mentr mkinds misop mfilesT mentrT mpromT mlinksT mblocksT mvalsT ++ R) _ (xs (x5 + 1).toNatClampNeg) (xs (x5 + 2).toNatClampNeg) r1 nP_2 nE_3 cK_4 oL_5 h6) ⟨hx, hb, hml, hown, hts⟩ (vx_cwSW 4 hts (gSW q750 q751 q40 q752) rfl rfl rfl (by decide +kernel) ⟨Nat.le_of_ble_eq_true rfl, Nat.le_of_ble_eq_true rfl⟩) hE hP hD hS hA hZ hNC rfl hl.1 rfl (lv_room (Nat.le_of_ble_eq_true rfl)) dL_law_1119 ⟨by show _ ≤ 603072; omega, by show _ ≤ 7198826; omega⟩ (fun H locs hP hD hS => ?_)
  refine lv_istore (lv' := [(6, .int r1), (0, .ref b), (1, .ref (ad 0)), (2, .ref (am 0)), (3, .ref oa), (4, .ref od), (5, .int x5)]) hx hb dL_law_1122 hl (by decide) rfl (fun ls hl => ?_)
  refine lv_aload_n hx hb dL_law_1124 rfl (lv_at hl 3 rfl) ?_
  refine lv_aload_n hx hb dL_law_1125 rfl (lv_at hl 1 rfl) ?_
  refine lv_iload hx hb dL_law_1126 (lv_at hl 6 rfl) ?_
  refine lv_iconst (v := 1) hx hb dL_law_1128 (by decide) ?_
  refine lv_iadd hx hb dL_law_1129 ?_
  refine va_sld hx hb hX hbl hbA hS hi1 dL_law_1130 ?_
  refine lv_aload_n hx hb dL_law_1131 rfl (lv_at hl 1 rfl) ?_
  refine lv_iload hx hb dL_law_1132 (lv_at hl 6 rfl) ?_
  refine lv_iconst (v := 2) hx hb dL_law_1134 (by decide) ?_
  refine lv_iadd hx hb dL_law_1135 ?_
  refine va_sld hx hb hX hbl hbA hS hi2 dL_law_1136 ?_
  obtain ⟨⟨r7, mcode_8, mprom_9, mentr_10, mkinds_11⟩, h12, hf⟩ := bnd hf
  refine cm_i (rest := []) (m_M_promise l ca am lq mcode mday mown mquot mprom mfiles mowner mlinks mblocks mvals msnaps mranks mkept mshot mwas mholds mheld mends mopen mentr mkinds misop mfilesT mentrT mpromT mlinksT mblocksT mvalsT (WC ca ad bq nF nO nL nA nC nV nU nP_2 nE_3 bF bO bL bA bC bV bU bP bE cT cK_4 cO cQ cD pT pK pR pW pU pI pC uO uF uE uN wK jM jN jZ jB ++ (WO ca oa od oL_5 oD ++ R)) _ (xs (x5 + 1).toNatClampNeg) (xs (x5 + 2).toNatClampNeg) r7 mcode_8 mprom_9 mentr_10 mkinds_11 h12) ⟨hx, hb, hml, hown, hts⟩ (cwV 2 hts (gV q1544 q1545 q1546 q50 q1547) rfl rfl rfl (by decide +kernel) ⟨Nat.le_of_ble_eq_true rfl, Nat.le_of_ble_eq_true rfl⟩) (va_recv hK hP (ci := 8) (q0 := 42) rfl rfl) hE hP hD hS hA rfl hl.1 rfl (lv_room (Nat.le_of_ble_eq_true rfl)) dL_law_1137 ⟨by show _ ≤ 603072; omega, by show _ ≤ 7198826; omega⟩ (fun H locs hP hD hS => ?_)
  refine lv_istore (lv' := [(7, .int r7), (6, .int r1), (0, .ref b), (1, .ref (ad 0)), (2, .ref (am 0)), (3, .ref oa), (4, .ref od), (5, .int x5)]) hx hb dL_law_1140 hl (by decide) rfl (fun ls hl => ?_)
  refine lv_aload_n hx hb dL_law_1142 rfl (lv_at hl 4 rfl) ?_
  obtain ⟨r13, h14, hf⟩ := bnd hf
  refine cm_i (rest := []) (m_M_thrown l ca am lq mcode_8 mday mown mquot mprom_9 mfiles mowner mlinks mblocks mvals msnaps mranks mkept mshot mwas mholds mheld mends mopen mentr_10 mkinds_11 misop mfilesT mentrT mpromT mlinksT mblocksT mvalsT (WC ca ad bq nF nO nL nA nC nV nU nP_2 nE_3 bF bO bL bA bC bV bU bP bE cT cK_4 cO cQ cD pT pK pR pW pU pI pC uO uF uE uN wK jM jN jZ jB ++ (WO ca oa od oL_5 oD ++ R)) _ r13 h14) ⟨hx, hb, hml, hown, hts⟩ (cwV 0 hts (gV q1417 q1418 q1419 q50 q1420) rfl rfl rfl (by decide +kernel) ⟨Nat.le_of_ble_eq_true rfl, Nat.le_of_ble_eq_true rfl⟩) (va_recv hK hP (ci := 8) (q0 := 42) rfl rfl) hE hP hD hS hA rfl hl.1 rfl (lv_room (Nat.le_of_ble_eq_true rfl)) dL_law_1143 ⟨by show _ ≤ 603072; omega, by show _ ≤ 7198826; omega⟩ (fun H locs hP hD hS => ?_)
  refine lv_iload hx hb dL_law_1146 (lv_at hl 1 rfl) ?_
  refine lv_icmp_eq (tgt := 1153) hx hb dL_law_1148 (by decide) (fun c15 => ?_) (fun c15 => ?_)
  · have hf := br_pos c15 hf
    refine lv_iload hx hb dL_law_1153 (lv_at hl 1 rfl) ?_
    refine lv_if_ne (tgt := 1170) hx hb dL_law_1155 (by decide) (fun c16 => ?_) (fun c16 => ?_)
    · have hf := br_neg c16 hf
      refine lv_goto (tgt := 2434) hx hb dL_law_1170 (by decide) ?_
      cases hf
      refine W.widen (k := cN + 1100) (n := sN + 13000) (by omega) (by omega) ?_
      exact kk _ _ _ hP hD hS (lv_sub hl [2, 3, 4, 5, 6, 7] rfl)
    · have hf := br_pos c16 hf
      refine lv_aload_n hx hb dL_law_1158 rfl (lv_at hl 5 rfl) ?_
      refine lv_iconst (v := 0) hx hb dL_law_1159 (by decide) ?_
      refine va_lald (D := D) hx hb hK hP 40 5 rfl rfl (by unfold vp_in; decide) dL_law_1160 ?_
      refine lv_iload hx hb dL_law_1161 (lv_at hl 0 rfl) ?_
      refine lv_i2l hx hb dL_law_1163 rfl ?_
      refine W.lcmp hx hb dL_law_1164 ?_
      refine lv_if_eq (tgt := 1170) hx hb dL_law_1165 (by decide) (fun c17 => ?_) (fun c17 => ?_)
      · have hf := br_pos c17 hf
        refine lv_goto (tgt := 2434) hx hb dL_law_1170 (by decide) ?_
        cases hf
        refine W.widen (k := cN + 1100) (n := sN + 13000) (by omega) (by omega) ?_
        exact kk _ _ _ hP hD hS (lv_sub hl [2, 3, 4, 5, 6, 7] rfl)
      · have hf := br_neg c17 hf
        refine lv_iconst (v := 0) hx hb dL_law_1168 (by decide) ?_
        cases hf
  · have hf := br_neg c15 hf
    refine lv_iconst (v := 0) hx hb dL_law_1151 (by decide) ?_
    cases hf
def f_case17 (p1 : Int32) (nP : Nat → Int32) (cO : Int32) (oL : Nat → Int64) (mown : Int32) (mprom : Nat → Int32) : Option ((Nat → Int64) × Int32) :=
  (f_L_promisedTo p1 nP cO oL).bind fun (r1, oL_2) =>
  (f_M_promisedTo p1 mown mprom).bind fun (r4, mcode_5) =>
  (f_M_thrown mcode_5).bind fun r7 =>
  if r7 = r1 then
    if r1 = 0 then
      if (lg_cmp (oL_2 (0 : Int32).toNatClampNeg) ((r4).toInt64)) = 0 then
        some (oL_2, mcode_5)
      else
        none
    else
      some (oL_2, mcode_5)
  else
    none
set_option maxHeartbeats 4000000 in
set_option maxRecDepth 100000 in
theorem l_case17 {p : Program} {l : Launch} {e : Env} {s : State} {m : MethodId} {below : List Frame} {meth : Method} {c : Code} {Q : State → Prop} {D : va_G} {A : Nat → Prop} {b L : Nat} {xs : Nat → Int32} (ca : Nat → ClassId) (hst : l.stackTraces = false) (hx : p.tables.exec = Jvm.exec) (hb : c.code = code) (hml : c.maxLocals = 9) (hown : s.vm.findClass RL = some m.cls) (hts : ∀ w ∈ WW, w.before #[Value.ref b] s = true) (hE : EE D ca SL0 s) (hA : ∀ q, s.heap.size ≤ q → A q) (hZ : ZZ A s s.heap) (hNC : NCE s) (hX : va_X b L xs s s.heap) (hbl : b < s.heap.size) (hbA : ¬ A b) (ad am : Nat → Nat) (bq oa od lq : Nat) (nF : Int32) (nO : Nat → Int32) (nL : Nat → Int32) (nA : Nat → Int32) (nC : Nat → Int32) (nV : Nat → Int32) (nU : Nat → Int32) (nP : Nat → Int32) (nE : Int32) (bF : Int32) (bO : Nat → Int32) (bL : Nat → Int32) (bA : Nat → Int32) (bC : Nat → Int32) (bV : Nat → Int32) (bU : Nat → Int32) (bP : Nat → Int32) (bE : Int32) (cT : Int32) (cK : Nat → Int32) (cO : Int32) (cQ : Nat → Int32) (cD : Int32) (pT : Int32) (pK : Int32) (pR : Nat → Int32) (pW : Nat → Int32) (pU : Nat → Int32) (pI : Nat → Int32) (pC : Nat → Nat → Int32) (uO : Int32) (uF : Nat → Int32) (uE : Nat → Int32) (uN : Nat → Int32) (wK : Nat → Int32) (jM : Int32) (jN : Int32) (jZ : Nat) (jB : Nat → Int32) (oL : Nat → Int64) (oD : Nat → UInt64) (mcode : Int32) (mday : Int32) (mown : Int32) (mquot : Nat → Int32) (mprom : Nat → Int32) (mfiles : Int32) (mowner : Nat → Int32) (mlinks : Nat → Int32) (mblocks : Nat → Int32) (mvals : Nat → Int32) (msnaps : Int32) (mranks : Nat → Int32) (mkept : Nat → Int32) (mshot : Nat → Int32) (mwas : Nat → Int32) (mholds : Int32) (mheld : Nat → Int32) (mends : Nat → Int32) (mopen : Nat → Int32) (mentr : Int32) (mkinds : Nat → Int32) (misop : Int32) (mfilesT : Int32) (mentrT : Int32) (mpromT : Nat → Int32) (mlinksT : Nat → Int32) (mblocksT : Nat → Int32) (mvalsT : Nat → Int32) (R : va_W) (x5 : Int32) (hi1 : vp_in (x5 + 1) L) (hi2 : vp_in (x5 + 2) L) (hi3 : vp_in (x5 + 3) L) (cN sN : Nat) (hcN : cN + 1100 ≤ 603072) (hsN : sN + 13000 ≤ 7198826) (ooL : Nat → Int64) (omcode : Int32) (hf : f_case17 (xs (x5 + 1).toNatClampNeg) nP cO oL mown mprom = some (ooL, omcode)) {H : Heap} {locs : List Loc} {ls : Array Slot} (hP : va_P D vwCl (WC ca ad bq nF nO nL nA nC nV nU nP nE bF bO bL bA bC bV bU bP bE cT cK cO cQ cD pT pK pR pW pU pI pC uO uF uE uN wK jM jN jZ jB ++ (WO ca oa od oL oD ++ (WM ca am lq mcode mday mown mquot mprom mfiles mowner mlinks mblocks mvals msnaps mranks mkept mshot mwas mholds mheld mends mopen mentr mkinds misop mfilesT mentrT mpromT mlinksT mblocksT mvalsT ++ R))) H) (hD : va_D A (WC ca ad bq nF nO nL nA nC nV nU nP nE bF bO bL bA bC bV bU bP bE cT cK cO cQ cD pT pK pR pW pU pI pC uO uF uE uN wK jM jN jZ jB ++ (WO ca oa od oL oD ++ (WM ca am lq mcode mday mown mquot mprom mfiles mowner mlinks mblocks mvals msnaps mranks mkept mshot mwas mholds mheld mends mopen mentr mkinds misop mfilesT mentrT mpromT mlinksT mblocksT mvalsT ++ R)))) (hS : va_S A s.heap H locs) (hl : lv_has ls 9 [(0, .ref b), (1, .ref (ad 0)), (2, .ref (am 0)), (3, .ref oa), (4, .ref od), (5, .int x5)]) (kk : ∀ (H : Heap) (locs : List Loc) (ls : Array Slot), va_P D vwCl (WC ca ad bq nF nO nL nA nC nV nU nP nE bF bO bL bA bC bV bU bP bE cT cK cO cQ cD pT pK pR pW pU pI pC uO uF uE uN wK jM jN jZ jB ++ (WO ca oa od ooL oD ++ (WM ca am lq omcode mday mown mquot mprom mfiles mowner mlinks mblocks mvals msnaps mranks mkept mshot mwas mholds mheld mends mopen mentr mkinds misop mfilesT mentrT mpromT mlinksT mblocksT mvalsT ++ R))) H → va_D A (WC ca ad bq nF nO nL nA nC nV nU nP nE bF bO bL bA bC bV bU bP bE cT cK cO cQ cD pT pK pR pW pU pI pC uO uF uE uN wK jM jN jZ jB ++ (WO ca oa od ooL oD ++ (WM ca am lq omcode mday mown mquot mprom mfiles mowner mlinks mblocks mvals msnaps mranks mkept mshot mwas mholds mheld mends mopen mentr mkinds misop mfilesT mentrT mpromT mlinksT mblocksT mvalsT ++ R))) → va_S A s.heap H locs → lv_has ls 9 [(0, .ref b), (1, .ref (ad 0)), (2, .ref (am 0)), (3, .ref oa), (4, .ref od), (5, .int x5)] → W p l e room_1 s m #[Value.ref b] below meth c H locs (cN + 1100) (sN + 13000) Q (F0 m 2434 ls [])) : W p l e room_1 s m #[Value.ref b] below meth c H locs cN sN Q (F0 m 1173 ls []) := by
  have hK := hE.1
  unfold f_case17 at hf
  change W p l e room_1 s m #[Value.ref b] below meth c H locs (cN + 0) (sN + 0) Q (F0 m 1173 ls [])
  refine lv_aload_n hx hb dL_law_1173 rfl (lv_at hl 1 rfl) ?_
  refine lv_aload_n hx hb dL_law_1174 rfl (lv_at hl 0 rfl) ?_
  refine lv_iload hx hb dL_law_1175 (lv_at hl 5 rfl) ?_
  refine lv_iconst (v := 1) hx hb dL_law_1177 (by decide) ?_
  refine lv_iadd hx hb dL_law_1178 ?_
  refine va_sld hx hb hX hbl hbA hS hi1 dL_law_1179 ?_
  refine lv_aload_n hx hb dL_law_1180 rfl (lv_at hl 3 rfl) ?_
  obtain ⟨⟨r1, oL_2⟩, h3, hf⟩ := bnd hf
  refine cl_wi (rest := []) (m_L_promisedTo l hst ca ad bq oa od nF nO nL nA nC nV nU nP nE bF bO bL bA bC bV bU bP bE cT cK cO cQ cD pT pK pR pW pU pI pC uO uF uE uN wK jM jN jZ jB oL oD (WM ca am lq mcode mday mown mquot mprom mfiles mowner mlinks mblocks mvals msnaps mranks mkept mshot mwas mholds mheld mends mopen mentr mkinds misop mfilesT mentrT mpromT mlinksT mblocksT mvalsT ++ R) _ (xs (x5 + 1).toNatClampNeg) r1 oL_2 h3) ⟨hx, hb, hml, hown, hts⟩ (vx_cwSW 3 hts (gSW q759 q760 q40 q761) rfl rfl rfl (by decide +kernel) ⟨Nat.le_of_ble_eq_true rfl, Nat.le_of_ble_eq_true rfl⟩) hE hP hD hS hA hZ hNC rfl hl.1 rfl (lv_room (Nat.le_of_ble_eq_true rfl)) dL_law_1181 ⟨by show _ ≤ 603072; omega, by show _ ≤ 7198826; omega⟩ (fun H locs hP hD hS => ?_)
  refine lv_istore (lv' := [(6, .int r1), (0, .ref b), (1, .ref (ad 0)), (2, .ref (am 0)), (3, .ref oa), (4, .ref od), (5, .int x5)]) hx hb dL_law_1184 hl (by decide) rfl (fun ls hl => ?_)
  refine lv_aload_n hx hb dL_law_1186 rfl (lv_at hl 3 rfl) ?_
  refine lv_aload_n hx hb dL_law_1187 rfl (lv_at hl 1 rfl) ?_
  refine lv_iload hx hb dL_law_1188 (lv_at hl 6 rfl) ?_
  refine lv_iconst (v := 1) hx hb dL_law_1190 (by decide) ?_
  refine lv_iadd hx hb dL_law_1191 ?_
  refine va_sld hx hb hX hbl hbA hS hi1 dL_law_1192 ?_
  obtain ⟨⟨r4, mcode_5⟩, h6, hf⟩ := bnd hf
  refine cm_i (rest := []) (m_M_promisedTo l ca am lq mcode mday mown mquot mprom mfiles mowner mlinks mblocks mvals msnaps mranks mkept mshot mwas mholds mheld mends mopen mentr mkinds misop mfilesT mentrT mpromT mlinksT mblocksT mvalsT (WC ca ad bq nF nO nL nA nC nV nU nP nE bF bO bL bA bC bV bU bP bE cT cK cO cQ cD pT pK pR pW pU pI pC uO uF uE uN wK jM jN jZ jB ++ (WO ca oa od oL_2 oD ++ R)) _ (xs (x5 + 1).toNatClampNeg) r4 mcode_5 h6) ⟨hx, hb, hml, hown, hts⟩ (cwV 1 hts (gV q1548 q1549 q1550 q50 q1551) rfl rfl rfl (by decide +kernel) ⟨Nat.le_of_ble_eq_true rfl, Nat.le_of_ble_eq_true rfl⟩) (va_recv hK hP (ci := 8) (q0 := 42) rfl rfl) hE hP hD hS hA rfl hl.1 rfl (lv_room (Nat.le_of_ble_eq_true rfl)) dL_law_1193 ⟨by show _ ≤ 603072; omega, by show _ ≤ 7198826; omega⟩ (fun H locs hP hD hS => ?_)
  refine lv_istore (lv' := [(7, .int r4), (6, .int r1), (0, .ref b), (1, .ref (ad 0)), (2, .ref (am 0)), (3, .ref oa), (4, .ref od), (5, .int x5)]) hx hb dL_law_1196 hl (by decide) rfl (fun ls hl => ?_)
  refine lv_aload_n hx hb dL_law_1198 rfl (lv_at hl 4 rfl) ?_
  obtain ⟨r7, h8, hf⟩ := bnd hf
  refine cm_i (rest := []) (m_M_thrown l ca am lq mcode_5 mday mown mquot mprom mfiles mowner mlinks mblocks mvals msnaps mranks mkept mshot mwas mholds mheld mends mopen mentr mkinds misop mfilesT mentrT mpromT mlinksT mblocksT mvalsT (WC ca ad bq nF nO nL nA nC nV nU nP nE bF bO bL bA bC bV bU bP bE cT cK cO cQ cD pT pK pR pW pU pI pC uO uF uE uN wK jM jN jZ jB ++ (WO ca oa od oL_2 oD ++ R)) _ r7 h8) ⟨hx, hb, hml, hown, hts⟩ (cwV 0 hts (gV q1417 q1418 q1419 q50 q1420) rfl rfl rfl (by decide +kernel) ⟨Nat.le_of_ble_eq_true rfl, Nat.le_of_ble_eq_true rfl⟩) (va_recv hK hP (ci := 8) (q0 := 42) rfl rfl) hE hP hD hS hA rfl hl.1 rfl (lv_room (Nat.le_of_ble_eq_true rfl)) dL_law_1199 ⟨by show _ ≤ 603072; omega, by show _ ≤ 7198826; omega⟩ (fun H locs hP hD hS => ?_)
  refine lv_iload hx hb dL_law_1202 (lv_at hl 1 rfl) ?_
  refine lv_icmp_eq (tgt := 1209) hx hb dL_law_1204 (by decide) (fun c9 => ?_) (fun c9 => ?_)
  · have hf := br_pos c9 hf
    refine lv_iload hx hb dL_law_1209 (lv_at hl 1 rfl) ?_
    refine lv_if_ne (tgt := 1226) hx hb dL_law_1211 (by decide) (fun c10 => ?_) (fun c10 => ?_)
    · have hf := br_neg c10 hf
      refine lv_goto (tgt := 2434) hx hb dL_law_1226 (by decide) ?_
      cases hf
      refine W.widen (k := cN + 1100) (n := sN + 13000) (by omega) (by omega) ?_
      exact kk _ _ _ hP hD hS (lv_sub hl [2, 3, 4, 5, 6, 7] rfl)
    · have hf := br_pos c10 hf
      refine lv_aload_n hx hb dL_law_1214 rfl (lv_at hl 5 rfl) ?_
      refine lv_iconst (v := 0) hx hb dL_law_1215 (by decide) ?_
      refine va_lald (D := D) hx hb hK hP 40 5 rfl rfl (by unfold vp_in; decide) dL_law_1216 ?_
      refine lv_iload hx hb dL_law_1217 (lv_at hl 0 rfl) ?_
      refine lv_i2l hx hb dL_law_1219 rfl ?_
      refine W.lcmp hx hb dL_law_1220 ?_
      refine lv_if_eq (tgt := 1226) hx hb dL_law_1221 (by decide) (fun c11 => ?_) (fun c11 => ?_)
      · have hf := br_pos c11 hf
        refine lv_goto (tgt := 2434) hx hb dL_law_1226 (by decide) ?_
        cases hf
        refine W.widen (k := cN + 1100) (n := sN + 13000) (by omega) (by omega) ?_
        exact kk _ _ _ hP hD hS (lv_sub hl [2, 3, 4, 5, 6, 7] rfl)
      · have hf := br_neg c11 hf
        refine lv_iconst (v := 0) hx hb dL_law_1224 (by decide) ?_
        cases hf
  · have hf := br_neg c9 hf
    refine lv_iconst (v := 0) hx hb dL_law_1207 (by decide) ?_
    cases hf
def f_case18 (p1 : Int32) (nP : Nat → Int32) (nE : Int32) (cK : Nat → Int32) (cO : Int32) (oL : Nat → Int64) (mown : Int32) (mprom : Nat → Int32) (mentr : Int32) (mkinds : Nat → Int32) : Option ((Nat → Int32) × Int32 × (Nat → Int32) × (Nat → Int64) × Int32 × (Nat → Int32) × Int32 × (Nat → Int32)) :=
  (f_L_giveBack p1 nP nE cK cO oL).bind fun (r1, nP_2, nE_3, cK_4, oL_5) =>
  (f_M_giveBack p1 mown mprom mentr mkinds).bind fun (r7, mcode_8, mprom_9, mentr_10, mkinds_11) =>
  (f_M_thrown mcode_8).bind fun r13 =>
  if r13 = r1 then
    if r1 = 0 then
      if (lg_cmp (oL_5 (0 : Int32).toNatClampNeg) ((r7).toInt64)) = 0 then
        some (nP_2, nE_3, cK_4, oL_5, mcode_8, mprom_9, mentr_10, mkinds_11)
      else
        none
    else
      some (nP_2, nE_3, cK_4, oL_5, mcode_8, mprom_9, mentr_10, mkinds_11)
  else
    none
set_option maxHeartbeats 4000000 in
set_option maxRecDepth 100000 in
theorem l_case18 {p : Program} {l : Launch} {e : Env} {s : State} {m : MethodId} {below : List Frame} {meth : Method} {c : Code} {Q : State → Prop} {D : va_G} {A : Nat → Prop} {b L : Nat} {xs : Nat → Int32} (ca : Nat → ClassId) (hst : l.stackTraces = false) (hx : p.tables.exec = Jvm.exec) (hb : c.code = code) (hml : c.maxLocals = 9) (hown : s.vm.findClass RL = some m.cls) (hts : ∀ w ∈ WW, w.before #[Value.ref b] s = true) (hE : EE D ca SL0 s) (hA : ∀ q, s.heap.size ≤ q → A q) (hZ : ZZ A s s.heap) (hNC : NCE s) (hX : va_X b L xs s s.heap) (hbl : b < s.heap.size) (hbA : ¬ A b) (ad am : Nat → Nat) (bq oa od lq : Nat) (nF : Int32) (nO : Nat → Int32) (nL : Nat → Int32) (nA : Nat → Int32) (nC : Nat → Int32) (nV : Nat → Int32) (nU : Nat → Int32) (nP : Nat → Int32) (nE : Int32) (bF : Int32) (bO : Nat → Int32) (bL : Nat → Int32) (bA : Nat → Int32) (bC : Nat → Int32) (bV : Nat → Int32) (bU : Nat → Int32) (bP : Nat → Int32) (bE : Int32) (cT : Int32) (cK : Nat → Int32) (cO : Int32) (cQ : Nat → Int32) (cD : Int32) (pT : Int32) (pK : Int32) (pR : Nat → Int32) (pW : Nat → Int32) (pU : Nat → Int32) (pI : Nat → Int32) (pC : Nat → Nat → Int32) (uO : Int32) (uF : Nat → Int32) (uE : Nat → Int32) (uN : Nat → Int32) (wK : Nat → Int32) (jM : Int32) (jN : Int32) (jZ : Nat) (jB : Nat → Int32) (oL : Nat → Int64) (oD : Nat → UInt64) (mcode : Int32) (mday : Int32) (mown : Int32) (mquot : Nat → Int32) (mprom : Nat → Int32) (mfiles : Int32) (mowner : Nat → Int32) (mlinks : Nat → Int32) (mblocks : Nat → Int32) (mvals : Nat → Int32) (msnaps : Int32) (mranks : Nat → Int32) (mkept : Nat → Int32) (mshot : Nat → Int32) (mwas : Nat → Int32) (mholds : Int32) (mheld : Nat → Int32) (mends : Nat → Int32) (mopen : Nat → Int32) (mentr : Int32) (mkinds : Nat → Int32) (misop : Int32) (mfilesT : Int32) (mentrT : Int32) (mpromT : Nat → Int32) (mlinksT : Nat → Int32) (mblocksT : Nat → Int32) (mvalsT : Nat → Int32) (R : va_W) (x5 : Int32) (hi1 : vp_in (x5 + 1) L) (hi2 : vp_in (x5 + 2) L) (hi3 : vp_in (x5 + 3) L) (cN sN : Nat) (hcN : cN + 1100 ≤ 603072) (hsN : sN + 13000 ≤ 7198826) (onP : Nat → Int32) (onE : Int32) (ocK : Nat → Int32) (ooL : Nat → Int64) (omcode : Int32) (omprom : Nat → Int32) (omentr : Int32) (omkinds : Nat → Int32) (hf : f_case18 (xs (x5 + 1).toNatClampNeg) nP nE cK cO oL mown mprom mentr mkinds = some (onP, onE, ocK, ooL, omcode, omprom, omentr, omkinds)) {H : Heap} {locs : List Loc} {ls : Array Slot} (hP : va_P D vwCl (WC ca ad bq nF nO nL nA nC nV nU nP nE bF bO bL bA bC bV bU bP bE cT cK cO cQ cD pT pK pR pW pU pI pC uO uF uE uN wK jM jN jZ jB ++ (WO ca oa od oL oD ++ (WM ca am lq mcode mday mown mquot mprom mfiles mowner mlinks mblocks mvals msnaps mranks mkept mshot mwas mholds mheld mends mopen mentr mkinds misop mfilesT mentrT mpromT mlinksT mblocksT mvalsT ++ R))) H) (hD : va_D A (WC ca ad bq nF nO nL nA nC nV nU nP nE bF bO bL bA bC bV bU bP bE cT cK cO cQ cD pT pK pR pW pU pI pC uO uF uE uN wK jM jN jZ jB ++ (WO ca oa od oL oD ++ (WM ca am lq mcode mday mown mquot mprom mfiles mowner mlinks mblocks mvals msnaps mranks mkept mshot mwas mholds mheld mends mopen mentr mkinds misop mfilesT mentrT mpromT mlinksT mblocksT mvalsT ++ R)))) (hS : va_S A s.heap H locs) (hl : lv_has ls 9 [(0, .ref b), (1, .ref (ad 0)), (2, .ref (am 0)), (3, .ref oa), (4, .ref od), (5, .int x5)]) (kk : ∀ (H : Heap) (locs : List Loc) (ls : Array Slot), va_P D vwCl (WC ca ad bq nF nO nL nA nC nV nU onP onE bF bO bL bA bC bV bU bP bE cT ocK cO cQ cD pT pK pR pW pU pI pC uO uF uE uN wK jM jN jZ jB ++ (WO ca oa od ooL oD ++ (WM ca am lq omcode mday mown mquot omprom mfiles mowner mlinks mblocks mvals msnaps mranks mkept mshot mwas mholds mheld mends mopen omentr omkinds misop mfilesT mentrT mpromT mlinksT mblocksT mvalsT ++ R))) H → va_D A (WC ca ad bq nF nO nL nA nC nV nU onP onE bF bO bL bA bC bV bU bP bE cT ocK cO cQ cD pT pK pR pW pU pI pC uO uF uE uN wK jM jN jZ jB ++ (WO ca oa od ooL oD ++ (WM ca am lq omcode mday mown mquot omprom mfiles mowner mlinks mblocks mvals msnaps mranks mkept mshot mwas mholds mheld mends mopen omentr omkinds misop mfilesT mentrT mpromT mlinksT mblocksT mvalsT ++ R))) → va_S A s.heap H locs → lv_has ls 9 [(0, .ref b), (1, .ref (ad 0)), (2, .ref (am 0)), (3, .ref oa), (4, .ref od), (5, .int x5)] → W p l e room_1 s m #[Value.ref b] below meth c H locs (cN + 1100) (sN + 13000) Q (F0 m 2434 ls [])) : W p l e room_1 s m #[Value.ref b] below meth c H locs cN sN Q (F0 m 1229 ls []) := by
  have hK := hE.1
  unfold f_case18 at hf
  change W p l e room_1 s m #[Value.ref b] below meth c H locs (cN + 0) (sN + 0) Q (F0 m 1229 ls [])
  refine lv_aload_n hx hb dL_law_1229 rfl (lv_at hl 1 rfl) ?_
  refine lv_aload_n hx hb dL_law_1230 rfl (lv_at hl 0 rfl) ?_
  refine lv_iload hx hb dL_law_1231 (lv_at hl 5 rfl) ?_
  refine lv_iconst (v := 1) hx hb dL_law_1233 (by decide) ?_
  refine lv_iadd hx hb dL_law_1234 ?_
  refine va_sld hx hb hX hbl hbA hS hi1 dL_law_1235 ?_
  refine lv_aload_n hx hb dL_law_1236 rfl (lv_at hl 3 rfl) ?_
  obtain ⟨⟨r1, nP_2, nE_3, cK_4, oL_5⟩, h6, hf⟩ := bnd hf
  refine cl_wi (rest := []) (m_L_giveBack l hst ca ad bq oa od nF nO nL nA nC nV nU nP nE bF bO bL bA bC bV bU bP bE cT cK cO cQ cD pT pK pR pW pU pI pC uO uF uE uN wK jM jN jZ jB oL oD (WM ca am lq mcode mday mown mquot mprom mfiles mowner mlinks mblocks mvals msnaps mranks mkept mshot mwas mholds mheld mends mopen mentr mkinds misop mfilesT mentrT mpromT mlinksT mblocksT mvalsT ++ R) _ (xs (x5 + 1).toNatClampNeg) r1 nP_2 nE_3 cK_4 oL_5 h6) ⟨hx, hb, hml, hown, hts⟩ (vx_cwSW 3 hts (gSW q766 q767 q40 q768) rfl rfl rfl (by decide +kernel) ⟨Nat.le_of_ble_eq_true rfl, Nat.le_of_ble_eq_true rfl⟩) hE hP hD hS hA hZ hNC rfl hl.1 rfl (lv_room (Nat.le_of_ble_eq_true rfl)) dL_law_1237 ⟨by show _ ≤ 603072; omega, by show _ ≤ 7198826; omega⟩ (fun H locs hP hD hS => ?_)
  refine lv_istore (lv' := [(6, .int r1), (0, .ref b), (1, .ref (ad 0)), (2, .ref (am 0)), (3, .ref oa), (4, .ref od), (5, .int x5)]) hx hb dL_law_1240 hl (by decide) rfl (fun ls hl => ?_)
  refine lv_aload_n hx hb dL_law_1242 rfl (lv_at hl 3 rfl) ?_
  refine lv_aload_n hx hb dL_law_1243 rfl (lv_at hl 1 rfl) ?_
  refine lv_iload hx hb dL_law_1244 (lv_at hl 6 rfl) ?_
  refine lv_iconst (v := 1) hx hb dL_law_1246 (by decide) ?_
  refine lv_iadd hx hb dL_law_1247 ?_
  refine va_sld hx hb hX hbl hbA hS hi1 dL_law_1248 ?_
  obtain ⟨⟨r7, mcode_8, mprom_9, mentr_10, mkinds_11⟩, h12, hf⟩ := bnd hf
  refine cm_i (rest := []) (m_M_giveBack l ca am lq mcode mday mown mquot mprom mfiles mowner mlinks mblocks mvals msnaps mranks mkept mshot mwas mholds mheld mends mopen mentr mkinds misop mfilesT mentrT mpromT mlinksT mblocksT mvalsT (WC ca ad bq nF nO nL nA nC nV nU nP_2 nE_3 bF bO bL bA bC bV bU bP bE cT cK_4 cO cQ cD pT pK pR pW pU pI pC uO uF uE uN wK jM jN jZ jB ++ (WO ca oa od oL_5 oD ++ R)) _ (xs (x5 + 1).toNatClampNeg) r7 mcode_8 mprom_9 mentr_10 mkinds_11 h12) ⟨hx, hb, hml, hown, hts⟩ (cwV 1 hts (gV q1552 q1553 q1554 q50 q1555) rfl rfl rfl (by decide +kernel) ⟨Nat.le_of_ble_eq_true rfl, Nat.le_of_ble_eq_true rfl⟩) (va_recv hK hP (ci := 8) (q0 := 42) rfl rfl) hE hP hD hS hA rfl hl.1 rfl (lv_room (Nat.le_of_ble_eq_true rfl)) dL_law_1249 ⟨by show _ ≤ 603072; omega, by show _ ≤ 7198826; omega⟩ (fun H locs hP hD hS => ?_)
  refine lv_istore (lv' := [(7, .int r7), (6, .int r1), (0, .ref b), (1, .ref (ad 0)), (2, .ref (am 0)), (3, .ref oa), (4, .ref od), (5, .int x5)]) hx hb dL_law_1252 hl (by decide) rfl (fun ls hl => ?_)
  refine lv_aload_n hx hb dL_law_1254 rfl (lv_at hl 4 rfl) ?_
  obtain ⟨r13, h14, hf⟩ := bnd hf
  refine cm_i (rest := []) (m_M_thrown l ca am lq mcode_8 mday mown mquot mprom_9 mfiles mowner mlinks mblocks mvals msnaps mranks mkept mshot mwas mholds mheld mends mopen mentr_10 mkinds_11 misop mfilesT mentrT mpromT mlinksT mblocksT mvalsT (WC ca ad bq nF nO nL nA nC nV nU nP_2 nE_3 bF bO bL bA bC bV bU bP bE cT cK_4 cO cQ cD pT pK pR pW pU pI pC uO uF uE uN wK jM jN jZ jB ++ (WO ca oa od oL_5 oD ++ R)) _ r13 h14) ⟨hx, hb, hml, hown, hts⟩ (cwV 0 hts (gV q1417 q1418 q1419 q50 q1420) rfl rfl rfl (by decide +kernel) ⟨Nat.le_of_ble_eq_true rfl, Nat.le_of_ble_eq_true rfl⟩) (va_recv hK hP (ci := 8) (q0 := 42) rfl rfl) hE hP hD hS hA rfl hl.1 rfl (lv_room (Nat.le_of_ble_eq_true rfl)) dL_law_1255 ⟨by show _ ≤ 603072; omega, by show _ ≤ 7198826; omega⟩ (fun H locs hP hD hS => ?_)
  refine lv_iload hx hb dL_law_1258 (lv_at hl 1 rfl) ?_
  refine lv_icmp_eq (tgt := 1265) hx hb dL_law_1260 (by decide) (fun c15 => ?_) (fun c15 => ?_)
  · have hf := br_pos c15 hf
    refine lv_iload hx hb dL_law_1265 (lv_at hl 1 rfl) ?_
    refine lv_if_ne (tgt := 1282) hx hb dL_law_1267 (by decide) (fun c16 => ?_) (fun c16 => ?_)
    · have hf := br_neg c16 hf
      refine lv_goto (tgt := 2434) hx hb dL_law_1282 (by decide) ?_
      cases hf
      refine W.widen (k := cN + 1100) (n := sN + 13000) (by omega) (by omega) ?_
      exact kk _ _ _ hP hD hS (lv_sub hl [2, 3, 4, 5, 6, 7] rfl)
    · have hf := br_pos c16 hf
      refine lv_aload_n hx hb dL_law_1270 rfl (lv_at hl 5 rfl) ?_
      refine lv_iconst (v := 0) hx hb dL_law_1271 (by decide) ?_
      refine va_lald (D := D) hx hb hK hP 40 5 rfl rfl (by unfold vp_in; decide) dL_law_1272 ?_
      refine lv_iload hx hb dL_law_1273 (lv_at hl 0 rfl) ?_
      refine lv_i2l hx hb dL_law_1275 rfl ?_
      refine W.lcmp hx hb dL_law_1276 ?_
      refine lv_if_eq (tgt := 1282) hx hb dL_law_1277 (by decide) (fun c17 => ?_) (fun c17 => ?_)
      · have hf := br_pos c17 hf
        refine lv_goto (tgt := 2434) hx hb dL_law_1282 (by decide) ?_
        cases hf
        refine W.widen (k := cN + 1100) (n := sN + 13000) (by omega) (by omega) ?_
        exact kk _ _ _ hP hD hS (lv_sub hl [2, 3, 4, 5, 6, 7] rfl)
      · have hf := br_neg c17 hf
        refine lv_iconst (v := 0) hx hb dL_law_1280 (by decide) ?_
        cases hf
  · have hf := br_neg c15 hf
    refine lv_iconst (v := 0) hx hb dL_law_1263 (by decide) ?_
    cases hf
def f_case19 (p1 : Int32) (nF : Int32) (nA : Nat → Int32) (nC : Nat → Int32) (nU : Nat → Int32) (cT : Int32) (pT : Int32) (pK : Int32) (pR : Nat → Int32) (pW : Nat → Int32) (pU : Nat → Int32) (pI : Nat → Int32) (pC : Nat → Nat → Int32) (oL : Nat → Int64) (mfiles : Int32) (mlinks : Nat → Int32) (mblocks : Nat → Int32) (msnaps : Int32) (mranks : Nat → Int32) (mkept : Nat → Int32) (mshot : Nat → Int32) (mwas : Nat → Int32) (mholds : Int32) (mheld : Nat → Int32) (mopen : Nat → Int32) (misop : Int32) : Option ((Nat → Int32) × Int32 × Int32 × (Nat → Int32) × (Nat → Int32) × (Nat → Int32) × (Nat → Int32) × (Nat → Nat → Int32) × (Nat → Int64) × Int32 × Int32 × (Nat → Int32) × (Nat → Int32) × (Nat → Int32) × (Nat → Int32)) :=
  (f_L_takeSnapshot p1 nF nA nC nU cT pT pK pR pW pU pI pC oL).bind fun (r1, nU_2, pT_3, pK_4, pR_5, pW_6, pU_7, pI_8, pC_9, oL_10) =>
  (f_M_takeSnapshot p1 mfiles mlinks mblocks msnaps mranks mkept mshot mwas mholds mheld mopen misop).bind fun (r12, mcode_13, msnaps_14, mranks_15, mkept_16, mshot_17, mwas_18) =>
  (f_M_thrown mcode_13).bind fun r20 =>
  if r20 = r1 then
    if r1 = 0 then
      if (lg_cmp (oL_10 (0 : Int32).toNatClampNeg) ((r12).toInt64)) = 0 then
        some (nU_2, pT_3, pK_4, pR_5, pW_6, pU_7, pI_8, pC_9, oL_10, mcode_13, msnaps_14, mranks_15, mkept_16, mshot_17, mwas_18)
      else
        none
    else
      some (nU_2, pT_3, pK_4, pR_5, pW_6, pU_7, pI_8, pC_9, oL_10, mcode_13, msnaps_14, mranks_15, mkept_16, mshot_17, mwas_18)
  else
    none
set_option maxHeartbeats 4000000 in
set_option maxRecDepth 100000 in
theorem l_case19 {p : Program} {l : Launch} {e : Env} {s : State} {m : MethodId} {below : List Frame} {meth : Method} {c : Code} {Q : State → Prop} {D : va_G} {A : Nat → Prop} {b L : Nat} {xs : Nat → Int32} (ca : Nat → ClassId) (hst : l.stackTraces = false) (hx : p.tables.exec = Jvm.exec) (hb : c.code = code) (hml : c.maxLocals = 9) (hown : s.vm.findClass RL = some m.cls) (hts : ∀ w ∈ WW, w.before #[Value.ref b] s = true) (hE : EE D ca SL0 s) (hA : ∀ q, s.heap.size ≤ q → A q) (hZ : ZZ A s s.heap) (hNC : NCE s) (hX : va_X b L xs s s.heap) (hbl : b < s.heap.size) (hbA : ¬ A b) (ad am : Nat → Nat) (bq oa od lq : Nat) (nF : Int32) (nO : Nat → Int32) (nL : Nat → Int32) (nA : Nat → Int32) (nC : Nat → Int32) (nV : Nat → Int32) (nU : Nat → Int32) (nP : Nat → Int32) (nE : Int32) (bF : Int32) (bO : Nat → Int32) (bL : Nat → Int32) (bA : Nat → Int32) (bC : Nat → Int32) (bV : Nat → Int32) (bU : Nat → Int32) (bP : Nat → Int32) (bE : Int32) (cT : Int32) (cK : Nat → Int32) (cO : Int32) (cQ : Nat → Int32) (cD : Int32) (pT : Int32) (pK : Int32) (pR : Nat → Int32) (pW : Nat → Int32) (pU : Nat → Int32) (pI : Nat → Int32) (pC : Nat → Nat → Int32) (uO : Int32) (uF : Nat → Int32) (uE : Nat → Int32) (uN : Nat → Int32) (wK : Nat → Int32) (jM : Int32) (jN : Int32) (jZ : Nat) (jB : Nat → Int32) (oL : Nat → Int64) (oD : Nat → UInt64) (mcode : Int32) (mday : Int32) (mown : Int32) (mquot : Nat → Int32) (mprom : Nat → Int32) (mfiles : Int32) (mowner : Nat → Int32) (mlinks : Nat → Int32) (mblocks : Nat → Int32) (mvals : Nat → Int32) (msnaps : Int32) (mranks : Nat → Int32) (mkept : Nat → Int32) (mshot : Nat → Int32) (mwas : Nat → Int32) (mholds : Int32) (mheld : Nat → Int32) (mends : Nat → Int32) (mopen : Nat → Int32) (mentr : Int32) (mkinds : Nat → Int32) (misop : Int32) (mfilesT : Int32) (mentrT : Int32) (mpromT : Nat → Int32) (mlinksT : Nat → Int32) (mblocksT : Nat → Int32) (mvalsT : Nat → Int32) (R : va_W) (x5 : Int32) (hi1 : vp_in (x5 + 1) L) (hi2 : vp_in (x5 + 2) L) (hi3 : vp_in (x5 + 3) L) (cN sN : Nat) (hcN : cN + 1100 ≤ 603072) (hsN : sN + 13000 ≤ 7198826) (onU : Nat → Int32) (opT : Int32) (opK : Int32) (opR : Nat → Int32) (opW : Nat → Int32) (opU : Nat → Int32) (opI : Nat → Int32) (opC : Nat → Nat → Int32) (ooL : Nat → Int64) (omcode : Int32) (omsnaps : Int32) (omranks : Nat → Int32) (omkept : Nat → Int32) (omshot : Nat → Int32) (omwas : Nat → Int32) (hf : f_case19 (xs (x5 + 1).toNatClampNeg) nF nA nC nU cT pT pK pR pW pU pI pC oL mfiles mlinks mblocks msnaps mranks mkept mshot mwas mholds mheld mopen misop = some (onU, opT, opK, opR, opW, opU, opI, opC, ooL, omcode, omsnaps, omranks, omkept, omshot, omwas)) {H : Heap} {locs : List Loc} {ls : Array Slot} (hP : va_P D vwCl (WC ca ad bq nF nO nL nA nC nV nU nP nE bF bO bL bA bC bV bU bP bE cT cK cO cQ cD pT pK pR pW pU pI pC uO uF uE uN wK jM jN jZ jB ++ (WO ca oa od oL oD ++ (WM ca am lq mcode mday mown mquot mprom mfiles mowner mlinks mblocks mvals msnaps mranks mkept mshot mwas mholds mheld mends mopen mentr mkinds misop mfilesT mentrT mpromT mlinksT mblocksT mvalsT ++ R))) H) (hD : va_D A (WC ca ad bq nF nO nL nA nC nV nU nP nE bF bO bL bA bC bV bU bP bE cT cK cO cQ cD pT pK pR pW pU pI pC uO uF uE uN wK jM jN jZ jB ++ (WO ca oa od oL oD ++ (WM ca am lq mcode mday mown mquot mprom mfiles mowner mlinks mblocks mvals msnaps mranks mkept mshot mwas mholds mheld mends mopen mentr mkinds misop mfilesT mentrT mpromT mlinksT mblocksT mvalsT ++ R)))) (hS : va_S A s.heap H locs) (hl : lv_has ls 9 [(0, .ref b), (1, .ref (ad 0)), (2, .ref (am 0)), (3, .ref oa), (4, .ref od), (5, .int x5)]) (kk : ∀ (H : Heap) (locs : List Loc) (ls : Array Slot), va_P D vwCl (WC ca ad bq nF nO nL nA nC nV onU nP nE bF bO bL bA bC bV bU bP bE cT cK cO cQ cD opT opK opR opW opU opI opC uO uF uE uN wK jM jN jZ jB ++ (WO ca oa od ooL oD ++ (WM ca am lq omcode mday mown mquot mprom mfiles mowner mlinks mblocks mvals omsnaps omranks omkept omshot omwas mholds mheld mends mopen mentr mkinds misop mfilesT mentrT mpromT mlinksT mblocksT mvalsT ++ R))) H → va_D A (WC ca ad bq nF nO nL nA nC nV onU nP nE bF bO bL bA bC bV bU bP bE cT cK cO cQ cD opT opK opR opW opU opI opC uO uF uE uN wK jM jN jZ jB ++ (WO ca oa od ooL oD ++ (WM ca am lq omcode mday mown mquot mprom mfiles mowner mlinks mblocks mvals omsnaps omranks omkept omshot omwas mholds mheld mends mopen mentr mkinds misop mfilesT mentrT mpromT mlinksT mblocksT mvalsT ++ R))) → va_S A s.heap H locs → lv_has ls 9 [(0, .ref b), (1, .ref (ad 0)), (2, .ref (am 0)), (3, .ref oa), (4, .ref od), (5, .int x5)] → W p l e room_1 s m #[Value.ref b] below meth c H locs (cN + 1100) (sN + 13000) Q (F0 m 2434 ls [])) : W p l e room_1 s m #[Value.ref b] below meth c H locs cN sN Q (F0 m 1285 ls []) := by
  have hK := hE.1
  unfold f_case19 at hf
  change W p l e room_1 s m #[Value.ref b] below meth c H locs (cN + 0) (sN + 0) Q (F0 m 1285 ls [])
  refine lv_aload_n hx hb dL_law_1285 rfl (lv_at hl 1 rfl) ?_
  refine lv_aload_n hx hb dL_law_1286 rfl (lv_at hl 0 rfl) ?_
  refine lv_iload hx hb dL_law_1287 (lv_at hl 5 rfl) ?_
  refine lv_iconst (v := 1) hx hb dL_law_1289 (by decide) ?_
  refine lv_iadd hx hb dL_law_1290 ?_
  refine va_sld hx hb hX hbl hbA hS hi1 dL_law_1291 ?_
  refine lv_aload_n hx hb dL_law_1292 rfl (lv_at hl 3 rfl) ?_
  obtain ⟨⟨r1, nU_2, pT_3, pK_4, pR_5, pW_6, pU_7, pI_8, pC_9, oL_10⟩, h11, hf⟩ := bnd hf
  refine cl_wi (rest := []) (m_L_takeSnapshot l hst ca ad bq oa od nF nO nL nA nC nV nU nP nE bF bO bL bA bC bV bU bP bE cT cK cO cQ cD pT pK pR pW pU pI pC uO uF uE uN wK jM jN jZ jB oL oD (WM ca am lq mcode mday mown mquot mprom mfiles mowner mlinks mblocks mvals msnaps mranks mkept mshot mwas mholds mheld mends mopen mentr mkinds misop mfilesT mentrT mpromT mlinksT mblocksT mvalsT ++ R) _ (xs (x5 + 1).toNatClampNeg) r1 nU_2 pT_3 pK_4 pR_5 pW_6 pU_7 pI_8 pC_9 oL_10 h11) ⟨hx, hb, hml, hown, hts⟩ (vx_cwSW 3 hts (gSW q774 q775 q40 q776) rfl rfl rfl (by decide +kernel) ⟨Nat.le_of_ble_eq_true rfl, Nat.le_of_ble_eq_true rfl⟩) hE hP hD hS hA hZ hNC rfl hl.1 rfl (lv_room (Nat.le_of_ble_eq_true rfl)) dL_law_1293 ⟨by show _ ≤ 603072; omega, by show _ ≤ 7198826; omega⟩ (fun H locs hP hD hS => ?_)
  refine lv_istore (lv' := [(6, .int r1), (0, .ref b), (1, .ref (ad 0)), (2, .ref (am 0)), (3, .ref oa), (4, .ref od), (5, .int x5)]) hx hb dL_law_1296 hl (by decide) rfl (fun ls hl => ?_)
  refine lv_aload_n hx hb dL_law_1298 rfl (lv_at hl 3 rfl) ?_
  refine lv_aload_n hx hb dL_law_1299 rfl (lv_at hl 1 rfl) ?_
  refine lv_iload hx hb dL_law_1300 (lv_at hl 6 rfl) ?_
  refine lv_iconst (v := 1) hx hb dL_law_1302 (by decide) ?_
  refine lv_iadd hx hb dL_law_1303 ?_
  refine va_sld hx hb hX hbl hbA hS hi1 dL_law_1304 ?_
  obtain ⟨⟨r12, mcode_13, msnaps_14, mranks_15, mkept_16, mshot_17, mwas_18⟩, h19, hf⟩ := bnd hf
  refine cm_i (rest := []) (m_M_takeSnapshot l ca am lq mcode mday mown mquot mprom mfiles mowner mlinks mblocks mvals msnaps mranks mkept mshot mwas mholds mheld mends mopen mentr mkinds misop mfilesT mentrT mpromT mlinksT mblocksT mvalsT (WC ca ad bq nF nO nL nA nC nV nU_2 nP nE bF bO bL bA bC bV bU bP bE cT cK cO cQ cD pT_3 pK_4 pR_5 pW_6 pU_7 pI_8 pC_9 uO uF uE uN wK jM jN jZ jB ++ (WO ca oa od oL_10 oD ++ R)) _ (xs (x5 + 1).toNatClampNeg) r12 mcode_13 msnaps_14 mranks_15 mkept_16 mshot_17 mwas_18 h19) ⟨hx, hb, hml, hown, hts⟩ (cwV 1 hts (gV q1556 q1557 q1558 q50 q1559) rfl rfl rfl (by decide +kernel) ⟨Nat.le_of_ble_eq_true rfl, Nat.le_of_ble_eq_true rfl⟩) (va_recv hK hP (ci := 8) (q0 := 42) rfl rfl) hE hP hD hS hA rfl hl.1 rfl (lv_room (Nat.le_of_ble_eq_true rfl)) dL_law_1305 ⟨by show _ ≤ 603072; omega, by show _ ≤ 7198826; omega⟩ (fun H locs hP hD hS => ?_)
  refine lv_istore (lv' := [(7, .int r12), (6, .int r1), (0, .ref b), (1, .ref (ad 0)), (2, .ref (am 0)), (3, .ref oa), (4, .ref od), (5, .int x5)]) hx hb dL_law_1308 hl (by decide) rfl (fun ls hl => ?_)
  refine lv_aload_n hx hb dL_law_1310 rfl (lv_at hl 4 rfl) ?_
  obtain ⟨r20, h21, hf⟩ := bnd hf
  refine cm_i (rest := []) (m_M_thrown l ca am lq mcode_13 mday mown mquot mprom mfiles mowner mlinks mblocks mvals msnaps_14 mranks_15 mkept_16 mshot_17 mwas_18 mholds mheld mends mopen mentr mkinds misop mfilesT mentrT mpromT mlinksT mblocksT mvalsT (WC ca ad bq nF nO nL nA nC nV nU_2 nP nE bF bO bL bA bC bV bU bP bE cT cK cO cQ cD pT_3 pK_4 pR_5 pW_6 pU_7 pI_8 pC_9 uO uF uE uN wK jM jN jZ jB ++ (WO ca oa od oL_10 oD ++ R)) _ r20 h21) ⟨hx, hb, hml, hown, hts⟩ (cwV 0 hts (gV q1417 q1418 q1419 q50 q1420) rfl rfl rfl (by decide +kernel) ⟨Nat.le_of_ble_eq_true rfl, Nat.le_of_ble_eq_true rfl⟩) (va_recv hK hP (ci := 8) (q0 := 42) rfl rfl) hE hP hD hS hA rfl hl.1 rfl (lv_room (Nat.le_of_ble_eq_true rfl)) dL_law_1311 ⟨by show _ ≤ 603072; omega, by show _ ≤ 7198826; omega⟩ (fun H locs hP hD hS => ?_)
  refine lv_iload hx hb dL_law_1314 (lv_at hl 1 rfl) ?_
  refine lv_icmp_eq (tgt := 1321) hx hb dL_law_1316 (by decide) (fun c22 => ?_) (fun c22 => ?_)
  · have hf := br_pos c22 hf
    refine lv_iload hx hb dL_law_1321 (lv_at hl 1 rfl) ?_
    refine lv_if_ne (tgt := 1338) hx hb dL_law_1323 (by decide) (fun c23 => ?_) (fun c23 => ?_)
    · have hf := br_neg c23 hf
      refine lv_goto (tgt := 2434) hx hb dL_law_1338 (by decide) ?_
      cases hf
      refine W.widen (k := cN + 1100) (n := sN + 13000) (by omega) (by omega) ?_
      exact kk _ _ _ hP hD hS (lv_sub hl [2, 3, 4, 5, 6, 7] rfl)
    · have hf := br_pos c23 hf
      refine lv_aload_n hx hb dL_law_1326 rfl (lv_at hl 5 rfl) ?_
      refine lv_iconst (v := 0) hx hb dL_law_1327 (by decide) ?_
      refine va_lald (D := D) hx hb hK hP 40 5 rfl rfl (by unfold vp_in; decide) dL_law_1328 ?_
      refine lv_iload hx hb dL_law_1329 (lv_at hl 0 rfl) ?_
      refine lv_i2l hx hb dL_law_1331 rfl ?_
      refine W.lcmp hx hb dL_law_1332 ?_
      refine lv_if_eq (tgt := 1338) hx hb dL_law_1333 (by decide) (fun c24 => ?_) (fun c24 => ?_)
      · have hf := br_pos c24 hf
        refine lv_goto (tgt := 2434) hx hb dL_law_1338 (by decide) ?_
        cases hf
        refine W.widen (k := cN + 1100) (n := sN + 13000) (by omega) (by omega) ?_
        exact kk _ _ _ hP hD hS (lv_sub hl [2, 3, 4, 5, 6, 7] rfl)
      · have hf := br_neg c24 hf
        refine lv_iconst (v := 0) hx hb dL_law_1336 (by decide) ?_
        cases hf
  · have hf := br_neg c22 hf
    refine lv_iconst (v := 0) hx hb dL_law_1319 (by decide) ?_
    cases hf
