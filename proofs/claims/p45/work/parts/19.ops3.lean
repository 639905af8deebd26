def f_rB (x4 : Int32) (x5 : Int32) (x6 : Int32) (x7 : Int32) (x8 : Int32) (x9 : Int32) (x10 : Int32) (x11 : Int32) (x12 : Int32) (x13 : Int32) (x14 : Int64) (x16 : Int32) (nF : Int32) (nO : Nat → Int32) (nL : Nat → Int32) (nA : Nat → Int32) (nC : Nat → Int32) (nV : Nat → Int32) (nU : Nat → Int32) (nP : Nat → Int32) (nE : Int32) (bF : Int32) (bO : Nat → Int32) (bL : Nat → Int32) (bA : Nat → Int32) (bC : Nat → Int32) (bV : Nat → Int32) (bU : Nat → Int32) (bP : Nat → Int32) (bE : Int32) (cT : Int32) (cK : Nat → Int32) (cO : Int32) (cQ : Nat → Int32) (cD : Int32) (pT : Int32) (pK : Int32) (pR : Nat → Int32) (pW : Nat → Int32) (pU : Nat → Int32) (pI : Nat → Int32) (pC : Nat → Nat → Int32) (uO : Int32) (uF : Nat → Int32) (uE : Nat → Int32) (uN : Nat → Int32) (oQ : Nat → Int32) (oS : Nat → Int32) : Option (Int32 × Int32 × Int32 × Int32 × Int32 × Int32 × (Nat → Int32) × (Nat → Int32) × (Nat → Int32) × (Nat → Int32) × (Nat → Int32) × (Nat → Int32) × (Nat → Int32) × Int32 × Int32 × (Nat → Int32) × (Nat → Int32) × (Nat → Int32) × (Nat → Int32) × (Nat → Int32) × (Nat → Int32) × (Nat → Int32) × Int32 × Int32 × (Nat → Int32) × Int32 × (Nat → Int32) × Int32 × Int32 × Int32 × (Nat → Int32) × (Nat → Int32) × (Nat → Int32) × (Nat → Int32) × (Nat → Nat → Int32) × Int32 × (Nat → Int32) × (Nat → Int32) × (Nat → Int32) × (Nat → Int32) × (Nat → Int32)) :=
  if x13 = 0 then
    (f_op0 x4 x5 x6 x7 x9 cT cO cQ oQ).bind fun (x193, x194, x195, x196, x197, cO_198, cQ_199, oQ_200) =>
    some (x193, x194, x195, x196, x197, nF, nO, nL, nA, nC, nV, nU, nP, nE, bF, bO, bL, bA, bC, bV, bU, bP, bE, cT, cK, cO_198, cQ_199, cD, pT, pK, pR, pW, pU, pI, pC, uO, uF, uE, uN, oQ_200, oS)
  else
    if 4 ≤ x13 then
      if 13 ≤ x13 then
        if x13 = 13 then
          (f_op7 x4 x5 x6 x7 x10 x12 nF nL nC nV nU nE cK).bind fun (x159, x160, x161, x162, x163, nC_164, nU_165, nE_166, cK_167) =>
          some (x159, x160, x161, x162, x163, nF, nO, nL, nA, nC_164, nV, nU_165, nP, nE_166, bF, bO, bL, bA, bC, bV, bU, bP, bE, cT, cK_167, cO, cQ, cD, pT, pK, pR, pW, pU, pI, pC, uO, uF, uE, uN, oQ, oS)
        else
          if x13 = 14 then
            (f_op4 x4 x5 x6 x7 x10 nF nL nE cK).bind fun (x150, x151, x152, x153, x154, nL_155, nE_156, cK_157) =>
            some (x150, x151, x152, x153, x154, nF, nO, nL_155, nA, nC, nV, nU, nP, nE_156, bF, bO, bL, bA, bC, bV, bU, bP, bE, cT, cK_157, cO, cQ, cD, pT, pK, pR, pW, pU, pI, pC, uO, uF, uE, uN, oQ, oS)
          else
            if 17 ≤ x13 then
              if x13 = 17 then
                (f_op14 x4 x5 x6 x7 x9 x11 nU nP nE cK cO).bind fun (x129, x130, x131, x132, x133, nP_134, nE_135, cK_136) =>
                some (x129, x130, x131, x132, x133, nF, nO, nL, nA, nC, nV, nU, nP_134, nE_135, bF, bO, bL, bA, bC, bV, bU, bP, bE, cT, cK_136, cO, cQ, cD, pT, pK, pR, pW, pU, pI, pC, uO, uF, uE, uN, oQ, oS)
              else
                if x13 = 18 then
                  (f_op16 x4 x5 x6 x7 x11 nP nE cK cO).bind fun (x120, x121, x122, x123, x124, nP_125, nE_126, cK_127) =>
                  some (x120, x121, x122, x123, x124, nF, nO, nL, nA, nC, nV, nU, nP_125, nE_126, bF, bO, bL, bA, bC, bV, bU, bP, bE, cT, cK_127, cO, cQ, cD, pT, pK, pR, pW, pU, pI, pC, uO, uF, uE, uN, oQ, oS)
                else
                  if 22 ≤ x13 then
                    if x13 = 22 then
                      (f_op20 x4 x5 x6 x7 x9 nU cT pT pK pR pW pU pI pC).bind fun (x95, x96, x97, x98, x99, nU_100, pK_101, pW_102, pU_103) =>
                      some (x95, x96, x97, x98, x99, nF, nO, nL, nA, nC, nV, nU_100, nP, nE, bF, bO, bL, bA, bC, bV, bU, bP, bE, cT, cK, cO, cQ, cD, pT, pK_101, pR, pW_102, pU_103, pI, pC, uO, uF, uE, uN, oQ, oS)
                    else
                      if 25 ≤ x13 then
                        if x13 = 25 then
                          (f_op23 x4 x5 x6 x7 x9 x10 nF nA cT cD uO uF uE uN).bind fun (x77, x78, x79, x80, x81, uO_82, uF_83, uE_84, uN_85) =>
                          some (x77, x78, x79, x80, x81, nF, nO, nL, nA, nC, nV, nU, nP, nE, bF, bO, bL, bA, bC, bV, bU, bP, bE, cT, cK, cO, cQ, cD, pT, pK, pR, pW, pU, pI, pC, uO_82, uF_83, uE_84, uN_85, oQ, oS)
                        else
                          if x13 = 26 then
                            (f_op24 x4 x5 x6 x7 x9 nF nL nA nC nU cT uO uF uN).bind fun (x67, x68, x69, x70, x71, nA_72, nC_73, nU_74, uN_75) =>
                            some (x67, x68, x69, x70, x71, nF, nO, nL, nA_72, nC_73, nV, nU_74, nP, nE, bF, bO, bL, bA, bC, bV, bU, bP, bE, cT, cK, cO, cQ, cD, pT, pK, pR, pW, pU, pI, pC, uO, uF, uE, uN_75, oQ, oS)
                          else
                            if x13 = 27 then
                              (f_op28 x4 x5 x6 x7 x9 nF nL nA nC nU cT cD uO uF uE uN).bind fun (x56, x57, x58, x59, x60, nA_61, nC_62, nU_63, cD_64, uN_65) =>
                              some (x56, x57, x58, x59, x60, nF, nO, nL, nA_61, nC_62, nV, nU_63, nP, nE, bF, bO, bL, bA, bC, bV, bU, bP, bE, cT, cK, cO, cQ, cD_64, pT, pK, pR, pW, pU, pI, pC, uO, uF, uE, uN_65, oQ, oS)
                            else
                              if x13 = 28 then
                                (f_op29 x4 x5 x6 x7 nF nO nL nA nC nV nU nP nE bF bO bL bA bC bV bU bP bE cT).bind fun (x40, x41, x42, x43, x44, bF_45, bO_46, bL_47, bA_48, bC_49, bV_50, bU_51, bP_52, bE_53, cT_54) =>
                                some (x40, x41, x42, x43, x44, nF, nO, nL, nA, nC, nV, nU, nP, nE, bF_45, bO_46, bL_47, bA_48, bC_49, bV_50, bU_51, bP_52, bE_53, cT_54, cK, cO, cQ, cD, pT, pK, pR, pW, pU, pI, pC, uO, uF, uE, uN, oQ, oS)
                              else
                                if x13 = 29 then
                                  (f_op30 x4 x5 x6 x7 nE bE cT).bind fun (x33, x34, x35, x36, x37, cT_38) =>
                                  some (x33, x34, x35, x36, x37, nF, nO, nL, nA, nC, nV, nU, nP, nE, bF, bO, bL, bA, bC, bV, bU, bP, bE, cT_38, cK, cO, cQ, cD, pT, pK, pR, pW, pU, pI, pC, uO, uF, uE, uN, oQ, oS)
                                else
                                  (f_opC x4 x5 x6 x7 x16 nF nO nL nA nC nV nU nP nE bF bO bL bA bC bV bU bP bE cT).bind fun (x17, x18, x19, x20, x21, nF_22, nO_23, nL_24, nA_25, nC_26, nV_27, nU_28, nP_29, nE_30, cT_31) =>
                                  some (x17, x18, x19, x20, x21, nF_22, nO_23, nL_24, nA_25, nC_26, nV_27, nU_28, nP_29, nE_30, bF, bO, bL, bA, bC, bV, bU, bP, bE, cT_31, cK, cO, cQ, cD, pT, pK, pR, pW, pU, pI, pC, uO, uF, uE, uN, oQ, oS)
                      else
                        (f_op22 x4 x5 x6 x7 x8 x9 x10 x14 nF nO nL nC nV nU cT cO cQ pT pW pI pC).bind fun (x87, x88, x89, x90, x91, nC_92, nU_93) =>
                        some (x87, x88, x89, x90, x91, nF, nO, nL, nA, nC_92, nV, nU_93, nP, nE, bF, bO, bL, bA, bC, bV, bU, bP, bE, cT, cK, cO, cQ, cD, pT, pK, pR, pW, pU, pI, pC, uO, uF, uE, uN, oQ, oS)
                  else
                    (f_op17 x4 x5 x6 x7 x8 x9 x14 nF nA nC nV nU cT pT pK pR pW pU pI pC oS).bind fun (x105, x106, x107, x108, x109, nU_110, pT_111, pK_112, pR_113, pW_114, pU_115, pI_116, pC_117, oS_118) =>
                    some (x105, x106, x107, x108, x109, nF, nO, nL, nA, nC, nV, nU_110, nP, nE, bF, bO, bL, bA, bC, bV, bU, bP, bE, cT, cK, cO, cQ, cD, pT_111, pK_112, pR_113, pW_114, pU_115, pI_116, pC_117, uO, uF, uE, uN, oQ, oS_118)
            else
              (f_op5 x4 x5 x6 x7 x10 nF nL nA nC nU nE cK uO uF uN).bind fun (x138, x139, x140, x141, x142, nL_143, nA_144, nC_145, nU_146, nE_147, cK_148) =>
              some (x138, x139, x140, x141, x142, nF, nO, nL_143, nA_144, nC_145, nV, nU_146, nP, nE_147, bF, bO, bL, bA, bC, bV, bU, bP, bE, cT, cK_148, cO, cQ, cD, pT, pK, pR, pW, pU, pI, pC, uO, uF, uE, uN, oQ, oS)
      else
        (f_op6 x4 x5 x6 x7 x9 x10 x12 nF nO nL nC nV nU nP nE cK cO cQ).bind fun (x169, x170, x171, x172, x173, nC_174, nV_175, nU_176, nP_177, nE_178, cK_179) =>
        some (x169, x170, x171, x172, x173, nF, nO, nL, nA, nC_174, nV_175, nU_176, nP_177, nE_178, bF, bO, bL, bA, bC, bV, bU, bP, bE, cT, cK_179, cO, cQ, cD, pT, pK, pR, pW, pU, pI, pC, uO, uF, uE, uN, oQ, oS)
    else
      (f_op1 x4 x5 x6 x7 x11 nF nO nL nA nC nE cK cO).bind fun (x181, x182, x183, x184, x185, nF_186, nO_187, nL_188, nA_189, nE_190, cK_191) =>
      some (x181, x182, x183, x184, x185, nF_186, nO_187, nL_188, nA_189, nC, nV, nU, nP, nE_190, bF, bO, bL, bA, bC, bV, bU, bP, bE, cT, cK_191, cO, cQ, cD, pT, pK, pR, pW, pU, pI, pC, uO, uF, uE, uN, oQ, oS)
set_option maxHeartbeats 8000000 in
set_option maxRecDepth 100000 in
theorem l_rB {p : Program} {l : Launch} {e : Env} {s : State} {m : MethodId} {below : List Frame} {meth : Method} {c : Code} {Qm : State → Prop} {D : va_G} {A : Nat → Prop} {b LL : Nat} {xs : Nat → Int32} (ca : Nat → ClassId) (hst : l.stackTraces = false) (hx : p.tables.exec = Jvm.exec) (hb : c.code = cL_law) (hml : c.maxLocals = 21) (hown : s.vm.findClass RL = some m.cls) (hts : ∀ w ∈ WW, w.before #[Value.ref b] s = true) (hE : EE D ca SL0 s) (hA : ∀ q, s.heap.size ≤ q → A q) (hZ : ZZ A s s.heap) (hNC : NCE s) (hX : va_X b LL xs s s.heap) (hbl : b < s.heap.size) (hbA : ¬ A b) (ad : Nat → Nat) (bq qa sa : Nat) (nF : Int32) (nO : Nat → Int32) (nL : Nat → Int32) (nA : Nat → Int32) (nC : Nat → Int32) (nV : Nat → Int32) (nU : Nat → Int32) (nP : Nat → Int32) (nE : Int32) (bF : Int32) (bO : Nat → Int32) (bL : Nat → Int32) (bA : Nat → Int32) (bC : Nat → Int32) (bV : Nat → Int32) (bU : Nat → Int32) (bP : Nat → Int32) (bE : Int32) (cT : Int32) (cK : Nat → Int32) (cO : Int32) (cQ : Nat → Int32) (cD : Int32) (pT : Int32) (pK : Int32) (pR : Nat → Int32) (pW : Nat → Int32) (pU : Nat → Int32) (pI : Nat → Int32) (pC : Nat → Nat → Int32) (uO : Int32) (uF : Nat → Int32) (uE : Nat → Int32) (uN : Nat → Int32) (wK : Nat → Int32) (jM : Int32) (jN : Int32) (jZ : Nat) (jB : Nat → Int32) (oQ : Nat → Int32) (oS : Nat → Int32) (R : va_W) (x4 : Int32) (x5 : Int32) (x6 : Int32) (x7 : Int32) (x8 : Int32) (x9 : Int32) (x10 : Int32) (x11 : Int32) (x12 : Int32) (x13 : Int32) (x14 : Int64) (x16 : Int32) (cN0 sN0 : Nat) (hcN : cN0 + 148 ≤ 1200390) (hsN : sN0 + 888 ≤ 5489120) (y4 : Int32) (y5 : Int32) (y6 : Int32) (y7 : Int32) (y16 : Int32) (onF : Int32) (onO : Nat → Int32) (onL : Nat → Int32) (onA : Nat → Int32) (onC : Nat → Int32) (onV : Nat → Int32) (onU : Nat → Int32) (onP : Nat → Int32) (onE : Int32) (obF : Int32) (obO : Nat → Int32) (obL : Nat → Int32) (obA : Nat → Int32) (obC : Nat → Int32) (obV : Nat → Int32) (obU : Nat → Int32) (obP : Nat → Int32) (obE : Int32) (ocT : Int32) (ocK : Nat → Int32) (ocO : Int32) (ocQ : Nat → Int32) (ocD : Int32) (opT : Int32) (opK : Int32) (opR : Nat → Int32) (opW : Nat → Int32) (opU : Nat → Int32) (opI : Nat → Int32) (opC : Nat → Nat → Int32) (ouO : Int32) (ouF : Nat → Int32) (ouE : Nat → Int32) (ouN : Nat → Int32) (ooQ : Nat → Int32) (ooS : Nat → Int32) (hf : f_rB x4 x5 x6 x7 x8 x9 x10 x11 x12 x13 x14 x16 nF nO nL nA nC nV nU nP nE bF bO bL bA bC bV bU bP bE cT cK cO cQ cD pT pK pR pW pU pI pC uO uF uE uN oQ oS = some (y4, y5, y6, y7, y16, onF, onO, onL, onA, onC, onV, onU, onP, onE, obF, obO, obL, obA, obC, obV, obU, obP, obE, ocT, ocK, ocO, ocQ, ocD, opT, opK, opR, opW, opU, opI, opC, ouO, ouF, ouE, ouN, ooQ, ooS)) {H : Heap} {locs : List Loc} {ls : Array Slot} (hP : va_P D vwCl (WC ca ad bq nF nO nL nA nC nV nU nP nE bF bO bL bA bC bV bU bP bE cT cK cO cQ cD pT pK pR pW pU pI pC uO uF uE uN wK jM jN jZ jB ++ (WO ca qa sa oQ oS ++ R)) H) (hD : va_D A (WC ca ad bq nF nO nL nA nC nV nU nP nE bF bO bL bA bC bV bU bP bE cT cK cO cQ cD pT pK pR pW pU pI pC uO uF uE uN wK jM jN jZ jB ++ (WO ca qa sa oQ oS ++ R))) (hS : va_S A s.heap H locs) (hl : lv_has ls 21 [(0, .ref b), (1, .ref (ad 0)), (2, .ref qa), (3, .ref sa), (4, .int x4), (5, .int x5), (6, .int x6), (7, .int x7), (8, .int x8), (9, .int x9), (10, .int x10), (11, .int x11), (12, .int x12), (13, .int x13), (14, .long x14), (16, .int x16)]) (kk : ∀ (H : Heap) (locs : List Loc) (ls : Array Slot), va_P D vwCl (WC ca ad bq onF onO onL onA onC onV onU onP onE obF obO obL obA obC obV obU obP obE ocT ocK ocO ocQ ocD opT opK opR opW opU opI opC ouO ouF ouE ouN wK jM jN jZ jB ++ (WO ca qa sa ooQ ooS ++ R)) H → va_D A (WC ca ad bq onF onO onL onA onC onV onU onP onE obF obO obL obA obC obV obU obP obE ocT ocK ocO ocQ ocD opT opK opR opW opU opI opC ouO ouF ouE ouN wK jM jN jZ jB ++ (WO ca qa sa ooQ ooS ++ R)) → va_S A s.heap H locs → lv_has ls 21 [(0, .ref b), (1, .ref (ad 0)), (2, .ref qa), (3, .ref sa), (4, .int y4), (5, .int y5), (6, .int y6), (7, .int y7), (8, .int x8), (14, .long x14), (16, .int y16)] → W p l e room_1 s m #[Value.ref b] below meth c H locs (cN0 + 148) (sN0 + 888) Qm (F0 m 984 ls [])) : W p l e room_1 s m #[Value.ref b] below meth c H locs cN0 sN0 Qm (F0 m 146 ls []) := by
  have hK := hE.1
  unfold f_rB at hf
  change W p l e room_1 s m #[Value.ref b] below meth c H locs (cN0 + 0) (sN0 + 0) Qm (F0 m 146 ls [])
  refine lv_iload hx hb dL_law_146 (lv_at hl 13 rfl) ?_
  refine lv_if_ne (tgt := 190) hx hb dL_law_148 (by decide) (fun c1 => ?_) (fun c1 => ?_)
  · have hf := br_neg c1 hf
    refine lv_iload hx hb dL_law_190 (lv_at hl 13 rfl) ?_
    refine lv_iconst (v := 4) hx hb dL_law_192 (by decide) ?_
    refine lv_icmp_ge (tgt := 240) hx hb dL_law_193 (by decide) (fun c2 => ?_) (fun c2 => ?_)
    · have hf := br_pos c2 hf
      refine lv_iload hx hb dL_law_240 (lv_at hl 13 rfl) ?_
      refine lv_bipush (v := 13) hx hb dL_law_242 (by decide) ?_
      refine lv_icmp_ge (tgt := 330) hx hb dL_law_244 (by decide) (fun c3 => ?_) (fun c3 => ?_)
      · have hf := br_pos c3 hf
        refine lv_iload hx hb dL_law_330 (lv_at hl 13 rfl) ?_
        refine lv_bipush (v := 13) hx hb dL_law_332 (by decide) ?_
        refine lv_icmp_ne (tgt := 374) hx hb dL_law_334 (by decide) (fun c4 => ?_) (fun c4 => ?_)
        · have hf := br_neg c4 hf
          refine lv_iload hx hb dL_law_374 (lv_at hl 13 rfl) ?_
          refine lv_bipush (v := 14) hx hb dL_law_376 (by decide) ?_
          refine lv_icmp_ne (tgt := 395) hx hb dL_law_378 (by decide) (fun c5 => ?_) (fun c5 => ?_)
          · have hf := br_neg c5 hf
            refine lv_iload hx hb dL_law_395 (lv_at hl 13 rfl) ?_
            refine lv_bipush (v := 17) hx hb dL_law_397 (by decide) ?_
            refine lv_icmp_ge (tgt := 416) hx hb dL_law_399 (by decide) (fun c6 => ?_) (fun c6 => ?_)
            · have hf := br_pos c6 hf
              refine lv_iload hx hb dL_law_416 (lv_at hl 13 rfl) ?_
              refine lv_bipush (v := 17) hx hb dL_law_418 (by decide) ?_
              refine lv_icmp_ne (tgt := 447) hx hb dL_law_420 (by decide) (fun c7 => ?_) (fun c7 => ?_)
              · have hf := br_neg c7 hf
                refine lv_iload hx hb dL_law_447 (lv_at hl 13 rfl) ?_
                refine lv_bipush (v := 18) hx hb dL_law_449 (by decide) ?_
                refine lv_icmp_ne (tgt := 469) hx hb dL_law_451 (by decide) (fun c8 => ?_) (fun c8 => ?_)
                · have hf := br_neg c8 hf
                  refine lv_iload hx hb dL_law_469 (lv_at hl 13 rfl) ?_
                  refine lv_bipush (v := 22) hx hb dL_law_471 (by decide) ?_
                  refine lv_icmp_ge (tgt := 631) hx hb dL_law_473 (by decide) (fun c9 => ?_) (fun c9 => ?_)
                  · have hf := br_pos c9 hf
                    refine lv_iload hx hb dL_law_631 (lv_at hl 13 rfl) ?_
                    refine lv_bipush (v := 22) hx hb dL_law_633 (by decide) ?_
                    refine lv_icmp_ne (tgt := 691) hx hb dL_law_635 (by decide) (fun c10 => ?_) (fun c10 => ?_)
                    · have hf := br_neg c10 hf
                      refine lv_iload hx hb dL_law_691 (lv_at hl 13 rfl) ?_
                      refine lv_bipush (v := 25) hx hb dL_law_693 (by decide) ?_
                      refine lv_icmp_ge (tgt := 798) hx hb dL_law_695 (by decide) (fun c11 => ?_) (fun c11 => ?_)
                      · have hf := br_pos c11 hf
                        refine lv_iload hx hb dL_law_798 (lv_at hl 13 rfl) ?_
                        refine lv_bipush (v := 25) hx hb dL_law_800 (by decide) ?_
                        refine lv_icmp_ne (tgt := 844) hx hb dL_law_802 (by decide) (fun c12 => ?_) (fun c12 => ?_)
                        · have hf := br_neg c12 hf
                          refine lv_iload hx hb dL_law_844 (lv_at hl 13 rfl) ?_
                          refine lv_bipush (v := 26) hx hb dL_law_846 (by decide) ?_
                          refine lv_icmp_ne (tgt := 875) hx hb dL_law_848 (by decide) (fun c13 => ?_) (fun c13 => ?_)
                          · have hf := br_neg c13 hf
                            refine lv_iload hx hb dL_law_875 (lv_at hl 13 rfl) ?_
                            refine lv_bipush (v := 27) hx hb dL_law_877 (by decide) ?_
                            refine lv_icmp_ne (tgt := 904) hx hb dL_law_879 (by decide) (fun c14 => ?_) (fun c14 => ?_)
                            · have hf := br_neg c14 hf
                              refine lv_iload hx hb dL_law_904 (lv_at hl 13 rfl) ?_
                              refine lv_bipush (v := 28) hx hb dL_law_906 (by decide) ?_
                              refine lv_icmp_ne (tgt := 925) hx hb dL_law_908 (by decide) (fun c15 => ?_) (fun c15 => ?_)
                              · have hf := br_neg c15 hf
                                refine lv_iload hx hb dL_law_925 (lv_at hl 13 rfl) ?_
                                refine lv_bipush (v := 29) hx hb dL_law_927 (by decide) ?_
                                refine lv_icmp_ne (tgt := 946) hx hb dL_law_929 (by decide) (fun c16 => ?_) (fun c16 => ?_)
                                · have hf := br_neg c16 hf
                                  obtain ⟨⟨x17, x18, x19, x20, x21, nF_22, nO_23, nL_24, nA_25, nC_26, nV_27, nU_28, nP_29, nE_30, cT_31⟩, h32, hf⟩ := bnd hf
                                  cases hf
                                  refine l_opC ca hst hx hb hml hown hts hE hA hZ hNC hX hbl hbA ad bq qa sa nF nO nL nA nC nV nU nP nE bF bO bL bA bC bV bU bP bE cT cK cO cQ cD pT pK pR pW pU pI pC uO uF uE uN wK jM jN jZ jB oQ oS R x4 x5 x6 x7 x8 x9 x10 x11 x12 x13 x14 x16 _ _ (by omega) (by omega) _ _ _ _ _ _ _ _ _ _ _ _ _ _ _ h32 hP hD hS (lv_sub hl [0, 1, 2, 3, 4, 5, 6, 7, 8, 9, 10, 11, 12, 13, 14, 15] rfl) (fun H locs ls hP hD hS hl => ?_)
                                  refine W.widen (k := cN0 + 148) (n := sN0 + 888) (by omega) (by omega) ?_
                                  exact kk _ _ _ hP hD hS hl
                                · have hf := br_pos c16 hf
                                  obtain ⟨⟨x33, x34, x35, x36, x37, cT_38⟩, h39, hf⟩ := bnd hf
                                  cases hf
                                  refine l_op30 ca hst hx hb hml hown hts hE hA hZ hNC hX hbl hbA ad bq qa sa nF nO nL nA nC nV nU nP nE bF bO bL bA bC bV bU bP bE cT cK cO cQ cD pT pK pR pW pU pI pC uO uF uE uN wK jM jN jZ jB oQ oS R x4 x5 x6 x7 x8 x9 x10 x11 x12 x13 x14 x16 _ _ (by omega) (by omega) _ _ _ _ _ _ h39 hP hD hS (lv_sub hl [0, 1, 2, 3, 4, 5, 6, 7, 8, 9, 10, 11, 12, 13, 14, 15] rfl) (fun H locs ls hP hD hS hl => ?_)
                                  refine W.widen (k := cN0 + 148) (n := sN0 + 888) (by omega) (by omega) ?_
                                  exact kk _ _ _ hP hD hS hl
                              · have hf := br_pos c15 hf
                                obtain ⟨⟨x40, x41, x42, x43, x44, bF_45, bO_46, bL_47, bA_48, bC_49, bV_50, bU_51, bP_52, bE_53, cT_54⟩, h55, hf⟩ := bnd hf
                                cases hf
                                refine l_op29 ca hst hx hb hml hown hts hE hA hZ hNC hX hbl hbA ad bq qa sa nF nO nL nA nC nV nU nP nE bF bO bL bA bC bV bU bP bE cT cK cO cQ cD pT pK pR pW pU pI pC uO uF uE uN wK jM jN jZ jB oQ oS R x4 x5 x6 x7 x8 x9 x10 x11 x12 x13 x14 x16 _ _ (by omega) (by omega) _ _ _ _ _ _ _ _ _ _ _ _ _ _ _ h55 hP hD hS (lv_sub hl [0, 1, 2, 3, 4, 5, 6, 7, 8, 9, 10, 11, 12, 13, 14, 15] rfl) (fun H locs ls hP hD hS hl => ?_)
                                refine W.widen (k := cN0 + 148) (n := sN0 + 888) (by omega) (by omega) ?_
                                exact kk _ _ _ hP hD hS hl
                            · have hf := br_pos c14 hf
                              obtain ⟨⟨x56, x57, x58, x59, x60, nA_61, nC_62, nU_63, cD_64, uN_65⟩, h66, hf⟩ := bnd hf
                              cases hf
                              refine l_op28 ca hst hx hb hml hown hts hE hA hZ hNC hX hbl hbA ad bq qa sa nF nO nL nA nC nV nU nP nE bF bO bL bA bC bV bU bP bE cT cK cO cQ cD pT pK pR pW pU pI pC uO uF uE uN wK jM jN jZ jB oQ oS R x4 x5 x6 x7 x8 x9 x10 x11 x12 x13 x14 x16 _ _ (by omega) (by omega) _ _ _ _ _ _ _ _ _ _ h66 hP hD hS (lv_sub hl [0, 1, 2, 3, 4, 5, 6, 7, 8, 9, 10, 11, 12, 13, 14, 15] rfl) (fun H locs ls hP hD hS hl => ?_)
                              refine W.widen (k := cN0 + 148) (n := sN0 + 888) (by omega) (by omega) ?_
                              exact kk _ _ _ hP hD hS hl
                          · have hf := br_pos c13 hf
                            obtain ⟨⟨x67, x68, x69, x70, x71, nA_72, nC_73, nU_74, uN_75⟩, h76, hf⟩ := bnd hf
                            cases hf
                            refine l_op24 ca hst hx hb hml hown hts hE hA hZ hNC hX hbl hbA ad bq qa sa nF nO nL nA nC nV nU nP nE bF bO bL bA bC bV bU bP bE cT cK cO cQ cD pT pK pR pW pU pI pC uO uF uE uN wK jM jN jZ jB oQ oS R x4 x5 x6 x7 x8 x9 x10 x11 x12 x13 x14 x16 _ _ (by omega) (by omega) _ _ _ _ _ _ _ _ _ h76 hP hD hS (lv_sub hl [0, 1, 2, 3, 4, 5, 6, 7, 8, 9, 10, 11, 12, 13, 14, 15] rfl) (fun H locs ls hP hD hS hl => ?_)
                            refine W.widen (k := cN0 + 148) (n := sN0 + 888) (by omega) (by omega) ?_
                            exact kk _ _ _ hP hD hS hl
                        · have hf := br_pos c12 hf
                          obtain ⟨⟨x77, x78, x79, x80, x81, uO_82, uF_83, uE_84, uN_85⟩, h86, hf⟩ := bnd hf
                          cases hf
                          refine l_op23 ca hst hx hb hml hown hts hE hA hZ hNC hX hbl hbA ad bq qa sa nF nO nL nA nC nV nU nP nE bF bO bL bA bC bV bU bP bE cT cK cO cQ cD pT pK pR pW pU pI pC uO uF uE uN wK jM jN jZ jB oQ oS R x4 x5 x6 x7 x8 x9 x10 x11 x12 x13 x14 x16 _ _ (by omega) (by omega) _ _ _ _ _ _ _ _ _ h86 hP hD hS (lv_sub hl [0, 1, 2, 3, 4, 5, 6, 7, 8, 9, 10, 11, 12, 13, 14, 15] rfl) (fun H locs ls hP hD hS hl => ?_)
                          refine W.widen (k := cN0 + 148) (n := sN0 + 888) (by omega) (by omega) ?_
                          exact kk _ _ _ hP hD hS hl
                      · have hf := br_neg c11 hf
                        obtain ⟨⟨x87, x88, x89, x90, x91, nC_92, nU_93⟩, h94, hf⟩ := bnd hf
                        cases hf
                        refine l_op22 ca hst hx hb hml hown hts hE hA hZ hNC hX hbl hbA ad bq qa sa nF nO nL nA nC nV nU nP nE bF bO bL bA bC bV bU bP bE cT cK cO cQ cD pT pK pR pW pU pI pC uO uF uE uN wK jM jN jZ jB oQ oS R x4 x5 x6 x7 x8 x9 x10 x11 x12 x13 x14 x16 _ _ (by omega) (by omega) _ _ _ _ _ _ _ h94 hP hD hS (lv_sub hl [0, 1, 2, 3, 4, 5, 6, 7, 8, 9, 10, 11, 12, 13, 14, 15] rfl) (fun H locs ls hP hD hS hl => ?_)
                        refine W.widen (k := cN0 + 148) (n := sN0 + 888) (by omega) (by omega) ?_
                        exact kk _ _ _ hP hD hS hl
                    · have hf := br_pos c10 hf
                      obtain ⟨⟨x95, x96, x97, x98, x99, nU_100, pK_101, pW_102, pU_103⟩, h104, hf⟩ := bnd hf
                      cases hf
                      refine l_op20 ca hst hx hb hml hown hts hE hA hZ hNC hX hbl hbA ad bq qa sa nF nO nL nA nC nV nU nP nE bF bO bL bA bC bV bU bP bE cT cK cO cQ cD pT pK pR pW pU pI pC uO uF uE uN wK jM jN jZ jB oQ oS R x4 x5 x6 x7 x8 x9 x10 x11 x12 x13 x14 x16 _ _ (by omega) (by omega) _ _ _ _ _ _ _ _ _ h104 hP hD hS (lv_sub hl [0, 1, 2, 3, 4, 5, 6, 7, 8, 9, 10, 11, 12, 13, 14, 15] rfl) (fun H locs ls hP hD hS hl => ?_)
                      refine W.widen (k := cN0 + 148) (n := sN0 + 888) (by omega) (by omega) ?_
                      exact kk _ _ _ hP hD hS hl
                  · have hf := br_neg c9 hf
                    obtain ⟨⟨x105, x106, x107, x108, x109, nU_110, pT_111, pK_112, pR_113, pW_114, pU_115, pI_116, pC_117, oS_118⟩, h119, hf⟩ := bnd hf
                    cases hf
                    refine l_op17 ca hst hx hb hml hown hts hE hA hZ hNC hX hbl hbA ad bq qa sa nF nO nL nA nC nV nU nP nE bF bO bL bA bC bV bU bP bE cT cK cO cQ cD pT pK pR pW pU pI pC uO uF uE uN wK jM jN jZ jB oQ oS R x4 x5 x6 x7 x8 x9 x10 x11 x12 x13 x14 x16 _ _ (by omega) (by omega) _ _ _ _ _ _ _ _ _ _ _ _ _ _ h119 hP hD hS (lv_sub hl [0, 1, 2, 3, 4, 5, 6, 7, 8, 9, 10, 11, 12, 13, 14, 15] rfl) (fun H locs ls hP hD hS hl => ?_)
                    refine W.widen (k := cN0 + 148) (n := sN0 + 888) (by omega) (by omega) ?_
                    exact kk _ _ _ hP hD hS hl
                · have hf := br_pos c8 hf
                  obtain ⟨⟨x120, x121, x122, x123, x124, nP_125, nE_126, cK_127⟩, h128, hf⟩ := bnd hf
                  cases hf
                  refine l_op16 ca hst hx hb hml hown hts hE hA hZ hNC hX hbl hbA ad bq qa sa nF nO nL nA nC nV nU nP nE bF bO bL bA bC bV bU bP bE cT cK cO cQ cD pT pK pR pW pU pI pC uO uF uE uN wK jM jN jZ jB oQ oS R x4 x5 x6 x7 x8 x9 x10 x11 x12 x13 x14 x16 _ _ (by omega) (by omega) _ _ _ _ _ _ _ _ h128 hP hD hS (lv_sub hl [0, 1, 2, 3, 4, 5, 6, 7, 8, 9, 10, 11, 12, 13, 14, 15] rfl) (fun H locs ls hP hD hS hl => ?_)
                  refine W.widen (k := cN0 + 148) (n := sN0 + 888) (by omega) (by omega) ?_
                  exact kk _ _ _ hP hD hS hl
              · have hf := br_pos c7 hf
                obtain ⟨⟨x129, x130, x131, x132, x133, nP_134, nE_135, cK_136⟩, h137, hf⟩ := bnd hf
                cases hf
                refine l_op14 ca hst hx hb hml hown hts hE hA hZ hNC hX hbl hbA ad bq qa sa nF nO nL nA nC nV nU nP nE bF bO bL bA bC bV bU bP bE cT cK cO cQ cD pT pK pR pW pU pI pC uO uF uE uN wK jM jN jZ jB oQ oS R x4 x5 x6 x7 x8 x9 x10 x11 x12 x13 x14 x16 _ _ (by omega) (by omega) _ _ _ _ _ _ _ _ h137 hP hD hS (lv_sub hl [0, 1, 2, 3, 4, 5, 6, 7, 8, 9, 10, 11, 12, 13, 14, 15] rfl) (fun H locs ls hP hD hS hl => ?_)
                refine W.widen (k := cN0 + 148) (n := sN0 + 888) (by omega) (by omega) ?_
                exact kk _ _ _ hP hD hS hl
            · have hf := br_neg c6 hf
              obtain ⟨⟨x138, x139, x140, x141, x142, nL_143, nA_144, nC_145, nU_146, nE_147, cK_148⟩, h149, hf⟩ := bnd hf
              cases hf
              refine l_op5 ca hst hx hb hml hown hts hE hA hZ hNC hX hbl hbA ad bq qa sa nF nO nL nA nC nV nU nP nE bF bO bL bA bC bV bU bP bE cT cK cO cQ cD pT pK pR pW pU pI pC uO uF uE uN wK jM jN jZ jB oQ oS R x4 x5 x6 x7 x8 x9 x10 x11 x12 x13 x14 x16 _ _ (by omega) (by omega) _ _ _ _ _ _ _ _ _ _ _ h149 hP hD hS (lv_sub hl [0, 1, 2, 3, 4, 5, 6, 7, 8, 9, 10, 11, 12, 13, 14, 15] rfl) (fun H locs ls hP hD hS hl => ?_)
              refine W.widen (k := cN0 + 148) (n := sN0 + 888) (by omega) (by omega) ?_
              exact kk _ _ _ hP hD hS hl
          · have hf := br_pos c5 hf
            obtain ⟨⟨x150, x151, x152, x153, x154, nL_155, nE_156, cK_157⟩, h158, hf⟩ := bnd hf
            cases hf
            refine l_op4 ca hst hx hb hml hown hts hE hA hZ hNC hX hbl hbA ad bq qa sa nF nO nL nA nC nV nU nP nE bF bO bL bA bC bV bU bP bE cT cK cO cQ cD pT pK pR pW pU pI pC uO uF uE uN wK jM jN jZ jB oQ oS R x4 x5 x6 x7 x8 x9 x10 x11 x12 x13 x14 x16 _ _ (by omega) (by omega) _ _ _ _ _ _ _ _ h158 hP hD hS (lv_sub hl [0, 1, 2, 3, 4, 5, 6, 7, 8, 9, 10, 11, 12, 13, 14, 15] rfl) (fun H locs ls hP hD hS hl => ?_)
            refine W.widen (k := cN0 + 148) (n := sN0 + 888) (by omega) (by omega) ?_
            exact kk _ _ _ hP hD hS hl
        · have hf := br_pos c4 hf
          obtain ⟨⟨x159, x160, x161, x162, x163, nC_164, nU_165, nE_166, cK_167⟩, h168, hf⟩ := bnd hf
          cases hf
          refine l_op7 ca hst hx hb hml hown hts hE hA hZ hNC hX hbl hbA ad bq qa sa nF nO nL nA nC nV nU nP nE bF bO bL bA bC bV bU bP bE cT cK cO cQ cD pT pK pR pW pU pI pC uO uF uE uN wK jM jN jZ jB oQ oS R x4 x5 x6 x7 x8 x9 x10 x11 x12 x13 x14 x16 _ _ (by omega) (by omega) _ _ _ _ _ _ _ _ _ h168 hP hD hS (lv_sub hl [0, 1, 2, 3, 4, 5, 6, 7, 8, 9, 10, 11, 12, 13, 14, 15] rfl) (fun H locs ls hP hD hS hl => ?_)
          refine W.widen (k := cN0 + 148) (n := sN0 + 888) (by omega) (by omega) ?_
          exact kk _ _ _ hP hD hS hl
      · have hf := br_neg c3 hf
        obtain ⟨⟨x169, x170, x171, x172, x173, nC_174, nV_175, nU_176, nP_177, nE_178, cK_179⟩, h180, hf⟩ := bnd hf
        cases hf
        refine l_op6 ca hst hx hb hml hown hts hE hA hZ hNC hX hbl hbA ad bq qa sa nF nO nL nA nC nV nU nP nE bF bO bL bA bC bV bU bP bE cT cK cO cQ cD pT pK pR pW pU pI pC uO uF uE uN wK jM jN jZ jB oQ oS R x4 x5 x6 x7 x8 x9 x10 x11 x12 x13 x14 x16 _ _ (by omega) (by omega) _ _ _ _ _ _ _ _ _ _ _ h180 hP hD hS (lv_sub hl [0, 1, 2, 3, 4, 5, 6, 7, 8, 9, 10, 11, 12, 13, 14, 15] rfl) (fun H locs ls hP hD hS hl => ?_)
        refine W.widen (k := cN0 + 148) (n := sN0 + 888) (by omega) (by omega) ?_
        exact kk _ _ _ hP hD hS hl
    · have hf := br_neg c2 hf
      obtain ⟨⟨x181, x182, x183, x184, x185, nF_186, nO_187, nL_188, nA_189, nE_190, cK_191⟩, h192, hf⟩ := bnd hf
      cases hf
      refine l_op1 ca hst hx hb hml hown hts hE hA hZ hNC hX hbl hbA ad bq qa sa nF nO nL nA nC nV nU nP nE bF bO bL bA bC bV bU bP bE cT cK cO cQ cD pT pK pR pW pU pI pC uO uF uE uN wK jM jN jZ jB oQ oS R x4 x5 x6 x7 x8 x9 x10 x11 x12 x13 x14 x16 _ _ (by omega) (by omega) _ _ _ _ _ _ _ _ _ _ _ h192 hP hD hS (lv_sub hl [0, 1, 2, 3, 4, 5, 6, 7, 8, 9, 10, 11, 12, 13, 14, 15] rfl) (fun H locs ls hP hD hS hl => ?_)
      refine W.widen (k := cN0 + 148) (n := sN0 + 888) (by omega) (by omega) ?_
      exact kk _ _ _ hP hD hS hl
  · have hf := br_pos c1 hf
    obtain ⟨⟨x193, x194, x195, x196, x197, cO_198, cQ_199, oQ_200⟩, h201, hf⟩ := bnd hf
    cases hf
    refine l_op0 ca hst hx hb hml hown hts hE hA hZ hNC hX hbl hbA ad bq qa sa nF nO nL nA nC nV nU nP nE bF bO bL bA bC bV bU bP bE cT cK cO cQ cD pT pK pR pW pU pI pC uO uF uE uN wK jM jN jZ jB oQ oS R x4 x5 x6 x7 x8 x9 x10 x11 x12 x13 x14 x16 _ _ (by omega) (by omega) _ _ _ _ _ _ _ _ h201 hP hD hS (lv_sub hl [0, 1, 2, 3, 4, 5, 6, 7, 8, 9, 10, 11, 12, 13, 14, 15] rfl) (fun H locs ls hP hD hS hl => ?_)
    refine W.widen (k := cN0 + 148) (n := sN0 + 888) (by omega) (by omega) ?_
    exact kk _ _ _ hP hD hS hl
def f_rC (x5 : Int32) (x6 : Int32) (x7 : Int32) (x14 : Int64) (x16 : Int32) (nF : Int32) (nO : Nat → Int32) (nL : Nat → Int32) (nC : Nat → Int32) (nV : Nat → Int32) (nU : Nat → Int32) (nP : Nat → Int32) (nE : Int32) (cO : Int32) (cD : Int32) (pT : Int32) (pW : Nat → Int32) (uO : Int32) (uF : Nat → Int32) (uN : Nat → Int32) : Option (Unit) :=
  if 0 ≤ x16 then
    some ()
  else
    (f_state x5 x6 x7 nF nO nL nC nV nU nP nE cO cD pT pW uO uF uN).bind fun r2 =>
    if (lg_cmp r2 x14) = 0 then
      some ()
    else
      none
set_option maxHeartbeats 8000000 in
set_option maxRecDepth 100000 in
theorem l_rC {p : Program} {l : Launch} {e : Env} {s : State} {m : MethodId} {below : List Frame} {meth : Method} {c : Code} {Qm : State → Prop} {D : va_G} {A : Nat → Prop} {b LL : Nat} {xs : Nat → Int32} (ca : Nat → ClassId) (hst : l.stackTraces = false) (hx : p.tables.exec = Jvm.exec) (hb : c.code = cL_law) (hml : c.maxLocals = 21) (hown : s.vm.findClass RL = some m.cls) (hts : ∀ w ∈ WW, w.before #[Value.ref b] s = true) (hE : EE D ca SL0 s) (hA : ∀ q, s.heap.size ≤ q → A q) (hZ : ZZ A s s.heap) (hNC : NCE s) (hX : va_X b LL xs s s.heap) (hbl : b < s.heap.size) (hbA : ¬ A b) (ad : Nat → Nat) (bq qa sa : Nat) (nF : Int32) (nO : Nat → Int32) (nL : Nat → Int32) (nA : Nat → Int32) (nC : Nat → Int32) (nV : Nat → Int32) (nU : Nat → Int32) (nP : Nat → Int32) (nE : Int32) (bF : Int32) (bO : Nat → Int32) (bL : Nat → Int32) (bA : Nat → Int32) (bC : Nat → Int32) (bV : Nat → Int32) (bU : Nat → Int32) (bP : Nat → Int32) (bE : Int32) (cT : Int32) (cK : Nat → Int32) (cO : Int32) (cQ : Nat → Int32) (cD : Int32) (pT : Int32) (pK : Int32) (pR : Nat → Int32) (pW : Nat → Int32) (pU : Nat → Int32) (pI : Nat → Int32) (pC : Nat → Nat → Int32) (uO : Int32) (uF : Nat → Int32) (uE : Nat → Int32) (uN : Nat → Int32) (wK : Nat → Int32) (jM : Int32) (jN : Int32) (jZ : Nat) (jB : Nat → Int32) (oQ : Nat → Int32) (oS : Nat → Int32) (R : va_W) (x4 : Int32) (x5 : Int32) (x6 : Int32) (x7 : Int32) (x8 : Int32) (x14 : Int64) (x16 : Int32) (cN0 sN0 : Nat) (hcN : cN0 + 1876 ≤ 1200390) (hsN : sN0 + 11256 ≤ 5489120) (hf : f_rC x5 x6 x7 x14 x16 nF nO nL nC nV nU nP nE cO cD pT pW uO uF uN = some ()) {H : Heap} {locs : List Loc} {ls : Array Slot} (hP : va_P D vwCl (WC ca ad bq nF nO nL nA nC nV nU nP nE bF bO bL bA bC bV bU bP bE cT cK cO cQ cD pT pK pR pW pU pI pC uO uF uE uN wK jM jN jZ jB ++ (WO ca qa sa oQ oS ++ R)) H) (hD : va_D A (WC ca ad bq nF nO nL nA nC nV nU nP nE bF bO bL bA bC bV bU bP bE cT cK cO cQ cD pT pK pR pW pU pI pC uO uF uE uN wK jM jN jZ jB ++ (WO ca qa sa oQ oS ++ R))) (hS : va_S A s.heap H locs) (hl : lv_has ls 21 [(0, .ref b), (1, .ref (ad 0)), (2, .ref qa), (3, .ref sa), (4, .int x4), (5, .int x5), (6, .int x6), (7, .int x7), (8, .int x8), (14, .long x14), (16, .int x16)]) (kk : ∀ (H : Heap) (locs : List Loc) (ls : Array Slot), va_P D vwCl (WC ca ad bq nF nO nL nA nC nV nU nP nE bF bO bL bA bC bV bU bP bE cT cK cO cQ cD pT pK pR pW pU pI pC uO uF uE uN wK jM jN jZ jB ++ (WO ca qa sa oQ oS ++ R)) H → va_D A (WC ca ad bq nF nO nL nA nC nV nU nP nE bF bO bL bA bC bV bU bP bE cT cK cO cQ cD pT pK pR pW pU pI pC uO uF uE uN wK jM jN jZ jB ++ (WO ca qa sa oQ oS ++ R)) → va_S A s.heap H locs → lv_has ls 21 [(0, .ref b), (1, .ref (ad 0)), (2, .ref qa), (3, .ref sa), (4, .int x4), (5, .int x5), (6, .int x6), (7, .int x7), (8, .int x8)] → W p l e room_1 s m #[Value.ref b] below meth c H locs (cN0 + 1876) (sN0 + 11256) Qm (F0 m 1005 ls [])) : W p l e room_1 s m #[Value.ref b] below meth c H locs cN0 sN0 Qm (F0 m 984 ls []) := by
  have hK := hE.1
  unfold f_rC at hf
  change W p l e room_1 s m #[Value.ref b] below meth c H locs (cN0 + 0) (sN0 + 0) Qm (F0 m 984 ls [])
  refine lv_iload hx hb dL_law_984 (lv_at hl 10 rfl) ?_
  refine lv_if_ge (tgt := 1005) hx hb dL_law_986 (by decide) (fun c1 => ?_) (fun c1 => ?_)
  · have hf := br_pos c1 hf
    cases hf
    refine W.widen (k := cN0 + 1876) (n := sN0 + 11256) (by omega) (by omega) ?_
    exact kk _ _ _ hP hD hS (lv_sub hl [0, 1, 2, 3, 4, 5, 6, 7, 8] rfl)
  · have hf := br_neg c1 hf
    refine lv_aload_n hx hb dL_law_989 rfl (lv_at hl 1 rfl) ?_
    refine lv_iload hx hb dL_law_990 (lv_at hl 5 rfl) ?_
    refine lv_iload hx hb dL_law_992 (lv_at hl 6 rfl) ?_
    refine lv_iload hx hb dL_law_994 (lv_at hl 7 rfl) ?_
    obtain ⟨r2, h3, hf⟩ := bnd hf
    refine cs_l (rest := []) (m_state l hst ca ad bq qa sa nF nO nL nA nC nV nU nP nE bF bO bL bA bC bV bU bP bE cT cK cO cQ cD pT pK pR pW pU pI pC uO uF uE uN wK jM jN jZ jB oQ oS R _ x5 x6 x7 r2 h3) ⟨hx, hb, hml, hown, hts⟩ (va_cwS 4 hts (gS q1159 q1160 q23 q1161) rfl rfl rfl (by decide +kernel) ⟨Nat.le_of_ble_eq_true rfl, Nat.le_of_ble_eq_true rfl⟩) hE hP hD hS hA hZ hNC rfl hl.1 rfl (lv_room (Nat.le_of_ble_eq_true rfl)) dL_law_996 ⟨by show _ ≤ 1200390; omega, by show _ ≤ 5489120; omega⟩ (fun H locs hP hD hS => ?_)
    refine lv_lload hx hb dL_law_999 (lv_at hl 9 rfl) ?_
    refine W.lcmp hx hb dL_law_1001 ?_
    refine lv_if_ne (tgt := 1015) hx hb dL_law_1002 (by decide) (fun c4 => ?_) (fun c4 => ?_)
    · have hf := br_neg c4 hf
      cases hf
    · have hf := br_pos c4 hf
      cases hf
      refine W.widen (k := cN0 + 1876) (n := sN0 + 11256) (by omega) (by omega) ?_
      exact kk _ _ _ hP hD hS (lv_sub hl [0, 1, 2, 3, 4, 5, 6, 7, 8] rfl)
def f_rE_L1020 : Nat → Int32 → Int32 → Int32 → Int32 → Int32 → Int32 → Int32 → (Nat → Int32) → Int32 → (Nat → Int32) → (Nat → Int32) → (Nat → Nat → Int32) → (Nat → Int32) → Option (Unit)
  | 0, _, _, _, _, _, _, _, _, _, _, _, _, _ => none
  | fuel + 1, v4, v5, v6, v7, v8, v17, nF, nV, pT, pW, pI, pC, oS =>
    if v4 ≤ v17 then
      some ()
    else
      if (4 * v17) < 0 ∨ 520 ≤ (4 * v17).toNatClampNeg then none else
        if ((4 * v17) + 1) < 0 ∨ 520 ≤ ((4 * v17) + 1).toNatClampNeg then none else
        if ((4 * v17) + 2) < 0 ∨ 520 ≤ ((4 * v17) + 2).toNatClampNeg then none else
        (f_K19 (oS (4 * v17).toNatClampNeg) (oS ((4 * v17) + 1).toNatClampNeg) (oS ((4 * v17) + 2).toNatClampNeg) nF nV pT pW pI pC).bind fun r22 =>
      if (4 * v17) < 0 ∨ 520 ≤ (4 * v17).toNatClampNeg then none else
        (f_K18 (oS (4 * v17).toNatClampNeg) pT pW).bind fun r25 =>
      if r25 = 1 then
        if ((4 * v17) + 3) < 0 ∨ 520 ≤ ((4 * v17) + 3).toNatClampNeg then none else
          if r22 = (oS ((4 * v17) + 3).toNatClampNeg) then
          f_rE_L1020 fuel v4 v5 v6 v7 v8 (v17 + 1) nF nV pT pW pI pC oS
        else
          if r22 = (-1001) then
            f_rE_L1020 fuel v4 v5 v6 v7 v8 (v17 + 1) nF nV pT pW pI pC oS
          else
            none
      else
        f_rE_L1020 fuel v4 v5 v6 v7 v8 (v17 + 1) nF nV pT pW pI pC oS
def f_rE (x4 : Int32) (x5 : Int32) (x6 : Int32) (x7 : Int32) (x8 : Int32) (nF : Int32) (nO : Nat → Int32) (nL : Nat → Int32) (nA : Nat → Int32) (nC : Nat → Int32) (nV : Nat → Int32) (nU : Nat → Int32) (nP : Nat → Int32) (cO : Int32) (pT : Int32) (pW : Nat → Int32) (pU : Nat → Int32) (pI : Nat → Int32) (pC : Nat → Nat → Int32) (uO : Int32) (uF : Nat → Int32) (uN : Nat → Int32) (wK : Nat → Int32) (oQ : Nat → Int32) (oS : Nat → Int32) : Option (Int32 × (Nat → Int32)) :=
  (f_sound x5 nF nO nL nA nC nV nU nP cO pU pI pC uO uF uN wK oQ).bind fun wK_3 =>
  (f_rE_L1020 121 x4 x5 x6 x7 x8 0 nF nV pT pW pI pC oS).bind fun _ =>
  some ((x8 + 1), wK_3)
set_option maxHeartbeats 8000000 in
set_option maxRecDepth 100000 in
theorem l_rE {p : Program} {l : Launch} {e : Env} {s : State} {m : MethodId} {below : List Frame} {meth : Method} {c : Code} {Qm : State → Prop} {D : va_G} {A : Nat → Prop} {b LL : Nat} {xs : Nat → Int32} (ca : Nat → ClassId) (hst : l.stackTraces = false) (hx : p.tables.exec = Jvm.exec) (hb : c.code = cL_law) (hml : c.maxLocals = 21) (hown : s.vm.findClass RL = some m.cls) (hts : ∀ w ∈ WW, w.before #[Value.ref b] s = true) (hE : EE D ca SL0 s) (hA : ∀ q, s.heap.size ≤ q → A q) (hZ : ZZ A s s.heap) (hNC : NCE s) (hX : va_X b LL xs s s.heap) (hbl : b < s.heap.size) (hbA : ¬ A b) (ad : Nat → Nat) (bq qa sa : Nat) (nF : Int32) (nO : Nat → Int32) (nL : Nat → Int32) (nA : Nat → Int32) (nC : Nat → Int32) (nV : Nat → Int32) (nU : Nat → Int32) (nP : Nat → Int32) (nE : Int32) (bF : Int32) (bO : Nat → Int32) (bL : Nat → Int32) (bA : Nat → Int32) (bC : Nat → Int32) (bV : Nat → Int32) (bU : Nat → Int32) (bP : Nat → Int32) (bE : Int32) (cT : Int32) (cK : Nat → Int32) (cO : Int32) (cQ : Nat → Int32) (cD : Int32) (pT : Int32) (pK : Int32) (pR : Nat → Int32) (pW : Nat → Int32) (pU : Nat → Int32) (pI : Nat → Int32) (pC : Nat → Nat → Int32) (uO : Int32) (uF : Nat → Int32) (uE : Nat → Int32) (uN : Nat → Int32) (wK : Nat → Int32) (jM : Int32) (jN : Int32) (jZ : Nat) (jB : Nat → Int32) (oQ : Nat → Int32) (oS : Nat → Int32) (R : va_W) (x4 : Int32) (x5 : Int32) (x6 : Int32) (x7 : Int32) (x8 : Int32) (cN0 sN0 : Nat) (hcN : cN0 + 5950 ≤ 1200390) (hsN : sN0 + 35700 ≤ 5489120) (y8 : Int32) (owK : Nat → Int32) (hf : f_rE x4 x5 x6 x7 x8 nF nO nL nA nC nV nU nP cO pT pW pU pI pC uO uF uN wK oQ oS = some (y8, owK)) {H : Heap} {locs : List Loc} {ls : Array Slot} (hP : va_P D vwCl (WC ca ad bq nF nO nL nA nC nV nU nP nE bF bO bL bA bC bV bU bP bE cT cK cO cQ cD pT pK pR pW pU pI pC uO uF uE uN wK jM jN jZ jB ++ (WO ca qa sa oQ oS ++ R)) H) (hD : va_D A (WC ca ad bq nF nO nL nA nC nV nU nP nE bF bO bL bA bC bV bU bP bE cT cK cO cQ cD pT pK pR pW pU pI pC uO uF uE uN wK jM jN jZ jB ++ (WO ca qa sa oQ oS ++ R))) (hS : va_S A s.heap H locs) (hl : lv_has ls 21 [(0, .ref b), (1, .ref (ad 0)), (2, .ref qa), (3, .ref sa), (4, .int x4), (5, .int x5), (6, .int x6), (7, .int x7), (8, .int x8)]) (kk : ∀ (H : Heap) (locs : List Loc) (ls : Array Slot), va_P D vwCl (WC ca ad bq nF nO nL nA nC nV nU nP nE bF bO bL bA bC bV bU bP bE cT cK cO cQ cD pT pK pR pW pU pI pC uO uF uE uN owK jM jN jZ jB ++ (WO ca qa sa oQ oS ++ R)) H → va_D A (WC ca ad bq nF nO nL nA nC nV nU nP nE bF bO bL bA bC bV bU bP bE cT cK cO cQ cD pT pK pR pW pU pI pC uO uF uE uN owK jM jN jZ jB ++ (WO ca qa sa oQ oS ++ R)) → va_S A s.heap H locs → lv_has ls 21 [(0, .ref b), (1, .ref (ad 0)), (2, .ref qa), (3, .ref sa), (4, .int x4), (5, .int x5), (6, .int x6), (7, .int x7), (8, .int y8)] → W p l e room_1 s m #[Value.ref b] below meth c H locs (cN0 + 5950) (sN0 + 35700) Qm (F0 m 33 ls [])) : W p l e room_1 s m #[Value.ref b] below meth c H locs cN0 sN0 Qm (F0 m 1005 ls []) := by
  have hK := hE.1
  unfold f_rE at hf
  have L1020 : ∀ (n : Nat) (cN_ sN_ CT ST : Nat) (v4 : Int32) (v5 : Int32) (v6 : Int32) (v7 : Int32) (v8 : Int32) (v17 : Int32) (nF : Int32) (nO : Nat → Int32) (nL : Nat → Int32) (nA : Nat → Int32) (nC : Nat → Int32) (nV : Nat → Int32) (nU : Nat → Int32) (nP : Nat → Int32) (nE : Int32) (bF : Int32) (bO : Nat → Int32) (bL : Nat → Int32) (bA : Nat → Int32) (bC : Nat → Int32) (bV : Nat → Int32) (bU : Nat → Int32) (bP : Nat → Int32) (bE : Int32) (cT : Int32) (cK : Nat → Int32) (cO : Int32) (cQ : Nat → Int32) (cD : Int32) (pT : Int32) (pK : Int32) (pR : Nat → Int32) (pW : Nat → Int32) (pU : Nat → Int32) (pI : Nat → Int32) (pC : Nat → Nat → Int32) (uO : Int32) (uF : Nat → Int32) (uE : Nat → Int32) (uN : Nat → Int32) (wK : Nat → Int32) (jM : Int32) (jN : Int32) (jZ : Nat) (jB : Nat → Int32) (oQ : Nat → Int32) (oS : Nat → Int32), f_rE_L1020 n v4 v5 v6 v7 v8 v17 nF nV pT pW pI pC oS = some () → cN_ + n * 6 ≤ CT → sN_ + n * 36 ≤ ST → CT ≤ 1200390 → ST ≤ 5489120 → ∀ (H : Heap) (locs : List Loc) (ls : Array Slot), va_P D vwCl (WC ca ad bq nF nO nL nA nC nV nU nP nE bF bO bL bA bC bV bU bP bE cT cK cO cQ cD pT pK pR pW pU pI pC uO uF uE uN wK jM jN jZ jB ++ (WO ca qa sa oQ oS ++ R)) H → va_D A (WC ca ad bq nF nO nL nA nC nV nU nP nE bF bO bL bA bC bV bU bP bE cT cK cO cQ cD pT pK pR pW pU pI pC uO uF uE uN wK jM jN jZ jB ++ (WO ca qa sa oQ oS ++ R)) → va_S A s.heap H locs → lv_has ls 21 [(0, .ref b), (1, .ref (ad 0)), (2, .ref qa), (3, .ref sa), (4, .int v4), (5, .int v5), (6, .int v6), (7, .int v7), (8, .int v8), (17, .int v17)] → (∀ (H : Heap) (locs : List Loc) (ls : Array Slot), va_P D vwCl (WC ca ad bq nF nO nL nA nC nV nU nP nE bF bO bL bA bC bV bU bP bE cT cK cO cQ cD pT pK pR pW pU pI pC uO uF uE uN wK jM jN jZ jB ++ (WO ca qa sa oQ oS ++ R)) H → va_D A (WC ca ad bq nF nO nL nA nC nV nU nP nE bF bO bL bA bC bV bU bP bE cT cK cO cQ cD pT pK pR pW pU pI pC uO uF uE uN wK jM jN jZ jB ++ (WO ca qa sa oQ oS ++ R)) → va_S A s.heap H locs → lv_has ls 21 [(0, .ref b), (1, .ref (ad 0)), (2, .ref qa), (3, .ref sa), (4, .int v4), (5, .int v5), (6, .int v6), (7, .int v7), (8, .int v8)] → W p l e room_1 s m #[Value.ref b] below meth c H locs CT ST Qm (F0 m 1104 ls [])) → W p l e room_1 s m #[Value.ref b] below meth c H locs cN_ sN_ Qm (F0 m 1020 ls []) := by
    intro n
    induction n with
    | zero => intro _ _ _ _ v4 v5 v6 v7 v8 v17 nF nO nL nA nC nV nU nP nE bF bO bL bA bC bV bU bP bE cT cK cO cQ cD pT pK pR pW pU pI pC uO uF uE uN wK jM jN jZ jB oQ oS hf; cases hf
    | succ n ih =>
      intro cN_ sN_ CT ST v4 v5 v6 v7 v8 v17 nF nO nL nA nC nV nU nP nE bF bO bL bA bC bV bU bP bE cT cK cO cQ cD pT pK pR pW pU pI pC uO uF uE uN wK jM jN jZ jB oQ oS hf hc9 hs9 hCT hST H locs ls hP hD hS hl kk
      have hc8 : cN_ + n * 6 + 6 ≤ CT := by rw [Nat.succ_mul] at hc9; omega
      have hs8 : sN_ + n * 36 + 36 ≤ ST := by rw [Nat.succ_mul] at hs9; omega
      clear hc9 hs9
      change W p l e room_1 s m #[Value.ref b] below meth c H locs (cN_ + 0) (sN_ + 0) Qm (F0 m 1020 ls [])
      unfold f_rE_L1020 at hf
      refine lv_iload hx hb dL_law_1020 (lv_at hl 9 rfl) ?_
      refine lv_iload hx hb dL_law_1022 (lv_at hl 4 rfl) ?_
      refine lv_icmp_ge (tgt := 1104) hx hb dL_law_1024 (by decide) (fun c18 => ?_) (fun c18 => ?_)
      · have hf := br_pos c18 hf
        cases hf
        refine W.widen (k := CT) (n := ST) (by omega) (by omega) ?_
        exact kk _ _ _ hP hD hS (lv_sub hl [0, 1, 2, 3, 4, 5, 6, 7, 8] rfl)
      · have hf := br_neg c18 hf
        refine lv_aload_n hx hb dL_law_1027 rfl (lv_at hl 1 rfl) ?_
        refine lv_bipush (v := 19) hx hb dL_law_1028 (by decide) ?_
        refine lv_aload_n hx hb dL_law_1030 rfl (lv_at hl 3 rfl) ?_
        refine lv_iconst (v := 4) hx hb dL_law_1031 (by decide) ?_
        refine lv_iload hx hb dL_law_1032 (lv_at hl 9 rfl) ?_
        refine lv_imul hx hb dL_law_1034 ?_
        obtain ⟨k19, hf⟩ := ck_not hf
        refine va_iald (D := D) hx hb hK hP 41 0 rfl rfl k19 dL_law_1035 ?_
        refine lv_aload_n hx hb dL_law_1036 rfl (lv_at hl 3 rfl) ?_
        refine lv_iconst (v := 4) hx hb dL_law_1037 (by decide) ?_
        refine lv_iload hx hb dL_law_1038 (lv_at hl 9 rfl) ?_
        refine lv_imul hx hb dL_law_1040 ?_
        refine lv_iconst (v := 1) hx hb dL_law_1041 (by decide) ?_
        refine lv_iadd hx hb dL_law_1042 ?_
        obtain ⟨k20, hf⟩ := ck_not hf
        refine va_iald (D := D) hx hb hK hP 41 0 rfl rfl k20 dL_law_1043 ?_
        refine lv_aload_n hx hb dL_law_1044 rfl (lv_at hl 3 rfl) ?_
        refine lv_iconst (v := 4) hx hb dL_law_1045 (by decide) ?_
        refine lv_iload hx hb dL_law_1046 (lv_at hl 9 rfl) ?_
        refine lv_imul hx hb dL_law_1048 ?_
        refine lv_iconst (v := 2) hx hb dL_law_1049 (by decide) ?_
        refine lv_iadd hx hb dL_law_1050 ?_
        obtain ⟨k21, hf⟩ := ck_not hf
        refine va_iald (D := D) hx hb hK hP 41 0 rfl rfl k21 dL_law_1051 ?_
        obtain ⟨r22, h23, hf⟩ := bnd hf
        refine cl_wi (rest := []) (m_K19 l hst ca ad bq nF nO nL nA nC nV nU nP nE bF bO bL bA bC bV bU bP bE cT cK cO cQ cD pT pK pR pW pU pI pC uO uF uE uN wK jM jN jZ jB (WO ca qa sa oQ oS ++ R) _ (oS (4 * v17).toNatClampNeg) (oS ((4 * v17) + 1).toNatClampNeg) (oS ((4 * v17) + 2).toNatClampNeg) r22 h23) ⟨hx, hb, hml, hown, hts⟩ (vx_cwSW 5 hts (gSW q251 q252 q23 q253) rfl rfl rfl (by decide +kernel) ⟨Nat.le_of_ble_eq_true rfl, Nat.le_of_ble_eq_true rfl⟩) hE hP hD hS hA hZ hNC rfl hl.1 rfl (lv_room (Nat.le_of_ble_eq_true rfl)) dL_law_1052 ⟨by show _ ≤ 1200390; omega, by show _ ≤ 5489120; omega⟩ (fun H locs hP hD hS => ?_)
        refine lv_istore (lv' := [(18, .int r22), (0, .ref b), (1, .ref (ad 0)), (2, .ref qa), (3, .ref sa), (4, .int v4), (5, .int v5), (6, .int v6), (7, .int v7), (8, .int v8), (17, .int v17)]) hx hb dL_law_1055 hl (by decide) rfl (fun ls hl => ?_)
        refine lv_aload_n hx hb dL_law_1057 rfl (lv_at hl 2 rfl) ?_
        refine lv_bipush (v := 18) hx hb dL_law_1058 (by decide) ?_
        refine lv_aload_n hx hb dL_law_1060 rfl (lv_at hl 4 rfl) ?_
        refine lv_iconst (v := 4) hx hb dL_law_1061 (by decide) ?_
        refine lv_iload hx hb dL_law_1062 (lv_at hl 10 rfl) ?_
        refine lv_imul hx hb dL_law_1064 ?_
        obtain ⟨k24, hf⟩ := ck_not hf
        refine va_iald (D := D) hx hb hK hP 41 0 rfl rfl k24 dL_law_1065 ?_
        refine lv_iconst (v := 0) hx hb dL_law_1066 (by decide) ?_
        refine lv_iconst (v := 0) hx hb dL_law_1067 (by decide) ?_
        obtain ⟨r25, h26, hf⟩ := bnd hf
        refine cl_wi (rest := []) (m_K18 l hst ca ad bq nF nO nL nA nC nV nU nP nE bF bO bL bA bC bV bU bP bE cT cK cO cQ cD pT pK pR pW pU pI pC uO uF uE uN wK jM jN jZ jB (WO ca qa sa oQ oS ++ R) _ (oS (4 * v17).toNatClampNeg) 0 0 r25 h26) ⟨hx, hb, hml, hown, hts⟩ (vx_cwSW 5 hts (gSW q251 q252 q23 q253) rfl rfl rfl (by decide +kernel) ⟨Nat.le_of_ble_eq_true rfl, Nat.le_of_ble_eq_true rfl⟩) hE hP hD hS hA hZ hNC rfl hl.1 rfl (lv_room (Nat.le_of_ble_eq_true rfl)) dL_law_1068 ⟨by show _ ≤ 1200390; omega, by show _ ≤ 5489120; omega⟩ (fun H locs hP hD hS => ?_)
        refine lv_iconst (v := 1) hx hb dL_law_1071 (by decide) ?_
        refine lv_icmp_ne (tgt := 1098) hx hb dL_law_1072 (by decide) (fun c27 => ?_) (fun c27 => ?_)
        · have hf := br_neg c27 hf
          refine lv_iinc (v := (v17 + 1)) (lv' := [(17, .int (v17 + 1)), (18, .int r22), (0, .ref b), (1, .ref (ad 0)), (2, .ref qa), (3, .ref sa), (4, .int v4), (5, .int v5), (6, .int v6), (7, .int v7), (8, .int v8)]) hx hb dL_law_1098 hl (k := 10) rfl rfl (by decide) rfl (fun ls hl => ?_)
          refine lv_goto (tgt := 1020) hx hb dL_law_1101 (by decide) ?_
          exact ih _ _ CT ST v4 v5 v6 v7 v8 (v17 + 1) nF nO nL nA nC nV nU nP nE bF bO bL bA bC bV bU bP bE cT cK cO cQ cD pT pK pR pW pU pI pC uO uF uE uN wK jM jN jZ jB oQ oS hf (by omega) (by omega) hCT hST _ _ _ hP hD hS (lv_sub hl [2, 3, 4, 5, 6, 7, 8, 9, 10, 0] rfl) kk
        · have hf := br_pos c27 hf
          refine lv_iload hx hb dL_law_1075 (lv_at hl 0 rfl) ?_
          refine lv_aload_n hx hb dL_law_1077 rfl (lv_at hl 4 rfl) ?_
          refine lv_iconst (v := 4) hx hb dL_law_1078 (by decide) ?_
          refine lv_iload hx hb dL_law_1079 (lv_at hl 10 rfl) ?_
          refine lv_imul hx hb dL_law_1081 ?_
          refine lv_iconst (v := 3) hx hb dL_law_1082 (by decide) ?_
          refine lv_iadd hx hb dL_law_1083 ?_
          obtain ⟨k28, hf⟩ := ck_not hf
          refine va_iald (D := D) hx hb hK hP 41 0 rfl rfl k28 dL_law_1084 ?_
          refine lv_icmp_eq (tgt := 1098) hx hb dL_law_1085 (by decide) (fun c29 => ?_) (fun c29 => ?_)
          · have hf := br_pos c29 hf
            refine lv_iinc (v := (v17 + 1)) (lv' := [(17, .int (v17 + 1)), (18, .int r22), (0, .ref b), (1, .ref (ad 0)), (2, .ref qa), (3, .ref sa), (4, .int v4), (5, .int v5), (6, .int v6), (7, .int v7), (8, .int v8)]) hx hb dL_law_1098 hl (k := 10) rfl rfl (by decide) rfl (fun ls hl => ?_)
            refine lv_goto (tgt := 1020) hx hb dL_law_1101 (by decide) ?_
            exact ih _ _ CT ST v4 v5 v6 v7 v8 (v17 + 1) nF nO nL nA nC nV nU nP nE bF bO bL bA bC bV bU bP bE cT cK cO cQ cD pT pK pR pW pU pI pC uO uF uE uN wK jM jN jZ jB oQ oS hf (by omega) (by omega) hCT hST _ _ _ hP hD hS (lv_sub hl [2, 3, 4, 5, 6, 7, 8, 9, 10, 0] rfl) kk
          · have hf := br_neg c29 hf
            refine lv_iload hx hb dL_law_1088 (lv_at hl 0 rfl) ?_
            refine lv_sipush (v := (-1001)) hx hb dL_law_1090 (by decide) ?_
            refine lv_icmp_eq (tgt := 1098) hx hb dL_law_1093 (by decide) (fun c30 => ?_) (fun c30 => ?_)
            · have hf := br_pos c30 hf
              refine lv_iinc (v := (v17 + 1)) (lv' := [(17, .int (v17 + 1)), (18, .int r22), (0, .ref b), (1, .ref (ad 0)), (2, .ref qa), (3, .ref sa), (4, .int v4), (5, .int v5), (6, .int v6), (7, .int v7), (8, .int v8)]) hx hb dL_law_1098 hl (k := 10) rfl rfl (by decide) rfl (fun ls hl => ?_)
              refine lv_goto (tgt := 1020) hx hb dL_law_1101 (by decide) ?_
              exact ih _ _ CT ST v4 v5 v6 v7 v8 (v17 + 1) nF nO nL nA nC nV nU nP nE bF bO bL bA bC bV bU bP bE cT cK cO cQ cD pT pK pR pW pU pI pC uO uF uE uN wK jM jN jZ jB oQ oS hf (by omega) (by omega) hCT hST _ _ _ hP hD hS (lv_sub hl [2, 3, 4, 5, 6, 7, 8, 9, 10, 0] rfl) kk
            · have hf := br_neg c30 hf
              cases hf
  change W p l e room_1 s m #[Value.ref b] below meth c H locs (cN0 + 0) (sN0 + 0) Qm (F0 m 1005 ls [])
  refine lv_aload_n hx hb dL_law_1005 rfl (lv_at hl 1 rfl) ?_
  refine lv_iload hx hb dL_law_1006 (lv_at hl 5 rfl) ?_
  refine lv_aload_n hx hb dL_law_1008 rfl (lv_at hl 2 rfl) ?_
  obtain ⟨wK_3, h2, hf⟩ := bnd hf
  refine cs_i (rest := []) (m_sound l hst ca ad bq qa sa nF nO nL nA nC nV nU nP nE bF bO bL bA bC bV bU bP bE cT cK cO cQ cD pT pK pR pW pU pI pC uO uF uE uN wK jM jN jZ jB oQ oS R _ x5 wK_3 h2) ⟨hx, hb, hml, hown, hts⟩ (va_cwS 3 hts (gS q1172 q1173 q23 q1174) rfl rfl rfl (by decide +kernel) ⟨Nat.le_of_ble_eq_true rfl, Nat.le_of_ble_eq_true rfl⟩) hE hP hD hS hA hZ hNC rfl hl.1 rfl (lv_room (Nat.le_of_ble_eq_true rfl)) dL_law_1009 ⟨by show _ ≤ 1200390; omega, by show _ ≤ 5489120; omega⟩ (fun H locs hP hD hS => ?_)
  refine lv_if_ne (tgt := 1017) hx hb dL_law_1012 (by decide) (fun c4 => ?_) (fun c4 => ?_)
  rotate_left
  · exact absurd c4 (by decide)
  refine lv_iconst (v := 0) hx hb dL_law_1017 (by decide) ?_
  refine lv_istore (lv' := [(17, .int 0), (0, .ref b), (1, .ref (ad 0)), (2, .ref qa), (3, .ref sa), (4, .int x4), (5, .int x5), (6, .int x6), (7, .int x7), (8, .int x8)]) hx hb dL_law_1018 hl (by decide) rfl (fun ls hl => ?_)
  obtain ⟨_, h31, hf⟩ := bnd hf
  refine L1020 121 _ _ (cN0 + 5950) (sN0 + 35700) x4 x5 x6 x7 x8 0 nF nO nL nA nC nV nU nP nE bF bO bL bA bC bV bU bP bE cT cK cO cQ cD pT pK pR pW pU pI pC uO uF uE uN wK_3 jM jN jZ jB oQ oS h31 (by omega) (by omega) (by omega) (by omega) _ _ _ hP hD hS (lv_sub hl [1, 2, 3, 4, 5, 6, 7, 8, 9, 0] rfl) (fun H locs ls hP hD hS hl => ?_)
  refine lv_iinc (v := (x8 + 1)) (lv' := [(8, .int (x8 + 1)), (0, .ref b), (1, .ref (ad 0)), (2, .ref qa), (3, .ref sa), (4, .int x4), (5, .int x5), (6, .int x6), (7, .int x7)]) hx hb dL_law_1104 hl (k := 8) rfl rfl (by decide) rfl (fun ls hl => ?_)
  refine lv_goto (tgt := 33) hx hb dL_law_1107 (by decide) ?_
  cases hf
  refine W.widen (k := cN0 + 5950) (n := sN0 + 35700) (by omega) (by omega) ?_
  exact kk _ _ _ hP hD hS (lv_sub hl [1, 2, 3, 4, 5, 6, 7, 8, 0] rfl)
def f_rD (x5 : Int32) (nF : Int32) (nC : Nat → Int32) (nV : Nat → Int32) (nU : Nat → Int32) (nP : Nat → Int32) (cT : Int32) (cO : Int32) (pT : Int32) (pK : Int32) (pR : Nat → Int32) (pW : Nat → Int32) (pU : Nat → Int32) (pI : Nat → Int32) (pC : Nat → Nat → Int32) : Option ((Nat → Int32) × Int32 × (Nat → Int32) × (Nat → Int32)) :=
  (f_C_fileCount nF).bind fun r1 =>
  (f_K8 r1 0 nF nC nV).bind fun r3 =>
  if r3 = (-1001) then
    (f_K15 x5 nP cO).bind fun r6 =>
    if r6 = (-1001) then
      (f_K20 9 nU cT pT pK pR pW pU pI pC).bind fun (r9, nU_11, pK_12, pW_13, pU_14) =>
      if r9 = (-1002) then
        some (nU_11, pK_12, pW_13, pU_14)
      else
        none
    else
      none
  else
    none
set_option maxHeartbeats 8000000 in
set_option maxRecDepth 100000 in
theorem l_rD {p : Program} {l : Launch} {e : Env} {s : State} {m : MethodId} {below : List Frame} {meth : Method} {c : Code} {Qm : State → Prop} {D : va_G} {A : Nat → Prop} {b LL : Nat} {xs : Nat → Int32} (ca : Nat → ClassId) (hst : l.stackTraces = false) (hx : p.tables.exec = Jvm.exec) (hb : c.code = cL_law) (hml : c.maxLocals = 21) (hown : s.vm.findClass RL = some m.cls) (hts : ∀ w ∈ WW, w.before #[Value.ref b] s = true) (hE : EE D ca SL0 s) (hA : ∀ q, s.heap.size ≤ q → A q) (hZ : ZZ A s s.heap) (hNC : NCE s) (hX : va_X b LL xs s s.heap) (hbl : b < s.heap.size) (hbA : ¬ A b) (ad : Nat → Nat) (bq qa sa : Nat) (nF : Int32) (nO : Nat → Int32) (nL : Nat → Int32) (nA : Nat → Int32) (nC : Nat → Int32) (nV : Nat → Int32) (nU : Nat → Int32) (nP : Nat → Int32) (nE : Int32) (bF : Int32) (bO : Nat → Int32) (bL : Nat → Int32) (bA : Nat → Int32) (bC : Nat → Int32) (bV : Nat → Int32) (bU : Nat → Int32) (bP : Nat → Int32) (bE : Int32) (cT : Int32) (cK : Nat → Int32) (cO : Int32) (cQ : Nat → Int32) (cD : Int32) (pT : Int32) (pK : Int32) (pR : Nat → Int32) (pW : Nat → Int32) (pU : Nat → Int32) (pI : Nat → Int32) (pC : Nat → Nat → Int32) (uO : Int32) (uF : Nat → Int32) (uE : Nat → Int32) (uN : Nat → Int32) (wK : Nat → Int32) (jM : Int32) (jN : Int32) (jZ : Nat) (jB : Nat → Int32) (oQ : Nat → Int32) (oS : Nat → Int32) (R : va_W) (x4 : Int32) (x5 : Int32) (x6 : Int32) (x7 : Int32) (x8 : Int32) (cN0 sN0 : Nat) (hcN : cN0 + 6 ≤ 1200390) (hsN : sN0 + 36 ≤ 5489120) (onU : Nat → Int32) (opK : Int32) (opW : Nat → Int32) (opU : Nat → Int32) (hf : f_rD x5 nF nC nV nU nP cT cO pT pK pR pW pU pI pC = some (onU, opK, opW, opU)) {H : Heap} {locs : List Loc} {ls : Array Slot} (hP : va_P D vwCl (WC ca ad bq nF nO nL nA nC nV nU nP nE bF bO bL bA bC bV bU bP bE cT cK cO cQ cD pT pK pR pW pU pI pC uO uF uE uN wK jM jN jZ jB ++ (WO ca qa sa oQ oS ++ R)) H) (hD : va_D A (WC ca ad bq nF nO nL nA nC nV nU nP nE bF bO bL bA bC bV bU bP bE cT cK cO cQ cD pT pK pR pW pU pI pC uO uF uE uN wK jM jN jZ jB ++ (WO ca qa sa oQ oS ++ R))) (hS : va_S A s.heap H locs) (hl : lv_has ls 21 [(0, .ref b), (1, .ref (ad 0)), (2, .ref qa), (3, .ref sa), (4, .int x4), (5, .int x5), (6, .int x6), (7, .int x7), (8, .int x8)]) (kk : ∀ (H : Heap) (locs : List Loc) (ls : Array Slot), va_P D vwCl (WC ca ad bq nF nO nL nA nC nV onU nP nE bF bO bL bA bC bV bU bP bE cT cK cO cQ cD pT opK pR opW opU pI pC uO uF uE uN wK jM jN jZ jB ++ (WO ca qa sa oQ oS ++ R)) H → va_D A (WC ca ad bq nF nO nL nA nC nV onU nP nE bF bO bL bA bC bV bU bP bE cT cK cO cQ cD pT opK pR opW opU pI pC uO uF uE uN wK jM jN jZ jB ++ (WO ca qa sa oQ oS ++ R)) → va_S A s.heap H locs → lv_has ls 21 [(0, .ref b)] → W p l e room_1 s m #[Value.ref b] below meth c H locs (cN0 + 6) (sN0 + 36) Qm (F0 m 1160 ls [])) : W p l e room_1 s m #[Value.ref b] below meth c H locs cN0 sN0 Qm (F0 m 1110 ls []) := by
  have hK := hE.1
  unfold f_rD at hf
  change W p l e room_1 s m #[Value.ref b] below meth c H locs (cN0 + 0) (sN0 + 0) Qm (F0 m 1110 ls [])
  refine lv_aload_n hx hb dL_law_1110 rfl (lv_at hl 1 rfl) ?_
  refine lv_bipush (v := 8) hx hb dL_law_1111 (by decide) ?_
  refine lv_aload_n hx hb dL_law_1113 rfl (lv_at hl 1 rfl) ?_
  obtain ⟨r1, h2, hf⟩ := bnd hf
  refine call_vi (rest := [.int 8, .ref (ad 0)]) (m_C_fileCount l ca ad bq nF nO nL nA nC nV nU nP nE bF bO bL bA bC bV bU bP bE cT cK cO cQ cD pT pK pR pW pU pI pC uO uF uE uN wK jM jN jZ jB (WO ca qa sa oQ oS ++ R) _ r1 h2) ⟨hx, hb, hml, hown, hts⟩ (cwV 0 hts (gV q216 q217 q218 q24 q219) rfl rfl rfl (by decide +kernel) ⟨Nat.le_of_ble_eq_true rfl, Nat.le_of_ble_eq_true rfl⟩) (va_recv hK hP (ci := 7) (q0 := 0) rfl rfl) hE hP hD hS hA rfl hl.1 rfl (lv_room (Nat.le_of_ble_eq_true rfl)) dL_law_1114 ⟨by show _ ≤ 1200390; omega, by show _ ≤ 5489120; omega⟩ (fun H locs hP hD hS => ?_)
  refine lv_iconst (v := 0) hx hb dL_law_1117 (by decide) ?_
  refine lv_iconst (v := 0) hx hb dL_law_1118 (by decide) ?_
  obtain ⟨r3, h4, hf⟩ := bnd hf
  refine cl_wi (rest := []) (m_K8 l hst ca ad bq nF nO nL nA nC nV nU nP nE bF bO bL bA bC bV bU bP bE cT cK cO cQ cD pT pK pR pW pU pI pC uO uF uE uN wK jM jN jZ jB (WO ca qa sa oQ oS ++ R) _ r1 0 0 r3 h4) ⟨hx, hb, hml, hown, hts⟩ (vx_cwSW 5 hts (gSW q251 q252 q23 q253) rfl rfl rfl (by decide +kernel) ⟨Nat.le_of_ble_eq_true rfl, Nat.le_of_ble_eq_true rfl⟩) hE hP hD hS hA hZ hNC rfl hl.1 rfl (lv_room (Nat.le_of_ble_eq_true rfl)) dL_law_1119 ⟨by show _ ≤ 1200390; omega, by show _ ≤ 5489120; omega⟩ (fun H locs hP hD hS => ?_)
  refine lv_sipush (v := (-1001)) hx hb dL_law_1122 (by decide) ?_
  refine lv_icmp_ne (tgt := 1164) hx hb dL_law_1125 (by decide) (fun c5 => ?_) (fun c5 => ?_)
  · have hf := br_neg c5 hf
    cases hf
  · have hf := br_pos c5 hf
    refine lv_aload_n hx hb dL_law_1128 rfl (lv_at hl 1 rfl) ?_
    refine lv_bipush (v := 15) hx hb dL_law_1129 (by decide) ?_
    refine lv_iload hx hb dL_law_1131 (lv_at hl 5 rfl) ?_
    refine lv_iconst (v := 0) hx hb dL_law_1133 (by decide) ?_
    refine lv_iconst (v := 0) hx hb dL_law_1134 (by decide) ?_
    obtain ⟨r6, h7, hf⟩ := bnd hf
    refine cl_wi (rest := []) (m_K15 l hst ca ad bq nF nO nL nA nC nV nU nP nE bF bO bL bA bC bV bU bP bE cT cK cO cQ cD pT pK pR pW pU pI pC uO uF uE uN wK jM jN jZ jB (WO ca qa sa oQ oS ++ R) _ x5 0 0 r6 h7) ⟨hx, hb, hml, hown, hts⟩ (vx_cwSW 5 hts (gSW q251 q252 q23 q253) rfl rfl rfl (by decide +kernel) ⟨Nat.le_of_ble_eq_true rfl, Nat.le_of_ble_eq_true rfl⟩) hE hP hD hS hA hZ hNC rfl hl.1 rfl (lv_room (Nat.le_of_ble_eq_true rfl)) dL_law_1135 ⟨by show _ ≤ 1200390; omega, by show _ ≤ 5489120; omega⟩ (fun H locs hP hD hS => ?_)
    refine lv_sipush (v := (-1001)) hx hb dL_law_1138 (by decide) ?_
    refine lv_icmp_ne (tgt := 1164) hx hb dL_law_1141 (by decide) (fun c8 => ?_) (fun c8 => ?_)
    · have hf := br_neg c8 hf
      cases hf
    · have hf := br_pos c8 hf
      refine lv_aload_n hx hb dL_law_1144 rfl (lv_at hl 1 rfl) ?_
      refine lv_bipush (v := 20) hx hb dL_law_1145 (by decide) ?_
      refine lv_bipush (v := 9) hx hb dL_law_1147 (by decide) ?_
      refine lv_iconst (v := 0) hx hb dL_law_1149 (by decide) ?_
      refine lv_iconst (v := 0) hx hb dL_law_1150 (by decide) ?_
      obtain ⟨⟨r9, nU_11, pK_12, pW_13, pU_14⟩, h10, hf⟩ := bnd hf
      refine cl_wi (rest := []) (m_K20 l hst ca ad bq nF nO nL nA nC nV nU nP nE bF bO bL bA bC bV bU bP bE cT cK cO cQ cD pT pK pR pW pU pI pC uO uF uE uN wK jM jN jZ jB (WO ca qa sa oQ oS ++ R) _ 9 0 0 r9 nU_11 pK_12 pW_13 pU_14 h10) ⟨hx, hb, hml, hown, hts⟩ (vx_cwSW 5 hts (gSW q251 q252 q23 q253) rfl rfl rfl (by decide +kernel) ⟨Nat.le_of_ble_eq_true rfl, Nat.le_of_ble_eq_true rfl⟩) hE hP hD hS hA hZ hNC rfl hl.1 rfl (lv_room (Nat.le_of_ble_eq_true rfl)) dL_law_1151 ⟨by show _ ≤ 1200390; omega, by show _ ≤ 5489120; omega⟩ (fun H locs hP hD hS => ?_)
      refine lv_sipush (v := (-1002)) hx hb dL_law_1154 (by decide) ?_
      refine lv_icmp_ne (tgt := 1164) hx hb dL_law_1157 (by decide) (fun c15 => ?_) (fun c15 => ?_)
      · have hf := br_neg c15 hf
        cases hf
      · have hf := br_pos c15 hf
        cases hf
        refine W.widen (k := cN0 + 6) (n := sN0 + 36) (by omega) (by omega) ?_
        exact kk _ _ _ hP hD hS (lv_sub hl [0] rfl)
