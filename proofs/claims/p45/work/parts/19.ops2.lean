def f_op17_L506 : Nat → Int32 → Int32 → Int32 → Int32 → Int32 → Int32 → Int64 → Int32 → Int32 → Int32 → (Nat → Int32) → (Nat → Int32) → Int32 → (Nat → Int32) → (Nat → Int32) → (Nat → Nat → Int32) → (Nat → Int32) → Option (Int32 × (Nat → Int32))
  | 0, _, _, _, _, _, _, _, _, _, _, _, _, _, _, _, _, _ => none
  | fuel + 1, v4, v5, v6, v7, v8, v9, v14, v16, v17, nF, nC, nV, pT, pW, pI, pC, oS =>
    if 4 ≤ v17 then
      some (v4, oS)
    else
      (f_C_fileCount nF).bind fun r34 =>
      if r34 ≤ 0 then
        some (v4, oS)
      else
        (f_C_fileCount nF).bind fun r37 =>
        (f_low (v9 >>> ((3 * v17) &&& 31)) r37).bind fun r39 =>
        (f_low (v9 >>> ((5 + v17) &&& 31)) 16).bind fun r41 =>
        (f_K8 r39 r41 nF nC nV).bind fun r43 =>
        (f_K19 v16 r39 r41 nF nV pT pW pI pC).bind fun r45 =>
        if r45 = r43 then
          if (4 * v4) < 0 ∨ 520 ≤ (4 * v4).toNatClampNeg then none else
            if ((4 * v4) + 1) < 0 ∨ 520 ≤ ((4 * v4) + 1).toNatClampNeg then none else
            if ((4 * v4) + 2) < 0 ∨ 520 ≤ ((4 * v4) + 2).toNatClampNeg then none else
            if ((4 * v4) + 3) < 0 ∨ 520 ≤ ((4 * v4) + 3).toNatClampNeg then none else
            f_op17_L506 fuel (v4 + 1) v5 v6 v7 v8 v9 v14 v16 (v17 + 1) nF nC nV pT pW pI pC (upd (upd (upd (upd oS (4 * v4).toNatClampNeg v16) ((4 * v4) + 1).toNatClampNeg r39) ((4 * v4) + 2).toNatClampNeg r41) ((4 * v4) + 3).toNatClampNeg r43)
        else
          none
def f_op17 (x4 : Int32) (x5 : Int32) (x6 : Int32) (x7 : Int32) (x8 : Int32) (x9 : Int32) (x14 : Int64) (nF : Int32) (nA : Nat → Int32) (nC : Nat → Int32) (nV : Nat → Int32) (nU : Nat → Int32) (cT : Int32) (pT : Int32) (pK : Int32) (pR : Nat → Int32) (pW : Nat → Int32) (pU : Nat → Int32) (pI : Nat → Int32) (pC : Nat → Nat → Int32) (oS : Nat → Int32) : Option (Int32 × Int32 × Int32 × Int32 × Int32 × (Nat → Int32) × Int32 × Int32 × (Nat → Int32) × (Nat → Int32) × (Nat → Int32) × (Nat → Int32) × (Nat → Nat → Int32) × (Nat → Int32)) :=
  (f_low (x9 >>> (5 &&& 31)) 11).bind fun r1 =>
  (f_K17 r1 nF nA nC nU cT pT pK pR pW pU pI pC).bind fun (r3, nU_5, pT_6, pK_7, pR_8, pW_9, pU_10, pI_11, pC_12) =>
  if r3 < 0 then
    some (x4, x5, x6, x7, r3, nU_5, pT_6, pK_7, pR_8, pW_9, pU_10, pI_11, pC_12, oS)
  else
    (f_op17_L506 5 x4 x5 (x6 + 1) x7 x8 x9 x14 r3 0 nF nC nV pT_6 pW_9 pI_11 pC_12 oS).bind fun (x53, oS_54) =>
    some (x53, x5, (x6 + 1), x7, r3, nU_5, pT_6, pK_7, pR_8, pW_9, pU_10, pI_11, pC_12, oS_54)
set_option maxHeartbeats 8000000 in
set_option maxRecDepth 100000 in
theorem l_op17 {p : Program} {l : Launch} {e : Env} {s : State} {m : MethodId} {below : List Frame} {meth : Method} {c : Code} {Qm : State → Prop} {D : va_G} {A : Nat → Prop} {b LL : Nat} {xs : Nat → Int32} (ca : Nat → ClassId) (hst : l.stackTraces = false) (hx : p.tables.exec = Jvm.exec) (hb : c.code = cL_law) (hml : c.maxLocals = 21) (hown : s.vm.findClass RL = some m.cls) (hts : ∀ w ∈ WW, w.before #[Value.ref b] s = true) (hE : EE D ca SL0 s) (hA : ∀ q, s.heap.size ≤ q → A q) (hZ : ZZ A s s.heap) (hNC : NCE s) (hX : va_X b LL xs s s.heap) (hbl : b < s.heap.size) (hbA : ¬ A b) (ad : Nat → Nat) (bq qa sa : Nat) (nF : Int32) (nO : Nat → Int32) (nL : Nat → Int32) (nA : Nat → Int32) (nC : Nat → Int32) (nV : Nat → Int32) (nU : Nat → Int32) (nP : Nat → Int32) (nE : Int32) (bF : Int32) (bO : Nat → Int32) (bL : Nat → Int32) (bA : Nat → Int32) (bC : Nat → Int32) (bV : Nat → Int32) (bU : Nat → Int32) (bP : Nat → Int32) (bE : Int32) (cT : Int32) (cK : Nat → Int32) (cO : Int32) (cQ : Nat → Int32) (cD : Int32) (pT : Int32) (pK : Int32) (pR : Nat → Int32) (pW : Nat → Int32) (pU : Nat → Int32) (pI : Nat → Int32) (pC : Nat → Nat → Int32) (uO : Int32) (uF : Nat → Int32) (uE : Nat → Int32) (uN : Nat → Int32) (wK : Nat → Int32) (jM : Int32) (jN : Int32) (jZ : Nat) (jB : Nat → Int32) (oQ : Nat → Int32) (oS : Nat → Int32) (R : va_W) (x4 : Int32) (x5 : Int32) (x6 : Int32) (x7 : Int32) (x8 : Int32) (x9 : Int32) (x10 : Int32) (x11 : Int32) (x12 : Int32) (x13 : Int32) (x14 : Int64) (x16 : Int32) (cN0 sN0 : Nat) (hcN : cN0 + 43 ≤ 1200390) (hsN : sN0 + 258 ≤ 5489120) (y4 : Int32) (y5 : Int32) (y6 : Int32) (y7 : Int32) (y16 : Int32) (onU : Nat → Int32) (opT : Int32) (opK : Int32) (opR : Nat → Int32) (opW : Nat → Int32) (opU : Nat → Int32) (opI : Nat → Int32) (opC : Nat → Nat → Int32) (ooS : Nat → Int32) (hf : f_op17 x4 x5 x6 x7 x8 x9 x14 nF nA nC nV nU cT pT pK pR pW pU pI pC oS = some (y4, y5, y6, y7, y16, onU, opT, opK, opR, opW, opU, opI, opC, ooS)) {H : Heap} {locs : List Loc} {ls : Array Slot} (hP : va_P D vwCl (WC ca ad bq nF nO nL nA nC nV nU nP nE bF bO bL bA bC bV bU bP bE cT cK cO cQ cD pT pK pR pW pU pI pC uO uF uE uN wK jM jN jZ jB ++ (WO ca qa sa oQ oS ++ R)) H) (hD : va_D A (WC ca ad bq nF nO nL nA nC nV nU nP nE bF bO bL bA bC bV bU bP bE cT cK cO cQ cD pT pK pR pW pU pI pC uO uF uE uN wK jM jN jZ jB ++ (WO ca qa sa oQ oS ++ R))) (hS : va_S A s.heap H locs) (hl : lv_has ls 21 [(0, .ref b), (1, .ref (ad 0)), (2, .ref qa), (3, .ref sa), (4, .int x4), (5, .int x5), (6, .int x6), (7, .int x7), (8, .int x8), (9, .int x9), (10, .int x10), (11, .int x11), (12, .int x12), (13, .int x13), (14, .long x14), (16, .int x16)]) (kk : ∀ (H : Heap) (locs : List Loc) (ls : Array Slot), va_P D vwCl (WC ca ad bq nF nO nL nA nC nV onU nP nE bF bO bL bA bC bV bU bP bE cT cK cO cQ cD opT opK opR opW opU opI opC uO uF uE uN wK jM jN jZ jB ++ (WO ca qa sa oQ ooS ++ R)) H → va_D A (WC ca ad bq nF nO nL nA nC nV onU nP nE bF bO bL bA bC bV bU bP bE cT cK cO cQ cD opT opK opR opW opU opI opC uO uF uE uN wK jM jN jZ jB ++ (WO ca qa sa oQ ooS ++ R)) → va_S A s.heap H locs → lv_has ls 21 [(0, .ref b), (1, .ref (ad 0)), (2, .ref qa), (3, .ref sa), (4, .int y4), (5, .int y5), (6, .int y6), (7, .int y7), (8, .int x8), (14, .long x14), (16, .int y16)] → W p l e room_1 s m #[Value.ref b] below meth c H locs (cN0 + 43) (sN0 + 258) Qm (F0 m 984 ls [])) : W p l e room_1 s m #[Value.ref b] below meth c H locs cN0 sN0 Qm (F0 m 476 ls []) := by
  have hK := hE.1
  unfold f_op17 at hf
  have L506 : ∀ (n : Nat) (cN_ sN_ CT ST : Nat) (v4 : Int32) (v5 : Int32) (v6 : Int32) (v7 : Int32) (v8 : Int32) (v9 : Int32) (v14 : Int64) (v16 : Int32) (v17 : Int32) (nF : Int32) (nO : Nat → Int32) (nL : Nat → Int32) (nA : Nat → Int32) (nC : Nat → Int32) (nV : Nat → Int32) (nU : Nat → Int32) (nP : Nat → Int32) (nE : Int32) (bF : Int32) (bO : Nat → Int32) (bL : Nat → Int32) (bA : Nat → Int32) (bC : Nat → Int32) (bV : Nat → Int32) (bU : Nat → Int32) (bP : Nat → Int32) (bE : Int32) (cT : Int32) (cK : Nat → Int32) (cO : Int32) (cQ : Nat → Int32) (cD : Int32) (pT : Int32) (pK : Int32) (pR : Nat → Int32) (pW : Nat → Int32) (pU : Nat → Int32) (pI : Nat → Int32) (pC : Nat → Nat → Int32) (uO : Int32) (uF : Nat → Int32) (uE : Nat → Int32) (uN : Nat → Int32) (wK : Nat → Int32) (jM : Int32) (jN : Int32) (jZ : Nat) (jB : Nat → Int32) (oQ : Nat → Int32) (oS : Nat → Int32) (y4 : Int32) (zoS : Nat → Int32), f_op17_L506 n v4 v5 v6 v7 v8 v9 v14 v16 v17 nF nC nV pT pW pI pC oS = some (y4, zoS) → cN_ + n * 8 ≤ CT → sN_ + n * 48 ≤ ST → CT ≤ 1200390 → ST ≤ 5489120 → ∀ (H : Heap) (locs : List Loc) (ls : Array Slot), va_P D vwCl (WC ca ad bq nF nO nL nA nC nV nU nP nE bF bO bL bA bC bV bU bP bE cT cK cO cQ cD pT pK pR pW pU pI pC uO uF uE uN wK jM jN jZ jB ++ (WO ca qa sa oQ oS ++ R)) H → va_D A (WC ca ad bq nF nO nL nA nC nV nU nP nE bF bO bL bA bC bV bU bP bE cT cK cO cQ cD pT pK pR pW pU pI pC uO uF uE uN wK jM jN jZ jB ++ (WO ca qa sa oQ oS ++ R)) → va_S A s.heap H locs → lv_has ls 21 [(0, .ref b), (1, .ref (ad 0)), (2, .ref qa), (3, .ref sa), (4, .int v4), (5, .int v5), (6, .int v6), (7, .int v7), (8, .int v8), (9, .int v9), (14, .long v14), (16, .int v16), (17, .int v17)] → (∀ (H : Heap) (locs : List Loc) (ls : Array Slot), va_P D vwCl (WC ca ad bq nF nO nL nA nC nV nU nP nE bF bO bL bA bC bV bU bP bE cT cK cO cQ cD pT pK pR pW pU pI pC uO uF uE uN wK jM jN jZ jB ++ (WO ca qa sa oQ zoS ++ R)) H → va_D A (WC ca ad bq nF nO nL nA nC nV nU nP nE bF bO bL bA bC bV bU bP bE cT cK cO cQ cD pT pK pR pW pU pI pC uO uF uE uN wK jM jN jZ jB ++ (WO ca qa sa oQ zoS ++ R)) → va_S A s.heap H locs → lv_has ls 21 [(0, .ref b), (1, .ref (ad 0)), (2, .ref qa), (3, .ref sa), (4, .int y4), (5, .int v5), (6, .int v6), (7, .int v7), (8, .int v8), (14, .long v14), (16, .int v16)] → W p l e room_1 s m #[Value.ref b] below meth c H locs CT ST Qm (F0 m 628 ls [])) → W p l e room_1 s m #[Value.ref b] below meth c H locs cN_ sN_ Qm (F0 m 506 ls []) := by
    intro n
    induction n with
    | zero => intro _ _ _ _ v4 v5 v6 v7 v8 v9 v14 v16 v17 nF nO nL nA nC nV nU nP nE bF bO bL bA bC bV bU bP bE cT cK cO cQ cD pT pK pR pW pU pI pC uO uF uE uN wK jM jN jZ jB oQ oS y4 zoS hf; cases hf
    | succ n ih =>
      intro cN_ sN_ CT ST v4 v5 v6 v7 v8 v9 v14 v16 v17 nF nO nL nA nC nV nU nP nE bF bO bL bA bC bV bU bP bE cT cK cO cQ cD pT pK pR pW pU pI pC uO uF uE uN wK jM jN jZ jB oQ oS y4 zoS hf hc9 hs9 hCT hST H locs ls hP hD hS hl kk
      have hc8 : cN_ + n * 8 + 8 ≤ CT := by rw [Nat.succ_mul] at hc9; omega
      have hs8 : sN_ + n * 48 + 48 ≤ ST := by rw [Nat.succ_mul] at hs9; omega
      clear hc9 hs9
      change W p l e room_1 s m #[Value.ref b] below meth c H locs (cN_ + 0) (sN_ + 0) Qm (F0 m 506 ls [])
      unfold f_op17_L506 at hf
      refine lv_iload hx hb dL_law_506 (lv_at hl 12 rfl) ?_
      refine lv_iconst (v := 4) hx hb dL_law_508 (by decide) ?_
      refine lv_icmp_ge (tgt := 628) hx hb dL_law_509 (by decide) (fun c33 => ?_) (fun c33 => ?_)
      · have hf := br_pos c33 hf
        cases hf
        refine W.widen (k := CT) (n := ST) (by omega) (by omega) ?_
        exact kk _ _ _ hP hD hS (lv_sub hl [0, 1, 2, 3, 4, 5, 6, 7, 8, 10, 11] rfl)
      · have hf := br_neg c33 hf
        refine lv_aload_n hx hb dL_law_512 rfl (lv_at hl 1 rfl) ?_
        obtain ⟨r34, h35, hf⟩ := bnd hf
        refine call_vi (rest := []) (m_C_fileCount l ca ad bq nF nO nL nA nC nV nU nP nE bF bO bL bA bC bV bU bP bE cT cK cO cQ cD pT pK pR pW pU pI pC uO uF uE uN wK jM jN jZ jB (WO ca qa sa oQ oS ++ R) _ r34 h35) ⟨hx, hb, hml, hown, hts⟩ (cwV 0 hts (gV q216 q217 q218 q24 q219) rfl rfl rfl (by decide +kernel) ⟨Nat.le_of_ble_eq_true rfl, Nat.le_of_ble_eq_true rfl⟩) (va_recv hK hP (ci := 7) (q0 := 0) rfl rfl) hE hP hD hS hA rfl hl.1 rfl (lv_room (Nat.le_of_ble_eq_true rfl)) dL_law_513 ⟨by show _ ≤ 1200390; omega, by show _ ≤ 5489120; omega⟩ (fun H locs hP hD hS => ?_)
        refine lv_if_le (tgt := 628) hx hb dL_law_516 (by decide) (fun c36 => ?_) (fun c36 => ?_)
        · have hf := br_pos c36 hf
          cases hf
          refine W.widen (k := CT) (n := ST) (by omega) (by omega) ?_
          exact kk _ _ _ hP hD hS (lv_sub hl [0, 1, 2, 3, 4, 5, 6, 7, 8, 10, 11] rfl)
        · have hf := br_neg c36 hf
          refine lv_iload hx hb dL_law_519 (lv_at hl 9 rfl) ?_
          refine lv_iconst (v := 3) hx hb dL_law_521 (by decide) ?_
          refine lv_iload hx hb dL_law_522 (lv_at hl 12 rfl) ?_
          refine lv_imul hx hb dL_law_524 ?_
          refine lv_ishr hx hb dL_law_525 ?_
          refine lv_aload_n hx hb dL_law_526 rfl (lv_at hl 1 rfl) ?_
          obtain ⟨r37, h38, hf⟩ := bnd hf
          refine call_vi (rest := [.int (v9 >>> ((3 * v17) &&& 31))]) (m_C_fileCount l ca ad bq nF nO nL nA nC nV nU nP nE bF bO bL bA bC bV bU bP bE cT cK cO cQ cD pT pK pR pW pU pI pC uO uF uE uN wK jM jN jZ jB (WO ca qa sa oQ oS ++ R) _ r37 h38) ⟨hx, hb, hml, hown, hts⟩ (cwV 0 hts (gV q216 q217 q218 q24 q219) rfl rfl rfl (by decide +kernel) ⟨Nat.le_of_ble_eq_true rfl, Nat.le_of_ble_eq_true rfl⟩) (va_recv hK hP (ci := 7) (q0 := 0) rfl rfl) hE hP hD hS hA rfl hl.1 rfl (lv_room (Nat.le_of_ble_eq_true rfl)) dL_law_527 ⟨by show _ ≤ 1200390; omega, by show _ ≤ 5489120; omega⟩ (fun H locs hP hD hS => ?_)
          obtain ⟨r39, h40, hf⟩ := bnd hf
          refine call_si (rest := []) (m_low l ca (WC ca ad bq nF nO nL nA nC nV nU nP nE bF bO bL bA bC bV bU bP bE cT cK cO cQ cD pT pK pR pW pU pI pC uO uF uE uN wK jM jN jZ jB ++ (WO ca qa sa oQ oS ++ R)) _ (v9 >>> ((3 * v17) &&& 31)) r37 r39 h40) ⟨hx, hb, hml, hown, hts⟩ (va_cwS 2 hts (gS q247 q248 q23 q249) rfl rfl rfl (by decide +kernel) ⟨Nat.le_of_ble_eq_true rfl, Nat.le_of_ble_eq_true rfl⟩) hE hP hD hS hA rfl hl.1 rfl (lv_room (Nat.le_of_ble_eq_true rfl)) dL_law_530 ⟨by show _ ≤ 1200390; omega, by show _ ≤ 5489120; omega⟩ (fun H locs hP hD hS => ?_)
          refine lv_istore (lv' := [(18, .int r39), (0, .ref b), (1, .ref (ad 0)), (2, .ref qa), (3, .ref sa), (4, .int v4), (5, .int v5), (6, .int v6), (7, .int v7), (8, .int v8), (9, .int v9), (14, .long v14), (16, .int v16), (17, .int v17)]) hx hb dL_law_533 hl (by decide) rfl (fun ls hl => ?_)
          refine lv_iload hx hb dL_law_535 (lv_at hl 10 rfl) ?_
          refine lv_iconst (v := 5) hx hb dL_law_537 (by decide) ?_
          refine lv_iload hx hb dL_law_538 (lv_at hl 13 rfl) ?_
          refine lv_iadd hx hb dL_law_540 ?_
          refine lv_ishr hx hb dL_law_541 ?_
          refine lv_bipush (v := 16) hx hb dL_law_542 (by decide) ?_
          obtain ⟨r41, h42, hf⟩ := bnd hf
          refine call_si (rest := []) (m_low l ca (WC ca ad bq nF nO nL nA nC nV nU nP nE bF bO bL bA bC bV bU bP bE cT cK cO cQ cD pT pK pR pW pU pI pC uO uF uE uN wK jM jN jZ jB ++ (WO ca qa sa oQ oS ++ R)) _ (v9 >>> ((5 + v17) &&& 31)) 16 r41 h42) ⟨hx, hb, hml, hown, hts⟩ (va_cwS 2 hts (gS q247 q248 q23 q249) rfl rfl rfl (by decide +kernel) ⟨Nat.le_of_ble_eq_true rfl, Nat.le_of_ble_eq_true rfl⟩) hE hP hD hS hA rfl hl.1 rfl (lv_room (Nat.le_of_ble_eq_true rfl)) dL_law_544 ⟨by show _ ≤ 1200390; omega, by show _ ≤ 5489120; omega⟩ (fun H locs hP hD hS => ?_)
          refine lv_istore (lv' := [(19, .int r41), (18, .int r39), (0, .ref b), (1, .ref (ad 0)), (2, .ref qa), (3, .ref sa), (4, .int v4), (5, .int v5), (6, .int v6), (7, .int v7), (8, .int v8), (9, .int v9), (14, .long v14), (16, .int v16), (17, .int v17)]) hx hb dL_law_547 hl (by decide) rfl (fun ls hl => ?_)
          refine lv_aload_n hx hb dL_law_549 rfl (lv_at hl 3 rfl) ?_
          refine lv_bipush (v := 8) hx hb dL_law_550 (by decide) ?_
          refine lv_iload hx hb dL_law_552 (lv_at hl 1 rfl) ?_
          refine lv_iload hx hb dL_law_554 (lv_at hl 0 rfl) ?_
          refine lv_iconst (v := 0) hx hb dL_law_556 (by decide) ?_
          obtain ⟨r43, h44, hf⟩ := bnd hf
          refine cl_wi (rest := []) (m_K8 l hst ca ad bq nF nO nL nA nC nV nU nP nE bF bO bL bA bC bV bU bP bE cT cK cO cQ cD pT pK pR pW pU pI pC uO uF uE uN wK jM jN jZ jB (WO ca qa sa oQ oS ++ R) _ r39 r41 0 r43 h44) ⟨hx, hb, hml, hown, hts⟩ (vx_cwSW 5 hts (gSW q251 q252 q23 q253) rfl rfl rfl (by decide +kernel) ⟨Nat.le_of_ble_eq_true rfl, Nat.le_of_ble_eq_true rfl⟩) hE hP hD hS hA hZ hNC rfl hl.1 rfl (lv_room (Nat.le_of_ble_eq_true rfl)) dL_law_557 ⟨by show _ ≤ 1200390; omega, by show _ ≤ 5489120; omega⟩ (fun H locs hP hD hS => ?_)
          refine lv_istore (lv' := [(20, .int r43), (19, .int r41), (18, .int r39), (0, .ref b), (1, .ref (ad 0)), (2, .ref qa), (3, .ref sa), (4, .int v4), (5, .int v5), (6, .int v6), (7, .int v7), (8, .int v8), (9, .int v9), (14, .long v14), (16, .int v16), (17, .int v17)]) hx hb dL_law_560 hl (by decide) rfl (fun ls hl => ?_)
          refine lv_aload_n hx hb dL_law_562 rfl (lv_at hl 4 rfl) ?_
          refine lv_bipush (v := 19) hx hb dL_law_563 (by decide) ?_
          refine lv_iload hx hb dL_law_565 (lv_at hl 14 rfl) ?_
          refine lv_iload hx hb dL_law_567 (lv_at hl 2 rfl) ?_
          refine lv_iload hx hb dL_law_569 (lv_at hl 1 rfl) ?_
          obtain ⟨r45, h46, hf⟩ := bnd hf
          refine cl_wi (rest := []) (m_K19 l hst ca ad bq nF nO nL nA nC nV nU nP nE bF bO bL bA bC bV bU bP bE cT cK cO cQ cD pT pK pR pW pU pI pC uO uF uE uN wK jM jN jZ jB (WO ca qa sa oQ oS ++ R) _ v16 r39 r41 r45 h46) ⟨hx, hb, hml, hown, hts⟩ (vx_cwSW 5 hts (gSW q251 q252 q23 q253) rfl rfl rfl (by decide +kernel) ⟨Nat.le_of_ble_eq_true rfl, Nat.le_of_ble_eq_true rfl⟩) hE hP hD hS hA hZ hNC rfl hl.1 rfl (lv_room (Nat.le_of_ble_eq_true rfl)) dL_law_571 ⟨by show _ ≤ 1200390; omega, by show _ ≤ 5489120; omega⟩ (fun H locs hP hD hS => ?_)
          refine lv_iload hx hb dL_law_574 (lv_at hl 0 rfl) ?_
          refine lv_icmp_eq (tgt := 581) hx hb dL_law_576 (by decide) (fun c47 => ?_) (fun c47 => ?_)
          · have hf := br_pos c47 hf
            refine lv_aload_n hx hb dL_law_581 rfl (lv_at hl 6 rfl) ?_
            refine lv_iconst (v := 4) hx hb dL_law_582 (by decide) ?_
            refine lv_iload hx hb dL_law_583 (lv_at hl 7 rfl) ?_
            refine lv_imul hx hb dL_law_585 ?_
            refine lv_iload hx hb dL_law_586 (lv_at hl 14 rfl) ?_
            obtain ⟨k48, hf⟩ := ck_not hf
            refine va_iast (D := D) hx hb hK hP hD hS 41 0 rfl rfl k48 dL_law_588 (fun H locs hP hD hS => ?_)
            have hP : va_P D vwCl (WC ca ad bq nF nO nL nA nC nV nU nP nE bF bO bL bA bC bV bU bP bE cT cK cO cQ cD pT pK pR pW pU pI pC uO uF uE uN wK jM jN jZ jB ++ (WO ca qa sa oQ (upd oS (4 * v4).toNatClampNeg v16) ++ R)) H := hP
            have hD : va_D A (WC ca ad bq nF nO nL nA nC nV nU nP nE bF bO bL bA bC bV bU bP bE cT cK cO cQ cD pT pK pR pW pU pI pC uO uF uE uN wK jM jN jZ jB ++ (WO ca qa sa oQ (upd oS (4 * v4).toNatClampNeg v16) ++ R)) := hD
            refine lv_aload_n hx hb dL_law_589 rfl (lv_at hl 6 rfl) ?_
            refine lv_iconst (v := 4) hx hb dL_law_590 (by decide) ?_
            refine lv_iload hx hb dL_law_591 (lv_at hl 7 rfl) ?_
            refine lv_imul hx hb dL_law_593 ?_
            refine lv_iconst (v := 1) hx hb dL_law_594 (by decide) ?_
            refine lv_iadd hx hb dL_law_595 ?_
            refine lv_iload hx hb dL_law_596 (lv_at hl 2 rfl) ?_
            obtain ⟨k49, hf⟩ := ck_not hf
            refine va_iast (D := D) hx hb hK hP hD hS 41 0 rfl rfl k49 dL_law_598 (fun H locs hP hD hS => ?_)
            have hP : va_P D vwCl (WC ca ad bq nF nO nL nA nC nV nU nP nE bF bO bL bA bC bV bU bP bE cT cK cO cQ cD pT pK pR pW pU pI pC uO uF uE uN wK jM jN jZ jB ++ (WO ca qa sa oQ (upd (upd oS (4 * v4).toNatClampNeg v16) ((4 * v4) + 1).toNatClampNeg r39) ++ R)) H := hP
            have hD : va_D A (WC ca ad bq nF nO nL nA nC nV nU nP nE bF bO bL bA bC bV bU bP bE cT cK cO cQ cD pT pK pR pW pU pI pC uO uF uE uN wK jM jN jZ jB ++ (WO ca qa sa oQ (upd (upd oS (4 * v4).toNatClampNeg v16) ((4 * v4) + 1).toNatClampNeg r39) ++ R)) := hD
            refine lv_aload_n hx hb dL_law_599 rfl (lv_at hl 6 rfl) ?_
            refine lv_iconst (v := 4) hx hb dL_law_600 (by decide) ?_
            refine lv_iload hx hb dL_law_601 (lv_at hl 7 rfl) ?_
            refine lv_imul hx hb dL_law_603 ?_
            refine lv_iconst (v := 2) hx hb dL_law_604 (by decide) ?_
            refine lv_iadd hx hb dL_law_605 ?_
            refine lv_iload hx hb dL_law_606 (lv_at hl 1 rfl) ?_
            obtain ⟨k50, hf⟩ := ck_not hf
            refine va_iast (D := D) hx hb hK hP hD hS 41 0 rfl rfl k50 dL_law_608 (fun H locs hP hD hS => ?_)
            have hP : va_P D vwCl (WC ca ad bq nF nO nL nA nC nV nU nP nE bF bO bL bA bC bV bU bP bE cT cK cO cQ cD pT pK pR pW pU pI pC uO uF uE uN wK jM jN jZ jB ++ (WO ca qa sa oQ (upd (upd (upd oS (4 * v4).toNatClampNeg v16) ((4 * v4) + 1).toNatClampNeg r39) ((4 * v4) + 2).toNatClampNeg r41) ++ R)) H := hP
            have hD : va_D A (WC ca ad bq nF nO nL nA nC nV nU nP nE bF bO bL bA bC bV bU bP bE cT cK cO cQ cD pT pK pR pW pU pI pC uO uF uE uN wK jM jN jZ jB ++ (WO ca qa sa oQ (upd (upd (upd oS (4 * v4).toNatClampNeg v16) ((4 * v4) + 1).toNatClampNeg r39) ((4 * v4) + 2).toNatClampNeg r41) ++ R)) := hD
            refine lv_aload_n hx hb dL_law_609 rfl (lv_at hl 6 rfl) ?_
            refine lv_iconst (v := 4) hx hb dL_law_610 (by decide) ?_
            refine lv_iload hx hb dL_law_611 (lv_at hl 7 rfl) ?_
            refine lv_imul hx hb dL_law_613 ?_
            refine lv_iconst (v := 3) hx hb dL_law_614 (by decide) ?_
            refine lv_iadd hx hb dL_law_615 ?_
            refine lv_iload hx hb dL_law_616 (lv_at hl 0 rfl) ?_
            obtain ⟨k51, hf⟩ := ck_not hf
            refine va_iast (D := D) hx hb hK hP hD hS 41 0 rfl rfl k51 dL_law_618 (fun H locs hP hD hS => ?_)
            have hP : va_P D vwCl (WC ca ad bq nF nO nL nA nC nV nU nP nE bF bO bL bA bC bV bU bP bE cT cK cO cQ cD pT pK pR pW pU pI pC uO uF uE uN wK jM jN jZ jB ++ (WO ca qa sa oQ (upd (upd (upd (upd oS (4 * v4).toNatClampNeg v16) ((4 * v4) + 1).toNatClampNeg r39) ((4 * v4) + 2).toNatClampNeg r41) ((4 * v4) + 3).toNatClampNeg r43) ++ R)) H := hP
            have hD : va_D A (WC ca ad bq nF nO nL nA nC nV nU nP nE bF bO bL bA bC bV bU bP bE cT cK cO cQ cD pT pK pR pW pU pI pC uO uF uE uN wK jM jN jZ jB ++ (WO ca qa sa oQ (upd (upd (upd (upd oS (4 * v4).toNatClampNeg v16) ((4 * v4) + 1).toNatClampNeg r39) ((4 * v4) + 2).toNatClampNeg r41) ((4 * v4) + 3).toNatClampNeg r43) ++ R)) := hD
            refine lv_iinc (v := (v4 + 1)) (lv' := [(4, .int (v4 + 1)), (20, .int r43), (19, .int r41), (18, .int r39), (0, .ref b), (1, .ref (ad 0)), (2, .ref qa), (3, .ref sa), (5, .int v5), (6, .int v6), (7, .int v7), (8, .int v8), (9, .int v9), (14, .long v14), (16, .int v16), (17, .int v17)]) hx hb dL_law_619 hl (k := 7) rfl rfl (by decide) rfl (fun ls hl => ?_)
            refine lv_iinc (v := (v17 + 1)) (lv' := [(17, .int (v17 + 1)), (4, .int (v4 + 1)), (20, .int r43), (19, .int r41), (18, .int r39), (0, .ref b), (1, .ref (ad 0)), (2, .ref qa), (3, .ref sa), (5, .int v5), (6, .int v6), (7, .int v7), (8, .int v8), (9, .int v9), (14, .long v14), (16, .int v16)]) hx hb dL_law_622 hl (k := 15) rfl rfl (by decide) rfl (fun ls hl => ?_)
            refine lv_goto (tgt := 506) hx hb dL_law_625 (by decide) ?_
            exact ih _ _ CT ST (v4 + 1) v5 v6 v7 v8 v9 v14 v16 (v17 + 1) nF nO nL nA nC nV nU nP nE bF bO bL bA bC bV bU bP bE cT cK cO cQ cD pT pK pR pW pU pI pC uO uF uE uN wK jM jN jZ jB oQ (upd (upd (upd (upd oS (4 * v4).toNatClampNeg v16) ((4 * v4) + 1).toNatClampNeg r39) ((4 * v4) + 2).toNatClampNeg r41) ((4 * v4) + 3).toNatClampNeg r43) _ _ hf (by omega) (by omega) hCT hST _ _ _ hP hD hS (lv_sub hl [5, 6, 7, 8, 1, 9, 10, 11, 12, 13, 14, 15, 0] rfl) kk
          · have hf := br_neg c47 hf
            cases hf
  change W p l e room_1 s m #[Value.ref b] below meth c H locs (cN0 + 0) (sN0 + 0) Qm (F0 m 476 ls [])
  refine lv_aload_n hx hb dL_law_476 rfl (lv_at hl 1 rfl) ?_
  refine lv_bipush (v := 17) hx hb dL_law_477 (by decide) ?_
  refine lv_iload hx hb dL_law_479 (lv_at hl 9 rfl) ?_
  refine lv_iconst (v := 5) hx hb dL_law_481 (by decide) ?_
  refine lv_ishr hx hb dL_law_482 ?_
  refine lv_bipush (v := 11) hx hb dL_law_483 (by decide) ?_
  obtain ⟨r1, h2, hf⟩ := bnd hf
  refine call_si (rest := [.int 17, .ref (ad 0)]) (m_low l ca (WC ca ad bq nF nO nL nA nC nV nU nP nE bF bO bL bA bC bV bU bP bE cT cK cO cQ cD pT pK pR pW pU pI pC uO uF uE uN wK jM jN jZ jB ++ (WO ca qa sa oQ oS ++ R)) _ (x9 >>> (5 &&& 31)) 11 r1 h2) ⟨hx, hb, hml, hown, hts⟩ (va_cwS 2 hts (gS q247 q248 q23 q249) rfl rfl rfl (by decide +kernel) ⟨Nat.le_of_ble_eq_true rfl, Nat.le_of_ble_eq_true rfl⟩) hE hP hD hS hA rfl hl.1 rfl (lv_room (Nat.le_of_ble_eq_true rfl)) dL_law_485 ⟨by show _ ≤ 1200390; omega, by show _ ≤ 5489120; omega⟩ (fun H locs hP hD hS => ?_)
  refine lv_iconst (v := 0) hx hb dL_law_488 (by decide) ?_
  refine lv_iconst (v := 0) hx hb dL_law_489 (by decide) ?_
  obtain ⟨⟨r3, nU_5, pT_6, pK_7, pR_8, pW_9, pU_10, pI_11, pC_12⟩, h4, hf⟩ := bnd hf
  refine cl_wi (rest := []) (m_K17 l hst ca ad bq nF nO nL nA nC nV nU nP nE bF bO bL bA bC bV bU bP bE cT cK cO cQ cD pT pK pR pW pU pI pC uO uF uE uN wK jM jN jZ jB (WO ca qa sa oQ oS ++ R) _ r1 0 0 r3 nU_5 pT_6 pK_7 pR_8 pW_9 pU_10 pI_11 pC_12 h4) ⟨hx, hb, hml, hown, hts⟩ (vx_cwSW 5 hts (gSW q251 q252 q23 q253) rfl rfl rfl (by decide +kernel) ⟨Nat.le_of_ble_eq_true rfl, Nat.le_of_ble_eq_true rfl⟩) hE hP hD hS hA hZ hNC rfl hl.1 rfl (lv_room (Nat.le_of_ble_eq_true rfl)) dL_law_490 ⟨by show _ ≤ 1200390; omega, by show _ ≤ 5489120; omega⟩ (fun H locs hP hD hS => ?_)
  refine lv_istore (lv' := [(16, .int r3), (0, .ref b), (1, .ref (ad 0)), (2, .ref qa), (3, .ref sa), (4, .int x4), (5, .int x5), (6, .int x6), (7, .int x7), (8, .int x8), (9, .int x9), (10, .int x10), (11, .int x11), (12, .int x12), (13, .int x13), (14, .long x14)]) hx hb dL_law_493 hl (by decide) rfl (fun ls hl => ?_)
  refine lv_iload hx hb dL_law_495 (lv_at hl 0 rfl) ?_
  refine lv_if_lt (tgt := 984) hx hb dL_law_497 (by decide) (fun c13 => ?_) (fun c13 => ?_)
  · have hf := br_pos c13 hf
    cases hf
    refine W.widen (k := cN0 + 43) (n := sN0 + 258) (by omega) (by omega) ?_
    exact kk _ _ _ hP hD hS (lv_sub hl [1, 2, 3, 4, 5, 6, 7, 8, 9, 15, 0] rfl)
  · have hf := br_neg c13 hf
    refine lv_iinc (v := (x6 + 1)) (lv' := [(6, .int (x6 + 1)), (16, .int r3), (0, .ref b), (1, .ref (ad 0)), (2, .ref qa), (3, .ref sa), (4, .int x4), (5, .int x5), (7, .int x7), (8, .int x8), (9, .int x9), (10, .int x10), (11, .int x11), (12, .int x12), (13, .int x13), (14, .long x14)]) hx hb dL_law_500 hl (k := 7) rfl rfl (by decide) rfl (fun ls hl => ?_)
    refine lv_iconst (v := 0) hx hb dL_law_503 (by decide) ?_
    refine lv_istore (lv' := [(17, .int 0), (6, .int (x6 + 1)), (16, .int r3), (0, .ref b), (1, .ref (ad 0)), (2, .ref qa), (3, .ref sa), (4, .int x4), (5, .int x5), (7, .int x7), (8, .int x8), (9, .int x9), (10, .int x10), (11, .int x11), (12, .int x12), (13, .int x13), (14, .long x14)]) hx hb dL_law_504 hl (by decide) rfl (fun ls hl => ?_)
    obtain ⟨⟨x53, oS_54⟩, h52, hf⟩ := bnd hf
    refine L506 5 _ _ (cN0 + 43) (sN0 + 258) x4 x5 (x6 + 1) x7 x8 x9 x14 r3 0 nF nO nL nA nC nV nU_5 nP nE bF bO bL bA bC bV bU bP bE cT cK cO cQ cD pT_6 pK_7 pR_8 pW_9 pU_10 pI_11 pC_12 uO uF uE uN wK jM jN jZ jB oQ oS x53 oS_54 h52 (by omega) (by omega) (by omega) (by omega) _ _ _ hP hD hS (lv_sub hl [3, 4, 5, 6, 7, 8, 1, 9, 10, 11, 16, 2, 0] rfl) (fun H locs ls hP hD hS hl => ?_)
    refine lv_goto (tgt := 984) hx hb dL_law_628 (by decide) ?_
    cases hf
    refine W.widen (k := cN0 + 43) (n := sN0 + 258) (by omega) (by omega) ?_
    exact kk _ _ _ hP hD hS (lv_sub hl [0, 1, 2, 3, 4, 5, 6, 7, 8, 9, 10] rfl)
def f_op20 (x4 : Int32) (x5 : Int32) (x6 : Int32) (x7 : Int32) (x9 : Int32) (nU : Nat → Int32) (cT : Int32) (pT : Int32) (pK : Int32) (pR : Nat → Int32) (pW : Nat → Int32) (pU : Nat → Int32) (pI : Nat → Int32) (pC : Nat → Nat → Int32) : Option (Int32 × Int32 × Int32 × Int32 × Int32 × (Nat → Int32) × Int32 × (Nat → Int32) × (Nat → Int32)) :=
  (f_K21 pR pW).bind fun r1 =>
  (f_low (x9 >>> (5 &&& 31)) 10).bind fun r3 =>
  (f_K20 r3 nU cT pT pK pR pW pU pI pC).bind fun (r5, nU_7, pK_8, pW_9, pU_10) =>
  if r5 ≤ 0 then
    some (x4, x5, x6, x7, r5, nU_7, pK_8, pW_9, pU_10)
  else
    (f_K18 r1 pT pW_9).bind fun r12 =>
    if r12 = 0 then
      some (x4, x5, x6, x7, r5, nU_7, pK_8, pW_9, pU_10)
    else
      none
set_option maxHeartbeats 8000000 in
set_option maxRecDepth 100000 in
theorem l_op20 {p : Program} {l : Launch} {e : Env} {s : State} {m : MethodId} {below : List Frame} {meth : Method} {c : Code} {Qm : State → Prop} {D : va_G} {A : Nat → Prop} {b LL : Nat} {xs : Nat → Int32} (ca : Nat → ClassId) (hst : l.stackTraces = false) (hx : p.tables.exec = Jvm.exec) (hb : c.code = cL_law) (hml : c.maxLocals = 21) (hown : s.vm.findClass RL = some m.cls) (hts : ∀ w ∈ WW, w.before #[Value.ref b] s = true) (hE : EE D ca SL0 s) (hA : ∀ q, s.heap.size ≤ q → A q) (hZ : ZZ A s s.heap) (hNC : NCE s) (hX : va_X b LL xs s s.heap) (hbl : b < s.heap.size) (hbA : ¬ A b) (ad : Nat → Nat) (bq qa sa : Nat) (nF : Int32) (nO : Nat → Int32) (nL : Nat → Int32) (nA : Nat → Int32) (nC : Nat → Int32) (nV : Nat → Int32) (nU : Nat → Int32) (nP : Nat → Int32) (nE : Int32) (bF : Int32) (bO : Nat → Int32) (bL : Nat → Int32) (bA : Nat → Int32) (bC : Nat → Int32) (bV : Nat → Int32) (bU : Nat → Int32) (bP : Nat → Int32) (bE : Int32) (cT : Int32) (cK : Nat → Int32) (cO : Int32) (cQ : Nat → Int32) (cD : Int32) (pT : Int32) (pK : Int32) (pR : Nat → Int32) (pW : Nat → Int32) (pU : Nat → Int32) (pI : Nat → Int32) (pC : Nat → Nat → Int32) (uO : Int32) (uF : Nat → Int32) (uE : Nat → Int32) (uN : Nat → Int32) (wK : Nat → Int32) (jM : Int32) (jN : Int32) (jZ : Nat) (jB : Nat → Int32) (oQ : Nat → Int32) (oS : Nat → Int32) (R : va_W) (x4 : Int32) (x5 : Int32) (x6 : Int32) (x7 : Int32) (x8 : Int32) (x9 : Int32) (x10 : Int32) (x11 : Int32) (x12 : Int32) (x13 : Int32) (x14 : Int64) (x16 : Int32) (cN0 sN0 : Nat) (hcN : cN0 + 4 ≤ 1200390) (hsN : sN0 + 24 ≤ 5489120) (y4 : Int32) (y5 : Int32) (y6 : Int32) (y7 : Int32) (y16 : Int32) (onU : Nat → Int32) (opK : Int32) (opW : Nat → Int32) (opU : Nat → Int32) (hf : f_op20 x4 x5 x6 x7 x9 nU cT pT pK pR pW pU pI pC = some (y4, y5, y6, y7, y16, onU, opK, opW, opU)) {H : Heap} {locs : List Loc} {ls : Array Slot} (hP : va_P D vwCl (WC ca ad bq nF nO nL nA nC nV nU nP nE bF bO bL bA bC bV bU bP bE cT cK cO cQ cD pT pK pR pW pU pI pC uO uF uE uN wK jM jN jZ jB ++ (WO ca qa sa oQ oS ++ R)) H) (hD : va_D A (WC ca ad bq nF nO nL nA nC nV nU nP nE bF bO bL bA bC bV bU bP bE cT cK cO cQ cD pT pK pR pW pU pI pC uO uF uE uN wK jM jN jZ jB ++ (WO ca qa sa oQ oS ++ R))) (hS : va_S A s.heap H locs) (hl : lv_has ls 21 [(0, .ref b), (1, .ref (ad 0)), (2, .ref qa), (3, .ref sa), (4, .int x4), (5, .int x5), (6, .int x6), (7, .int x7), (8, .int x8), (9, .int x9), (10, .int x10), (11, .int x11), (12, .int x12), (13, .int x13), (14, .long x14), (16, .int x16)]) (kk : ∀ (H : Heap) (locs : List Loc) (ls : Array Slot), va_P D vwCl (WC ca ad bq nF nO nL nA nC nV onU nP nE bF bO bL bA bC bV bU bP bE cT cK cO cQ cD pT opK pR opW opU pI pC uO uF uE uN wK jM jN jZ jB ++ (WO ca qa sa oQ oS ++ R)) H → va_D A (WC ca ad bq nF nO nL nA nC nV onU nP nE bF bO bL bA bC bV bU bP bE cT cK cO cQ cD pT opK pR opW opU pI pC uO uF uE uN wK jM jN jZ jB ++ (WO ca qa sa oQ oS ++ R)) → va_S A s.heap H locs → lv_has ls 21 [(0, .ref b), (1, .ref (ad 0)), (2, .ref qa), (3, .ref sa), (4, .int y4), (5, .int y5), (6, .int y6), (7, .int y7), (8, .int x8), (14, .long x14), (16, .int y16)] → W p l e room_1 s m #[Value.ref b] below meth c H locs (cN0 + 4) (sN0 + 24) Qm (F0 m 984 ls [])) : W p l e room_1 s m #[Value.ref b] below meth c H locs cN0 sN0 Qm (F0 m 638 ls []) := by
  have hK := hE.1
  unfold f_op20 at hf
  change W p l e room_1 s m #[Value.ref b] below meth c H locs (cN0 + 0) (sN0 + 0) Qm (F0 m 638 ls [])
  refine lv_aload_n hx hb dL_law_638 rfl (lv_at hl 1 rfl) ?_
  refine lv_bipush (v := 21) hx hb dL_law_639 (by decide) ?_
  refine lv_iconst (v := 0) hx hb dL_law_641 (by decide) ?_
  refine lv_iconst (v := 0) hx hb dL_law_642 (by decide) ?_
  refine lv_iconst (v := 0) hx hb dL_law_643 (by decide) ?_
  obtain ⟨r1, h2, hf⟩ := bnd hf
  refine cl_wi (rest := []) (m_K21 l hst ca ad bq nF nO nL nA nC nV nU nP nE bF bO bL bA bC bV bU bP bE cT cK cO cQ cD pT pK pR pW pU pI pC uO uF uE uN wK jM jN jZ jB (WO ca qa sa oQ oS ++ R) _ 0 0 0 r1 h2) ⟨hx, hb, hml, hown, hts⟩ (vx_cwSW 5 hts (gSW q251 q252 q23 q253) rfl rfl rfl (by decide +kernel) ⟨Nat.le_of_ble_eq_true rfl, Nat.le_of_ble_eq_true rfl⟩) hE hP hD hS hA hZ hNC rfl hl.1 rfl (lv_room (Nat.le_of_ble_eq_true rfl)) dL_law_644 ⟨by show _ ≤ 1200390; omega, by show _ ≤ 5489120; omega⟩ (fun H locs hP hD hS => ?_)
  refine lv_istore (lv' := [(17, .int r1), (0, .ref b), (1, .ref (ad 0)), (2, .ref qa), (3, .ref sa), (4, .int x4), (5, .int x5), (6, .int x6), (7, .int x7), (8, .int x8), (9, .int x9), (10, .int x10), (11, .int x11), (12, .int x12), (13, .int x13), (14, .long x14), (16, .int x16)]) hx hb dL_law_647 hl (by decide) rfl (fun ls hl => ?_)
  refine lv_aload_n hx hb dL_law_649 rfl (lv_at hl 2 rfl) ?_
  refine lv_bipush (v := 20) hx hb dL_law_650 (by decide) ?_
  refine lv_iload hx hb dL_law_652 (lv_at hl 10 rfl) ?_
  refine lv_iconst (v := 5) hx hb dL_law_654 (by decide) ?_
  refine lv_ishr hx hb dL_law_655 ?_
  refine lv_bipush (v := 10) hx hb dL_law_656 (by decide) ?_
  obtain ⟨r3, h4, hf⟩ := bnd hf
  refine call_si (rest := [.int 20, .ref (ad 0)]) (m_low l ca (WC ca ad bq nF nO nL nA nC nV nU nP nE bF bO bL bA bC bV bU bP bE cT cK cO cQ cD pT pK pR pW pU pI pC uO uF uE uN wK jM jN jZ jB ++ (WO ca qa sa oQ oS ++ R)) _ (x9 >>> (5 &&& 31)) 10 r3 h4) ⟨hx, hb, hml, hown, hts⟩ (va_cwS 2 hts (gS q247 q248 q23 q249) rfl rfl rfl (by decide +kernel) ⟨Nat.le_of_ble_eq_true rfl, Nat.le_of_ble_eq_true rfl⟩) hE hP hD hS hA rfl hl.1 rfl (lv_room (Nat.le_of_ble_eq_true rfl)) dL_law_658 ⟨by show _ ≤ 1200390; omega, by show _ ≤ 5489120; omega⟩ (fun H locs hP hD hS => ?_)
  refine lv_iconst (v := 0) hx hb dL_law_661 (by decide) ?_
  refine lv_iconst (v := 0) hx hb dL_law_662 (by decide) ?_
  obtain ⟨⟨r5, nU_7, pK_8, pW_9, pU_10⟩, h6, hf⟩ := bnd hf
  refine cl_wi (rest := []) (m_K20 l hst ca ad bq nF nO nL nA nC nV nU nP nE bF bO bL bA bC bV bU bP bE cT cK cO cQ cD pT pK pR pW pU pI pC uO uF uE uN wK jM jN jZ jB (WO ca qa sa oQ oS ++ R) _ r3 0 0 r5 nU_7 pK_8 pW_9 pU_10 h6) ⟨hx, hb, hml, hown, hts⟩ (vx_cwSW 5 hts (gSW q251 q252 q23 q253) rfl rfl rfl (by decide +kernel) ⟨Nat.le_of_ble_eq_true rfl, Nat.le_of_ble_eq_true rfl⟩) hE hP hD hS hA hZ hNC rfl hl.1 rfl (lv_room (Nat.le_of_ble_eq_true rfl)) dL_law_663 ⟨by show _ ≤ 1200390; omega, by show _ ≤ 5489120; omega⟩ (fun H locs hP hD hS => ?_)
  refine lv_istore (lv' := [(16, .int r5), (17, .int r1), (0, .ref b), (1, .ref (ad 0)), (2, .ref qa), (3, .ref sa), (4, .int x4), (5, .int x5), (6, .int x6), (7, .int x7), (8, .int x8), (9, .int x9), (10, .int x10), (11, .int x11), (12, .int x12), (13, .int x13), (14, .long x14)]) hx hb dL_law_666 hl (by decide) rfl (fun ls hl => ?_)
  refine lv_iload hx hb dL_law_668 (lv_at hl 0 rfl) ?_
  refine lv_if_le (tgt := 688) hx hb dL_law_670 (by decide) (fun c11 => ?_) (fun c11 => ?_)
  · have hf := br_pos c11 hf
    refine lv_goto (tgt := 984) hx hb dL_law_688 (by decide) ?_
    cases hf
    refine W.widen (k := cN0 + 4) (n := sN0 + 24) (by omega) (by omega) ?_
    exact kk _ _ _ hP hD hS (lv_sub hl [2, 3, 4, 5, 6, 7, 8, 9, 10, 16, 0] rfl)
  · have hf := br_neg c11 hf
    refine lv_aload_n hx hb dL_law_673 rfl (lv_at hl 3 rfl) ?_
    refine lv_bipush (v := 18) hx hb dL_law_674 (by decide) ?_
    refine lv_iload hx hb dL_law_676 (lv_at hl 1 rfl) ?_
    refine lv_iconst (v := 0) hx hb dL_law_678 (by decide) ?_
    refine lv_iconst (v := 0) hx hb dL_law_679 (by decide) ?_
    obtain ⟨r12, h13, hf⟩ := bnd hf
    refine cl_wi (rest := []) (m_K18 l hst ca ad bq nF nO nL nA nC nV nU_7 nP nE bF bO bL bA bC bV bU bP bE cT cK cO cQ cD pT pK_8 pR pW_9 pU_10 pI pC uO uF uE uN wK jM jN jZ jB (WO ca qa sa oQ oS ++ R) _ r1 0 0 r12 h13) ⟨hx, hb, hml, hown, hts⟩ (vx_cwSW 5 hts (gSW q251 q252 q23 q253) rfl rfl rfl (by decide +kernel) ⟨Nat.le_of_ble_eq_true rfl, Nat.le_of_ble_eq_true rfl⟩) hE hP hD hS hA hZ hNC rfl hl.1 rfl (lv_room (Nat.le_of_ble_eq_true rfl)) dL_law_680 ⟨by show _ ≤ 1200390; omega, by show _ ≤ 5489120; omega⟩ (fun H locs hP hD hS => ?_)
    refine lv_if_eq (tgt := 688) hx hb dL_law_683 (by decide) (fun c14 => ?_) (fun c14 => ?_)
    · have hf := br_pos c14 hf
      refine lv_goto (tgt := 984) hx hb dL_law_688 (by decide) ?_
      cases hf
      refine W.widen (k := cN0 + 4) (n := sN0 + 24) (by omega) (by omega) ?_
      exact kk _ _ _ hP hD hS (lv_sub hl [2, 3, 4, 5, 6, 7, 8, 9, 10, 16, 0] rfl)
    · have hf := br_neg c14 hf
      cases hf
def f_op22_L728 : Nat → Int32 → Int32 → Int32 → Int32 → Int32 → Int32 → Int64 → Int32 → Int32 → Int32 → Int32 → (Nat → Int32) → (Nat → Int32) → Int32 → (Nat → Int32) → (Nat → Int32) → (Nat → Nat → Int32) → Option (Unit)
  | 0, _, _, _, _, _, _, _, _, _, _, _, _, _, _, _, _, _ => none
  | fuel + 1, v4, v5, v6, v7, v8, v10, v14, v16, v17, v18, nF, nC, nV, pT, pW, pI, pC =>
    if 16 ≤ v18 then
      some ()
    else
      if v16 < 0 then
        some ()
      else
        (f_K19 v17 v10 v18 nF nV pT pW pI pC).bind fun r16 =>
        (f_K8 v10 v18 nF nC nV).bind fun r18 =>
        if r16 = r18 then
          f_op22_L728 fuel v4 v5 v6 v7 v8 v10 v14 v16 v17 (v18 + 1) nF nC nV pT pW pI pC
        else
          none
def f_op22 (x4 : Int32) (x5 : Int32) (x6 : Int32) (x7 : Int32) (x8 : Int32) (x9 : Int32) (x10 : Int32) (x14 : Int64) (nF : Int32) (nO : Nat → Int32) (nL : Nat → Int32) (nC : Nat → Int32) (nV : Nat → Int32) (nU : Nat → Int32) (cT : Int32) (cO : Int32) (cQ : Nat → Int32) (pT : Int32) (pW : Nat → Int32) (pI : Nat → Int32) (pC : Nat → Nat → Int32) : Option (Int32 × Int32 × Int32 × Int32 × Int32 × (Nat → Int32) × (Nat → Int32)) :=
  (f_low (x9 >>> (12 &&& 31)) (x6 + 1)).bind fun r1 =>
  (f_K22 r1 x10 nF nO nL nC nU cT cO cQ pT pW pI pC).bind fun (r3, nC_5, nU_6) =>
  (f_op22_L728 17 x4 x5 x6 x7 x8 x10 x14 r3 r1 0 nF nC_5 nV pT pW pI pC).bind fun _ =>
  if r3 < 0 then
    some (x4, x5, x6, x7, r3, nC_5, nU_6)
  else
    (f_K22 r1 x10 nF nO nL nC_5 nU_6 cT cO cQ pT pW pI pC).bind fun (r23, nC_25, nU_26) =>
    if r23 = 0 then
      some (x4, x5, x6, x7, r3, nC_25, nU_26)
    else
      none
set_option maxHeartbeats 8000000 in
set_option maxRecDepth 100000 in
theorem l_op22 {p : Program} {l : Launch} {e : Env} {s : State} {m : MethodId} {below : List Frame} {meth : Method} {c : Code} {Qm : State → Prop} {D : va_G} {A : Nat → Prop} {b LL : Nat} {xs : Nat → Int32} (ca : Nat → ClassId) (hst : l.stackTraces = false) (hx : p.tables.exec = Jvm.exec) (hb : c.code = cL_law) (hml : c.maxLocals = 21) (hown : s.vm.findClass RL = some m.cls) (hts : ∀ w ∈ WW, w.before #[Value.ref b] s = true) (hE : EE D ca SL0 s) (hA : ∀ q, s.heap.size ≤ q → A q) (hZ : ZZ A s s.heap) (hNC : NCE s) (hX : va_X b LL xs s s.heap) (hbl : b < s.heap.size) (hbA : ¬ A b) (ad : Nat → Nat) (bq qa sa : Nat) (nF : Int32) (nO : Nat → Int32) (nL : Nat → Int32) (nA : Nat → Int32) (nC : Nat → Int32) (nV : Nat → Int32) (nU : Nat → Int32) (nP : Nat → Int32) (nE : Int32) (bF : Int32) (bO : Nat → Int32) (bL : Nat → Int32) (bA : Nat → Int32) (bC : Nat → Int32) (bV : Nat → Int32) (bU : Nat → Int32) (bP : Nat → Int32) (bE : Int32) (cT : Int32) (cK : Nat → Int32) (cO : Int32) (cQ : Nat → Int32) (cD : Int32) (pT : Int32) (pK : Int32) (pR : Nat → Int32) (pW : Nat → Int32) (pU : Nat → Int32) (pI : Nat → Int32) (pC : Nat → Nat → Int32) (uO : Int32) (uF : Nat → Int32) (uE : Nat → Int32) (uN : Nat → Int32) (wK : Nat → Int32) (jM : Int32) (jN : Int32) (jZ : Nat) (jB : Nat → Int32) (oQ : Nat → Int32) (oS : Nat → Int32) (R : va_W) (x4 : Int32) (x5 : Int32) (x6 : Int32) (x7 : Int32) (x8 : Int32) (x9 : Int32) (x10 : Int32) (x11 : Int32) (x12 : Int32) (x13 : Int32) (x14 : Int64) (x16 : Int32) (cN0 sN0 : Nat) (hcN : cN0 + 148 ≤ 1200390) (hsN : sN0 + 888 ≤ 5489120) (y4 : Int32) (y5 : Int32) (y6 : Int32) (y7 : Int32) (y16 : Int32) (onC : Nat → Int32) (onU : Nat → Int32) (hf : f_op22 x4 x5 x6 x7 x8 x9 x10 x14 nF nO nL nC nV nU cT cO cQ pT pW pI pC = some (y4, y5, y6, y7, y16, onC, onU)) {H : Heap} {locs : List Loc} {ls : Array Slot} (hP : va_P D vwCl (WC ca ad bq nF nO nL nA nC nV nU nP nE bF bO bL bA bC bV bU bP bE cT cK cO cQ cD pT pK pR pW pU pI pC uO uF uE uN wK jM jN jZ jB ++ (WO ca qa sa oQ oS ++ R)) H) (hD : va_D A (WC ca ad bq nF nO nL nA nC nV nU nP nE bF bO bL bA bC bV bU bP bE cT cK cO cQ cD pT pK pR pW pU pI pC uO uF uE uN wK jM jN jZ jB ++ (WO ca qa sa oQ oS ++ R))) (hS : va_S A s.heap H locs) (hl : lv_has ls 21 [(0, .ref b), (1, .ref (ad 0)), (2, .ref qa), (3, .ref sa), (4, .int x4), (5, .int x5), (6, .int x6), (7, .int x7), (8, .int x8), (9, .int x9), (10, .int x10), (11, .int x11), (12, .int x12), (13, .int x13), (14, .long x14), (16, .int x16)]) (kk : ∀ (H : Heap) (locs : List Loc) (ls : Array Slot), va_P D vwCl (WC ca ad bq nF nO nL nA onC nV onU nP nE bF bO bL bA bC bV bU bP bE cT cK cO cQ cD pT pK pR pW pU pI pC uO uF uE uN wK jM jN jZ jB ++ (WO ca qa sa oQ oS ++ R)) H → va_D A (WC ca ad bq nF nO nL nA onC nV onU nP nE bF bO bL bA bC bV bU bP bE cT cK cO cQ cD pT pK pR pW pU pI pC uO uF uE uN wK jM jN jZ jB ++ (WO ca qa sa oQ oS ++ R)) → va_S A s.heap H locs → lv_has ls 21 [(0, .ref b), (1, .ref (ad 0)), (2, .ref qa), (3, .ref sa), (4, .int y4), (5, .int y5), (6, .int y6), (7, .int y7), (8, .int x8), (14, .long x14), (16, .int y16)] → W p l e room_1 s m #[Value.ref b] below meth c H locs (cN0 + 148) (sN0 + 888) Qm (F0 m 984 ls [])) : W p l e room_1 s m #[Value.ref b] below meth c H locs cN0 sN0 Qm (F0 m 698 ls []) := by
  have hK := hE.1
  unfold f_op22 at hf
  have L728 : ∀ (n : Nat) (cN_ sN_ CT ST : Nat) (v4 : Int32) (v5 : Int32) (v6 : Int32) (v7 : Int32) (v8 : Int32) (v10 : Int32) (v14 : Int64) (v16 : Int32) (v17 : Int32) (v18 : Int32) (nF : Int32) (nO : Nat → Int32) (nL : Nat → Int32) (nA : Nat → Int32) (nC : Nat → Int32) (nV : Nat → Int32) (nU : Nat → Int32) (nP : Nat → Int32) (nE : Int32) (bF : Int32) (bO : Nat → Int32) (bL : Nat → Int32) (bA : Nat → Int32) (bC : Nat → Int32) (bV : Nat → Int32) (bU : Nat → Int32) (bP : Nat → Int32) (bE : Int32) (cT : Int32) (cK : Nat → Int32) (cO : Int32) (cQ : Nat → Int32) (cD : Int32) (pT : Int32) (pK : Int32) (pR : Nat → Int32) (pW : Nat → Int32) (pU : Nat → Int32) (pI : Nat → Int32) (pC : Nat → Nat → Int32) (uO : Int32) (uF : Nat → Int32) (uE : Nat → Int32) (uN : Nat → Int32) (wK : Nat → Int32) (jM : Int32) (jN : Int32) (jZ : Nat) (jB : Nat → Int32) (oQ : Nat → Int32) (oS : Nat → Int32), f_op22_L728 n v4 v5 v6 v7 v8 v10 v14 v16 v17 v18 nF nC nV pT pW pI pC = some () → cN_ + n * 8 ≤ CT → sN_ + n * 48 ≤ ST → CT ≤ 1200390 → ST ≤ 5489120 → ∀ (H : Heap) (locs : List Loc) (ls : Array Slot), va_P D vwCl (WC ca ad bq nF nO nL nA nC nV nU nP nE bF bO bL bA bC bV bU bP bE cT cK cO cQ cD pT pK pR pW pU pI pC uO uF uE uN wK jM jN jZ jB ++ (WO ca qa sa oQ oS ++ R)) H → va_D A (WC ca ad bq nF nO nL nA nC nV nU nP nE bF bO bL bA bC bV bU bP bE cT cK cO cQ cD pT pK pR pW pU pI pC uO uF uE uN wK jM jN jZ jB ++ (WO ca qa sa oQ oS ++ R)) → va_S A s.heap H locs → lv_has ls 21 [(0, .ref b), (1, .ref (ad 0)), (2, .ref qa), (3, .ref sa), (4, .int v4), (5, .int v5), (6, .int v6), (7, .int v7), (8, .int v8), (10, .int v10), (14, .long v14), (16, .int v16), (17, .int v17), (18, .int v18)] → (∀ (H : Heap) (locs : List Loc) (ls : Array Slot), va_P D vwCl (WC ca ad bq nF nO nL nA nC nV nU nP nE bF bO bL bA bC bV bU bP bE cT cK cO cQ cD pT pK pR pW pU pI pC uO uF uE uN wK jM jN jZ jB ++ (WO ca qa sa oQ oS ++ R)) H → va_D A (WC ca ad bq nF nO nL nA nC nV nU nP nE bF bO bL bA bC bV bU bP bE cT cK cO cQ cD pT pK pR pW pU pI pC uO uF uE uN wK jM jN jZ jB ++ (WO ca qa sa oQ oS ++ R)) → va_S A s.heap H locs → lv_has ls 21 [(0, .ref b), (1, .ref (ad 0)), (2, .ref qa), (3, .ref sa), (4, .int v4), (5, .int v5), (6, .int v6), (7, .int v7), (8, .int v8), (10, .int v10), (14, .long v14), (16, .int v16), (17, .int v17)] → W p l e room_1 s m #[Value.ref b] below meth c H locs CT ST Qm (F0 m 774 ls [])) → W p l e room_1 s m #[Value.ref b] below meth c H locs cN_ sN_ Qm (F0 m 728 ls []) := by
    intro n
    induction n with
    | zero => intro _ _ _ _ v4 v5 v6 v7 v8 v10 v14 v16 v17 v18 nF nO nL nA nC nV nU nP nE bF bO bL bA bC bV bU bP bE cT cK cO cQ cD pT pK pR pW pU pI pC uO uF uE uN wK jM jN jZ jB oQ oS hf; cases hf
    | succ n ih =>
      intro cN_ sN_ CT ST v4 v5 v6 v7 v8 v10 v14 v16 v17 v18 nF nO nL nA nC nV nU nP nE bF bO bL bA bC bV bU bP bE cT cK cO cQ cD pT pK pR pW pU pI pC uO uF uE uN wK jM jN jZ jB oQ oS hf hc9 hs9 hCT hST H locs ls hP hD hS hl kk
      have hc8 : cN_ + n * 8 + 8 ≤ CT := by rw [Nat.succ_mul] at hc9; omega
      have hs8 : sN_ + n * 48 + 48 ≤ ST := by rw [Nat.succ_mul] at hs9; omega
      clear hc9 hs9
      change W p l e room_1 s m #[Value.ref b] below meth c H locs (cN_ + 0) (sN_ + 0) Qm (F0 m 728 ls [])
      unfold f_op22_L728 at hf
      refine lv_iload hx hb dL_law_728 (lv_at hl 13 rfl) ?_
      refine lv_bipush (v := 16) hx hb dL_law_730 (by decide) ?_
      refine lv_icmp_ge (tgt := 774) hx hb dL_law_732 (by decide) (fun c14 => ?_) (fun c14 => ?_)
      · have hf := br_pos c14 hf
        cases hf
        refine W.widen (k := CT) (n := ST) (by omega) (by omega) ?_
        exact kk _ _ _ hP hD hS (lv_sub hl [0, 1, 2, 3, 4, 5, 6, 7, 8, 9, 10, 11, 12] rfl)
      · have hf := br_neg c14 hf
        refine lv_iload hx hb dL_law_735 (lv_at hl 11 rfl) ?_
        refine lv_if_lt (tgt := 774) hx hb dL_law_737 (by decide) (fun c15 => ?_) (fun c15 => ?_)
        · have hf := br_pos c15 hf
          cases hf
          refine W.widen (k := CT) (n := ST) (by omega) (by omega) ?_
          exact kk _ _ _ hP hD hS (lv_sub hl [0, 1, 2, 3, 4, 5, 6, 7, 8, 9, 10, 11, 12] rfl)
        · have hf := br_neg c15 hf
          refine lv_aload_n hx hb dL_law_740 rfl (lv_at hl 1 rfl) ?_
          refine lv_bipush (v := 19) hx hb dL_law_741 (by decide) ?_
          refine lv_iload hx hb dL_law_743 (lv_at hl 12 rfl) ?_
          refine lv_iload hx hb dL_law_745 (lv_at hl 9 rfl) ?_
          refine lv_iload hx hb dL_law_747 (lv_at hl 13 rfl) ?_
          obtain ⟨r16, h17, hf⟩ := bnd hf
          refine cl_wi (rest := []) (m_K19 l hst ca ad bq nF nO nL nA nC nV nU nP nE bF bO bL bA bC bV bU bP bE cT cK cO cQ cD pT pK pR pW pU pI pC uO uF uE uN wK jM jN jZ jB (WO ca qa sa oQ oS ++ R) _ v17 v10 v18 r16 h17) ⟨hx, hb, hml, hown, hts⟩ (vx_cwSW 5 hts (gSW q251 q252 q23 q253) rfl rfl rfl (by decide +kernel) ⟨Nat.le_of_ble_eq_true rfl, Nat.le_of_ble_eq_true rfl⟩) hE hP hD hS hA hZ hNC rfl hl.1 rfl (lv_room (Nat.le_of_ble_eq_true rfl)) dL_law_749 ⟨by show _ ≤ 1200390; omega, by show _ ≤ 5489120; omega⟩ (fun H locs hP hD hS => ?_)
          refine lv_aload_n hx hb dL_law_752 rfl (lv_at hl 1 rfl) ?_
          refine lv_bipush (v := 8) hx hb dL_law_753 (by decide) ?_
          refine lv_iload hx hb dL_law_755 (lv_at hl 9 rfl) ?_
          refine lv_iload hx hb dL_law_757 (lv_at hl 13 rfl) ?_
          refine lv_iconst (v := 0) hx hb dL_law_759 (by decide) ?_
          obtain ⟨r18, h19, hf⟩ := bnd hf
          refine cl_wi (rest := [.int r16]) (m_K8 l hst ca ad bq nF nO nL nA nC nV nU nP nE bF bO bL bA bC bV bU bP bE cT cK cO cQ cD pT pK pR pW pU pI pC uO uF uE uN wK jM jN jZ jB (WO ca qa sa oQ oS ++ R) _ v10 v18 0 r18 h19) ⟨hx, hb, hml, hown, hts⟩ (vx_cwSW 5 hts (gSW q251 q252 q23 q253) rfl rfl rfl (by decide +kernel) ⟨Nat.le_of_ble_eq_true rfl, Nat.le_of_ble_eq_true rfl⟩) hE hP hD hS hA hZ hNC rfl hl.1 rfl (lv_room (Nat.le_of_ble_eq_true rfl)) dL_law_760 ⟨by show _ ≤ 1200390; omega, by show _ ≤ 5489120; omega⟩ (fun H locs hP hD hS => ?_)
          refine lv_icmp_eq (tgt := 768) hx hb dL_law_763 (by decide) (fun c20 => ?_) (fun c20 => ?_)
          · have hf := br_pos c20 hf
            refine lv_iinc (v := (v18 + 1)) (lv' := [(18, .int (v18 + 1)), (0, .ref b), (1, .ref (ad 0)), (2, .ref qa), (3, .ref sa), (4, .int v4), (5, .int v5), (6, .int v6), (7, .int v7), (8, .int v8), (10, .int v10), (14, .long v14), (16, .int v16), (17, .int v17)]) hx hb dL_law_768 hl (k := 13) rfl rfl (by decide) rfl (fun ls hl => ?_)
            refine lv_goto (tgt := 728) hx hb dL_law_771 (by decide) ?_
            exact ih _ _ CT ST v4 v5 v6 v7 v8 v10 v14 v16 v17 (v18 + 1) nF nO nL nA nC nV nU nP nE bF bO bL bA bC bV bU bP bE cT cK cO cQ cD pT pK pR pW pU pI pC uO uF uE uN wK jM jN jZ jB oQ oS hf (by omega) (by omega) hCT hST _ _ _ hP hD hS (lv_sub hl [1, 2, 3, 4, 5, 6, 7, 8, 9, 10, 11, 12, 13, 0] rfl) kk
          · have hf := br_neg c20 hf
            cases hf
  change W p l e room_1 s m #[Value.ref b] below meth c H locs (cN0 + 0) (sN0 + 0) Qm (F0 m 698 ls [])
  refine lv_iload hx hb dL_law_698 (lv_at hl 9 rfl) ?_
  refine lv_bipush (v := 12) hx hb dL_law_700 (by decide) ?_
  refine lv_ishr hx hb dL_law_702 ?_
  refine lv_iload hx hb dL_law_703 (lv_at hl 6 rfl) ?_
  refine lv_iconst (v := 1) hx hb dL_law_705 (by decide) ?_
  refine lv_iadd hx hb dL_law_706 ?_
  obtain ⟨r1, h2, hf⟩ := bnd hf
  refine call_si (rest := []) (m_low l ca (WC ca ad bq nF nO nL nA nC nV nU nP nE bF bO bL bA bC bV bU bP bE cT cK cO cQ cD pT pK pR pW pU pI pC uO uF uE uN wK jM jN jZ jB ++ (WO ca qa sa oQ oS ++ R)) _ (x9 >>> (12 &&& 31)) (x6 + 1) r1 h2) ⟨hx, hb, hml, hown, hts⟩ (va_cwS 2 hts (gS q247 q248 q23 q249) rfl rfl rfl (by decide +kernel) ⟨Nat.le_of_ble_eq_true rfl, Nat.le_of_ble_eq_true rfl⟩) hE hP hD hS hA rfl hl.1 rfl (lv_room (Nat.le_of_ble_eq_true rfl)) dL_law_707 ⟨by show _ ≤ 1200390; omega, by show _ ≤ 5489120; omega⟩ (fun H locs hP hD hS => ?_)
  refine lv_istore (lv' := [(17, .int r1), (0, .ref b), (1, .ref (ad 0)), (2, .ref qa), (3, .ref sa), (4, .int x4), (5, .int x5), (6, .int x6), (7, .int x7), (8, .int x8), (9, .int x9), (10, .int x10), (11, .int x11), (12, .int x12), (13, .int x13), (14, .long x14), (16, .int x16)]) hx hb dL_law_710 hl (by decide) rfl (fun ls hl => ?_)
  refine lv_aload_n hx hb dL_law_712 rfl (lv_at hl 2 rfl) ?_
  refine lv_bipush (v := 22) hx hb dL_law_713 (by decide) ?_
  refine lv_iload hx hb dL_law_715 (lv_at hl 0 rfl) ?_
  refine lv_iload hx hb dL_law_717 (lv_at hl 11 rfl) ?_
  refine lv_iconst (v := 0) hx hb dL_law_719 (by decide) ?_
  obtain ⟨⟨r3, nC_5, nU_6⟩, h4, hf⟩ := bnd hf
  refine cl_wi (rest := []) (m_K22 l hst ca ad bq nF nO nL nA nC nV nU nP nE bF bO bL bA bC bV bU bP bE cT cK cO cQ cD pT pK pR pW pU pI pC uO uF uE uN wK jM jN jZ jB (WO ca qa sa oQ oS ++ R) _ r1 x10 0 r3 nC_5 nU_6 h4) ⟨hx, hb, hml, hown, hts⟩ (vx_cwSW 5 hts (gSW q251 q252 q23 q253) rfl rfl rfl (by decide +kernel) ⟨Nat.le_of_ble_eq_true rfl, Nat.le_of_ble_eq_true rfl⟩) hE hP hD hS hA hZ hNC rfl hl.1 rfl (lv_room (Nat.le_of_ble_eq_true rfl)) dL_law_720 ⟨by show _ ≤ 1200390; omega, by show _ ≤ 5489120; omega⟩ (fun H locs hP hD hS => ?_)
  refine lv_istore (lv' := [(16, .int r3), (17, .int r1), (0, .ref b), (1, .ref (ad 0)), (2, .ref qa), (3, .ref sa), (4, .int x4), (5, .int x5), (6, .int x6), (7, .int x7), (8, .int x8), (9, .int x9), (10, .int x10), (11, .int x11), (12, .int x12), (13, .int x13), (14, .long x14)]) hx hb dL_law_723 hl (by decide) rfl (fun ls hl => ?_)
  refine lv_iconst (v := 0) hx hb dL_law_725 (by decide) ?_
  refine lv_istore (lv' := [(18, .int 0), (16, .int r3), (17, .int r1), (0, .ref b), (1, .ref (ad 0)), (2, .ref qa), (3, .ref sa), (4, .int x4), (5, .int x5), (6, .int x6), (7, .int x7), (8, .int x8), (9, .int x9), (10, .int x10), (11, .int x11), (12, .int x12), (13, .int x13), (14, .long x14)]) hx hb dL_law_726 hl (by decide) rfl (fun ls hl => ?_)
  obtain ⟨_, h21, hf⟩ := bnd hf
  refine L728 17 _ _ (cN0 + 142) (sN0 + 852) x4 x5 x6 x7 x8 x10 x14 r3 r1 0 nF nO nL nA nC_5 nV nU_6 nP nE bF bO bL bA bC bV bU bP bE cT cK cO cQ cD pT pK pR pW pU pI pC uO uF uE uN wK jM jN jZ jB oQ oS h21 (by omega) (by omega) (by omega) (by omega) _ _ _ hP hD hS (lv_sub hl [3, 4, 5, 6, 7, 8, 9, 10, 11, 13, 17, 1, 2, 0] rfl) (fun H locs ls hP hD hS hl => ?_)
  refine lv_iload hx hb dL_law_774 (lv_at hl 11 rfl) ?_
  refine lv_if_lt (tgt := 795) hx hb dL_law_776 (by decide) (fun c22 => ?_) (fun c22 => ?_)
  · have hf := br_pos c22 hf
    refine lv_goto (tgt := 984) hx hb dL_law_795 (by decide) ?_
    cases hf
    refine W.widen (k := cN0 + 148) (n := sN0 + 888) (by omega) (by omega) ?_
    exact kk _ _ _ hP hD hS (lv_sub hl [0, 1, 2, 3, 4, 5, 6, 7, 8, 10, 11] rfl)
  · have hf := br_neg c22 hf
    refine lv_aload_n hx hb dL_law_779 rfl (lv_at hl 1 rfl) ?_
    refine lv_bipush (v := 22) hx hb dL_law_780 (by decide) ?_
    refine lv_iload hx hb dL_law_782 (lv_at hl 12 rfl) ?_
    refine lv_iload hx hb dL_law_784 (lv_at hl 9 rfl) ?_
    refine lv_iconst (v := 0) hx hb dL_law_786 (by decide) ?_
    obtain ⟨⟨r23, nC_25, nU_26⟩, h24, hf⟩ := bnd hf
    refine cl_wi (rest := []) (m_K22 l hst ca ad bq nF nO nL nA nC_5 nV nU_6 nP nE bF bO bL bA bC bV bU bP bE cT cK cO cQ cD pT pK pR pW pU pI pC uO uF uE uN wK jM jN jZ jB (WO ca qa sa oQ oS ++ R) _ r1 x10 0 r23 nC_25 nU_26 h24) ⟨hx, hb, hml, hown, hts⟩ (vx_cwSW 5 hts (gSW q251 q252 q23 q253) rfl rfl rfl (by decide +kernel) ⟨Nat.le_of_ble_eq_true rfl, Nat.le_of_ble_eq_true rfl⟩) hE hP hD hS hA hZ hNC rfl hl.1 rfl (lv_room (Nat.le_of_ble_eq_true rfl)) dL_law_787 ⟨by show _ ≤ 1200390; omega, by show _ ≤ 5489120; omega⟩ (fun H locs hP hD hS => ?_)
    refine lv_if_eq (tgt := 795) hx hb dL_law_790 (by decide) (fun c27 => ?_) (fun c27 => ?_)
    · have hf := br_pos c27 hf
      refine lv_goto (tgt := 984) hx hb dL_law_795 (by decide) ?_
      cases hf
      refine W.widen (k := cN0 + 148) (n := sN0 + 888) (by omega) (by omega) ?_
      exact kk _ _ _ hP hD hS (lv_sub hl [0, 1, 2, 3, 4, 5, 6, 7, 8, 10, 11] rfl)
    · have hf := br_neg c27 hf
      cases hf
def f_op23 (x4 : Int32) (x5 : Int32) (x6 : Int32) (x7 : Int32) (x9 : Int32) (x10 : Int32) (nF : Int32) (nA : Nat → Int32) (cT : Int32) (cD : Int32) (uO : Int32) (uF : Nat → Int32) (uE : Nat → Int32) (uN : Nat → Int32) : Option (Int32 × Int32 × Int32 × Int32 × Int32 × Int32 × (Nat → Int32) × (Nat → Int32) × (Nat → Int32)) :=
  (f_low (x9 >>> (12 &&& 31)) 8).bind fun r1 =>
  (f_K23 x10 r1 nF nA cT cD uO uF uE uN).bind fun (r3, uO_5, uF_6, uE_7, uN_8) =>
  if r3 < 0 then
    some (x4, x5, x6, (x7 + 0), r3, uO_5, uF_6, uE_7, uN_8)
  else
    some (x4, x5, x6, (x7 + 1), r3, uO_5, uF_6, uE_7, uN_8)
set_option maxHeartbeats 8000000 in
set_option maxRecDepth 100000 in
theorem l_op23 {p : Program} {l : Launch} {e : Env} {s : State} {m : MethodId} {below : List Frame} {meth : Method} {c : Code} {Qm : State → Prop} {D : va_G} {A : Nat → Prop} {b LL : Nat} {xs : Nat → Int32} (ca : Nat → ClassId) (hst : l.stackTraces = false) (hx : p.tables.exec = Jvm.exec) (hb : c.code = cL_law) (hml : c.maxLocals = 21) (hown : s.vm.findClass RL = some m.cls) (hts : ∀ w ∈ WW, w.before #[Value.ref b] s = true) (hE : EE D ca SL0 s) (hA : ∀ q, s.heap.size ≤ q → A q) (hZ : ZZ A s s.heap) (hNC : NCE s) (hX : va_X b LL xs s s.heap) (hbl : b < s.heap.size) (hbA : ¬ A b) (ad : Nat → Nat) (bq qa sa : Nat) (nF : Int32) (nO : Nat → Int32) (nL : Nat → Int32) (nA : Nat → Int32) (nC : Nat → Int32) (nV : Nat → Int32) (nU : Nat → Int32) (nP : Nat → Int32) (nE : Int32) (bF : Int32) (bO : Nat → Int32) (bL : Nat → Int32) (bA : Nat → Int32) (bC : Nat → Int32) (bV : Nat → Int32) (bU : Nat → Int32) (bP : Nat → Int32) (bE : Int32) (cT : Int32) (cK : Nat → Int32) (cO : Int32) (cQ : Nat → Int32) (cD : Int32) (pT : Int32) (pK : Int32) (pR : Nat → Int32) (pW : Nat → Int32) (pU : Nat → Int32) (pI : Nat → Int32) (pC : Nat → Nat → Int32) (uO : Int32) (uF : Nat → Int32) (uE : Nat → Int32) (uN : Nat → Int32) (wK : Nat → Int32) (jM : Int32) (jN : Int32) (jZ : Nat) (jB : Nat → Int32) (oQ : Nat → Int32) (oS : Nat → Int32) (R : va_W) (x4 : Int32) (x5 : Int32) (x6 : Int32) (x7 : Int32) (x8 : Int32) (x9 : Int32) (x10 : Int32) (x11 : Int32) (x12 : Int32) (x13 : Int32) (x14 : Int64) (x16 : Int32) (cN0 sN0 : Nat) (hcN : cN0 + 4 ≤ 1200390) (hsN : sN0 + 24 ≤ 5489120) (y4 : Int32) (y5 : Int32) (y6 : Int32) (y7 : Int32) (y16 : Int32) (ouO : Int32) (ouF : Nat → Int32) (ouE : Nat → Int32) (ouN : Nat → Int32) (hf : f_op23 x4 x5 x6 x7 x9 x10 nF nA cT cD uO uF uE uN = some (y4, y5, y6, y7, y16, ouO, ouF, ouE, ouN)) {H : Heap} {locs : List Loc} {ls : Array Slot} (hP : va_P D vwCl (WC ca ad bq nF nO nL nA nC nV nU nP nE bF bO bL bA bC bV bU bP bE cT cK cO cQ cD pT pK pR pW pU pI pC uO uF uE uN wK jM jN jZ jB ++ (WO ca qa sa oQ oS ++ R)) H) (hD : va_D A (WC ca ad bq nF nO nL nA nC nV nU nP nE bF bO bL bA bC bV bU bP bE cT cK cO cQ cD pT pK pR pW pU pI pC uO uF uE uN wK jM jN jZ jB ++ (WO ca qa sa oQ oS ++ R))) (hS : va_S A s.heap H locs) (hl : lv_has ls 21 [(0, .ref b), (1, .ref (ad 0)), (2, .ref qa), (3, .ref sa), (4, .int x4), (5, .int x5), (6, .int x6), (7, .int x7), (8, .int x8), (9, .int x9), (10, .int x10), (11, .int x11), (12, .int x12), (13, .int x13), (14, .long x14), (16, .int x16)]) (kk : ∀ (H : Heap) (locs : List Loc) (ls : Array Slot), va_P D vwCl (WC ca ad bq nF nO nL nA nC nV nU nP nE bF bO bL bA bC bV bU bP bE cT cK cO cQ cD pT pK pR pW pU pI pC ouO ouF ouE ouN wK jM jN jZ jB ++ (WO ca qa sa oQ oS ++ R)) H → va_D A (WC ca ad bq nF nO nL nA nC nV nU nP nE bF bO bL bA bC bV bU bP bE cT cK cO cQ cD pT pK pR pW pU pI pC ouO ouF ouE ouN wK jM jN jZ jB ++ (WO ca qa sa oQ oS ++ R)) → va_S A s.heap H locs → lv_has ls 21 [(0, .ref b), (1, .ref (ad 0)), (2, .ref qa), (3, .ref sa), (4, .int y4), (5, .int y5), (6, .int y6), (7, .int y7), (8, .int x8), (14, .long x14), (16, .int y16)] → W p l e room_1 s m #[Value.ref b] below meth c H locs (cN0 + 4) (sN0 + 24) Qm (F0 m 984 ls [])) : W p l e room_1 s m #[Value.ref b] below meth c H locs cN0 sN0 Qm (F0 m 805 ls []) := by
  have hK := hE.1
  unfold f_op23 at hf
  change W p l e room_1 s m #[Value.ref b] below meth c H locs (cN0 + 0) (sN0 + 0) Qm (F0 m 805 ls [])
  refine lv_aload_n hx hb dL_law_805 rfl (lv_at hl 1 rfl) ?_
  refine lv_bipush (v := 23) hx hb dL_law_806 (by decide) ?_
  refine lv_iload hx hb dL_law_808 (lv_at hl 10 rfl) ?_
  refine lv_iload hx hb dL_law_810 (lv_at hl 9 rfl) ?_
  refine lv_bipush (v := 12) hx hb dL_law_812 (by decide) ?_
  refine lv_ishr hx hb dL_law_814 ?_
  refine lv_bipush (v := 8) hx hb dL_law_815 (by decide) ?_
  obtain ⟨r1, h2, hf⟩ := bnd hf
  refine call_si (rest := [.int x10, .int 23, .ref (ad 0)]) (m_low l ca (WC ca ad bq nF nO nL nA nC nV nU nP nE bF bO bL bA bC bV bU bP bE cT cK cO cQ cD pT pK pR pW pU pI pC uO uF uE uN wK jM jN jZ jB ++ (WO ca qa sa oQ oS ++ R)) _ (x9 >>> (12 &&& 31)) 8 r1 h2) ⟨hx, hb, hml, hown, hts⟩ (va_cwS 2 hts (gS q247 q248 q23 q249) rfl rfl rfl (by decide +kernel) ⟨Nat.le_of_ble_eq_true rfl, Nat.le_of_ble_eq_true rfl⟩) hE hP hD hS hA rfl hl.1 rfl (lv_room (Nat.le_of_ble_eq_true rfl)) dL_law_817 ⟨by show _ ≤ 1200390; omega, by show _ ≤ 5489120; omega⟩ (fun H locs hP hD hS => ?_)
  refine lv_iconst (v := 0) hx hb dL_law_820 (by decide) ?_
  obtain ⟨⟨r3, uO_5, uF_6, uE_7, uN_8⟩, h4, hf⟩ := bnd hf
  refine cl_wi (rest := []) (m_K23 l hst ca ad bq nF nO nL nA nC nV nU nP nE bF bO bL bA bC bV bU bP bE cT cK cO cQ cD pT pK pR pW pU pI pC uO uF uE uN wK jM jN jZ jB (WO ca qa sa oQ oS ++ R) _ x10 r1 0 r3 uO_5 uF_6 uE_7 uN_8 h4) ⟨hx, hb, hml, hown, hts⟩ (vx_cwSW 5 hts (gSW q251 q252 q23 q253) rfl rfl rfl (by decide +kernel) ⟨Nat.le_of_ble_eq_true rfl, Nat.le_of_ble_eq_true rfl⟩) hE hP hD hS hA hZ hNC rfl hl.1 rfl (lv_room (Nat.le_of_ble_eq_true rfl)) dL_law_821 ⟨by show _ ≤ 1200390; omega, by show _ ≤ 5489120; omega⟩ (fun H locs hP hD hS => ?_)
  refine lv_istore (lv' := [(16, .int r3), (0, .ref b), (1, .ref (ad 0)), (2, .ref qa), (3, .ref sa), (4, .int x4), (5, .int x5), (6, .int x6), (7, .int x7), (8, .int x8), (9, .int x9), (10, .int x10), (11, .int x11), (12, .int x12), (13, .int x13), (14, .long x14)]) hx hb dL_law_824 hl (by decide) rfl (fun ls hl => ?_)
  refine lv_iload hx hb dL_law_826 (lv_at hl 8 rfl) ?_
  refine lv_iload hx hb dL_law_828 (lv_at hl 0 rfl) ?_
  refine lv_if_lt (tgt := 837) hx hb dL_law_830 (by decide) (fun c9 => ?_) (fun c9 => ?_)
  · have hf := br_pos c9 hf
    refine lv_iconst (v := 0) hx hb dL_law_837 (by decide) ?_
    refine lv_iadd hx hb dL_law_838 ?_
    refine lv_istore (lv' := [(7, .int (x7 + 0)), (16, .int r3), (0, .ref b), (1, .ref (ad 0)), (2, .ref qa), (3, .ref sa), (4, .int x4), (5, .int x5), (6, .int x6), (8, .int x8), (9, .int x9), (10, .int x10), (11, .int x11), (12, .int x12), (13, .int x13), (14, .long x14)]) hx hb dL_law_839 hl (by decide) rfl (fun ls hl => ?_)
    refine lv_goto (tgt := 984) hx hb dL_law_841 (by decide) ?_
    cases hf
    refine W.widen (k := cN0 + 4) (n := sN0 + 24) (by omega) (by omega) ?_
    exact kk _ _ _ hP hD hS (lv_sub hl [2, 3, 4, 5, 6, 7, 8, 0, 9, 15, 1] rfl)
  · have hf := br_neg c9 hf
    refine lv_iconst (v := 1) hx hb dL_law_833 (by decide) ?_
    refine lv_goto (tgt := 838) hx hb dL_law_834 (by decide) ?_
    refine lv_iadd hx hb dL_law_838 ?_
    refine lv_istore (lv' := [(7, .int (x7 + 1)), (16, .int r3), (0, .ref b), (1, .ref (ad 0)), (2, .ref qa), (3, .ref sa), (4, .int x4), (5, .int x5), (6, .int x6), (8, .int x8), (9, .int x9), (10, .int x10), (11, .int x11), (12, .int x12), (13, .int x13), (14, .long x14)]) hx hb dL_law_839 hl (by decide) rfl (fun ls hl => ?_)
    refine lv_goto (tgt := 984) hx hb dL_law_841 (by decide) ?_
    cases hf
    refine W.widen (k := cN0 + 4) (n := sN0 + 24) (by omega) (by omega) ?_
    exact kk _ _ _ hP hD hS (lv_sub hl [2, 3, 4, 5, 6, 7, 8, 0, 9, 15, 1] rfl)
def f_op24 (x4 : Int32) (x5 : Int32) (x6 : Int32) (x7 : Int32) (x9 : Int32) (nF : Int32) (nL : Nat → Int32) (nA : Nat → Int32) (nC : Nat → Int32) (nU : Nat → Int32) (cT : Int32) (uO : Int32) (uF : Nat → Int32) (uN : Nat → Int32) : Option (Int32 × Int32 × Int32 × Int32 × Int32 × (Nat → Int32) × (Nat → Int32) × (Nat → Int32) × (Nat → Int32)) :=
  (f_low (x9 >>> (5 &&& 31)) (x7 + 1)).bind fun r1 =>
  (f_K24 r1 nF nL nA nC nU cT uO uF uN).bind fun (r3, nA_5, nC_6, nU_7, uN_8) =>
  some (x4, x5, x6, x7, r3, nA_5, nC_6, nU_7, uN_8)
set_option maxHeartbeats 8000000 in
set_option maxRecDepth 100000 in
theorem l_op24 {p : Program} {l : Launch} {e : Env} {s : State} {m : MethodId} {below : List Frame} {meth : Method} {c : Code} {Qm : State → Prop} {D : va_G} {A : Nat → Prop} {b LL : Nat} {xs : Nat → Int32} (ca : Nat → ClassId) (hst : l.stackTraces = false) (hx : p.tables.exec = Jvm.exec) (hb : c.code = cL_law) (hml : c.maxLocals = 21) (hown : s.vm.findClass RL = some m.cls) (hts : ∀ w ∈ WW, w.before #[Value.ref b] s = true) (hE : EE D ca SL0 s) (hA : ∀ q, s.heap.size ≤ q → A q) (hZ : ZZ A s s.heap) (hNC : NCE s) (hX : va_X b LL xs s s.heap) (hbl : b < s.heap.size) (hbA : ¬ A b) (ad : Nat → Nat) (bq qa sa : Nat) (nF : Int32) (nO : Nat → Int32) (nL : Nat → Int32) (nA : Nat → Int32) (nC : Nat → Int32) (nV : Nat → Int32) (nU : Nat → Int32) (nP : Nat → Int32) (nE : Int32) (bF : Int32) (bO : Nat → Int32) (bL : Nat → Int32) (bA : Nat → Int32) (bC : Nat → Int32) (bV : Nat → Int32) (bU : Nat → Int32) (bP : Nat → Int32) (bE : Int32) (cT : Int32) (cK : Nat → Int32) (cO : Int32) (cQ : Nat → Int32) (cD : Int32) (pT : Int32) (pK : Int32) (pR : Nat → Int32) (pW : Nat → Int32) (pU : Nat → Int32) (pI : Nat → Int32) (pC : Nat → Nat → Int32) (uO : Int32) (uF : Nat → Int32) (uE : Nat → Int32) (uN : Nat → Int32) (wK : Nat → Int32) (jM : Int32) (jN : Int32) (jZ : Nat) (jB : Nat → Int32) (oQ : Nat → Int32) (oS : Nat → Int32) (R : va_W) (x4 : Int32) (x5 : Int32) (x6 : Int32) (x7 : Int32) (x8 : Int32) (x9 : Int32) (x10 : Int32) (x11 : Int32) (x12 : Int32) (x13 : Int32) (x14 : Int64) (x16 : Int32) (cN0 sN0 : Nat) (hcN : cN0 + 3 ≤ 1200390) (hsN : sN0 + 18 ≤ 5489120) (y4 : Int32) (y5 : Int32) (y6 : Int32) (y7 : Int32) (y16 : Int32) (onA : Nat → Int32) (onC : Nat → Int32) (onU : Nat → Int32) (ouN : Nat → Int32) (hf : f_op24 x4 x5 x6 x7 x9 nF nL nA nC nU cT uO uF uN = some (y4, y5, y6, y7, y16, onA, onC, onU, ouN)) {H : Heap} {locs : List Loc} {ls : Array Slot} (hP : va_P D vwCl (WC ca ad bq nF nO nL nA nC nV nU nP nE bF bO bL bA bC bV bU bP bE cT cK cO cQ cD pT pK pR pW pU pI pC uO uF uE uN wK jM jN jZ jB ++ (WO ca qa sa oQ oS ++ R)) H) (hD : va_D A (WC ca ad bq nF nO nL nA nC nV nU nP nE bF bO bL bA bC bV bU bP bE cT cK cO cQ cD pT pK pR pW pU pI pC uO uF uE uN wK jM jN jZ jB ++ (WO ca qa sa oQ oS ++ R))) (hS : va_S A s.heap H locs) (hl : lv_has ls 21 [(0, .ref b), (1, .ref (ad 0)), (2, .ref qa), (3, .ref sa), (4, .int x4), (5, .int x5), (6, .int x6), (7, .int x7), (8, .int x8), (9, .int x9), (10, .int x10), (11, .int x11), (12, .int x12), (13, .int x13), (14, .long x14), (16, .int x16)]) (kk : ∀ (H : Heap) (locs : List Loc) (ls : Array Slot), va_P D vwCl (WC ca ad bq nF nO nL onA onC nV onU nP nE bF bO bL bA bC bV bU bP bE cT cK cO cQ cD pT pK pR pW pU pI pC uO uF uE ouN wK jM jN jZ jB ++ (WO ca qa sa oQ oS ++ R)) H → va_D A (WC ca ad bq nF nO nL onA onC nV onU nP nE bF bO bL bA bC bV bU bP bE cT cK cO cQ cD pT pK pR pW pU pI pC uO uF uE ouN wK jM jN jZ jB ++ (WO ca qa sa oQ oS ++ R)) → va_S A s.heap H locs → lv_has ls 21 [(0, .ref b), (1, .ref (ad 0)), (2, .ref qa), (3, .ref sa), (4, .int y4), (5, .int y5), (6, .int y6), (7, .int y7), (8, .int x8), (14, .long x14), (16, .int y16)] → W p l e room_1 s m #[Value.ref b] below meth c H locs (cN0 + 3) (sN0 + 18) Qm (F0 m 984 ls [])) : W p l e room_1 s m #[Value.ref b] below meth c H locs cN0 sN0 Qm (F0 m 851 ls []) := by
  have hK := hE.1
  unfold f_op24 at hf
  change W p l e room_1 s m #[Value.ref b] below meth c H locs (cN0 + 0) (sN0 + 0) Qm (F0 m 851 ls [])
  refine lv_aload_n hx hb dL_law_851 rfl (lv_at hl 1 rfl) ?_
  refine lv_bipush (v := 24) hx hb dL_law_852 (by decide) ?_
  refine lv_iload hx hb dL_law_854 (lv_at hl 9 rfl) ?_
  refine lv_iconst (v := 5) hx hb dL_law_856 (by decide) ?_
  refine lv_ishr hx hb dL_law_857 ?_
  refine lv_iload hx hb dL_law_858 (lv_at hl 7 rfl) ?_
  refine lv_iconst (v := 1) hx hb dL_law_860 (by decide) ?_
  refine lv_iadd hx hb dL_law_861 ?_
  obtain ⟨r1, h2, hf⟩ := bnd hf
  refine call_si (rest := [.int 24, .ref (ad 0)]) (m_low l ca (WC ca ad bq nF nO nL nA nC nV nU nP nE bF bO bL bA bC bV bU bP bE cT cK cO cQ cD pT pK pR pW pU pI pC uO uF uE uN wK jM jN jZ jB ++ (WO ca qa sa oQ oS ++ R)) _ (x9 >>> (5 &&& 31)) (x7 + 1) r1 h2) ⟨hx, hb, hml, hown, hts⟩ (va_cwS 2 hts (gS q247 q248 q23 q249) rfl rfl rfl (by decide +kernel) ⟨Nat.le_of_ble_eq_true rfl, Nat.le_of_ble_eq_true rfl⟩) hE hP hD hS hA rfl hl.1 rfl (lv_room (Nat.le_of_ble_eq_true rfl)) dL_law_862 ⟨by show _ ≤ 1200390; omega, by show _ ≤ 5489120; omega⟩ (fun H locs hP hD hS => ?_)
  refine lv_iconst (v := 0) hx hb dL_law_865 (by decide) ?_
  refine lv_iconst (v := 0) hx hb dL_law_866 (by decide) ?_
  obtain ⟨⟨r3, nA_5, nC_6, nU_7, uN_8⟩, h4, hf⟩ := bnd hf
  refine cl_wi (rest := []) (m_K24 l hst ca ad bq nF nO nL nA nC nV nU nP nE bF bO bL bA bC bV bU bP bE cT cK cO cQ cD pT pK pR pW pU pI pC uO uF uE uN wK jM jN jZ jB (WO ca qa sa oQ oS ++ R) _ r1 0 0 r3 nA_5 nC_6 nU_7 uN_8 h4) ⟨hx, hb, hml, hown, hts⟩ (vx_cwSW 5 hts (gSW q251 q252 q23 q253) rfl rfl rfl (by decide +kernel) ⟨Nat.le_of_ble_eq_true rfl, Nat.le_of_ble_eq_true rfl⟩) hE hP hD hS hA hZ hNC rfl hl.1 rfl (lv_room (Nat.le_of_ble_eq_true rfl)) dL_law_867 ⟨by show _ ≤ 1200390; omega, by show _ ≤ 5489120; omega⟩ (fun H locs hP hD hS => ?_)
  refine lv_istore (lv' := [(16, .int r3), (0, .ref b), (1, .ref (ad 0)), (2, .ref qa), (3, .ref sa), (4, .int x4), (5, .int x5), (6, .int x6), (7, .int x7), (8, .int x8), (9, .int x9), (10, .int x10), (11, .int x11), (12, .int x12), (13, .int x13), (14, .long x14)]) hx hb dL_law_870 hl (by decide) rfl (fun ls hl => ?_)
  refine lv_goto (tgt := 984) hx hb dL_law_872 (by decide) ?_
  cases hf
  refine W.widen (k := cN0 + 3) (n := sN0 + 18) (by omega) (by omega) ?_
  exact kk _ _ _ hP hD hS (lv_sub hl [1, 2, 3, 4, 5, 6, 7, 8, 9, 15, 0] rfl)
def f_op28 (x4 : Int32) (x5 : Int32) (x6 : Int32) (x7 : Int32) (x9 : Int32) (nF : Int32) (nL : Nat → Int32) (nA : Nat → Int32) (nC : Nat → Int32) (nU : Nat → Int32) (cT : Int32) (cD : Int32) (uO : Int32) (uF : Nat → Int32) (uE : Nat → Int32) (uN : Nat → Int32) : Option (Int32 × Int32 × Int32 × Int32 × Int32 × (Nat → Int32) × (Nat → Int32) × (Nat → Int32) × Int32 × (Nat → Int32)) :=
  (f_low (x9 >>> (5 &&& 31)) 6).bind fun r1 =>
  (f_K28 r1 nF nL nA nC nU cT cD uO uF uE uN).bind fun (r3, nA_5, nC_6, nU_7, cD_8, uN_9) =>
  some (x4, x5, x6, x7, r3, nA_5, nC_6, nU_7, cD_8, uN_9)
set_option maxHeartbeats 8000000 in
set_option maxRecDepth 100000 in
theorem l_op28 {p : Program} {l : Launch} {e : Env} {s : State} {m : MethodId} {below : List Frame} {meth : Method} {c : Code} {Qm : State → Prop} {D : va_G} {A : Nat → Prop} {b LL : Nat} {xs : Nat → Int32} (ca : Nat → ClassId) (hst : l.stackTraces = false) (hx : p.tables.exec = Jvm.exec) (hb : c.code = cL_law) (hml : c.maxLocals = 21) (hown : s.vm.findClass RL = some m.cls) (hts : ∀ w ∈ WW, w.before #[Value.ref b] s = true) (hE : EE D ca SL0 s) (hA : ∀ q, s.heap.size ≤ q → A q) (hZ : ZZ A s s.heap) (hNC : NCE s) (hX : va_X b LL xs s s.heap) (hbl : b < s.heap.size) (hbA : ¬ A b) (ad : Nat → Nat) (bq qa sa : Nat) (nF : Int32) (nO : Nat → Int32) (nL : Nat → Int32) (nA : Nat → Int32) (nC : Nat → Int32) (nV : Nat → Int32) (nU : Nat → Int32) (nP : Nat → Int32) (nE : Int32) (bF : Int32) (bO : Nat → Int32) (bL : Nat → Int32) (bA : Nat → Int32) (bC : Nat → Int32) (bV : Nat → Int32) (bU : Nat → Int32) (bP : Nat → Int32) (bE : Int32) (cT : Int32) (cK : Nat → Int32) (cO : Int32) (cQ : Nat → Int32) (cD : Int32) (pT : Int32) (pK : Int32) (pR : Nat → Int32) (pW : Nat → Int32) (pU : Nat → Int32) (pI : Nat → Int32) (pC : Nat → Nat → Int32) (uO : Int32) (uF : Nat → Int32) (uE : Nat → Int32) (uN : Nat → Int32) (wK : Nat → Int32) (jM : Int32) (jN : Int32) (jZ : Nat) (jB : Nat → Int32) (oQ : Nat → Int32) (oS : Nat → Int32) (R : va_W) (x4 : Int32) (x5 : Int32) (x6 : Int32) (x7 : Int32) (x8 : Int32) (x9 : Int32) (x10 : Int32) (x11 : Int32) (x12 : Int32) (x13 : Int32) (x14 : Int64) (x16 : Int32) (cN0 sN0 : Nat) (hcN : cN0 + 3 ≤ 1200390) (hsN : sN0 + 18 ≤ 5489120) (y4 : Int32) (y5 : Int32) (y6 : Int32) (y7 : Int32) (y16 : Int32) (onA : Nat → Int32) (onC : Nat → Int32) (onU : Nat → Int32) (ocD : Int32) (ouN : Nat → Int32) (hf : f_op28 x4 x5 x6 x7 x9 nF nL nA nC nU cT cD uO uF uE uN = some (y4, y5, y6, y7, y16, onA, onC, onU, ocD, ouN)) {H : Heap} {locs : List Loc} {ls : Array Slot} (hP : va_P D vwCl (WC ca ad bq nF nO nL nA nC nV nU nP nE bF bO bL bA bC bV bU bP bE cT cK cO cQ cD pT pK pR pW pU pI pC uO uF uE uN wK jM jN jZ jB ++ (WO ca qa sa oQ oS ++ R)) H) (hD : va_D A (WC ca ad bq nF nO nL nA nC nV nU nP nE bF bO bL bA bC bV bU bP bE cT cK cO cQ cD pT pK pR pW pU pI pC uO uF uE uN wK jM jN jZ jB ++ (WO ca qa sa oQ oS ++ R))) (hS : va_S A s.heap H locs) (hl : lv_has ls 21 [(0, .ref b), (1, .ref (ad 0)), (2, .ref qa), (3, .ref sa), (4, .int x4), (5, .int x5), (6, .int x6), (7, .int x7), (8, .int x8), (9, .int x9), (10, .int x10), (11, .int x11), (12, .int x12), (13, .int x13), (14, .long x14), (16, .int x16)]) (kk : ∀ (H : Heap) (locs : List Loc) (ls : Array Slot), va_P D vwCl (WC ca ad bq nF nO nL onA onC nV onU nP nE bF bO bL bA bC bV bU bP bE cT cK cO cQ ocD pT pK pR pW pU pI pC uO uF uE ouN wK jM jN jZ jB ++ (WO ca qa sa oQ oS ++ R)) H → va_D A (WC ca ad bq nF nO nL onA onC nV onU nP nE bF bO bL bA bC bV bU bP bE cT cK cO cQ ocD pT pK pR pW pU pI pC uO uF uE ouN wK jM jN jZ jB ++ (WO ca qa sa oQ oS ++ R)) → va_S A s.heap H locs → lv_has ls 21 [(0, .ref b), (1, .ref (ad 0)), (2, .ref qa), (3, .ref sa), (4, .int y4), (5, .int y5), (6, .int y6), (7, .int y7), (8, .int x8), (14, .long x14), (16, .int y16)] → W p l e room_1 s m #[Value.ref b] below meth c H locs (cN0 + 3) (sN0 + 18) Qm (F0 m 984 ls [])) : W p l e room_1 s m #[Value.ref b] below meth c H locs cN0 sN0 Qm (F0 m 882 ls []) := by
  have hK := hE.1
  unfold f_op28 at hf
  change W p l e room_1 s m #[Value.ref b] below meth c H locs (cN0 + 0) (sN0 + 0) Qm (F0 m 882 ls [])
  refine lv_aload_n hx hb dL_law_882 rfl (lv_at hl 1 rfl) ?_
  refine lv_bipush (v := 28) hx hb dL_law_883 (by decide) ?_
  refine lv_iload hx hb dL_law_885 (lv_at hl 9 rfl) ?_
  refine lv_iconst (v := 5) hx hb dL_law_887 (by decide) ?_
  refine lv_ishr hx hb dL_law_888 ?_
  refine lv_bipush (v := 6) hx hb dL_law_889 (by decide) ?_
  obtain ⟨r1, h2, hf⟩ := bnd hf
  refine call_si (rest := [.int 28, .ref (ad 0)]) (m_low l ca (WC ca ad bq nF nO nL nA nC nV nU nP nE bF bO bL bA bC bV bU bP bE cT cK cO cQ cD pT pK pR pW pU pI pC uO uF uE uN wK jM jN jZ jB ++ (WO ca qa sa oQ oS ++ R)) _ (x9 >>> (5 &&& 31)) 6 r1 h2) ⟨hx, hb, hml, hown, hts⟩ (va_cwS 2 hts (gS q247 q248 q23 q249) rfl rfl rfl (by decide +kernel) ⟨Nat.le_of_ble_eq_true rfl, Nat.le_of_ble_eq_true rfl⟩) hE hP hD hS hA rfl hl.1 rfl (lv_room (Nat.le_of_ble_eq_true rfl)) dL_law_891 ⟨by show _ ≤ 1200390; omega, by show _ ≤ 5489120; omega⟩ (fun H locs hP hD hS => ?_)
  refine lv_iconst (v := 0) hx hb dL_law_894 (by decide) ?_
  refine lv_iconst (v := 0) hx hb dL_law_895 (by decide) ?_
  obtain ⟨⟨r3, nA_5, nC_6, nU_7, cD_8, uN_9⟩, h4, hf⟩ := bnd hf
  refine cl_wi (rest := []) (m_K28 l hst ca ad bq nF nO nL nA nC nV nU nP nE bF bO bL bA bC bV bU bP bE cT cK cO cQ cD pT pK pR pW pU pI pC uO uF uE uN wK jM jN jZ jB (WO ca qa sa oQ oS ++ R) _ r1 0 0 r3 nA_5 nC_6 nU_7 cD_8 uN_9 h4) ⟨hx, hb, hml, hown, hts⟩ (vx_cwSW 5 hts (gSW q251 q252 q23 q253) rfl rfl rfl (by decide +kernel) ⟨Nat.le_of_ble_eq_true rfl, Nat.le_of_ble_eq_true rfl⟩) hE hP hD hS hA hZ hNC rfl hl.1 rfl (lv_room (Nat.le_of_ble_eq_true rfl)) dL_law_896 ⟨by show _ ≤ 1200390; omega, by show _ ≤ 5489120; omega⟩ (fun H locs hP hD hS => ?_)
  refine lv_istore (lv' := [(16, .int r3), (0, .ref b), (1, .ref (ad 0)), (2, .ref qa), (3, .ref sa), (4, .int x4), (5, .int x5), (6, .int x6), (7, .int x7), (8, .int x8), (9, .int x9), (10, .int x10), (11, .int x11), (12, .int x12), (13, .int x13), (14, .long x14)]) hx hb dL_law_899 hl (by decide) rfl (fun ls hl => ?_)
  refine lv_goto (tgt := 984) hx hb dL_law_901 (by decide) ?_
  cases hf
  refine W.widen (k := cN0 + 3) (n := sN0 + 18) (by omega) (by omega) ?_
  exact kk _ _ _ hP hD hS (lv_sub hl [1, 2, 3, 4, 5, 6, 7, 8, 9, 15, 0] rfl)
def f_op29 (x4 : Int32) (x5 : Int32) (x6 : Int32) (x7 : Int32) (nF : Int32) (nO : Nat → Int32) (nL : Nat → Int32) (nA : Nat → Int32) (nC : Nat → Int32) (nV : Nat → Int32) (nU : Nat → Int32) (nP : Nat → Int32) (nE : Int32) (bF : Int32) (bO : Nat → Int32) (bL : Nat → Int32) (bA : Nat → Int32) (bC : Nat → Int32) (bV : Nat → Int32) (bU : Nat → Int32) (bP : Nat → Int32) (bE : Int32) (cT : Int32) : Option (Int32 × Int32 × Int32 × Int32 × Int32 × Int32 × (Nat → Int32) × (Nat → Int32) × (Nat → Int32) × (Nat → Int32) × (Nat → Int32) × (Nat → Int32) × (Nat → Int32) × Int32 × Int32) :=
  (f_K29 nF nO nL nA nC nV nU nP nE bF bO bL bA bC bV bU bP bE cT).bind fun (r1, bF_3, bO_4, bL_5, bA_6, bC_7, bV_8, bU_9, bP_10, bE_11, cT_12) =>
  some (x4, x5, x6, x7, r1, bF_3, bO_4, bL_5, bA_6, bC_7, bV_8, bU_9, bP_10, bE_11, cT_12)
set_option maxHeartbeats 8000000 in
set_option maxRecDepth 100000 in
theorem l_op29 {p : Program} {l : Launch} {e : Env} {s : State} {m : MethodId} {below : List Frame} {meth : Method} {c : Code} {Qm : State → Prop} {D : va_G} {A : Nat → Prop} {b LL : Nat} {xs : Nat → Int32} (ca : Nat → ClassId) (hst : l.stackTraces = false) (hx : p.tables.exec = Jvm.exec) (hb : c.code = cL_law) (hml : c.maxLocals = 21) (hown : s.vm.findClass RL = some m.cls) (hts : ∀ w ∈ WW, w.before #[Value.ref b] s = true) (hE : EE D ca SL0 s) (hA : ∀ q, s.heap.size ≤ q → A q) (hZ : ZZ A s s.heap) (hNC : NCE s) (hX : va_X b LL xs s s.heap) (hbl : b < s.heap.size) (hbA : ¬ A b) (ad : Nat → Nat) (bq qa sa : Nat) (nF : Int32) (nO : Nat → Int32) (nL : Nat → Int32) (nA : Nat → Int32) (nC : Nat → Int32) (nV : Nat → Int32) (nU : Nat → Int32) (nP : Nat → Int32) (nE : Int32) (bF : Int32) (bO : Nat → Int32) (bL : Nat → Int32) (bA : Nat → Int32) (bC : Nat → Int32) (bV : Nat → Int32) (bU : Nat → Int32) (bP : Nat → Int32) (bE : Int32) (cT : Int32) (cK : Nat → Int32) (cO : Int32) (cQ : Nat → Int32) (cD : Int32) (pT : Int32) (pK : Int32) (pR : Nat → Int32) (pW : Nat → Int32) (pU : Nat → Int32) (pI : Nat → Int32) (pC : Nat → Nat → Int32) (uO : Int32) (uF : Nat → Int32) (uE : Nat → Int32) (uN : Nat → Int32) (wK : Nat → Int32) (jM : Int32) (jN : Int32) (jZ : Nat) (jB : Nat → Int32) (oQ : Nat → Int32) (oS : Nat → Int32) (R : va_W) (x4 : Int32) (x5 : Int32) (x6 : Int32) (x7 : Int32) (x8 : Int32) (x9 : Int32) (x10 : Int32) (x11 : Int32) (x12 : Int32) (x13 : Int32) (x14 : Int64) (x16 : Int32) (cN0 sN0 : Nat) (hcN : cN0 + 1 ≤ 1200390) (hsN : sN0 + 6 ≤ 5489120) (y4 : Int32) (y5 : Int32) (y6 : Int32) (y7 : Int32) (y16 : Int32) (obF : Int32) (obO : Nat → Int32) (obL : Nat → Int32) (obA : Nat → Int32) (obC : Nat → Int32) (obV : Nat → Int32) (obU : Nat → Int32) (obP : Nat → Int32) (obE : Int32) (ocT : Int32) (hf : f_op29 x4 x5 x6 x7 nF nO nL nA nC nV nU nP nE bF bO bL bA bC bV bU bP bE cT = some (y4, y5, y6, y7, y16, obF, obO, obL, obA, obC, obV, obU, obP, obE, ocT)) {H : Heap} {locs : List Loc} {ls : Array Slot} (hP : va_P D vwCl (WC ca ad bq nF nO nL nA nC nV nU nP nE bF bO bL bA bC bV bU bP bE cT cK cO cQ cD pT pK pR pW pU pI pC uO uF uE uN wK jM jN jZ jB ++ (WO ca qa sa oQ oS ++ R)) H) (hD : va_D A (WC ca ad bq nF nO nL nA nC nV nU nP nE bF bO bL bA bC bV bU bP bE cT cK cO cQ cD pT pK pR pW pU pI pC uO uF uE uN wK jM jN jZ jB ++ (WO ca qa sa oQ oS ++ R))) (hS : va_S A s.heap H locs) (hl : lv_has ls 21 [(0, .ref b), (1, .ref (ad 0)), (2, .ref qa), (3, .ref sa), (4, .int x4), (5, .int x5), (6, .int x6), (7, .int x7), (8, .int x8), (9, .int x9), (10, .int x10), (11, .int x11), (12, .int x12), (13, .int x13), (14, .long x14), (16, .int x16)]) (kk : ∀ (H : Heap) (locs : List Loc) (ls : Array Slot), va_P D vwCl (WC ca ad bq nF nO nL nA nC nV nU nP nE obF obO obL obA obC obV obU obP obE ocT cK cO cQ cD pT pK pR pW pU pI pC uO uF uE uN wK jM jN jZ jB ++ (WO ca qa sa oQ oS ++ R)) H → va_D A (WC ca ad bq nF nO nL nA nC nV nU nP nE obF obO obL obA obC obV obU obP obE ocT cK cO cQ cD pT pK pR pW pU pI pC uO uF uE uN wK jM jN jZ jB ++ (WO ca qa sa oQ oS ++ R)) → va_S A s.heap H locs → lv_has ls 21 [(0, .ref b), (1, .ref (ad 0)), (2, .ref qa), (3, .ref sa), (4, .int y4), (5, .int y5), (6, .int y6), (7, .int y7), (8, .int x8), (14, .long x14), (16, .int y16)] → W p l e room_1 s m #[Value.ref b] below meth c H locs (cN0 + 1) (sN0 + 6) Qm (F0 m 984 ls [])) : W p l e room_1 s m #[Value.ref b] below meth c H locs cN0 sN0 Qm (F0 m 911 ls []) := by
  have hK := hE.1
  unfold f_op29 at hf
  change W p l e room_1 s m #[Value.ref b] below meth c H locs (cN0 + 0) (sN0 + 0) Qm (F0 m 911 ls [])
  refine lv_aload_n hx hb dL_law_911 rfl (lv_at hl 1 rfl) ?_
  refine lv_bipush (v := 29) hx hb dL_law_912 (by decide) ?_
  refine lv_iconst (v := 0) hx hb dL_law_914 (by decide) ?_
  refine lv_iconst (v := 0) hx hb dL_law_915 (by decide) ?_
  refine lv_iconst (v := 0) hx hb dL_law_916 (by decide) ?_
  obtain ⟨⟨r1, bF_3, bO_4, bL_5, bA_6, bC_7, bV_8, bU_9, bP_10, bE_11, cT_12⟩, h2, hf⟩ := bnd hf
  refine cl_wi (rest := []) (m_K29 l hst ca ad bq nF nO nL nA nC nV nU nP nE bF bO bL bA bC bV bU bP bE cT cK cO cQ cD pT pK pR pW pU pI pC uO uF uE uN wK jM jN jZ jB (WO ca qa sa oQ oS ++ R) _ 0 0 0 r1 bF_3 bO_4 bL_5 bA_6 bC_7 bV_8 bU_9 bP_10 bE_11 cT_12 h2) ⟨hx, hb, hml, hown, hts⟩ (vx_cwSW 5 hts (gSW q251 q252 q23 q253) rfl rfl rfl (by decide +kernel) ⟨Nat.le_of_ble_eq_true rfl, Nat.le_of_ble_eq_true rfl⟩) hE hP hD hS hA hZ hNC rfl hl.1 rfl (lv_room (Nat.le_of_ble_eq_true rfl)) dL_law_917 ⟨by show _ ≤ 1200390; omega, by show _ ≤ 5489120; omega⟩ (fun H locs hP hD hS => ?_)
  refine lv_istore (lv' := [(16, .int r1), (0, .ref b), (1, .ref (ad 0)), (2, .ref qa), (3, .ref sa), (4, .int x4), (5, .int x5), (6, .int x6), (7, .int x7), (8, .int x8), (9, .int x9), (10, .int x10), (11, .int x11), (12, .int x12), (13, .int x13), (14, .long x14)]) hx hb dL_law_920 hl (by decide) rfl (fun ls hl => ?_)
  refine lv_goto (tgt := 984) hx hb dL_law_922 (by decide) ?_
  cases hf
  refine W.widen (k := cN0 + 1) (n := sN0 + 6) (by omega) (by omega) ?_
  exact kk _ _ _ hP hD hS (lv_sub hl [1, 2, 3, 4, 5, 6, 7, 8, 9, 15, 0] rfl)
def f_op30 (x4 : Int32) (x5 : Int32) (x6 : Int32) (x7 : Int32) (nE : Int32) (bE : Int32) (cT : Int32) : Option (Int32 × Int32 × Int32 × Int32 × Int32 × Int32) :=
  (f_K30 nE bE cT).bind fun (r1, cT_3) =>
  some (x4, x5, x6, x7, r1, cT_3)
set_option maxHeartbeats 8000000 in
set_option maxRecDepth 100000 in
theorem l_op30 {p : Program} {l : Launch} {e : Env} {s : State} {m : MethodId} {below : List Frame} {meth : Method} {c : Code} {Qm : State → Prop} {D : va_G} {A : Nat → Prop} {b LL : Nat} {xs : Nat → Int32} (ca : Nat → ClassId) (hst : l.stackTraces = false) (hx : p.tables.exec = Jvm.exec) (hb : c.code = cL_law) (hml : c.maxLocals = 21) (hown : s.vm.findClass RL = some m.cls) (hts : ∀ w ∈ WW, w.before #[Value.ref b] s = true) (hE : EE D ca SL0 s) (hA : ∀ q, s.heap.size ≤ q → A q) (hZ : ZZ A s s.heap) (hNC : NCE s) (hX : va_X b LL xs s s.heap) (hbl : b < s.heap.size) (hbA : ¬ A b) (ad : Nat → Nat) (bq qa sa : Nat) (nF : Int32) (nO : Nat → Int32) (nL : Nat → Int32) (nA : Nat → Int32) (nC : Nat → Int32) (nV : Nat → Int32) (nU : Nat → Int32) (nP : Nat → Int32) (nE : Int32) (bF : Int32) (bO : Nat → Int32) (bL : Nat → Int32) (bA : Nat → Int32) (bC : Nat → Int32) (bV : Nat → Int32) (bU : Nat → Int32) (bP : Nat → Int32) (bE : Int32) (cT : Int32) (cK : Nat → Int32) (cO : Int32) (cQ : Nat → Int32) (cD : Int32) (pT : Int32) (pK : Int32) (pR : Nat → Int32) (pW : Nat → Int32) (pU : Nat → Int32) (pI : Nat → Int32) (pC : Nat → Nat → Int32) (uO : Int32) (uF : Nat → Int32) (uE : Nat → Int32) (uN : Nat → Int32) (wK : Nat → Int32) (jM : Int32) (jN : Int32) (jZ : Nat) (jB : Nat → Int32) (oQ : Nat → Int32) (oS : Nat → Int32) (R : va_W) (x4 : Int32) (x5 : Int32) (x6 : Int32) (x7 : Int32) (x8 : Int32) (x9 : Int32) (x10 : Int32) (x11 : Int32) (x12 : Int32) (x13 : Int32) (x14 : Int64) (x16 : Int32) (cN0 sN0 : Nat) (hcN : cN0 + 1 ≤ 1200390) (hsN : sN0 + 6 ≤ 5489120) (y4 : Int32) (y5 : Int32) (y6 : Int32) (y7 : Int32) (y16 : Int32) (ocT : Int32) (hf : f_op30 x4 x5 x6 x7 nE bE cT = some (y4, y5, y6, y7, y16, ocT)) {H : Heap} {locs : List Loc} {ls : Array Slot} (hP : va_P D vwCl (WC ca ad bq nF nO nL nA nC nV nU nP nE bF bO bL bA bC bV bU bP bE cT cK cO cQ cD pT pK pR pW pU pI pC uO uF uE uN wK jM jN jZ jB ++ (WO ca qa sa oQ oS ++ R)) H) (hD : va_D A (WC ca ad bq nF nO nL nA nC nV nU nP nE bF bO bL bA bC bV bU bP bE cT cK cO cQ cD pT pK pR pW pU pI pC uO uF uE uN wK jM jN jZ jB ++ (WO ca qa sa oQ oS ++ R))) (hS : va_S A s.heap H locs) (hl : lv_has ls 21 [(0, .ref b), (1, .ref (ad 0)), (2, .ref qa), (3, .ref sa), (4, .int x4), (5, .int x5), (6, .int x6), (7, .int x7), (8, .int x8), (9, .int x9), (10, .int x10), (11, .int x11), (12, .int x12), (13, .int x13), (14, .long x14), (16, .int x16)]) (kk : ∀ (H : Heap) (locs : List Loc) (ls : Array Slot), va_P D vwCl (WC ca ad bq nF nO nL nA nC nV nU nP nE bF bO bL bA bC bV bU bP bE ocT cK cO cQ cD pT pK pR pW pU pI pC uO uF uE uN wK jM jN jZ jB ++ (WO ca qa sa oQ oS ++ R)) H → va_D A (WC ca ad bq nF nO nL nA nC nV nU nP nE bF bO bL bA bC bV bU bP bE ocT cK cO cQ cD pT pK pR pW pU pI pC uO uF uE uN wK jM jN jZ jB ++ (WO ca qa sa oQ oS ++ R)) → va_S A s.heap H locs → lv_has ls 21 [(0, .ref b), (1, .ref (ad 0)), (2, .ref qa), (3, .ref sa), (4, .int y4), (5, .int y5), (6, .int y6), (7, .int y7), (8, .int x8), (14, .long x14), (16, .int y16)] → W p l e room_1 s m #[Value.ref b] below meth c H locs (cN0 + 1) (sN0 + 6) Qm (F0 m 984 ls [])) : W p l e room_1 s m #[Value.ref b] below meth c H locs cN0 sN0 Qm (F0 m 932 ls []) := by
  have hK := hE.1
  unfold f_op30 at hf
  change W p l e room_1 s m #[Value.ref b] below meth c H locs (cN0 + 0) (sN0 + 0) Qm (F0 m 932 ls [])
  refine lv_aload_n hx hb dL_law_932 rfl (lv_at hl 1 rfl) ?_
  refine lv_bipush (v := 30) hx hb dL_law_933 (by decide) ?_
  refine lv_iconst (v := 0) hx hb dL_law_935 (by decide) ?_
  refine lv_iconst (v := 0) hx hb dL_law_936 (by decide) ?_
  refine lv_iconst (v := 0) hx hb dL_law_937 (by decide) ?_
  obtain ⟨⟨r1, cT_3⟩, h2, hf⟩ := bnd hf
  refine cl_wi (rest := []) (m_K30 l hst ca ad bq nF nO nL nA nC nV nU nP nE bF bO bL bA bC bV bU bP bE cT cK cO cQ cD pT pK pR pW pU pI pC uO uF uE uN wK jM jN jZ jB (WO ca qa sa oQ oS ++ R) _ 0 0 0 r1 cT_3 h2) ⟨hx, hb, hml, hown, hts⟩ (vx_cwSW 5 hts (gSW q251 q252 q23 q253) rfl rfl rfl (by decide +kernel) ⟨Nat.le_of_ble_eq_true rfl, Nat.le_of_ble_eq_true rfl⟩) hE hP hD hS hA hZ hNC rfl hl.1 rfl (lv_room (Nat.le_of_ble_eq_true rfl)) dL_law_938 ⟨by show _ ≤ 1200390; omega, by show _ ≤ 5489120; omega⟩ (fun H locs hP hD hS => ?_)
  refine lv_istore (lv' := [(16, .int r1), (0, .ref b), (1, .ref (ad 0)), (2, .ref qa), (3, .ref sa), (4, .int x4), (5, .int x5), (6, .int x6), (7, .int x7), (8, .int x8), (9, .int x9), (10, .int x10), (11, .int x11), (12, .int x12), (13, .int x13), (14, .long x14)]) hx hb dL_law_941 hl (by decide) rfl (fun ls hl => ?_)
  refine lv_goto (tgt := 984) hx hb dL_law_943 (by decide) ?_
  cases hf
  refine W.widen (k := cN0 + 1) (n := sN0 + 6) (by omega) (by omega) ?_
  exact kk _ _ _ hP hD hS (lv_sub hl [1, 2, 3, 4, 5, 6, 7, 8, 9, 15, 0] rfl)
def f_opC (x4 : Int32) (x5 : Int32) (x6 : Int32) (x7 : Int32) (x16 : Int32) (nF : Int32) (nO : Nat → Int32) (nL : Nat → Int32) (nA : Nat → Int32) (nC : Nat → Int32) (nV : Nat → Int32) (nU : Nat → Int32) (nP : Nat → Int32) (nE : Int32) (bF : Int32) (bO : Nat → Int32) (bL : Nat → Int32) (bA : Nat → Int32) (bC : Nat → Int32) (bV : Nat → Int32) (bU : Nat → Int32) (bP : Nat → Int32) (bE : Int32) (cT : Int32) : Option (Int32 × Int32 × Int32 × Int32 × Int32 × Int32 × (Nat → Int32) × (Nat → Int32) × (Nat → Int32) × (Nat → Int32) × (Nat → Int32) × (Nat → Int32) × (Nat → Int32) × Int32 × Int32) :=
  (f_C_journalSize nE).bind fun r1 =>
  (f_C_crash nF nO nL nA nC nV nU nP nE bF bO bL bA bC bV bU bP bE cT).bind fun (r3, nF_5, nO_6, nL_7, nA_8, nC_9, nV_10, nU_11, nP_12, nE_13, cT_14) =>
  if r3 < 0 then
    none
  else
    (f_C_journalSize nE_13).bind fun r16 =>
    if r16 = (r1 - r3) then
      (f_C_crash nF_5 nO_6 nL_7 nA_8 nC_9 nV_10 nU_11 nP_12 nE_13 bF bO bL bA bC bV bU bP bE cT_14).bind fun (r19, nF_21, nO_22, nL_23, nA_24, nC_25, nV_26, nU_27, nP_28, nE_29, cT_30) =>
      if r19 = 0 then
        some (x4, x5, x6, x7, x16, nF_21, nO_22, nL_23, nA_24, nC_25, nV_26, nU_27, nP_28, nE_29, cT_30)
      else
        none
    else
      none
set_option maxHeartbeats 8000000 in
set_option maxRecDepth 100000 in
theorem l_opC {p : Program} {l : Launch} {e : Env} {s : State} {m : MethodId} {below : List Frame} {meth : Method} {c : Code} {Qm : State → Prop} {D : va_G} {A : Nat → Prop} {b LL : Nat} {xs : Nat → Int32} (ca : Nat → ClassId) (hst : l.stackTraces = false) (hx : p.tables.exec = Jvm.exec) (hb : c.code = cL_law) (hml : c.maxLocals = 21) (hown : s.vm.findClass RL = some m.cls) (hts : ∀ w ∈ WW, w.before #[Value.ref b] s = true) (hE : EE D ca SL0 s) (hA : ∀ q, s.heap.size ≤ q → A q) (hZ : ZZ A s s.heap) (hNC : NCE s) (hX : va_X b LL xs s s.heap) (hbl : b < s.heap.size) (hbA : ¬ A b) (ad : Nat → Nat) (bq qa sa : Nat) (nF : Int32) (nO : Nat → Int32) (nL : Nat → Int32) (nA : Nat → Int32) (nC : Nat → Int32) (nV : Nat → Int32) (nU : Nat → Int32) (nP : Nat → Int32) (nE : Int32) (bF : Int32) (bO : Nat → Int32) (bL : Nat → Int32) (bA : Nat → Int32) (bC : Nat → Int32) (bV : Nat → Int32) (bU : Nat → Int32) (bP : Nat → Int32) (bE : Int32) (cT : Int32) (cK : Nat → Int32) (cO : Int32) (cQ : Nat → Int32) (cD : Int32) (pT : Int32) (pK : Int32) (pR : Nat → Int32) (pW : Nat → Int32) (pU : Nat → Int32) (pI : Nat → Int32) (pC : Nat → Nat → Int32) (uO : Int32) (uF : Nat → Int32) (uE : Nat → Int32) (uN : Nat → Int32) (wK : Nat → Int32) (jM : Int32) (jN : Int32) (jZ : Nat) (jB : Nat → Int32) (oQ : Nat → Int32) (oS : Nat → Int32) (R : va_W) (x4 : Int32) (x5 : Int32) (x6 : Int32) (x7 : Int32) (x8 : Int32) (x9 : Int32) (x10 : Int32) (x11 : Int32) (x12 : Int32) (x13 : Int32) (x14 : Int64) (x16 : Int32) (cN0 sN0 : Nat) (hcN : cN0 + 0 ≤ 1200390) (hsN : sN0 + 0 ≤ 5489120) (y4 : Int32) (y5 : Int32) (y6 : Int32) (y7 : Int32) (y16 : Int32) (onF : Int32) (onO : Nat → Int32) (onL : Nat → Int32) (onA : Nat → Int32) (onC : Nat → Int32) (onV : Nat → Int32) (onU : Nat → Int32) (onP : Nat → Int32) (onE : Int32) (ocT : Int32) (hf : f_opC x4 x5 x6 x7 x16 nF nO nL nA nC nV nU nP nE bF bO bL bA bC bV bU bP bE cT = some (y4, y5, y6, y7, y16, onF, onO, onL, onA, onC, onV, onU, onP, onE, ocT)) {H : Heap} {locs : List Loc} {ls : Array Slot} (hP : va_P D vwCl (WC ca ad bq nF nO nL nA nC nV nU nP nE bF bO bL bA bC bV bU bP bE cT cK cO cQ cD pT pK pR pW pU pI pC uO uF uE uN wK jM jN jZ jB ++ (WO ca qa sa oQ oS ++ R)) H) (hD : va_D A (WC ca ad bq nF nO nL nA nC nV nU nP nE bF bO bL bA bC bV bU bP bE cT cK cO cQ cD pT pK pR pW pU pI pC uO uF uE uN wK jM jN jZ jB ++ (WO ca qa sa oQ oS ++ R))) (hS : va_S A s.heap H locs) (hl : lv_has ls 21 [(0, .ref b), (1, .ref (ad 0)), (2, .ref qa), (3, .ref sa), (4, .int x4), (5, .int x5), (6, .int x6), (7, .int x7), (8, .int x8), (9, .int x9), (10, .int x10), (11, .int x11), (12, .int x12), (13, .int x13), (14, .long x14), (16, .int x16)]) (kk : ∀ (H : Heap) (locs : List Loc) (ls : Array Slot), va_P D vwCl (WC ca ad bq onF onO onL onA onC onV onU onP onE bF bO bL bA bC bV bU bP bE ocT cK cO cQ cD pT pK pR pW pU pI pC uO uF uE uN wK jM jN jZ jB ++ (WO ca qa sa oQ oS ++ R)) H → va_D A (WC ca ad bq onF onO onL onA onC onV onU onP onE bF bO bL bA bC bV bU bP bE ocT cK cO cQ cD pT pK pR pW pU pI pC uO uF uE uN wK jM jN jZ jB ++ (WO ca qa sa oQ oS ++ R)) → va_S A s.heap H locs → lv_has ls 21 [(0, .ref b), (1, .ref (ad 0)), (2, .ref qa), (3, .ref sa), (4, .int y4), (5, .int y5), (6, .int y6), (7, .int y7), (8, .int x8), (14, .long x14), (16, .int y16)] → W p l e room_1 s m #[Value.ref b] below meth c H locs (cN0 + 0) (sN0 + 0) Qm (F0 m 984 ls [])) : W p l e room_1 s m #[Value.ref b] below meth c H locs cN0 sN0 Qm (F0 m 946 ls []) := by
  have hK := hE.1
  unfold f_opC at hf
  change W p l e room_1 s m #[Value.ref b] below meth c H locs (cN0 + 0) (sN0 + 0) Qm (F0 m 946 ls [])
  refine lv_aload_n hx hb dL_law_946 rfl (lv_at hl 1 rfl) ?_
  obtain ⟨r1, h2, hf⟩ := bnd hf
  refine call_vi (rest := []) (m_C_journalSize l ca ad bq nF nO nL nA nC nV nU nP nE bF bO bL bA bC bV bU bP bE cT cK cO cQ cD pT pK pR pW pU pI pC uO uF uE uN wK jM jN jZ jB (WO ca qa sa oQ oS ++ R) _ r1 h2) ⟨hx, hb, hml, hown, hts⟩ (cwV 0 hts (gV q239 q240 q241 q24 q242) rfl rfl rfl (by decide +kernel) ⟨Nat.le_of_ble_eq_true rfl, Nat.le_of_ble_eq_true rfl⟩) (va_recv hK hP (ci := 7) (q0 := 0) rfl rfl) hE hP hD hS hA rfl hl.1 rfl (lv_room (Nat.le_of_ble_eq_true rfl)) dL_law_947 ⟨by show _ ≤ 1200390; omega, by show _ ≤ 5489120; omega⟩ (fun H locs hP hD hS => ?_)
  refine lv_istore (lv' := [(17, .int r1), (0, .ref b), (1, .ref (ad 0)), (2, .ref qa), (3, .ref sa), (4, .int x4), (5, .int x5), (6, .int x6), (7, .int x7), (8, .int x8), (9, .int x9), (10, .int x10), (11, .int x11), (12, .int x12), (13, .int x13), (14, .long x14), (16, .int x16)]) hx hb dL_law_950 hl (by decide) rfl (fun ls hl => ?_)
  refine lv_aload_n hx hb dL_law_952 rfl (lv_at hl 2 rfl) ?_
  obtain ⟨⟨r3, nF_5, nO_6, nL_7, nA_8, nC_9, nV_10, nU_11, nP_12, nE_13, cT_14⟩, h4, hf⟩ := bnd hf
  refine call_vi (rest := []) (m_C_crash l ca ad bq nF nO nL nA nC nV nU nP nE bF bO bL bA bC bV bU bP bE cT cK cO cQ cD pT pK pR pW pU pI pC uO uF uE uN wK jM jN jZ jB (WO ca qa sa oQ oS ++ R) _ r3 nF_5 nO_6 nL_7 nA_8 nC_9 nV_10 nU_11 nP_12 nE_13 cT_14 h4) ⟨hx, hb, hml, hown, hts⟩ (cwV 0 hts (gV q224 q225 q226 q24 q227) rfl rfl rfl (by decide +kernel) ⟨Nat.le_of_ble_eq_true rfl, Nat.le_of_ble_eq_true rfl⟩) (va_recv hK hP (ci := 7) (q0 := 0) rfl rfl) hE hP hD hS hA rfl hl.1 rfl (lv_room (Nat.le_of_ble_eq_true rfl)) dL_law_953 ⟨by show _ ≤ 1200390; omega, by show _ ≤ 5489120; omega⟩ (fun H locs hP hD hS => ?_)
  refine lv_istore (lv' := [(18, .int r3), (17, .int r1), (0, .ref b), (1, .ref (ad 0)), (2, .ref qa), (3, .ref sa), (4, .int x4), (5, .int x5), (6, .int x6), (7, .int x7), (8, .int x8), (9, .int x9), (10, .int x10), (11, .int x11), (12, .int x12), (13, .int x13), (14, .long x14), (16, .int x16)]) hx hb dL_law_956 hl (by decide) rfl (fun ls hl => ?_)
  refine lv_iload hx hb dL_law_958 (lv_at hl 0 rfl) ?_
  refine lv_if_lt (tgt := 982) hx hb dL_law_960 (by decide) (fun c15 => ?_) (fun c15 => ?_)
  · have hf := br_pos c15 hf
    cases hf
  · have hf := br_neg c15 hf
    refine lv_aload_n hx hb dL_law_963 rfl (lv_at hl 3 rfl) ?_
    obtain ⟨r16, h17, hf⟩ := bnd hf
    refine call_vi (rest := []) (m_C_journalSize l ca ad bq nF_5 nO_6 nL_7 nA_8 nC_9 nV_10 nU_11 nP_12 nE_13 bF bO bL bA bC bV bU bP bE cT_14 cK cO cQ cD pT pK pR pW pU pI pC uO uF uE uN wK jM jN jZ jB (WO ca qa sa oQ oS ++ R) _ r16 h17) ⟨hx, hb, hml, hown, hts⟩ (cwV 0 hts (gV q239 q240 q241 q24 q242) rfl rfl rfl (by decide +kernel) ⟨Nat.le_of_ble_eq_true rfl, Nat.le_of_ble_eq_true rfl⟩) (va_recv hK hP (ci := 7) (q0 := 0) rfl rfl) hE hP hD hS hA rfl hl.1 rfl (lv_room (Nat.le_of_ble_eq_true rfl)) dL_law_964 ⟨by show _ ≤ 1200390; omega, by show _ ≤ 5489120; omega⟩ (fun H locs hP hD hS => ?_)
    refine lv_iload hx hb dL_law_967 (lv_at hl 1 rfl) ?_
    refine lv_iload hx hb dL_law_969 (lv_at hl 0 rfl) ?_
    refine lv_isub hx hb dL_law_971 ?_
    refine lv_icmp_ne (tgt := 982) hx hb dL_law_972 (by decide) (fun c18 => ?_) (fun c18 => ?_)
    · have hf := br_neg c18 hf
      cases hf
    · have hf := br_pos c18 hf
      refine lv_aload_n hx hb dL_law_975 rfl (lv_at hl 3 rfl) ?_
      obtain ⟨⟨r19, nF_21, nO_22, nL_23, nA_24, nC_25, nV_26, nU_27, nP_28, nE_29, cT_30⟩, h20, hf⟩ := bnd hf
      refine call_vi (rest := []) (m_C_crash l ca ad bq nF_5 nO_6 nL_7 nA_8 nC_9 nV_10 nU_11 nP_12 nE_13 bF bO bL bA bC bV bU bP bE cT_14 cK cO cQ cD pT pK pR pW pU pI pC uO uF uE uN wK jM jN jZ jB (WO ca qa sa oQ oS ++ R) _ r19 nF_21 nO_22 nL_23 nA_24 nC_25 nV_26 nU_27 nP_28 nE_29 cT_30 h20) ⟨hx, hb, hml, hown, hts⟩ (cwV 0 hts (gV q224 q225 q226 q24 q227) rfl rfl rfl (by decide +kernel) ⟨Nat.le_of_ble_eq_true rfl, Nat.le_of_ble_eq_true rfl⟩) (va_recv hK hP (ci := 7) (q0 := 0) rfl rfl) hE hP hD hS hA rfl hl.1 rfl (lv_room (Nat.le_of_ble_eq_true rfl)) dL_law_976 ⟨by show _ ≤ 1200390; omega, by show _ ≤ 5489120; omega⟩ (fun H locs hP hD hS => ?_)
      refine lv_if_eq (tgt := 984) hx hb dL_law_979 (by decide) (fun c31 => ?_) (fun c31 => ?_)
      · have hf := br_pos c31 hf
        cases hf
        refine W.widen (k := cN0 + 0) (n := sN0 + 0) (by omega) (by omega) ?_
        exact kk _ _ _ hP hD hS (lv_sub hl [2, 3, 4, 5, 6, 7, 8, 9, 10, 16, 17] rfl)
      · have hf := br_neg c31 hf
        cases hf
