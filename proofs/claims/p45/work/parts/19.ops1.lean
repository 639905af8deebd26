def f_rA (LL : Nat) (xs : Nat → Int32) (x5 : Int32) (x8 : Int32) (nF : Int32) : Option (Int32 × Int32 × Int32 × Int32) :=
  (f_cell LL xs x8).bind fun r1 =>
  (f_C_fileCount nF).bind fun r3 =>
  (f_low (r1 >>> (5 &&& 31)) (r3 + 1)).bind fun r5 =>
  (f_low (r1 >>> (5 &&& 31)) (x5 + 1)).bind fun r7 =>
  (f_low r1 29).bind fun r9 =>
  if r9 = 0 then
    (f_low (r1 >>> (10 &&& 31)) (16 + 1)).bind fun r14 =>
    some (r1, r5, r7, r14)
  else
    (f_low (r1 >>> (10 &&& 31)) (16 + 0)).bind fun r12 =>
    some (r1, r5, r7, r12)
set_option maxHeartbeats 8000000 in
set_option maxRecDepth 100000 in
theorem l_rA {p : Program} {l : Launch} {e : Env} {s : State} {m : MethodId} {below : List Frame} {meth : Method} {c : Code} {Qm : State → Prop} {D : va_G} {A : Nat → Prop} {b LL : Nat} {xs : Nat → Int32} (ca : Nat → ClassId) (hst : l.stackTraces = false) (hx : p.tables.exec = Jvm.exec) (hb : c.code = cL_law) (hml : c.maxLocals = 21) (hown : s.vm.findClass RL = some m.cls) (hts : ∀ w ∈ WW, w.before #[Value.ref b] s = true) (hE : EE D ca SL0 s) (hA : ∀ q, s.heap.size ≤ q → A q) (hZ : ZZ A s s.heap) (hNC : NCE s) (hX : va_X b LL xs s s.heap) (hbl : b < s.heap.size) (hbA : ¬ A b) (ad : Nat → Nat) (bq qa sa : Nat) (nF : Int32) (nO : Nat → Int32) (nL : Nat → Int32) (nA : Nat → Int32) (nC : Nat → Int32) (nV : Nat → Int32) (nU : Nat → Int32) (nP : Nat → Int32) (nE : Int32) (bF : Int32) (bO : Nat → Int32) (bL : Nat → Int32) (bA : Nat → Int32) (bC : Nat → Int32) (bV : Nat → Int32) (bU : Nat → Int32) (bP : Nat → Int32) (bE : Int32) (cT : Int32) (cK : Nat → Int32) (cO : Int32) (cQ : Nat → Int32) (cD : Int32) (pT : Int32) (pK : Int32) (pR : Nat → Int32) (pW : Nat → Int32) (pU : Nat → Int32) (pI : Nat → Int32) (pC : Nat → Nat → Int32) (uO : Int32) (uF : Nat → Int32) (uE : Nat → Int32) (uN : Nat → Int32) (wK : Nat → Int32) (jM : Int32) (jN : Int32) (jZ : Nat) (jB : Nat → Int32) (oQ : Nat → Int32) (oS : Nat → Int32) (R : va_W) (x4 : Int32) (x5 : Int32) (x6 : Int32) (x7 : Int32) (x8 : Int32) (cN0 sN0 : Nat) (hcN : cN0 + 0 ≤ 1200390) (hsN : sN0 + 0 ≤ 5489120) (y9 : Int32) (y10 : Int32) (y11 : Int32) (y12 : Int32) (hf : f_rA LL xs x5 x8 nF = some (y9, y10, y11, y12)) {H : Heap} {locs : List Loc} {ls : Array Slot} (hP : va_P D vwCl (WC ca ad bq nF nO nL nA nC nV nU nP nE bF bO bL bA bC bV bU bP bE cT cK cO cQ cD pT pK pR pW pU pI pC uO uF uE uN wK jM jN jZ jB ++ (WO ca qa sa oQ oS ++ R)) H) (hD : va_D A (WC ca ad bq nF nO nL nA nC nV nU nP nE bF bO bL bA bC bV bU bP bE cT cK cO cQ cD pT pK pR pW pU pI pC uO uF uE uN wK jM jN jZ jB ++ (WO ca qa sa oQ oS ++ R))) (hS : va_S A s.heap H locs) (hl : lv_has ls 21 [(0, .ref b), (1, .ref (ad 0)), (2, .ref qa), (3, .ref sa), (4, .int x4), (5, .int x5), (6, .int x6), (7, .int x7), (8, .int x8)]) (kk : ∀ (H : Heap) (locs : List Loc) (ls : Array Slot), va_P D vwCl (WC ca ad bq nF nO nL nA nC nV nU nP nE bF bO bL bA bC bV bU bP bE cT cK cO cQ cD pT pK pR pW pU pI pC uO uF uE uN wK jM jN jZ jB ++ (WO ca qa sa oQ oS ++ R)) H → va_D A (WC ca ad bq nF nO nL nA nC nV nU nP nE bF bO bL bA bC bV bU bP bE cT cK cO cQ cD pT pK pR pW pU pI pC uO uF uE uN wK jM jN jZ jB ++ (WO ca qa sa oQ oS ++ R)) → va_S A s.heap H locs → lv_has ls 21 [(0, .ref b), (1, .ref (ad 0)), (2, .ref qa), (3, .ref sa), (4, .int x4), (5, .int x5), (6, .int x6), (7, .int x7), (8, .int x8), (9, .int y9), (10, .int y10), (11, .int y11), (12, .int y12)] → W p l e room_1 s m #[Value.ref b] below meth c H locs (cN0 + 0) (sN0 + 0) Qm (F0 m 104 ls [])) : W p l e room_1 s m #[Value.ref b] below meth c H locs cN0 sN0 Qm (F0 m 40 ls []) := by
  have hK := hE.1
  unfold f_rA at hf
  change W p l e room_1 s m #[Value.ref b] below meth c H locs (cN0 + 0) (sN0 + 0) Qm (F0 m 40 ls [])
  refine lv_aload_n hx hb dL_law_40 rfl (lv_at hl 0 rfl) ?_
  refine lv_iload hx hb dL_law_41 (lv_at hl 8 rfl) ?_
  obtain ⟨r1, h2, hf⟩ := bnd hf
  refine cs_cell (rest := []) (m_cell l ca (WC ca ad bq nF nO nL nA nC nV nU nP nE bF bO bL bA bC bV bU bP bE cT cK cO cQ cD pT pK pR pW pU pI pC uO uF uE uN wK jM jN jZ jB ++ (WO ca qa sa oQ oS ++ R)) _ b LL xs x8 r1 h2) ⟨hx, hb, hml, hown, hts⟩ (va_cwS 2 hts (gS q243 q244 q23 q245) rfl rfl rfl (by decide +kernel) ⟨Nat.le_of_ble_eq_true rfl, Nat.le_of_ble_eq_true rfl⟩) hE hP hD hS hA hX hbl hbA rfl hl.1 rfl (lv_room (Nat.le_of_ble_eq_true rfl)) dL_law_43 ⟨by show _ ≤ 1200390; omega, by show _ ≤ 5489120; omega⟩ (fun H locs hP hD hS => ?_)
  refine lv_istore (lv' := [(9, .int r1), (0, .ref b), (1, .ref (ad 0)), (2, .ref qa), (3, .ref sa), (4, .int x4), (5, .int x5), (6, .int x6), (7, .int x7), (8, .int x8)]) hx hb dL_law_46 hl (by decide) rfl (fun ls hl => ?_)
  refine lv_iload hx hb dL_law_48 (lv_at hl 0 rfl) ?_
  refine lv_iconst (v := 5) hx hb dL_law_50 (by decide) ?_
  refine lv_ishr hx hb dL_law_51 ?_
  refine lv_aload_n hx hb dL_law_52 rfl (lv_at hl 2 rfl) ?_
  obtain ⟨r3, h4, hf⟩ := bnd hf
  refine call_vi (rest := [.int (r1 >>> (5 &&& 31))]) (m_C_fileCount l ca ad bq nF nO nL nA nC nV nU nP nE bF bO bL bA bC bV bU bP bE cT cK cO cQ cD pT pK pR pW pU pI pC uO uF uE uN wK jM jN jZ jB (WO ca qa sa oQ oS ++ R) _ r3 h4) ⟨hx, hb, hml, hown, hts⟩ (cwV 0 hts (gV q216 q217 q218 q24 q219) rfl rfl rfl (by decide +kernel) ⟨Nat.le_of_ble_eq_true rfl, Nat.le_of_ble_eq_true rfl⟩) (va_recv hK hP (ci := 7) (q0 := 0) rfl rfl) hE hP hD hS hA rfl hl.1 rfl (lv_room (Nat.le_of_ble_eq_true rfl)) dL_law_53 ⟨by show _ ≤ 1200390; omega, by show _ ≤ 5489120; omega⟩ (fun H locs hP hD hS => ?_)
  refine lv_iconst (v := 1) hx hb dL_law_56 (by decide) ?_
  refine lv_iadd hx hb dL_law_57 ?_
  obtain ⟨r5, h6, hf⟩ := bnd hf
  refine call_si (rest := []) (m_low l ca (WC ca ad bq nF nO nL nA nC nV nU nP nE bF bO bL bA bC bV bU bP bE cT cK cO cQ cD pT pK pR pW pU pI pC uO uF uE uN wK jM jN jZ jB ++ (WO ca qa sa oQ oS ++ R)) _ (r1 >>> (5 &&& 31)) (r3 + 1) r5 h6) ⟨hx, hb, hml, hown, hts⟩ (va_cwS 2 hts (gS q247 q248 q23 q249) rfl rfl rfl (by decide +kernel) ⟨Nat.le_of_ble_eq_true rfl, Nat.le_of_ble_eq_true rfl⟩) hE hP hD hS hA rfl hl.1 rfl (lv_room (Nat.le_of_ble_eq_true rfl)) dL_law_58 ⟨by show _ ≤ 1200390; omega, by show _ ≤ 5489120; omega⟩ (fun H locs hP hD hS => ?_)
  refine lv_istore (lv' := [(10, .int r5), (9, .int r1), (0, .ref b), (1, .ref (ad 0)), (2, .ref qa), (3, .ref sa), (4, .int x4), (5, .int x5), (6, .int x6), (7, .int x7), (8, .int x8)]) hx hb dL_law_61 hl (by decide) rfl (fun ls hl => ?_)
  refine lv_iload hx hb dL_law_63 (lv_at hl 1 rfl) ?_
  refine lv_iconst (v := 5) hx hb dL_law_65 (by decide) ?_
  refine lv_ishr hx hb dL_law_66 ?_
  refine lv_iload hx hb dL_law_67 (lv_at hl 7 rfl) ?_
  refine lv_iconst (v := 1) hx hb dL_law_69 (by decide) ?_
  refine lv_iadd hx hb dL_law_70 ?_
  obtain ⟨r7, h8, hf⟩ := bnd hf
  refine call_si (rest := []) (m_low l ca (WC ca ad bq nF nO nL nA nC nV nU nP nE bF bO bL bA bC bV bU bP bE cT cK cO cQ cD pT pK pR pW pU pI pC uO uF uE uN wK jM jN jZ jB ++ (WO ca qa sa oQ oS ++ R)) _ (r1 >>> (5 &&& 31)) (x5 + 1) r7 h8) ⟨hx, hb, hml, hown, hts⟩ (va_cwS 2 hts (gS q247 q248 q23 q249) rfl rfl rfl (by decide +kernel) ⟨Nat.le_of_ble_eq_true rfl, Nat.le_of_ble_eq_true rfl⟩) hE hP hD hS hA rfl hl.1 rfl (lv_room (Nat.le_of_ble_eq_true rfl)) dL_law_71 ⟨by show _ ≤ 1200390; omega, by show _ ≤ 5489120; omega⟩ (fun H locs hP hD hS => ?_)
  refine lv_istore (lv' := [(11, .int r7), (10, .int r5), (9, .int r1), (0, .ref b), (1, .ref (ad 0)), (2, .ref qa), (3, .ref sa), (4, .int x4), (5, .int x5), (6, .int x6), (7, .int x7), (8, .int x8)]) hx hb dL_law_74 hl (by decide) rfl (fun ls hl => ?_)
  refine lv_iload hx hb dL_law_76 (lv_at hl 2 rfl) ?_
  refine lv_bipush (v := 10) hx hb dL_law_78 (by decide) ?_
  refine lv_ishr hx hb dL_law_80 ?_
  refine lv_bipush (v := 16) hx hb dL_law_81 (by decide) ?_
  refine lv_iload hx hb dL_law_83 (lv_at hl 2 rfl) ?_
  refine lv_bipush (v := 29) hx hb dL_law_85 (by decide) ?_
  obtain ⟨r9, h10, hf⟩ := bnd hf
  refine call_si (rest := [.int 16, .int (r1 >>> (10 &&& 31))]) (m_low l ca (WC ca ad bq nF nO nL nA nC nV nU nP nE bF bO bL bA bC bV bU bP bE cT cK cO cQ cD pT pK pR pW pU pI pC uO uF uE uN wK jM jN jZ jB ++ (WO ca qa sa oQ oS ++ R)) _ r1 29 r9 h10) ⟨hx, hb, hml, hown, hts⟩ (va_cwS 2 hts (gS q247 q248 q23 q249) rfl rfl rfl (by decide +kernel) ⟨Nat.le_of_ble_eq_true rfl, Nat.le_of_ble_eq_true rfl⟩) hE hP hD hS hA rfl hl.1 rfl (lv_room (Nat.le_of_ble_eq_true rfl)) dL_law_87 ⟨by show _ ≤ 1200390; omega, by show _ ≤ 5489120; omega⟩ (fun H locs hP hD hS => ?_)
  refine lv_if_ne (tgt := 97) hx hb dL_law_90 (by decide) (fun c11 => ?_) (fun c11 => ?_)
  · have hf := br_neg c11 hf
    refine lv_iconst (v := 0) hx hb dL_law_97 (by decide) ?_
    refine lv_iadd hx hb dL_law_98 ?_
    obtain ⟨r12, h13, hf⟩ := bnd hf
    refine call_si (rest := []) (m_low l ca (WC ca ad bq nF nO nL nA nC nV nU nP nE bF bO bL bA bC bV bU bP bE cT cK cO cQ cD pT pK pR pW pU pI pC uO uF uE uN wK jM jN jZ jB ++ (WO ca qa sa oQ oS ++ R)) _ (r1 >>> (10 &&& 31)) (16 + 0) r12 h13) ⟨hx, hb, hml, hown, hts⟩ (va_cwS 2 hts (gS q247 q248 q23 q249) rfl rfl rfl (by decide +kernel) ⟨Nat.le_of_ble_eq_true rfl, Nat.le_of_ble_eq_true rfl⟩) hE hP hD hS hA rfl hl.1 rfl (lv_room (Nat.le_of_ble_eq_true rfl)) dL_law_99 ⟨by show _ ≤ 1200390; omega, by show _ ≤ 5489120; omega⟩ (fun H locs hP hD hS => ?_)
    refine lv_istore (lv' := [(12, .int r12), (11, .int r7), (10, .int r5), (9, .int r1), (0, .ref b), (1, .ref (ad 0)), (2, .ref qa), (3, .ref sa), (4, .int x4), (5, .int x5), (6, .int x6), (7, .int x7), (8, .int x8)]) hx hb dL_law_102 hl (by decide) rfl (fun ls hl => ?_)
    cases hf
    refine W.widen (k := cN0 + 0) (n := sN0 + 0) (by omega) (by omega) ?_
    exact kk _ _ _ hP hD hS (lv_sub hl [4, 5, 6, 7, 8, 9, 10, 11, 12, 3, 2, 1, 0] rfl)
  · have hf := br_pos c11 hf
    refine lv_iconst (v := 1) hx hb dL_law_93 (by decide) ?_
    refine lv_goto (tgt := 98) hx hb dL_law_94 (by decide) ?_
    refine lv_iadd hx hb dL_law_98 ?_
    obtain ⟨r14, h15, hf⟩ := bnd hf
    refine call_si (rest := []) (m_low l ca (WC ca ad bq nF nO nL nA nC nV nU nP nE bF bO bL bA bC bV bU bP bE cT cK cO cQ cD pT pK pR pW pU pI pC uO uF uE uN wK jM jN jZ jB ++ (WO ca qa sa oQ oS ++ R)) _ (r1 >>> (10 &&& 31)) (16 + 1) r14 h15) ⟨hx, hb, hml, hown, hts⟩ (va_cwS 2 hts (gS q247 q248 q23 q249) rfl rfl rfl (by decide +kernel) ⟨Nat.le_of_ble_eq_true rfl, Nat.le_of_ble_eq_true rfl⟩) hE hP hD hS hA rfl hl.1 rfl (lv_room (Nat.le_of_ble_eq_true rfl)) dL_law_99 ⟨by show _ ≤ 1200390; omega, by show _ ≤ 5489120; omega⟩ (fun H locs hP hD hS => ?_)
    refine lv_istore (lv' := [(12, .int r14), (11, .int r7), (10, .int r5), (9, .int r1), (0, .ref b), (1, .ref (ad 0)), (2, .ref qa), (3, .ref sa), (4, .int x4), (5, .int x5), (6, .int x6), (7, .int x7), (8, .int x8)]) hx hb dL_law_102 hl (by decide) rfl (fun ls hl => ?_)
    cases hf
    refine W.widen (k := cN0 + 0) (n := sN0 + 0) (by omega) (by omega) ?_
    exact kk _ _ _ hP hD hS (lv_sub hl [4, 5, 6, 7, 8, 9, 10, 11, 12, 3, 2, 1, 0] rfl)
def f_rS (x5 : Int32) (x6 : Int32) (x7 : Int32) (x8 : Int32) (x9 : Int32) (nF : Int32) (nO : Nat → Int32) (nL : Nat → Int32) (nC : Nat → Int32) (nV : Nat → Int32) (nU : Nat → Int32) (nP : Nat → Int32) (nE : Int32) (cO : Int32) (cD : Int32) (pT : Int32) (pW : Nat → Int32) (uO : Int32) (uF : Nat → Int32) (uN : Nat → Int32) : Option (Int32 × Int64) :=
  if 2 ≤ x8 then
    if 4 ≤ x8 then
      (f_state x5 x6 x7 nF nO nL nC nV nU nP nE cO cD pT pW uO uF uN).bind fun r3 =>
      some ((x9 &&& 31), r3)
    else
      (f_state x5 x6 x7 nF nO nL nC nV nU nP nE cO cD pT pW uO uF uN).bind fun r5 =>
      some (1, r5)
  else
    (f_state x5 x6 x7 nF nO nL nC nV nU nP nE cO cD pT pW uO uF uN).bind fun r7 =>
    some (0, r7)
set_option maxHeartbeats 8000000 in
set_option maxRecDepth 100000 in
theorem l_rS {p : Program} {l : Launch} {e : Env} {s : State} {m : MethodId} {below : List Frame} {meth : Method} {c : Code} {Qm : State → Prop} {D : va_G} {A : Nat → Prop} {b LL : Nat} {xs : Nat → Int32} (ca : Nat → ClassId) (hst : l.stackTraces = false) (hx : p.tables.exec = Jvm.exec) (hb : c.code = cL_law) (hml : c.maxLocals = 21) (hown : s.vm.findClass RL = some m.cls) (hts : ∀ w ∈ WW, w.before #[Value.ref b] s = true) (hE : EE D ca SL0 s) (hA : ∀ q, s.heap.size ≤ q → A q) (hZ : ZZ A s s.heap) (hNC : NCE s) (hX : va_X b LL xs s s.heap) (hbl : b < s.heap.size) (hbA : ¬ A b) (ad : Nat → Nat) (bq qa sa : Nat) (nF : Int32) (nO : Nat → Int32) (nL : Nat → Int32) (nA : Nat → Int32) (nC : Nat → Int32) (nV : Nat → Int32) (nU : Nat → Int32) (nP : Nat → Int32) (nE : Int32) (bF : Int32) (bO : Nat → Int32) (bL : Nat → Int32) (bA : Nat → Int32) (bC : Nat → Int32) (bV : Nat → Int32) (bU : Nat → Int32) (bP : Nat → Int32) (bE : Int32) (cT : Int32) (cK : Nat → Int32) (cO : Int32) (cQ : Nat → Int32) (cD : Int32) (pT : Int32) (pK : Int32) (pR : Nat → Int32) (pW : Nat → Int32) (pU : Nat → Int32) (pI : Nat → Int32) (pC : Nat → Nat → Int32) (uO : Int32) (uF : Nat → Int32) (uE : Nat → Int32) (uN : Nat → Int32) (wK : Nat → Int32) (jM : Int32) (jN : Int32) (jZ : Nat) (jB : Nat → Int32) (oQ : Nat → Int32) (oS : Nat → Int32) (R : va_W) (x4 : Int32) (x5 : Int32) (x6 : Int32) (x7 : Int32) (x8 : Int32) (x9 : Int32) (x10 : Int32) (x11 : Int32) (x12 : Int32) (cN0 sN0 : Nat) (hcN : cN0 + 1876 ≤ 1200390) (hsN : sN0 + 11256 ≤ 5489120) (y13 : Int32) (y14 : Int64) (hf : f_rS x5 x6 x7 x8 x9 nF nO nL nC nV nU nP nE cO cD pT pW uO uF uN = some (y13, y14)) {H : Heap} {locs : List Loc} {ls : Array Slot} (hP : va_P D vwCl (WC ca ad bq nF nO nL nA nC nV nU nP nE bF bO bL bA bC bV bU bP bE cT cK cO cQ cD pT pK pR pW pU pI pC uO uF uE uN wK jM jN jZ jB ++ (WO ca qa sa oQ oS ++ R)) H) (hD : va_D A (WC ca ad bq nF nO nL nA nC nV nU nP nE bF bO bL bA bC bV bU bP bE cT cK cO cQ cD pT pK pR pW pU pI pC uO uF uE uN wK jM jN jZ jB ++ (WO ca qa sa oQ oS ++ R))) (hS : va_S A s.heap H locs) (hl : lv_has ls 21 [(0, .ref b), (1, .ref (ad 0)), (2, .ref qa), (3, .ref sa), (4, .int x4), (5, .int x5), (6, .int x6), (7, .int x7), (8, .int x8), (9, .int x9), (10, .int x10), (11, .int x11), (12, .int x12)]) (kk : ∀ (H : Heap) (locs : List Loc) (ls : Array Slot), va_P D vwCl (WC ca ad bq nF nO nL nA nC nV nU nP nE bF bO bL bA bC bV bU bP bE cT cK cO cQ cD pT pK pR pW pU pI pC uO uF uE uN wK jM jN jZ jB ++ (WO ca qa sa oQ oS ++ R)) H → va_D A (WC ca ad bq nF nO nL nA nC nV nU nP nE bF bO bL bA bC bV bU bP bE cT cK cO cQ cD pT pK pR pW pU pI pC uO uF uE uN wK jM jN jZ jB ++ (WO ca qa sa oQ oS ++ R)) → va_S A s.heap H locs → lv_has ls 21 [(0, .ref b), (1, .ref (ad 0)), (2, .ref qa), (3, .ref sa), (4, .int x4), (5, .int x5), (6, .int x6), (7, .int x7), (8, .int x8), (9, .int x9), (10, .int x10), (11, .int x11), (12, .int x12), (13, .int y13), (14, .long y14), (16, .int 0)] → W p l e room_1 s m #[Value.ref b] below meth c H locs (cN0 + 1876) (sN0 + 11256) Qm (F0 m 146 ls [])) : W p l e room_1 s m #[Value.ref b] below meth c H locs cN0 sN0 Qm (F0 m 104 ls []) := by
  have hK := hE.1
  unfold f_rS at hf
  change W p l e room_1 s m #[Value.ref b] below meth c H locs (cN0 + 0) (sN0 + 0) Qm (F0 m 104 ls [])
  refine lv_iload hx hb dL_law_104 (lv_at hl 8 rfl) ?_
  refine lv_iconst (v := 2) hx hb dL_law_106 (by decide) ?_
  refine lv_icmp_ge (tgt := 114) hx hb dL_law_107 (by decide) (fun c1 => ?_) (fun c1 => ?_)
  · have hf := br_pos c1 hf
    refine lv_iload hx hb dL_law_114 (lv_at hl 8 rfl) ?_
    refine lv_iconst (v := 4) hx hb dL_law_116 (by decide) ?_
    refine lv_icmp_ge (tgt := 124) hx hb dL_law_117 (by decide) (fun c2 => ?_) (fun c2 => ?_)
    · have hf := br_pos c2 hf
      refine lv_iload hx hb dL_law_124 (lv_at hl 9 rfl) ?_
      refine lv_bipush (v := 31) hx hb dL_law_126 (by decide) ?_
      refine lv_iand hx hb dL_law_128 ?_
      refine lv_istore (lv' := [(13, .int (x9 &&& 31)), (0, .ref b), (1, .ref (ad 0)), (2, .ref qa), (3, .ref sa), (4, .int x4), (5, .int x5), (6, .int x6), (7, .int x7), (8, .int x8), (9, .int x9), (10, .int x10), (11, .int x11), (12, .int x12)]) hx hb dL_law_129 hl (by decide) rfl (fun ls hl => ?_)
      refine lv_aload_n hx hb dL_law_131 rfl (lv_at hl 2 rfl) ?_
      refine lv_iload hx hb dL_law_132 (lv_at hl 6 rfl) ?_
      refine lv_iload hx hb dL_law_134 (lv_at hl 7 rfl) ?_
      refine lv_iload hx hb dL_law_136 (lv_at hl 8 rfl) ?_
      obtain ⟨r3, h4, hf⟩ := bnd hf
      refine cs_l (rest := []) (m_state l hst ca ad bq qa sa nF nO nL nA nC nV nU nP nE bF bO bL bA bC bV bU bP bE cT cK cO cQ cD pT pK pR pW pU pI pC uO uF uE uN wK jM jN jZ jB oQ oS R _ x5 x6 x7 r3 h4) ⟨hx, hb, hml, hown, hts⟩ (va_cwS 4 hts (gS q1159 q1160 q23 q1161) rfl rfl rfl (by decide +kernel) ⟨Nat.le_of_ble_eq_true rfl, Nat.le_of_ble_eq_true rfl⟩) hE hP hD hS hA hZ hNC rfl hl.1 rfl (lv_room (Nat.le_of_ble_eq_true rfl)) dL_law_138 ⟨by show _ ≤ 1200390; omega, by show _ ≤ 5489120; omega⟩ (fun H locs hP hD hS => ?_)
      refine lv_lstore (lv' := [(14, .long r3), (13, .int (x9 &&& 31)), (0, .ref b), (1, .ref (ad 0)), (2, .ref qa), (3, .ref sa), (4, .int x4), (5, .int x5), (6, .int x6), (7, .int x7), (8, .int x8), (9, .int x9), (10, .int x10), (11, .int x11), (12, .int x12)]) hx hb dL_law_141 hl (by decide) rfl (fun ls hl => ?_)
      refine lv_iconst (v := 0) hx hb dL_law_143 (by decide) ?_
      refine lv_istore (lv' := [(16, .int 0), (14, .long r3), (13, .int (x9 &&& 31)), (0, .ref b), (1, .ref (ad 0)), (2, .ref qa), (3, .ref sa), (4, .int x4), (5, .int x5), (6, .int x6), (7, .int x7), (8, .int x8), (9, .int x9), (10, .int x10), (11, .int x11), (12, .int x12)]) hx hb dL_law_144 hl (by decide) rfl (fun ls hl => ?_)
      cases hf
      refine W.widen (k := cN0 + 1876) (n := sN0 + 11256) (by omega) (by omega) ?_
      exact kk _ _ _ hP hD hS (lv_sub hl [3, 4, 5, 6, 7, 8, 9, 10, 11, 12, 13, 14, 15, 2, 1, 0] rfl)
    · have hf := br_neg c2 hf
      refine lv_iconst (v := 1) hx hb dL_law_120 (by decide) ?_
      refine lv_goto (tgt := 129) hx hb dL_law_121 (by decide) ?_
      refine lv_istore (lv' := [(13, .int 1), (0, .ref b), (1, .ref (ad 0)), (2, .ref qa), (3, .ref sa), (4, .int x4), (5, .int x5), (6, .int x6), (7, .int x7), (8, .int x8), (9, .int x9), (10, .int x10), (11, .int x11), (12, .int x12)]) hx hb dL_law_129 hl (by decide) rfl (fun ls hl => ?_)
      refine lv_aload_n hx hb dL_law_131 rfl (lv_at hl 2 rfl) ?_
      refine lv_iload hx hb dL_law_132 (lv_at hl 6 rfl) ?_
      refine lv_iload hx hb dL_law_134 (lv_at hl 7 rfl) ?_
      refine lv_iload hx hb dL_law_136 (lv_at hl 8 rfl) ?_
      obtain ⟨r5, h6, hf⟩ := bnd hf
      refine cs_l (rest := []) (m_state l hst ca ad bq qa sa nF nO nL nA nC nV nU nP nE bF bO bL bA bC bV bU bP bE cT cK cO cQ cD pT pK pR pW pU pI pC uO uF uE uN wK jM jN jZ jB oQ oS R _ x5 x6 x7 r5 h6) ⟨hx, hb, hml, hown, hts⟩ (va_cwS 4 hts (gS q1159 q1160 q23 q1161) rfl rfl rfl (by decide +kernel) ⟨Nat.le_of_ble_eq_true rfl, Nat.le_of_ble_eq_true rfl⟩) hE hP hD hS hA hZ hNC rfl hl.1 rfl (lv_room (Nat.le_of_ble_eq_true rfl)) dL_law_138 ⟨by show _ ≤ 1200390; omega, by show _ ≤ 5489120; omega⟩ (fun H locs hP hD hS => ?_)
      refine lv_lstore (lv' := [(14, .long r5), (13, .int 1), (0, .ref b), (1, .ref (ad 0)), (2, .ref qa), (3, .ref sa), (4, .int x4), (5, .int x5), (6, .int x6), (7, .int x7), (8, .int x8), (9, .int x9), (10, .int x10), (11, .int x11), (12, .int x12)]) hx hb dL_law_141 hl (by decide) rfl (fun ls hl => ?_)
      refine lv_iconst (v := 0) hx hb dL_law_143 (by decide) ?_
      refine lv_istore (lv' := [(16, .int 0), (14, .long r5), (13, .int 1), (0, .ref b), (1, .ref (ad 0)), (2, .ref qa), (3, .ref sa), (4, .int x4), (5, .int x5), (6, .int x6), (7, .int x7), (8, .int x8), (9, .int x9), (10, .int x10), (11, .int x11), (12, .int x12)]) hx hb dL_law_144 hl (by decide) rfl (fun ls hl => ?_)
      cases hf
      refine W.widen (k := cN0 + 1876) (n := sN0 + 11256) (by omega) (by omega) ?_
      exact kk _ _ _ hP hD hS (lv_sub hl [3, 4, 5, 6, 7, 8, 9, 10, 11, 12, 13, 14, 15, 2, 1, 0] rfl)
  · have hf := br_neg c1 hf
    refine lv_iconst (v := 0) hx hb dL_law_110 (by decide) ?_
    refine lv_goto (tgt := 129) hx hb dL_law_111 (by decide) ?_
    refine lv_istore (lv' := [(13, .int 0), (0, .ref b), (1, .ref (ad 0)), (2, .ref qa), (3, .ref sa), (4, .int x4), (5, .int x5), (6, .int x6), (7, .int x7), (8, .int x8), (9, .int x9), (10, .int x10), (11, .int x11), (12, .int x12)]) hx hb dL_law_129 hl (by decide) rfl (fun ls hl => ?_)
    refine lv_aload_n hx hb dL_law_131 rfl (lv_at hl 2 rfl) ?_
    refine lv_iload hx hb dL_law_132 (lv_at hl 6 rfl) ?_
    refine lv_iload hx hb dL_law_134 (lv_at hl 7 rfl) ?_
    refine lv_iload hx hb dL_law_136 (lv_at hl 8 rfl) ?_
    obtain ⟨r7, h8, hf⟩ := bnd hf
    refine cs_l (rest := []) (m_state l hst ca ad bq qa sa nF nO nL nA nC nV nU nP nE bF bO bL bA bC bV bU bP bE cT cK cO cQ cD pT pK pR pW pU pI pC uO uF uE uN wK jM jN jZ jB oQ oS R _ x5 x6 x7 r7 h8) ⟨hx, hb, hml, hown, hts⟩ (va_cwS 4 hts (gS q1159 q1160 q23 q1161) rfl rfl rfl (by decide +kernel) ⟨Nat.le_of_ble_eq_true rfl, Nat.le_of_ble_eq_true rfl⟩) hE hP hD hS hA hZ hNC rfl hl.1 rfl (lv_room (Nat.le_of_ble_eq_true rfl)) dL_law_138 ⟨by show _ ≤ 1200390; omega, by show _ ≤ 5489120; omega⟩ (fun H locs hP hD hS => ?_)
    refine lv_lstore (lv' := [(14, .long r7), (13, .int 0), (0, .ref b), (1, .ref (ad 0)), (2, .ref qa), (3, .ref sa), (4, .int x4), (5, .int x5), (6, .int x6), (7, .int x7), (8, .int x8), (9, .int x9), (10, .int x10), (11, .int x11), (12, .int x12)]) hx hb dL_law_141 hl (by decide) rfl (fun ls hl => ?_)
    refine lv_iconst (v := 0) hx hb dL_law_143 (by decide) ?_
    refine lv_istore (lv' := [(16, .int 0), (14, .long r7), (13, .int 0), (0, .ref b), (1, .ref (ad 0)), (2, .ref qa), (3, .ref sa), (4, .int x4), (5, .int x5), (6, .int x6), (7, .int x7), (8, .int x8), (9, .int x9), (10, .int x10), (11, .int x11), (12, .int x12)]) hx hb dL_law_144 hl (by decide) rfl (fun ls hl => ?_)
    cases hf
    refine W.widen (k := cN0 + 1876) (n := sN0 + 11256) (by omega) (by omega) ?_
    exact kk _ _ _ hP hD hS (lv_sub hl [3, 4, 5, 6, 7, 8, 9, 10, 11, 12, 13, 14, 15, 2, 1, 0] rfl)
def f_op0 (x4 : Int32) (x5 : Int32) (x6 : Int32) (x7 : Int32) (x9 : Int32) (cT : Int32) (cO : Int32) (cQ : Nat → Int32) (oQ : Nat → Int32) : Option (Int32 × Int32 × Int32 × Int32 × Int32 × Int32 × (Nat → Int32) × (Nat → Int32)) :=
  (f_low (x9 >>> (5 &&& 31)) 70).bind fun r1 =>
  (f_K0 r1 cT cO cQ).bind fun (r3, cO_5, cQ_6) =>
  if r3 < 0 then
    some (x4, x5, x6, x7, r3, cO_5, cQ_6, oQ)
  else
    if r3 < 0 ∨ 4 ≤ r3.toNatClampNeg then none else
      some (x4, (x5 + 1), x6, x7, r3, cO_5, cQ_6, (upd oQ r3.toNatClampNeg r1))
set_option maxHeartbeats 8000000 in
set_option maxRecDepth 100000 in
theorem l_op0 {p : Program} {l : Launch} {e : Env} {s : State} {m : MethodId} {below : List Frame} {meth : Method} {c : Code} {Qm : State → Prop} {D : va_G} {A : Nat → Prop} {b LL : Nat} {xs : Nat → Int32} (ca : Nat → ClassId) (hst : l.stackTraces = false) (hx : p.tables.exec = Jvm.exec) (hb : c.code = cL_law) (hml : c.maxLocals = 21) (hown : s.vm.findClass RL = some m.cls) (hts : ∀ w ∈ WW, w.before #[Value.ref b] s = true) (hE : EE D ca SL0 s) (hA : ∀ q, s.heap.size ≤ q → A q) (hZ : ZZ A s s.heap) (hNC : NCE s) (hX : va_X b LL xs s s.heap) (hbl : b < s.heap.size) (hbA : ¬ A b) (ad : Nat → Nat) (bq qa sa : Nat) (nF : Int32) (nO : Nat → Int32) (nL : Nat → Int32) (nA : Nat → Int32) (nC : Nat → Int32) (nV : Nat → Int32) (nU : Nat → Int32) (nP : Nat → Int32) (nE : Int32) (bF : Int32) (bO : Nat → Int32) (bL : Nat → Int32) (bA : Nat → Int32) (bC : Nat → Int32) (bV : Nat → Int32) (bU : Nat → Int32) (bP : Nat → Int32) (bE : Int32) (cT : Int32) (cK : Nat → Int32) (cO : Int32) (cQ : Nat → Int32) (cD : Int32) (pT : Int32) (pK : Int32) (pR : Nat → Int32) (pW : Nat → Int32) (pU : Nat → Int32) (pI : Nat → Int32) (pC : Nat → Nat → Int32) (uO : Int32) (uF : Nat → Int32) (uE : Nat → Int32) (uN : Nat → Int32) (wK : Nat → Int32) (jM : Int32) (jN : Int32) (jZ : Nat) (jB : Nat → Int32) (oQ : Nat → Int32) (oS : Nat → Int32) (R : va_W) (x4 : Int32) (x5 : Int32) (x6 : Int32) (x7 : Int32) (x8 : Int32) (x9 : Int32) (x10 : Int32) (x11 : Int32) (x12 : Int32) (x13 : Int32) (x14 : Int64) (x16 : Int32) (cN0 sN0 : Nat) (hcN : cN0 + 3 ≤ 1200390) (hsN : sN0 + 18 ≤ 5489120) (y4 : Int32) (y5 : Int32) (y6 : Int32) (y7 : Int32) (y16 : Int32) (ocO : Int32) (ocQ : Nat → Int32) (ooQ : Nat → Int32) (hf : f_op0 x4 x5 x6 x7 x9 cT cO cQ oQ = some (y4, y5, y6, y7, y16, ocO, ocQ, ooQ)) {H : Heap} {locs : List Loc} {ls : Array Slot} (hP : va_P D vwCl (WC ca ad bq nF nO nL nA nC nV nU nP nE bF bO bL bA bC bV bU bP bE cT cK cO cQ cD pT pK pR pW pU pI pC uO uF uE uN wK jM jN jZ jB ++ (WO ca qa sa oQ oS ++ R)) H) (hD : va_D A (WC ca ad bq nF nO nL nA nC nV nU nP nE bF bO bL bA bC bV bU bP bE cT cK cO cQ cD pT pK pR pW pU pI pC uO uF uE uN wK jM jN jZ jB ++ (WO ca qa sa oQ oS ++ R))) (hS : va_S A s.heap H locs) (hl : lv_has ls 21 [(0, .ref b), (1, .ref (ad 0)), (2, .ref qa), (3, .ref sa), (4, .int x4), (5, .int x5), (6, .int x6), (7, .int x7), (8, .int x8), (9, .int x9), (10, .int x10), (11, .int x11), (12, .int x12), (13, .int x13), (14, .long x14), (16, .int x16)]) (kk : ∀ (H : Heap) (locs : List Loc) (ls : Array Slot), va_P D vwCl (WC ca ad bq nF nO nL nA nC nV nU nP nE bF bO bL bA bC bV bU bP bE cT cK ocO ocQ cD pT pK pR pW pU pI pC uO uF uE uN wK jM jN jZ jB ++ (WO ca qa sa ooQ oS ++ R)) H → va_D A (WC ca ad bq nF nO nL nA nC nV nU nP nE bF bO bL bA bC bV bU bP bE cT cK ocO ocQ cD pT pK pR pW pU pI pC uO uF uE uN wK jM jN jZ jB ++ (WO ca qa sa ooQ oS ++ R)) → va_S A s.heap H locs → lv_has ls 21 [(0, .ref b), (1, .ref (ad 0)), (2, .ref qa), (3, .ref sa), (4, .int y4), (5, .int y5), (6, .int y6), (7, .int y7), (8, .int x8), (14, .long x14), (16, .int y16)] → W p l e room_1 s m #[Value.ref b] below meth c H locs (cN0 + 3) (sN0 + 18) Qm (F0 m 984 ls [])) : W p l e room_1 s m #[Value.ref b] below meth c H locs cN0 sN0 Qm (F0 m 151 ls []) := by
  have hK := hE.1
  unfold f_op0 at hf
  change W p l e room_1 s m #[Value.ref b] below meth c H locs (cN0 + 0) (sN0 + 0) Qm (F0 m 151 ls [])
  refine lv_iload hx hb dL_law_151 (lv_at hl 9 rfl) ?_
  refine lv_iconst (v := 5) hx hb dL_law_153 (by decide) ?_
  refine lv_ishr hx hb dL_law_154 ?_
  refine lv_bipush (v := 70) hx hb dL_law_155 (by decide) ?_
  obtain ⟨r1, h2, hf⟩ := bnd hf
  refine call_si (rest := []) (m_low l ca (WC ca ad bq nF nO nL nA nC nV nU nP nE bF bO bL bA bC bV bU bP bE cT cK cO cQ cD pT pK pR pW pU pI pC uO uF uE uN wK jM jN jZ jB ++ (WO ca qa sa oQ oS ++ R)) _ (x9 >>> (5 &&& 31)) 70 r1 h2) ⟨hx, hb, hml, hown, hts⟩ (va_cwS 2 hts (gS q247 q248 q23 q249) rfl rfl rfl (by decide +kernel) ⟨Nat.le_of_ble_eq_true rfl, Nat.le_of_ble_eq_true rfl⟩) hE hP hD hS hA rfl hl.1 rfl (lv_room (Nat.le_of_ble_eq_true rfl)) dL_law_157 ⟨by show _ ≤ 1200390; omega, by show _ ≤ 5489120; omega⟩ (fun H locs hP hD hS => ?_)
  refine lv_istore (lv' := [(17, .int r1), (0, .ref b), (1, .ref (ad 0)), (2, .ref qa), (3, .ref sa), (4, .int x4), (5, .int x5), (6, .int x6), (7, .int x7), (8, .int x8), (9, .int x9), (10, .int x10), (11, .int x11), (12, .int x12), (13, .int x13), (14, .long x14), (16, .int x16)]) hx hb dL_law_160 hl (by decide) rfl (fun ls hl => ?_)
  refine lv_aload_n hx hb dL_law_162 rfl (lv_at hl 2 rfl) ?_
  refine lv_iconst (v := 0) hx hb dL_law_163 (by decide) ?_
  refine lv_iload hx hb dL_law_164 (lv_at hl 0 rfl) ?_
  refine lv_iconst (v := 0) hx hb dL_law_166 (by decide) ?_
  refine lv_iconst (v := 0) hx hb dL_law_167 (by decide) ?_
  obtain ⟨⟨r3, cO_5, cQ_6⟩, h4, hf⟩ := bnd hf
  refine cl_wi (rest := []) (m_K0 l hst ca ad bq nF nO nL nA nC nV nU nP nE bF bO bL bA bC bV bU bP bE cT cK cO cQ cD pT pK pR pW pU pI pC uO uF uE uN wK jM jN jZ jB (WO ca qa sa oQ oS ++ R) _ r1 0 0 r3 cO_5 cQ_6 h4) ⟨hx, hb, hml, hown, hts⟩ (vx_cwSW 5 hts (gSW q251 q252 q23 q253) rfl rfl rfl (by decide +kernel) ⟨Nat.le_of_ble_eq_true rfl, Nat.le_of_ble_eq_true rfl⟩) hE hP hD hS hA hZ hNC rfl hl.1 rfl (lv_room (Nat.le_of_ble_eq_true rfl)) dL_law_168 ⟨by show _ ≤ 1200390; omega, by show _ ≤ 5489120; omega⟩ (fun H locs hP hD hS => ?_)
  refine lv_istore (lv' := [(16, .int r3), (17, .int r1), (0, .ref b), (1, .ref (ad 0)), (2, .ref qa), (3, .ref sa), (4, .int x4), (5, .int x5), (6, .int x6), (7, .int x7), (8, .int x8), (9, .int x9), (10, .int x10), (11, .int x11), (12, .int x12), (13, .int x13), (14, .long x14)]) hx hb dL_law_171 hl (by decide) rfl (fun ls hl => ?_)
  refine lv_iload hx hb dL_law_173 (lv_at hl 0 rfl) ?_
  refine lv_if_lt (tgt := 187) hx hb dL_law_175 (by decide) (fun c7 => ?_) (fun c7 => ?_)
  · have hf := br_pos c7 hf
    refine lv_goto (tgt := 984) hx hb dL_law_187 (by decide) ?_
    cases hf
    refine W.widen (k := cN0 + 3) (n := sN0 + 18) (by omega) (by omega) ?_
    exact kk _ _ _ hP hD hS (lv_sub hl [2, 3, 4, 5, 6, 7, 8, 9, 10, 16, 0] rfl)
  · have hf := br_neg c7 hf
    refine lv_aload_n hx hb dL_law_178 rfl (lv_at hl 4 rfl) ?_
    refine lv_iload hx hb dL_law_179 (lv_at hl 0 rfl) ?_
    refine lv_iload hx hb dL_law_181 (lv_at hl 1 rfl) ?_
    obtain ⟨k8, hf⟩ := ck_not hf
    refine va_iast (D := D) hx hb hK hP hD hS 40 0 rfl rfl k8 dL_law_183 (fun H locs hP hD hS => ?_)
    have hP : va_P D vwCl (WC ca ad bq nF nO nL nA nC nV nU nP nE bF bO bL bA bC bV bU bP bE cT cK cO_5 cQ_6 cD pT pK pR pW pU pI pC uO uF uE uN wK jM jN jZ jB ++ (WO ca qa sa (upd oQ r3.toNatClampNeg r1) oS ++ R)) H := hP
    have hD : va_D A (WC ca ad bq nF nO nL nA nC nV nU nP nE bF bO bL bA bC bV bU bP bE cT cK cO_5 cQ_6 cD pT pK pR pW pU pI pC uO uF uE uN wK jM jN jZ jB ++ (WO ca qa sa (upd oQ r3.toNatClampNeg r1) oS ++ R)) := hD
    refine lv_iinc (v := (x5 + 1)) (lv' := [(5, .int (x5 + 1)), (16, .int r3), (17, .int r1), (0, .ref b), (1, .ref (ad 0)), (2, .ref qa), (3, .ref sa), (4, .int x4), (6, .int x6), (7, .int x7), (8, .int x8), (9, .int x9), (10, .int x10), (11, .int x11), (12, .int x12), (13, .int x13), (14, .long x14)]) hx hb dL_law_184 hl (k := 7) rfl rfl (by decide) rfl (fun ls hl => ?_)
    refine lv_goto (tgt := 984) hx hb dL_law_187 (by decide) ?_
    cases hf
    refine W.widen (k := cN0 + 3) (n := sN0 + 18) (by omega) (by omega) ?_
    exact kk _ _ _ hP hD hS (lv_sub hl [3, 4, 5, 6, 7, 0, 8, 9, 10, 16, 1] rfl)
def f_op1 (x4 : Int32) (x5 : Int32) (x6 : Int32) (x7 : Int32) (x11 : Int32) (nF : Int32) (nO : Nat → Int32) (nL : Nat → Int32) (nA : Nat → Int32) (nC : Nat → Int32) (nE : Int32) (cK : Nat → Int32) (cO : Int32) : Option (Int32 × Int32 × Int32 × Int32 × Int32 × Int32 × (Nat → Int32) × (Nat → Int32) × (Nat → Int32) × Int32 × (Nat → Int32)) :=
  (f_K1 x11 nF nO nL nA nE cK cO).bind fun (r1, nF_3, nO_4, nL_5, nA_6, nE_7, cK_8) =>
  if r1 < 0 then
    some (x4, x5, x6, x7, r1, nF_3, nO_4, nL_5, nA_6, nE_7, cK_8)
  else
    (f_K3 r1 nF_3 nL_5).bind fun r10 =>
    if r10 = 1 then
      (f_K10 r1 nF_3 nC).bind fun r13 =>
      if r13 = 0 then
        some (x4, x5, x6, x7, r1, nF_3, nO_4, nL_5, nA_6, nE_7, cK_8)
      else
        none
    else
      none
set_option maxHeartbeats 8000000 in
set_option maxRecDepth 100000 in
theorem l_op1 {p : Program} {l : Launch} {e : Env} {s : State} {m : MethodId} {below : List Frame} {meth : Method} {c : Code} {Qm : State → Prop} {D : va_G} {A : Nat → Prop} {b LL : Nat} {xs : Nat → Int32} (ca : Nat → ClassId) (hst : l.stackTraces = false) (hx : p.tables.exec = Jvm.exec) (hb : c.code = cL_law) (hml : c.maxLocals = 21) (hown : s.vm.findClass RL = some m.cls) (hts : ∀ w ∈ WW, w.before #[Value.ref b] s = true) (hE : EE D ca SL0 s) (hA : ∀ q, s.heap.size ≤ q → A q) (hZ : ZZ A s s.heap) (hNC : NCE s) (hX : va_X b LL xs s s.heap) (hbl : b < s.heap.size) (hbA : ¬ A b) (ad : Nat → Nat) (bq qa sa : Nat) (nF : Int32) (nO : Nat → Int32) (nL : Nat → Int32) (nA : Nat → Int32) (nC : Nat → Int32) (nV : Nat → Int32) (nU : Nat → Int32) (nP : Nat → Int32) (nE : Int32) (bF : Int32) (bO : Nat → Int32) (bL : Nat → Int32) (bA : Nat → Int32) (bC : Nat → Int32) (bV : Nat → Int32) (bU : Nat → Int32) (bP : Nat → Int32) (bE : Int32) (cT : Int32) (cK : Nat → Int32) (cO : Int32) (cQ : Nat → Int32) (cD : Int32) (pT : Int32) (pK : Int32) (pR : Nat → Int32) (pW : Nat → Int32) (pU : Nat → Int32) (pI : Nat → Int32) (pC : Nat → Nat → Int32) (uO : Int32) (uF : Nat → Int32) (uE : Nat → Int32) (uN : Nat → Int32) (wK : Nat → Int32) (jM : Int32) (jN : Int32) (jZ : Nat) (jB : Nat → Int32) (oQ : Nat → Int32) (oS : Nat → Int32) (R : va_W) (x4 : Int32) (x5 : Int32) (x6 : Int32) (x7 : Int32) (x8 : Int32) (x9 : Int32) (x10 : Int32) (x11 : Int32) (x12 : Int32) (x13 : Int32) (x14 : Int64) (x16 : Int32) (cN0 sN0 : Nat) (hcN : cN0 + 4 ≤ 1200390) (hsN : sN0 + 24 ≤ 5489120) (y4 : Int32) (y5 : Int32) (y6 : Int32) (y7 : Int32) (y16 : Int32) (onF : Int32) (onO : Nat → Int32) (onL : Nat → Int32) (onA : Nat → Int32) (onE : Int32) (ocK : Nat → Int32) (hf : f_op1 x4 x5 x6 x7 x11 nF nO nL nA nC nE cK cO = some (y4, y5, y6, y7, y16, onF, onO, onL, onA, onE, ocK)) {H : Heap} {locs : List Loc} {ls : Array Slot} (hP : va_P D vwCl (WC ca ad bq nF nO nL nA nC nV nU nP nE bF bO bL bA bC bV bU bP bE cT cK cO cQ cD pT pK pR pW pU pI pC uO uF uE uN wK jM jN jZ jB ++ (WO ca qa sa oQ oS ++ R)) H) (hD : va_D A (WC ca ad bq nF nO nL nA nC nV nU nP nE bF bO bL bA bC bV bU bP bE cT cK cO cQ cD pT pK pR pW pU pI pC uO uF uE uN wK jM jN jZ jB ++ (WO ca qa sa oQ oS ++ R))) (hS : va_S A s.heap H locs) (hl : lv_has ls 21 [(0, .ref b), (1, .ref (ad 0)), (2, .ref qa), (3, .ref sa), (4, .int x4), (5, .int x5), (6, .int x6), (7, .int x7), (8, .int x8), (9, .int x9), (10, .int x10), (11, .int x11), (12, .int x12), (13, .int x13), (14, .long x14), (16, .int x16)]) (kk : ∀ (H : Heap) (locs : List Loc) (ls : Array Slot), va_P D vwCl (WC ca ad bq onF onO onL onA nC nV nU nP onE bF bO bL bA bC bV bU bP bE cT ocK cO cQ cD pT pK pR pW pU pI pC uO uF uE uN wK jM jN jZ jB ++ (WO ca qa sa oQ oS ++ R)) H → va_D A (WC ca ad bq onF onO onL onA nC nV nU nP onE bF bO bL bA bC bV bU bP bE cT ocK cO cQ cD pT pK pR pW pU pI pC uO uF uE uN wK jM jN jZ jB ++ (WO ca qa sa oQ oS ++ R)) → va_S A s.heap H locs → lv_has ls 21 [(0, .ref b), (1, .ref (ad 0)), (2, .ref qa), (3, .ref sa), (4, .int y4), (5, .int y5), (6, .int y6), (7, .int y7), (8, .int x8), (14, .long x14), (16, .int y16)] → W p l e room_1 s m #[Value.ref b] below meth c H locs (cN0 + 4) (sN0 + 24) Qm (F0 m 984 ls [])) : W p l e room_1 s m #[Value.ref b] below meth c H locs cN0 sN0 Qm (F0 m 196 ls []) := by
  have hK := hE.1
  unfold f_op1 at hf
  change W p l e room_1 s m #[Value.ref b] below meth c H locs (cN0 + 0) (sN0 + 0) Qm (F0 m 196 ls [])
  refine lv_aload_n hx hb dL_law_196 rfl (lv_at hl 1 rfl) ?_
  refine lv_iconst (v := 1) hx hb dL_law_197 (by decide) ?_
  refine lv_iload hx hb dL_law_198 (lv_at hl 11 rfl) ?_
  refine lv_iconst (v := 0) hx hb dL_law_200 (by decide) ?_
  refine lv_iconst (v := 0) hx hb dL_law_201 (by decide) ?_
  obtain ⟨⟨r1, nF_3, nO_4, nL_5, nA_6, nE_7, cK_8⟩, h2, hf⟩ := bnd hf
  refine cl_wi (rest := []) (m_K1 l hst ca ad bq nF nO nL nA nC nV nU nP nE bF bO bL bA bC bV bU bP bE cT cK cO cQ cD pT pK pR pW pU pI pC uO uF uE uN wK jM jN jZ jB (WO ca qa sa oQ oS ++ R) _ x11 0 0 r1 nF_3 nO_4 nL_5 nA_6 nE_7 cK_8 h2) ⟨hx, hb, hml, hown, hts⟩ (vx_cwSW 5 hts (gSW q251 q252 q23 q253) rfl rfl rfl (by decide +kernel) ⟨Nat.le_of_ble_eq_true rfl, Nat.le_of_ble_eq_true rfl⟩) hE hP hD hS hA hZ hNC rfl hl.1 rfl (lv_room (Nat.le_of_ble_eq_true rfl)) dL_law_202 ⟨by show _ ≤ 1200390; omega, by show _ ≤ 5489120; omega⟩ (fun H locs hP hD hS => ?_)
  refine lv_istore (lv' := [(16, .int r1), (0, .ref b), (1, .ref (ad 0)), (2, .ref qa), (3, .ref sa), (4, .int x4), (5, .int x5), (6, .int x6), (7, .int x7), (8, .int x8), (9, .int x9), (10, .int x10), (11, .int x11), (12, .int x12), (13, .int x13), (14, .long x14)]) hx hb dL_law_205 hl (by decide) rfl (fun ls hl => ?_)
  refine lv_iload hx hb dL_law_207 (lv_at hl 0 rfl) ?_
  refine lv_if_lt (tgt := 984) hx hb dL_law_209 (by decide) (fun c9 => ?_) (fun c9 => ?_)
  · have hf := br_pos c9 hf
    cases hf
    refine W.widen (k := cN0 + 4) (n := sN0 + 24) (by omega) (by omega) ?_
    exact kk _ _ _ hP hD hS (lv_sub hl [1, 2, 3, 4, 5, 6, 7, 8, 9, 15, 0] rfl)
  · have hf := br_neg c9 hf
    refine lv_aload_n hx hb dL_law_212 rfl (lv_at hl 2 rfl) ?_
    refine lv_iconst (v := 3) hx hb dL_law_213 (by decide) ?_
    refine lv_iload hx hb dL_law_214 (lv_at hl 0 rfl) ?_
    refine lv_iconst (v := 0) hx hb dL_law_216 (by decide) ?_
    refine lv_iconst (v := 0) hx hb dL_law_217 (by decide) ?_
    obtain ⟨r10, h11, hf⟩ := bnd hf
    refine cl_wi (rest := []) (m_K3 l hst ca ad bq nF_3 nO_4 nL_5 nA_6 nC nV nU nP nE_7 bF bO bL bA bC bV bU bP bE cT cK_8 cO cQ cD pT pK pR pW pU pI pC uO uF uE uN wK jM jN jZ jB (WO ca qa sa oQ oS ++ R) _ r1 0 0 r10 h11) ⟨hx, hb, hml, hown, hts⟩ (vx_cwSW 5 hts (gSW q251 q252 q23 q253) rfl rfl rfl (by decide +kernel) ⟨Nat.le_of_ble_eq_true rfl, Nat.le_of_ble_eq_true rfl⟩) hE hP hD hS hA hZ hNC rfl hl.1 rfl (lv_room (Nat.le_of_ble_eq_true rfl)) dL_law_218 ⟨by show _ ≤ 1200390; omega, by show _ ≤ 5489120; omega⟩ (fun H locs hP hD hS => ?_)
    refine lv_iconst (v := 1) hx hb dL_law_221 (by decide) ?_
    refine lv_icmp_ne (tgt := 238) hx hb dL_law_222 (by decide) (fun c12 => ?_) (fun c12 => ?_)
    · have hf := br_neg c12 hf
      cases hf
    · have hf := br_pos c12 hf
      refine lv_aload_n hx hb dL_law_225 rfl (lv_at hl 2 rfl) ?_
      refine lv_bipush (v := 10) hx hb dL_law_226 (by decide) ?_
      refine lv_iload hx hb dL_law_228 (lv_at hl 0 rfl) ?_
      refine lv_iconst (v := 0) hx hb dL_law_230 (by decide) ?_
      refine lv_iconst (v := 0) hx hb dL_law_231 (by decide) ?_
      obtain ⟨r13, h14, hf⟩ := bnd hf
      refine cl_wi (rest := []) (m_K10 l hst ca ad bq nF_3 nO_4 nL_5 nA_6 nC nV nU nP nE_7 bF bO bL bA bC bV bU bP bE cT cK_8 cO cQ cD pT pK pR pW pU pI pC uO uF uE uN wK jM jN jZ jB (WO ca qa sa oQ oS ++ R) _ r1 0 0 r13 h14) ⟨hx, hb, hml, hown, hts⟩ (vx_cwSW 5 hts (gSW q251 q252 q23 q253) rfl rfl rfl (by decide +kernel) ⟨Nat.le_of_ble_eq_true rfl, Nat.le_of_ble_eq_true rfl⟩) hE hP hD hS hA hZ hNC rfl hl.1 rfl (lv_room (Nat.le_of_ble_eq_true rfl)) dL_law_232 ⟨by show _ ≤ 1200390; omega, by show _ ≤ 5489120; omega⟩ (fun H locs hP hD hS => ?_)
      refine lv_if_eq (tgt := 984) hx hb dL_law_235 (by decide) (fun c15 => ?_) (fun c15 => ?_)
      · have hf := br_pos c15 hf
        cases hf
        refine W.widen (k := cN0 + 4) (n := sN0 + 24) (by omega) (by omega) ?_
        exact kk _ _ _ hP hD hS (lv_sub hl [1, 2, 3, 4, 5, 6, 7, 8, 9, 15, 0] rfl)
      · have hf := br_neg c15 hf
        cases hf
def f_op6 (x4 : Int32) (x5 : Int32) (x6 : Int32) (x7 : Int32) (x9 : Int32) (x10 : Int32) (x12 : Int32) (nF : Int32) (nO : Nat → Int32) (nL : Nat → Int32) (nC : Nat → Int32) (nV : Nat → Int32) (nU : Nat → Int32) (nP : Nat → Int32) (nE : Int32) (cK : Nat → Int32) (cO : Int32) (cQ : Nat → Int32) : Option (Int32 × Int32 × Int32 × Int32 × Int32 × (Nat → Int32) × (Nat → Int32) × (Nat → Int32) × (Nat → Int32) × Int32 × (Nat → Int32)) :=
  (f_low (x9 >>> (14 &&& 31)) 1010).bind fun r1 =>
  (f_K6 x10 x12 r1 nF nO nL nC nV nU nP nE cK cO cQ).bind fun (r3, nC_5, nV_6, nU_7, nP_8, nE_9, cK_10) =>
  if r3 < 0 then
    some (x4, x5, x6, x7, r3, nC_5, nV_6, nU_7, nP_8, nE_9, cK_10)
  else
    (f_K8 x10 x12 nF nC_5 nV_6).bind fun r12 =>
    if r12 = r1 then
      (f_K9 x10 x12 nF nC_5).bind fun r15 =>
      if r15 = r3 then
        (f_K12 r3 nU_7).bind fun r18 =>
        if r18 = 1 then
          some (x4, x5, x6, x7, r3, nC_5, nV_6, nU_7, nP_8, nE_9, cK_10)
        else
          none
      else
        none
    else
      none
set_option maxHeartbeats 8000000 in
set_option maxRecDepth 100000 in
theorem l_op6 {p : Program} {l : Launch} {e : Env} {s : State} {m : MethodId} {below : List Frame} {meth : Method} {c : Code} {Qm : State → Prop} {D : va_G} {A : Nat → Prop} {b LL : Nat} {xs : Nat → Int32} (ca : Nat → ClassId) (hst : l.stackTraces = false) (hx : p.tables.exec = Jvm.exec) (hb : c.code = cL_law) (hml : c.maxLocals = 21) (hown : s.vm.findClass RL = some m.cls) (hts : ∀ w ∈ WW, w.before #[Value.ref b] s = true) (hE : EE D ca SL0 s) (hA : ∀ q, s.heap.size ≤ q → A q) (hZ : ZZ A s s.heap) (hNC : NCE s) (hX : va_X b LL xs s s.heap) (hbl : b < s.heap.size) (hbA : ¬ A b) (ad : Nat → Nat) (bq qa sa : Nat) (nF : Int32) (nO : Nat → Int32) (nL : Nat → Int32) (nA : Nat → Int32) (nC : Nat → Int32) (nV : Nat → Int32) (nU : Nat → Int32) (nP : Nat → Int32) (nE : Int32) (bF : Int32) (bO : Nat → Int32) (bL : Nat → Int32) (bA : Nat → Int32) (bC : Nat → Int32) (bV : Nat → Int32) (bU : Nat → Int32) (bP : Nat → Int32) (bE : Int32) (cT : Int32) (cK : Nat → Int32) (cO : Int32) (cQ : Nat → Int32) (cD : Int32) (pT : Int32) (pK : Int32) (pR : Nat → Int32) (pW : Nat → Int32) (pU : Nat → Int32) (pI : Nat → Int32) (pC : Nat → Nat → Int32) (uO : Int32) (uF : Nat → Int32) (uE : Nat → Int32) (uN : Nat → Int32) (wK : Nat → Int32) (jM : Int32) (jN : Int32) (jZ : Nat) (jB : Nat → Int32) (oQ : Nat → Int32) (oS : Nat → Int32) (R : va_W) (x4 : Int32) (x5 : Int32) (x6 : Int32) (x7 : Int32) (x8 : Int32) (x9 : Int32) (x10 : Int32) (x11 : Int32) (x12 : Int32) (x13 : Int32) (x14 : Int64) (x16 : Int32) (cN0 sN0 : Nat) (hcN : cN0 + 12 ≤ 1200390) (hsN : sN0 + 72 ≤ 5489120) (y4 : Int32) (y5 : Int32) (y6 : Int32) (y7 : Int32) (y16 : Int32) (onC : Nat → Int32) (onV : Nat → Int32) (onU : Nat → Int32) (onP : Nat → Int32) (onE : Int32) (ocK : Nat → Int32) (hf : f_op6 x4 x5 x6 x7 x9 x10 x12 nF nO nL nC nV nU nP nE cK cO cQ = some (y4, y5, y6, y7, y16, onC, onV, onU, onP, onE, ocK)) {H : Heap} {locs : List Loc} {ls : Array Slot} (hP : va_P D vwCl (WC ca ad bq nF nO nL nA nC nV nU nP nE bF bO bL bA bC bV bU bP bE cT cK cO cQ cD pT pK pR pW pU pI pC uO uF uE uN wK jM jN jZ jB ++ (WO ca qa sa oQ oS ++ R)) H) (hD : va_D A (WC ca ad bq nF nO nL nA nC nV nU nP nE bF bO bL bA bC bV bU bP bE cT cK cO cQ cD pT pK pR pW pU pI pC uO uF uE uN wK jM jN jZ jB ++ (WO ca qa sa oQ oS ++ R))) (hS : va_S A s.heap H locs) (hl : lv_has ls 21 [(0, .ref b), (1, .ref (ad 0)), (2, .ref qa), (3, .ref sa), (4, .int x4), (5, .int x5), (6, .int x6), (7, .int x7), (8, .int x8), (9, .int x9), (10, .int x10), (11, .int x11), (12, .int x12), (13, .int x13), (14, .long x14), (16, .int x16)]) (kk : ∀ (H : Heap) (locs : List Loc) (ls : Array Slot), va_P D vwCl (WC ca ad bq nF nO nL nA onC onV onU onP onE bF bO bL bA bC bV bU bP bE cT ocK cO cQ cD pT pK pR pW pU pI pC uO uF uE uN wK jM jN jZ jB ++ (WO ca qa sa oQ oS ++ R)) H → va_D A (WC ca ad bq nF nO nL nA onC onV onU onP onE bF bO bL bA bC bV bU bP bE cT ocK cO cQ cD pT pK pR pW pU pI pC uO uF uE uN wK jM jN jZ jB ++ (WO ca qa sa oQ oS ++ R)) → va_S A s.heap H locs → lv_has ls 21 [(0, .ref b), (1, .ref (ad 0)), (2, .ref qa), (3, .ref sa), (4, .int y4), (5, .int y5), (6, .int y6), (7, .int y7), (8, .int x8), (14, .long x14), (16, .int y16)] → W p l e room_1 s m #[Value.ref b] below meth c H locs (cN0 + 12) (sN0 + 72) Qm (F0 m 984 ls [])) : W p l e room_1 s m #[Value.ref b] below meth c H locs cN0 sN0 Qm (F0 m 247 ls []) := by
  have hK := hE.1
  unfold f_op6 at hf
  change W p l e room_1 s m #[Value.ref b] below meth c H locs (cN0 + 0) (sN0 + 0) Qm (F0 m 247 ls [])
  refine lv_iload hx hb dL_law_247 (lv_at hl 9 rfl) ?_
  refine lv_bipush (v := 14) hx hb dL_law_249 (by decide) ?_
  refine lv_ishr hx hb dL_law_251 ?_
  refine lv_sipush (v := 1010) hx hb dL_law_252 (by decide) ?_
  obtain ⟨r1, h2, hf⟩ := bnd hf
  refine call_si (rest := []) (m_low l ca (WC ca ad bq nF nO nL nA nC nV nU nP nE bF bO bL bA bC bV bU bP bE cT cK cO cQ cD pT pK pR pW pU pI pC uO uF uE uN wK jM jN jZ jB ++ (WO ca qa sa oQ oS ++ R)) _ (x9 >>> (14 &&& 31)) 1010 r1 h2) ⟨hx, hb, hml, hown, hts⟩ (va_cwS 2 hts (gS q247 q248 q23 q249) rfl rfl rfl (by decide +kernel) ⟨Nat.le_of_ble_eq_true rfl, Nat.le_of_ble_eq_true rfl⟩) hE hP hD hS hA rfl hl.1 rfl (lv_room (Nat.le_of_ble_eq_true rfl)) dL_law_255 ⟨by show _ ≤ 1200390; omega, by show _ ≤ 5489120; omega⟩ (fun H locs hP hD hS => ?_)
  refine lv_istore (lv' := [(17, .int r1), (0, .ref b), (1, .ref (ad 0)), (2, .ref qa), (3, .ref sa), (4, .int x4), (5, .int x5), (6, .int x6), (7, .int x7), (8, .int x8), (9, .int x9), (10, .int x10), (11, .int x11), (12, .int x12), (13, .int x13), (14, .long x14), (16, .int x16)]) hx hb dL_law_258 hl (by decide) rfl (fun ls hl => ?_)
  refine lv_aload_n hx hb dL_law_260 rfl (lv_at hl 2 rfl) ?_
  refine lv_bipush (v := 6) hx hb dL_law_261 (by decide) ?_
  refine lv_iload hx hb dL_law_263 (lv_at hl 11 rfl) ?_
  refine lv_iload hx hb dL_law_265 (lv_at hl 13 rfl) ?_
  refine lv_iload hx hb dL_law_267 (lv_at hl 0 rfl) ?_
  obtain ⟨⟨r3, nC_5, nV_6, nU_7, nP_8, nE_9, cK_10⟩, h4, hf⟩ := bnd hf
  refine cl_wi (rest := []) (m_K6 l hst ca ad bq nF nO nL nA nC nV nU nP nE bF bO bL bA bC bV bU bP bE cT cK cO cQ cD pT pK pR pW pU pI pC uO uF uE uN wK jM jN jZ jB (WO ca qa sa oQ oS ++ R) _ x10 x12 r1 r3 nC_5 nV_6 nU_7 nP_8 nE_9 cK_10 h4) ⟨hx, hb, hml, hown, hts⟩ (vx_cwSW 5 hts (gSW q251 q252 q23 q253) rfl rfl rfl (by decide +kernel) ⟨Nat.le_of_ble_eq_true rfl, Nat.le_of_ble_eq_true rfl⟩) hE hP hD hS hA hZ hNC rfl hl.1 rfl (lv_room (Nat.le_of_ble_eq_true rfl)) dL_law_269 ⟨by show _ ≤ 1200390; omega, by show _ ≤ 5489120; omega⟩ (fun H locs hP hD hS => ?_)
  refine lv_istore (lv' := [(16, .int r3), (17, .int r1), (0, .ref b), (1, .ref (ad 0)), (2, .ref qa), (3, .ref sa), (4, .int x4), (5, .int x5), (6, .int x6), (7, .int x7), (8, .int x8), (9, .int x9), (10, .int x10), (11, .int x11), (12, .int x12), (13, .int x13), (14, .long x14)]) hx hb dL_law_272 hl (by decide) rfl (fun ls hl => ?_)
  refine lv_iload hx hb dL_law_274 (lv_at hl 0 rfl) ?_
  refine lv_if_lt (tgt := 327) hx hb dL_law_276 (by decide) (fun c11 => ?_) (fun c11 => ?_)
  · have hf := br_pos c11 hf
    refine lv_goto (tgt := 984) hx hb dL_law_327 (by decide) ?_
    cases hf
    refine W.widen (k := cN0 + 12) (n := sN0 + 72) (by omega) (by omega) ?_
    exact kk _ _ _ hP hD hS (lv_sub hl [2, 3, 4, 5, 6, 7, 8, 9, 10, 16, 0] rfl)
  · have hf := br_neg c11 hf
    refine lv_aload_n hx hb dL_law_279 rfl (lv_at hl 3 rfl) ?_
    refine lv_bipush (v := 8) hx hb dL_law_280 (by decide) ?_
    refine lv_iload hx hb dL_law_282 (lv_at hl 12 rfl) ?_
    refine lv_iload hx hb dL_law_284 (lv_at hl 14 rfl) ?_
    refine lv_iconst (v := 0) hx hb dL_law_286 (by decide) ?_
    obtain ⟨r12, h13, hf⟩ := bnd hf
    refine cl_wi (rest := []) (m_K8 l hst ca ad bq nF nO nL nA nC_5 nV_6 nU_7 nP_8 nE_9 bF bO bL bA bC bV bU bP bE cT cK_10 cO cQ cD pT pK pR pW pU pI pC uO uF uE uN wK jM jN jZ jB (WO ca qa sa oQ oS ++ R) _ x10 x12 0 r12 h13) ⟨hx, hb, hml, hown, hts⟩ (vx_cwSW 5 hts (gSW q251 q252 q23 q253) rfl rfl rfl (by decide +kernel) ⟨Nat.le_of_ble_eq_true rfl, Nat.le_of_ble_eq_true rfl⟩) hE hP hD hS hA hZ hNC rfl hl.1 rfl (lv_room (Nat.le_of_ble_eq_true rfl)) dL_law_287 ⟨by show _ ≤ 1200390; omega, by show _ ≤ 5489120; omega⟩ (fun H locs hP hD hS => ?_)
    refine lv_iload hx hb dL_law_290 (lv_at hl 1 rfl) ?_
    refine lv_icmp_ne (tgt := 325) hx hb dL_law_292 (by decide) (fun c14 => ?_) (fun c14 => ?_)
    · have hf := br_neg c14 hf
      cases hf
    · have hf := br_pos c14 hf
      refine lv_aload_n hx hb dL_law_295 rfl (lv_at hl 3 rfl) ?_
      refine lv_bipush (v := 9) hx hb dL_law_296 (by decide) ?_
      refine lv_iload hx hb dL_law_298 (lv_at hl 12 rfl) ?_
      refine lv_iload hx hb dL_law_300 (lv_at hl 14 rfl) ?_
      refine lv_iconst (v := 0) hx hb dL_law_302 (by decide) ?_
      obtain ⟨r15, h16, hf⟩ := bnd hf
      refine cl_wi (rest := []) (m_K9 l hst ca ad bq nF nO nL nA nC_5 nV_6 nU_7 nP_8 nE_9 bF bO bL bA bC bV bU bP bE cT cK_10 cO cQ cD pT pK pR pW pU pI pC uO uF uE uN wK jM jN jZ jB (WO ca qa sa oQ oS ++ R) _ x10 x12 0 r15 h16) ⟨hx, hb, hml, hown, hts⟩ (vx_cwSW 5 hts (gSW q251 q252 q23 q253) rfl rfl rfl (by decide +kernel) ⟨Nat.le_of_ble_eq_true rfl, Nat.le_of_ble_eq_true rfl⟩) hE hP hD hS hA hZ hNC rfl hl.1 rfl (lv_room (Nat.le_of_ble_eq_true rfl)) dL_law_303 ⟨by show _ ≤ 1200390; omega, by show _ ≤ 5489120; omega⟩ (fun H locs hP hD hS => ?_)
      refine lv_iload hx hb dL_law_306 (lv_at hl 0 rfl) ?_
      refine lv_icmp_ne (tgt := 325) hx hb dL_law_308 (by decide) (fun c17 => ?_) (fun c17 => ?_)
      · have hf := br_neg c17 hf
        cases hf
      · have hf := br_pos c17 hf
        refine lv_aload_n hx hb dL_law_311 rfl (lv_at hl 3 rfl) ?_
        refine lv_bipush (v := 12) hx hb dL_law_312 (by decide) ?_
        refine lv_iload hx hb dL_law_314 (lv_at hl 0 rfl) ?_
        refine lv_iconst (v := 0) hx hb dL_law_316 (by decide) ?_
        refine lv_iconst (v := 0) hx hb dL_law_317 (by decide) ?_
        obtain ⟨r18, h19, hf⟩ := bnd hf
        refine cl_wi (rest := []) (m_K12 l hst ca ad bq nF nO nL nA nC_5 nV_6 nU_7 nP_8 nE_9 bF bO bL bA bC bV bU bP bE cT cK_10 cO cQ cD pT pK pR pW pU pI pC uO uF uE uN wK jM jN jZ jB (WO ca qa sa oQ oS ++ R) _ r3 0 0 r18 h19) ⟨hx, hb, hml, hown, hts⟩ (vx_cwSW 5 hts (gSW q251 q252 q23 q253) rfl rfl rfl (by decide +kernel) ⟨Nat.le_of_ble_eq_true rfl, Nat.le_of_ble_eq_true rfl⟩) hE hP hD hS hA hZ hNC rfl hl.1 rfl (lv_room (Nat.le_of_ble_eq_true rfl)) dL_law_318 ⟨by show _ ≤ 1200390; omega, by show _ ≤ 5489120; omega⟩ (fun H locs hP hD hS => ?_)
        refine lv_iconst (v := 1) hx hb dL_law_321 (by decide) ?_
        refine lv_icmp_eq (tgt := 327) hx hb dL_law_322 (by decide) (fun c20 => ?_) (fun c20 => ?_)
        · have hf := br_pos c20 hf
          refine lv_goto (tgt := 984) hx hb dL_law_327 (by decide) ?_
          cases hf
          refine W.widen (k := cN0 + 12) (n := sN0 + 72) (by omega) (by omega) ?_
          exact kk _ _ _ hP hD hS (lv_sub hl [2, 3, 4, 5, 6, 7, 8, 9, 10, 16, 0] rfl)
        · have hf := br_neg c20 hf
          cases hf
def f_op7 (x4 : Int32) (x5 : Int32) (x6 : Int32) (x7 : Int32) (x10 : Int32) (x12 : Int32) (nF : Int32) (nL : Nat → Int32) (nC : Nat → Int32) (nV : Nat → Int32) (nU : Nat → Int32) (nE : Int32) (cK : Nat → Int32) : Option (Int32 × Int32 × Int32 × Int32 × Int32 × (Nat → Int32) × (Nat → Int32) × Int32 × (Nat → Int32)) :=
  (f_K7 x10 x12 nF nL nC nU nE cK).bind fun (r1, nC_3, nU_4, nE_5, cK_6) =>
  if r1 < 0 then
    some (x4, x5, x6, x7, r1, nC_3, nU_4, nE_5, cK_6)
  else
    (f_K8 x10 x12 nF nC_3 nV).bind fun r8 =>
    if r8 = (-1005) then
      some (x4, x5, x6, x7, r1, nC_3, nU_4, nE_5, cK_6)
    else
      none
set_option maxHeartbeats 8000000 in
set_option maxRecDepth 100000 in
theorem l_op7 {p : Program} {l : Launch} {e : Env} {s : State} {m : MethodId} {below : List Frame} {meth : Method} {c : Code} {Qm : State → Prop} {D : va_G} {A : Nat → Prop} {b LL : Nat} {xs : Nat → Int32} (ca : Nat → ClassId) (hst : l.stackTraces = false) (hx : p.tables.exec = Jvm.exec) (hb : c.code = cL_law) (hml : c.maxLocals = 21) (hown : s.vm.findClass RL = some m.cls) (hts : ∀ w ∈ WW, w.before #[Value.ref b] s = true) (hE : EE D ca SL0 s) (hA : ∀ q, s.heap.size ≤ q → A q) (hZ : ZZ A s s.heap) (hNC : NCE s) (hX : va_X b LL xs s s.heap) (hbl : b < s.heap.size) (hbA : ¬ A b) (ad : Nat → Nat) (bq qa sa : Nat) (nF : Int32) (nO : Nat → Int32) (nL : Nat → Int32) (nA : Nat → Int32) (nC : Nat → Int32) (nV : Nat → Int32) (nU : Nat → Int32) (nP : Nat → Int32) (nE : Int32) (bF : Int32) (bO : Nat → Int32) (bL : Nat → Int32) (bA : Nat → Int32) (bC : Nat → Int32) (bV : Nat → Int32) (bU : Nat → Int32) (bP : Nat → Int32) (bE : Int32) (cT : Int32) (cK : Nat → Int32) (cO : Int32) (cQ : Nat → Int32) (cD : Int32) (pT : Int32) (pK : Int32) (pR : Nat → Int32) (pW : Nat → Int32) (pU : Nat → Int32) (pI : Nat → Int32) (pC : Nat → Nat → Int32) (uO : Int32) (uF : Nat → Int32) (uE : Nat → Int32) (uN : Nat → Int32) (wK : Nat → Int32) (jM : Int32) (jN : Int32) (jZ : Nat) (jB : Nat → Int32) (oQ : Nat → Int32) (oS : Nat → Int32) (R : va_W) (x4 : Int32) (x5 : Int32) (x6 : Int32) (x7 : Int32) (x8 : Int32) (x9 : Int32) (x10 : Int32) (x11 : Int32) (x12 : Int32) (x13 : Int32) (x14 : Int64) (x16 : Int32) (cN0 sN0 : Nat) (hcN : cN0 + 7 ≤ 1200390) (hsN : sN0 + 42 ≤ 5489120) (y4 : Int32) (y5 : Int32) (y6 : Int32) (y7 : Int32) (y16 : Int32) (onC : Nat → Int32) (onU : Nat → Int32) (onE : Int32) (ocK : Nat → Int32) (hf : f_op7 x4 x5 x6 x7 x10 x12 nF nL nC nV nU nE cK = some (y4, y5, y6, y7, y16, onC, onU, onE, ocK)) {H : Heap} {locs : List Loc} {ls : Array Slot} (hP : va_P D vwCl (WC ca ad bq nF nO nL nA nC nV nU nP nE bF bO bL bA bC bV bU bP bE cT cK cO cQ cD pT pK pR pW pU pI pC uO uF uE uN wK jM jN jZ jB ++ (WO ca qa sa oQ oS ++ R)) H) (hD : va_D A (WC ca ad bq nF nO nL nA nC nV nU nP nE bF bO bL bA bC bV bU bP bE cT cK cO cQ cD pT pK pR pW pU pI pC uO uF uE uN wK jM jN jZ jB ++ (WO ca qa sa oQ oS ++ R))) (hS : va_S A s.heap H locs) (hl : lv_has ls 21 [(0, .ref b), (1, .ref (ad 0)), (2, .ref qa), (3, .ref sa), (4, .int x4), (5, .int x5), (6, .int x6), (7, .int x7), (8, .int x8), (9, .int x9), (10, .int x10), (11, .int x11), (12, .int x12), (13, .int x13), (14, .long x14), (16, .int x16)]) (kk : ∀ (H : Heap) (locs : List Loc) (ls : Array Slot), va_P D vwCl (WC ca ad bq nF nO nL nA onC nV onU nP onE bF bO bL bA bC bV bU bP bE cT ocK cO cQ cD pT pK pR pW pU pI pC uO uF uE uN wK jM jN jZ jB ++ (WO ca qa sa oQ oS ++ R)) H → va_D A (WC ca ad bq nF nO nL nA onC nV onU nP onE bF bO bL bA bC bV bU bP bE cT ocK cO cQ cD pT pK pR pW pU pI pC uO uF uE uN wK jM jN jZ jB ++ (WO ca qa sa oQ oS ++ R)) → va_S A s.heap H locs → lv_has ls 21 [(0, .ref b), (1, .ref (ad 0)), (2, .ref qa), (3, .ref sa), (4, .int y4), (5, .int y5), (6, .int y6), (7, .int y7), (8, .int x8), (14, .long x14), (16, .int y16)] → W p l e room_1 s m #[Value.ref b] below meth c H locs (cN0 + 7) (sN0 + 42) Qm (F0 m 984 ls [])) : W p l e room_1 s m #[Value.ref b] below meth c H locs cN0 sN0 Qm (F0 m 337 ls []) := by
  have hK := hE.1
  unfold f_op7 at hf
  change W p l e room_1 s m #[Value.ref b] below meth c H locs (cN0 + 0) (sN0 + 0) Qm (F0 m 337 ls [])
  refine lv_aload_n hx hb dL_law_337 rfl (lv_at hl 1 rfl) ?_
  refine lv_bipush (v := 7) hx hb dL_law_338 (by decide) ?_
  refine lv_iload hx hb dL_law_340 (lv_at hl 10 rfl) ?_
  refine lv_iload hx hb dL_law_342 (lv_at hl 12 rfl) ?_
  refine lv_iconst (v := 0) hx hb dL_law_344 (by decide) ?_
  obtain ⟨⟨r1, nC_3, nU_4, nE_5, cK_6⟩, h2, hf⟩ := bnd hf
  refine cl_wi (rest := []) (m_K7 l hst ca ad bq nF nO nL nA nC nV nU nP nE bF bO bL bA bC bV bU bP bE cT cK cO cQ cD pT pK pR pW pU pI pC uO uF uE uN wK jM jN jZ jB (WO ca qa sa oQ oS ++ R) _ x10 x12 0 r1 nC_3 nU_4 nE_5 cK_6 h2) ⟨hx, hb, hml, hown, hts⟩ (vx_cwSW 5 hts (gSW q251 q252 q23 q253) rfl rfl rfl (by decide +kernel) ⟨Nat.le_of_ble_eq_true rfl, Nat.le_of_ble_eq_true rfl⟩) hE hP hD hS hA hZ hNC rfl hl.1 rfl (lv_room (Nat.le_of_ble_eq_true rfl)) dL_law_345 ⟨by show _ ≤ 1200390; omega, by show _ ≤ 5489120; omega⟩ (fun H locs hP hD hS => ?_)
  refine lv_istore (lv' := [(16, .int r1), (0, .ref b), (1, .ref (ad 0)), (2, .ref qa), (3, .ref sa), (4, .int x4), (5, .int x5), (6, .int x6), (7, .int x7), (8, .int x8), (9, .int x9), (10, .int x10), (11, .int x11), (12, .int x12), (13, .int x13), (14, .long x14)]) hx hb dL_law_348 hl (by decide) rfl (fun ls hl => ?_)
  refine lv_iload hx hb dL_law_350 (lv_at hl 0 rfl) ?_
  refine lv_if_lt (tgt := 984) hx hb dL_law_352 (by decide) (fun c7 => ?_) (fun c7 => ?_)
  · have hf := br_pos c7 hf
    cases hf
    refine W.widen (k := cN0 + 7) (n := sN0 + 42) (by omega) (by omega) ?_
    exact kk _ _ _ hP hD hS (lv_sub hl [1, 2, 3, 4, 5, 6, 7, 8, 9, 15, 0] rfl)
  · have hf := br_neg c7 hf
    refine lv_aload_n hx hb dL_law_355 rfl (lv_at hl 2 rfl) ?_
    refine lv_bipush (v := 8) hx hb dL_law_356 (by decide) ?_
    refine lv_iload hx hb dL_law_358 (lv_at hl 11 rfl) ?_
    refine lv_iload hx hb dL_law_360 (lv_at hl 13 rfl) ?_
    refine lv_iconst (v := 0) hx hb dL_law_362 (by decide) ?_
    obtain ⟨r8, h9, hf⟩ := bnd hf
    refine cl_wi (rest := []) (m_K8 l hst ca ad bq nF nO nL nA nC_3 nV nU_4 nP nE_5 bF bO bL bA bC bV bU bP bE cT cK_6 cO cQ cD pT pK pR pW pU pI pC uO uF uE uN wK jM jN jZ jB (WO ca qa sa oQ oS ++ R) _ x10 x12 0 r8 h9) ⟨hx, hb, hml, hown, hts⟩ (vx_cwSW 5 hts (gSW q251 q252 q23 q253) rfl rfl rfl (by decide +kernel) ⟨Nat.le_of_ble_eq_true rfl, Nat.le_of_ble_eq_true rfl⟩) hE hP hD hS hA hZ hNC rfl hl.1 rfl (lv_room (Nat.le_of_ble_eq_true rfl)) dL_law_363 ⟨by show _ ≤ 1200390; omega, by show _ ≤ 5489120; omega⟩ (fun H locs hP hD hS => ?_)
    refine lv_sipush (v := (-1005)) hx hb dL_law_366 (by decide) ?_
    refine lv_icmp_eq (tgt := 984) hx hb dL_law_369 (by decide) (fun c10 => ?_) (fun c10 => ?_)
    · have hf := br_pos c10 hf
      cases hf
      refine W.widen (k := cN0 + 7) (n := sN0 + 42) (by omega) (by omega) ?_
      exact kk _ _ _ hP hD hS (lv_sub hl [1, 2, 3, 4, 5, 6, 7, 8, 9, 15, 0] rfl)
    · have hf := br_neg c10 hf
      cases hf
def f_op4 (x4 : Int32) (x5 : Int32) (x6 : Int32) (x7 : Int32) (x10 : Int32) (nF : Int32) (nL : Nat → Int32) (nE : Int32) (cK : Nat → Int32) : Option (Int32 × Int32 × Int32 × Int32 × Int32 × (Nat → Int32) × Int32 × (Nat → Int32)) :=
  (f_K4 x10 nF nL nE cK).bind fun (r1, nL_3, nE_4, cK_5) =>
  some (x4, x5, x6, x7, r1, nL_3, nE_4, cK_5)
set_option maxHeartbeats 8000000 in
set_option maxRecDepth 100000 in
theorem l_op4 {p : Program} {l : Launch} {e : Env} {s : State} {m : MethodId} {below : List Frame} {meth : Method} {c : Code} {Qm : State → Prop} {D : va_G} {A : Nat → Prop} {b LL : Nat} {xs : Nat → Int32} (ca : Nat → ClassId) (hst : l.stackTraces = false) (hx : p.tables.exec = Jvm.exec) (hb : c.code = cL_law) (hml : c.maxLocals = 21) (hown : s.vm.findClass RL = some m.cls) (hts : ∀ w ∈ WW, w.before #[Value.ref b] s = true) (hE : EE D ca SL0 s) (hA : ∀ q, s.heap.size ≤ q → A q) (hZ : ZZ A s s.heap) (hNC : NCE s) (hX : va_X b LL xs s s.heap) (hbl : b < s.heap.size) (hbA : ¬ A b) (ad : Nat → Nat) (bq qa sa : Nat) (nF : Int32) (nO : Nat → Int32) (nL : Nat → Int32) (nA : Nat → Int32) (nC : Nat → Int32) (nV : Nat → Int32) (nU : Nat → Int32) (nP : Nat → Int32) (nE : Int32) (bF : Int32) (bO : Nat → Int32) (bL : Nat → Int32) (bA : Nat → Int32) (bC : Nat → Int32) (bV : Nat → Int32) (bU : Nat → Int32) (bP : Nat → Int32) (bE : Int32) (cT : Int32) (cK : Nat → Int32) (cO : Int32) (cQ : Nat → Int32) (cD : Int32) (pT : Int32) (pK : Int32) (pR : Nat → Int32) (pW : Nat → Int32) (pU : Nat → Int32) (pI : Nat → Int32) (pC : Nat → Nat → Int32) (uO : Int32) (uF : Nat → Int32) (uE : Nat → Int32) (uN : Nat → Int32) (wK : Nat → Int32) (jM : Int32) (jN : Int32) (jZ : Nat) (jB : Nat → Int32) (oQ : Nat → Int32) (oS : Nat → Int32) (R : va_W) (x4 : Int32) (x5 : Int32) (x6 : Int32) (x7 : Int32) (x8 : Int32) (x9 : Int32) (x10 : Int32) (x11 : Int32) (x12 : Int32) (x13 : Int32) (x14 : Int64) (x16 : Int32) (cN0 sN0 : Nat) (hcN : cN0 + 3 ≤ 1200390) (hsN : sN0 + 18 ≤ 5489120) (y4 : Int32) (y5 : Int32) (y6 : Int32) (y7 : Int32) (y16 : Int32) (onL : Nat → Int32) (onE : Int32) (ocK : Nat → Int32) (hf : f_op4 x4 x5 x6 x7 x10 nF nL nE cK = some (y4, y5, y6, y7, y16, onL, onE, ocK)) {H : Heap} {locs : List Loc} {ls : Array Slot} (hP : va_P D vwCl (WC ca ad bq nF nO nL nA nC nV nU nP nE bF bO bL bA bC bV bU bP bE cT cK cO cQ cD pT pK pR pW pU pI pC uO uF uE uN wK jM jN jZ jB ++ (WO ca qa sa oQ oS ++ R)) H) (hD : va_D A (WC ca ad bq nF nO nL nA nC nV nU nP nE bF bO bL bA bC bV bU bP bE cT cK cO cQ cD pT pK pR pW pU pI pC uO uF uE uN wK jM jN jZ jB ++ (WO ca qa sa oQ oS ++ R))) (hS : va_S A s.heap H locs) (hl : lv_has ls 21 [(0, .ref b), (1, .ref (ad 0)), (2, .ref qa), (3, .ref sa), (4, .int x4), (5, .int x5), (6, .int x6), (7, .int x7), (8, .int x8), (9, .int x9), (10, .int x10), (11, .int x11), (12, .int x12), (13, .int x13), (14, .long x14), (16, .int x16)]) (kk : ∀ (H : Heap) (locs : List Loc) (ls : Array Slot), va_P D vwCl (WC ca ad bq nF nO onL nA nC nV nU nP onE bF bO bL bA bC bV bU bP bE cT ocK cO cQ cD pT pK pR pW pU pI pC uO uF uE uN wK jM jN jZ jB ++ (WO ca qa sa oQ oS ++ R)) H → va_D A (WC ca ad bq nF nO onL nA nC nV nU nP onE bF bO bL bA bC bV bU bP bE cT ocK cO cQ cD pT pK pR pW pU pI pC uO uF uE uN wK jM jN jZ jB ++ (WO ca qa sa oQ oS ++ R)) → va_S A s.heap H locs → lv_has ls 21 [(0, .ref b), (1, .ref (ad 0)), (2, .ref qa), (3, .ref sa), (4, .int y4), (5, .int y5), (6, .int y6), (7, .int y7), (8, .int x8), (14, .long x14), (16, .int y16)] → W p l e room_1 s m #[Value.ref b] below meth c H locs (cN0 + 3) (sN0 + 18) Qm (F0 m 984 ls [])) : W p l e room_1 s m #[Value.ref b] below meth c H locs cN0 sN0 Qm (F0 m 381 ls []) := by
  have hK := hE.1
  unfold f_op4 at hf
  change W p l e room_1 s m #[Value.ref b] below meth c H locs (cN0 + 0) (sN0 + 0) Qm (F0 m 381 ls [])
  refine lv_aload_n hx hb dL_law_381 rfl (lv_at hl 1 rfl) ?_
  refine lv_iconst (v := 4) hx hb dL_law_382 (by decide) ?_
  refine lv_iload hx hb dL_law_383 (lv_at hl 10 rfl) ?_
  refine lv_iconst (v := 0) hx hb dL_law_385 (by decide) ?_
  refine lv_iconst (v := 0) hx hb dL_law_386 (by decide) ?_
  obtain ⟨⟨r1, nL_3, nE_4, cK_5⟩, h2, hf⟩ := bnd hf
  refine cl_wi (rest := []) (m_K4 l hst ca ad bq nF nO nL nA nC nV nU nP nE bF bO bL bA bC bV bU bP bE cT cK cO cQ cD pT pK pR pW pU pI pC uO uF uE uN wK jM jN jZ jB (WO ca qa sa oQ oS ++ R) _ x10 0 0 r1 nL_3 nE_4 cK_5 h2) ⟨hx, hb, hml, hown, hts⟩ (vx_cwSW 5 hts (gSW q251 q252 q23 q253) rfl rfl rfl (by decide +kernel) ⟨Nat.le_of_ble_eq_true rfl, Nat.le_of_ble_eq_true rfl⟩) hE hP hD hS hA hZ hNC rfl hl.1 rfl (lv_room (Nat.le_of_ble_eq_true rfl)) dL_law_387 ⟨by show _ ≤ 1200390; omega, by show _ ≤ 5489120; omega⟩ (fun H locs hP hD hS => ?_)
  refine lv_istore (lv' := [(16, .int r1), (0, .ref b), (1, .ref (ad 0)), (2, .ref qa), (3, .ref sa), (4, .int x4), (5, .int x5), (6, .int x6), (7, .int x7), (8, .int x8), (9, .int x9), (10, .int x10), (11, .int x11), (12, .int x12), (13, .int x13), (14, .long x14)]) hx hb dL_law_390 hl (by decide) rfl (fun ls hl => ?_)
  refine lv_goto (tgt := 984) hx hb dL_law_392 (by decide) ?_
  cases hf
  refine W.widen (k := cN0 + 3) (n := sN0 + 18) (by omega) (by omega) ?_
  exact kk _ _ _ hP hD hS (lv_sub hl [1, 2, 3, 4, 5, 6, 7, 8, 9, 15, 0] rfl)
def f_op5 (x4 : Int32) (x5 : Int32) (x6 : Int32) (x7 : Int32) (x10 : Int32) (nF : Int32) (nL : Nat → Int32) (nA : Nat → Int32) (nC : Nat → Int32) (nU : Nat → Int32) (nE : Int32) (cK : Nat → Int32) (uO : Int32) (uF : Nat → Int32) (uN : Nat → Int32) : Option (Int32 × Int32 × Int32 × Int32 × Int32 × (Nat → Int32) × (Nat → Int32) × (Nat → Int32) × (Nat → Int32) × Int32 × (Nat → Int32)) :=
  (f_K5 x10 nF nL nA nC nU nE cK uO uF uN).bind fun (r1, nL_3, nA_4, nC_5, nU_6, nE_7, cK_8) =>
  some (x4, x5, x6, x7, r1, nL_3, nA_4, nC_5, nU_6, nE_7, cK_8)
set_option maxHeartbeats 8000000 in
set_option maxRecDepth 100000 in
theorem l_op5 {p : Program} {l : Launch} {e : Env} {s : State} {m : MethodId} {below : List Frame} {meth : Method} {c : Code} {Qm : State → Prop} {D : va_G} {A : Nat → Prop} {b LL : Nat} {xs : Nat → Int32} (ca : Nat → ClassId) (hst : l.stackTraces = false) (hx : p.tables.exec = Jvm.exec) (hb : c.code = cL_law) (hml : c.maxLocals = 21) (hown : s.vm.findClass RL = some m.cls) (hts : ∀ w ∈ WW, w.before #[Value.ref b] s = true) (hE : EE D ca SL0 s) (hA : ∀ q, s.heap.size ≤ q → A q) (hZ : ZZ A s s.heap) (hNC : NCE s) (hX : va_X b LL xs s s.heap) (hbl : b < s.heap.size) (hbA : ¬ A b) (ad : Nat → Nat) (bq qa sa : Nat) (nF : Int32) (nO : Nat → Int32) (nL : Nat → Int32) (nA : Nat → Int32) (nC : Nat → Int32) (nV : Nat → Int32) (nU : Nat → Int32) (nP : Nat → Int32) (nE : Int32) (bF : Int32) (bO : Nat → Int32) (bL : Nat → Int32) (bA : Nat → Int32) (bC : Nat → Int32) (bV : Nat → Int32) (bU : Nat → Int32) (bP : Nat → Int32) (bE : Int32) (cT : Int32) (cK : Nat → Int32) (cO : Int32) (cQ : Nat → Int32) (cD : Int32) (pT : Int32) (pK : Int32) (pR : Nat → Int32) (pW : Nat → Int32) (pU : Nat → Int32) (pI : Nat → Int32) (pC : Nat → Nat → Int32) (uO : Int32) (uF : Nat → Int32) (uE : Nat → Int32) (uN : Nat → Int32) (wK : Nat → Int32) (jM : Int32) (jN : Int32) (jZ : Nat) (jB : Nat → Int32) (oQ : Nat → Int32) (oS : Nat → Int32) (R : va_W) (x4 : Int32) (x5 : Int32) (x6 : Int32) (x7 : Int32) (x8 : Int32) (x9 : Int32) (x10 : Int32) (x11 : Int32) (x12 : Int32) (x13 : Int32) (x14 : Int64) (x16 : Int32) (cN0 sN0 : Nat) (hcN : cN0 + 2 ≤ 1200390) (hsN : sN0 + 12 ≤ 5489120) (y4 : Int32) (y5 : Int32) (y6 : Int32) (y7 : Int32) (y16 : Int32) (onL : Nat → Int32) (onA : Nat → Int32) (onC : Nat → Int32) (onU : Nat → Int32) (onE : Int32) (ocK : Nat → Int32) (hf : f_op5 x4 x5 x6 x7 x10 nF nL nA nC nU nE cK uO uF uN = some (y4, y5, y6, y7, y16, onL, onA, onC, onU, onE, ocK)) {H : Heap} {locs : List Loc} {ls : Array Slot} (hP : va_P D vwCl (WC ca ad bq nF nO nL nA nC nV nU nP nE bF bO bL bA bC bV bU bP bE cT cK cO cQ cD pT pK pR pW pU pI pC uO uF uE uN wK jM jN jZ jB ++ (WO ca qa sa oQ oS ++ R)) H) (hD : va_D A (WC ca ad bq nF nO nL nA nC nV nU nP nE bF bO bL bA bC bV bU bP bE cT cK cO cQ cD pT pK pR pW pU pI pC uO uF uE uN wK jM jN jZ jB ++ (WO ca qa sa oQ oS ++ R))) (hS : va_S A s.heap H locs) (hl : lv_has ls 21 [(0, .ref b), (1, .ref (ad 0)), (2, .ref qa), (3, .ref sa), (4, .int x4), (5, .int x5), (6, .int x6), (7, .int x7), (8, .int x8), (9, .int x9), (10, .int x10), (11, .int x11), (12, .int x12), (13, .int x13), (14, .long x14), (16, .int x16)]) (kk : ∀ (H : Heap) (locs : List Loc) (ls : Array Slot), va_P D vwCl (WC ca ad bq nF nO onL onA onC nV onU nP onE bF bO bL bA bC bV bU bP bE cT ocK cO cQ cD pT pK pR pW pU pI pC uO uF uE uN wK jM jN jZ jB ++ (WO ca qa sa oQ oS ++ R)) H → va_D A (WC ca ad bq nF nO onL onA onC nV onU nP onE bF bO bL bA bC bV bU bP bE cT ocK cO cQ cD pT pK pR pW pU pI pC uO uF uE uN wK jM jN jZ jB ++ (WO ca qa sa oQ oS ++ R)) → va_S A s.heap H locs → lv_has ls 21 [(0, .ref b), (1, .ref (ad 0)), (2, .ref qa), (3, .ref sa), (4, .int y4), (5, .int y5), (6, .int y6), (7, .int y7), (8, .int x8), (14, .long x14), (16, .int y16)] → W p l e room_1 s m #[Value.ref b] below meth c H locs (cN0 + 2) (sN0 + 12) Qm (F0 m 984 ls [])) : W p l e room_1 s m #[Value.ref b] below meth c H locs cN0 sN0 Qm (F0 m 402 ls []) := by
  have hK := hE.1
  unfold f_op5 at hf
  change W p l e room_1 s m #[Value.ref b] below meth c H locs (cN0 + 0) (sN0 + 0) Qm (F0 m 402 ls [])
  refine lv_aload_n hx hb dL_law_402 rfl (lv_at hl 1 rfl) ?_
  refine lv_iconst (v := 5) hx hb dL_law_403 (by decide) ?_
  refine lv_iload hx hb dL_law_404 (lv_at hl 10 rfl) ?_
  refine lv_iconst (v := 0) hx hb dL_law_406 (by decide) ?_
  refine lv_iconst (v := 0) hx hb dL_law_407 (by decide) ?_
  obtain ⟨⟨r1, nL_3, nA_4, nC_5, nU_6, nE_7, cK_8⟩, h2, hf⟩ := bnd hf
  refine cl_wi (rest := []) (m_K5 l hst ca ad bq nF nO nL nA nC nV nU nP nE bF bO bL bA bC bV bU bP bE cT cK cO cQ cD pT pK pR pW pU pI pC uO uF uE uN wK jM jN jZ jB (WO ca qa sa oQ oS ++ R) _ x10 0 0 r1 nL_3 nA_4 nC_5 nU_6 nE_7 cK_8 h2) ⟨hx, hb, hml, hown, hts⟩ (vx_cwSW 5 hts (gSW q251 q252 q23 q253) rfl rfl rfl (by decide +kernel) ⟨Nat.le_of_ble_eq_true rfl, Nat.le_of_ble_eq_true rfl⟩) hE hP hD hS hA hZ hNC rfl hl.1 rfl (lv_room (Nat.le_of_ble_eq_true rfl)) dL_law_408 ⟨by show _ ≤ 1200390; omega, by show _ ≤ 5489120; omega⟩ (fun H locs hP hD hS => ?_)
  refine lv_istore (lv' := [(16, .int r1), (0, .ref b), (1, .ref (ad 0)), (2, .ref qa), (3, .ref sa), (4, .int x4), (5, .int x5), (6, .int x6), (7, .int x7), (8, .int x8), (9, .int x9), (10, .int x10), (11, .int x11), (12, .int x12), (13, .int x13), (14, .long x14)]) hx hb dL_law_411 hl (by decide) rfl (fun ls hl => ?_)
  refine lv_goto (tgt := 984) hx hb dL_law_413 (by decide) ?_
  cases hf
  refine W.widen (k := cN0 + 2) (n := sN0 + 12) (by omega) (by omega) ?_
  exact kk _ _ _ hP hD hS (lv_sub hl [1, 2, 3, 4, 5, 6, 7, 8, 9, 15, 0] rfl)
def f_op14 (x4 : Int32) (x5 : Int32) (x6 : Int32) (x7 : Int32) (x9 : Int32) (x11 : Int32) (nU : Nat → Int32) (nP : Nat → Int32) (nE : Int32) (cK : Nat → Int32) (cO : Int32) : Option (Int32 × Int32 × Int32 × Int32 × Int32 × (Nat → Int32) × Int32 × (Nat → Int32)) :=
  (f_low (x9 >>> (8 &&& 31)) 9).bind fun r1 =>
  (f_K14 x11 r1 nU nP nE cK cO).bind fun (r3, nP_5, nE_6, cK_7) =>
  some (x4, x5, x6, x7, r3, nP_5, nE_6, cK_7)
set_option maxHeartbeats 8000000 in
set_option maxRecDepth 100000 in
theorem l_op14 {p : Program} {l : Launch} {e : Env} {s : State} {m : MethodId} {below : List Frame} {meth : Method} {c : Code} {Qm : State → Prop} {D : va_G} {A : Nat → Prop} {b LL : Nat} {xs : Nat → Int32} (ca : Nat → ClassId) (hst : l.stackTraces = false) (hx : p.tables.exec = Jvm.exec) (hb : c.code = cL_law) (hml : c.maxLocals = 21) (hown : s.vm.findClass RL = some m.cls) (hts : ∀ w ∈ WW, w.before #[Value.ref b] s = true) (hE : EE D ca SL0 s) (hA : ∀ q, s.heap.size ≤ q → A q) (hZ : ZZ A s s.heap) (hNC : NCE s) (hX : va_X b LL xs s s.heap) (hbl : b < s.heap.size) (hbA : ¬ A b) (ad : Nat → Nat) (bq qa sa : Nat) (nF : Int32) (nO : Nat → Int32) (nL : Nat → Int32) (nA : Nat → Int32) (nC : Nat → Int32) (nV : Nat → Int32) (nU : Nat → Int32) (nP : Nat → Int32) (nE : Int32) (bF : Int32) (bO : Nat → Int32) (bL : Nat → Int32) (bA : Nat → Int32) (bC : Nat → Int32) (bV : Nat → Int32) (bU : Nat → Int32) (bP : Nat → Int32) (bE : Int32) (cT : Int32) (cK : Nat → Int32) (cO : Int32) (cQ : Nat → Int32) (cD : Int32) (pT : Int32) (pK : Int32) (pR : Nat → Int32) (pW : Nat → Int32) (pU : Nat → Int32) (pI : Nat → Int32) (pC : Nat → Nat → Int32) (uO : Int32) (uF : Nat → Int32) (uE : Nat → Int32) (uN : Nat → Int32) (wK : Nat → Int32) (jM : Int32) (jN : Int32) (jZ : Nat) (jB : Nat → Int32) (oQ : Nat → Int32) (oS : Nat → Int32) (R : va_W) (x4 : Int32) (x5 : Int32) (x6 : Int32) (x7 : Int32) (x8 : Int32) (x9 : Int32) (x10 : Int32) (x11 : Int32) (x12 : Int32) (x13 : Int32) (x14 : Int64) (x16 : Int32) (cN0 sN0 : Nat) (hcN : cN0 + 3 ≤ 1200390) (hsN : sN0 + 18 ≤ 5489120) (y4 : Int32) (y5 : Int32) (y6 : Int32) (y7 : Int32) (y16 : Int32) (onP : Nat → Int32) (onE : Int32) (ocK : Nat → Int32) (hf : f_op14 x4 x5 x6 x7 x9 x11 nU nP nE cK cO = some (y4, y5, y6, y7, y16, onP, onE, ocK)) {H : Heap} {locs : List Loc} {ls : Array Slot} (hP : va_P D vwCl (WC ca ad bq nF nO nL nA nC nV nU nP nE bF bO bL bA bC bV bU bP bE cT cK cO cQ cD pT pK pR pW pU pI pC uO uF uE uN wK jM jN jZ jB ++ (WO ca qa sa oQ oS ++ R)) H) (hD : va_D A (WC ca ad bq nF nO nL nA nC nV nU nP nE bF bO bL bA bC bV bU bP bE cT cK cO cQ cD pT pK pR pW pU pI pC uO uF uE uN wK jM jN jZ jB ++ (WO ca qa sa oQ oS ++ R))) (hS : va_S A s.heap H locs) (hl : lv_has ls 21 [(0, .ref b), (1, .ref (ad 0)), (2, .ref qa), (3, .ref sa), (4, .int x4), (5, .int x5), (6, .int x6), (7, .int x7), (8, .int x8), (9, .int x9), (10, .int x10), (11, .int x11), (12, .int x12), (13, .int x13), (14, .long x14), (16, .int x16)]) (kk : ∀ (H : Heap) (locs : List Loc) (ls : Array Slot), va_P D vwCl (WC ca ad bq nF nO nL nA nC nV nU onP onE bF bO bL bA bC bV bU bP bE cT ocK cO cQ cD pT pK pR pW pU pI pC uO uF uE uN wK jM jN jZ jB ++ (WO ca qa sa oQ oS ++ R)) H → va_D A (WC ca ad bq nF nO nL nA nC nV nU onP onE bF bO bL bA bC bV bU bP bE cT ocK cO cQ cD pT pK pR pW pU pI pC uO uF uE uN wK jM jN jZ jB ++ (WO ca qa sa oQ oS ++ R)) → va_S A s.heap H locs → lv_has ls 21 [(0, .ref b), (1, .ref (ad 0)), (2, .ref qa), (3, .ref sa), (4, .int y4), (5, .int y5), (6, .int y6), (7, .int y7), (8, .int x8), (14, .long x14), (16, .int y16)] → W p l e room_1 s m #[Value.ref b] below meth c H locs (cN0 + 3) (sN0 + 18) Qm (F0 m 984 ls [])) : W p l e room_1 s m #[Value.ref b] below meth c H locs cN0 sN0 Qm (F0 m 423 ls []) := by
  have hK := hE.1
  unfold f_op14 at hf
  change W p l e room_1 s m #[Value.ref b] below meth c H locs (cN0 + 0) (sN0 + 0) Qm (F0 m 423 ls [])
  refine lv_aload_n hx hb dL_law_423 rfl (lv_at hl 1 rfl) ?_
  refine lv_bipush (v := 14) hx hb dL_law_424 (by decide) ?_
  refine lv_iload hx hb dL_law_426 (lv_at hl 11 rfl) ?_
  refine lv_iload hx hb dL_law_428 (lv_at hl 9 rfl) ?_
  refine lv_bipush (v := 8) hx hb dL_law_430 (by decide) ?_
  refine lv_ishr hx hb dL_law_432 ?_
  refine lv_bipush (v := 9) hx hb dL_law_433 (by decide) ?_
  obtain ⟨r1, h2, hf⟩ := bnd hf
  refine call_si (rest := [.int x11, .int 14, .ref (ad 0)]) (m_low l ca (WC ca ad bq nF nO nL nA nC nV nU nP nE bF bO bL bA bC bV bU bP bE cT cK cO cQ cD pT pK pR pW pU pI pC uO uF uE uN wK jM jN jZ jB ++ (WO ca qa sa oQ oS ++ R)) _ (x9 >>> (8 &&& 31)) 9 r1 h2) ⟨hx, hb, hml, hown, hts⟩ (va_cwS 2 hts (gS q247 q248 q23 q249) rfl rfl rfl (by decide +kernel) ⟨Nat.le_of_ble_eq_true rfl, Nat.le_of_ble_eq_true rfl⟩) hE hP hD hS hA rfl hl.1 rfl (lv_room (Nat.le_of_ble_eq_true rfl)) dL_law_435 ⟨by show _ ≤ 1200390; omega, by show _ ≤ 5489120; omega⟩ (fun H locs hP hD hS => ?_)
  refine lv_iconst (v := 0) hx hb dL_law_438 (by decide) ?_
  obtain ⟨⟨r3, nP_5, nE_6, cK_7⟩, h4, hf⟩ := bnd hf
  refine cl_wi (rest := []) (m_K14 l hst ca ad bq nF nO nL nA nC nV nU nP nE bF bO bL bA bC bV bU bP bE cT cK cO cQ cD pT pK pR pW pU pI pC uO uF uE uN wK jM jN jZ jB (WO ca qa sa oQ oS ++ R) _ x11 r1 0 r3 nP_5 nE_6 cK_7 h4) ⟨hx, hb, hml, hown, hts⟩ (vx_cwSW 5 hts (gSW q251 q252 q23 q253) rfl rfl rfl (by decide +kernel) ⟨Nat.le_of_ble_eq_true rfl, Nat.le_of_ble_eq_true rfl⟩) hE hP hD hS hA hZ hNC rfl hl.1 rfl (lv_room (Nat.le_of_ble_eq_true rfl)) dL_law_439 ⟨by show _ ≤ 1200390; omega, by show _ ≤ 5489120; omega⟩ (fun H locs hP hD hS => ?_)
  refine lv_istore (lv' := [(16, .int r3), (0, .ref b), (1, .ref (ad 0)), (2, .ref qa), (3, .ref sa), (4, .int x4), (5, .int x5), (6, .int x6), (7, .int x7), (8, .int x8), (9, .int x9), (10, .int x10), (11, .int x11), (12, .int x12), (13, .int x13), (14, .long x14)]) hx hb dL_law_442 hl (by decide) rfl (fun ls hl => ?_)
  refine lv_goto (tgt := 984) hx hb dL_law_444 (by decide) ?_
  cases hf
  refine W.widen (k := cN0 + 3) (n := sN0 + 18) (by omega) (by omega) ?_
  exact kk _ _ _ hP hD hS (lv_sub hl [1, 2, 3, 4, 5, 6, 7, 8, 9, 15, 0] rfl)
def f_op16 (x4 : Int32) (x5 : Int32) (x6 : Int32) (x7 : Int32) (x11 : Int32) (nP : Nat → Int32) (nE : Int32) (cK : Nat → Int32) (cO : Int32) : Option (Int32 × Int32 × Int32 × Int32 × Int32 × (Nat → Int32) × Int32 × (Nat → Int32)) :=
  (f_K16 x11 nP nE cK cO).bind fun (r1, nP_3, nE_4, cK_5) =>
  some (x4, x5, x6, x7, r1, nP_3, nE_4, cK_5)
set_option maxHeartbeats 8000000 in
set_option maxRecDepth 100000 in
theorem l_op16 {p : Program} {l : Launch} {e : Env} {s : State} {m : MethodId} {below : List Frame} {meth : Method} {c : Code} {Qm : State → Prop} {D : va_G} {A : Nat → Prop} {b LL : Nat} {xs : Nat → Int32} (ca : Nat → ClassId) (hst : l.stackTraces = false) (hx : p.tables.exec = Jvm.exec) (hb : c.code = cL_law) (hml : c.maxLocals = 21) (hown : s.vm.findClass RL = some m.cls) (hts : ∀ w ∈ WW, w.before #[Value.ref b] s = true) (hE : EE D ca SL0 s) (hA : ∀ q, s.heap.size ≤ q → A q) (hZ : ZZ A s s.heap) (hNC : NCE s) (hX : va_X b LL xs s s.heap) (hbl : b < s.heap.size) (hbA : ¬ A b) (ad : Nat → Nat) (bq qa sa : Nat) (nF : Int32) (nO : Nat → Int32) (nL : Nat → Int32) (nA : Nat → Int32) (nC : Nat → Int32) (nV : Nat → Int32) (nU : Nat → Int32) (nP : Nat → Int32) (nE : Int32) (bF : Int32) (bO : Nat → Int32) (bL : Nat → Int32) (bA : Nat → Int32) (bC : Nat → Int32) (bV : Nat → Int32) (bU : Nat → Int32) (bP : Nat → Int32) (bE : Int32) (cT : Int32) (cK : Nat → Int32) (cO : Int32) (cQ : Nat → Int32) (cD : Int32) (pT : Int32) (pK : Int32) (pR : Nat → Int32) (pW : Nat → Int32) (pU : Nat → Int32) (pI : Nat → Int32) (pC : Nat → Nat → Int32) (uO : Int32) (uF : Nat → Int32) (uE : Nat → Int32) (uN : Nat → Int32) (wK : Nat → Int32) (jM : Int32) (jN : Int32) (jZ : Nat) (jB : Nat → Int32) (oQ : Nat → Int32) (oS : Nat → Int32) (R : va_W) (x4 : Int32) (x5 : Int32) (x6 : Int32) (x7 : Int32) (x8 : Int32) (x9 : Int32) (x10 : Int32) (x11 : Int32) (x12 : Int32) (x13 : Int32) (x14 : Int64) (x16 : Int32) (cN0 sN0 : Nat) (hcN : cN0 + 2 ≤ 1200390) (hsN : sN0 + 12 ≤ 5489120) (y4 : Int32) (y5 : Int32) (y6 : Int32) (y7 : Int32) (y16 : Int32) (onP : Nat → Int32) (onE : Int32) (ocK : Nat → Int32) (hf : f_op16 x4 x5 x6 x7 x11 nP nE cK cO = some (y4, y5, y6, y7, y16, onP, onE, ocK)) {H : Heap} {locs : List Loc} {ls : Array Slot} (hP : va_P D vwCl (WC ca ad bq nF nO nL nA nC nV nU nP nE bF bO bL bA bC bV bU bP bE cT cK cO cQ cD pT pK pR pW pU pI pC uO uF uE uN wK jM jN jZ jB ++ (WO ca qa sa oQ oS ++ R)) H) (hD : va_D A (WC ca ad bq nF nO nL nA nC nV nU nP nE bF bO bL bA bC bV bU bP bE cT cK cO cQ cD pT pK pR pW pU pI pC uO uF uE uN wK jM jN jZ jB ++ (WO ca qa sa oQ oS ++ R))) (hS : va_S A s.heap H locs) (hl : lv_has ls 21 [(0, .ref b), (1, .ref (ad 0)), (2, .ref qa), (3, .ref sa), (4, .int x4), (5, .int x5), (6, .int x6), (7, .int x7), (8, .int x8), (9, .int x9), (10, .int x10), (11, .int x11), (12, .int x12), (13, .int x13), (14, .long x14), (16, .int x16)]) (kk : ∀ (H : Heap) (locs : List Loc) (ls : Array Slot), va_P D vwCl (WC ca ad bq nF nO nL nA nC nV nU onP onE bF bO bL bA bC bV bU bP bE cT ocK cO cQ cD pT pK pR pW pU pI pC uO uF uE uN wK jM jN jZ jB ++ (WO ca qa sa oQ oS ++ R)) H → va_D A (WC ca ad bq nF nO nL nA nC nV nU onP onE bF bO bL bA bC bV bU bP bE cT ocK cO cQ cD pT pK pR pW pU pI pC uO uF uE uN wK jM jN jZ jB ++ (WO ca qa sa oQ oS ++ R)) → va_S A s.heap H locs → lv_has ls 21 [(0, .ref b), (1, .ref (ad 0)), (2, .ref qa), (3, .ref sa), (4, .int y4), (5, .int y5), (6, .int y6), (7, .int y7), (8, .int x8), (14, .long x14), (16, .int y16)] → W p l e room_1 s m #[Value.ref b] below meth c H locs (cN0 + 2) (sN0 + 12) Qm (F0 m 984 ls [])) : W p l e room_1 s m #[Value.ref b] below meth c H locs cN0 sN0 Qm (F0 m 454 ls []) := by
  have hK := hE.1
  unfold f_op16 at hf
  change W p l e room_1 s m #[Value.ref b] below meth c H locs (cN0 + 0) (sN0 + 0) Qm (F0 m 454 ls [])
  refine lv_aload_n hx hb dL_law_454 rfl (lv_at hl 1 rfl) ?_
  refine lv_bipush (v := 16) hx hb dL_law_455 (by decide) ?_
  refine lv_iload hx hb dL_law_457 (lv_at hl 11 rfl) ?_
  refine lv_iconst (v := 0) hx hb dL_law_459 (by decide) ?_
  refine lv_iconst (v := 0) hx hb dL_law_460 (by decide) ?_
  obtain ⟨⟨r1, nP_3, nE_4, cK_5⟩, h2, hf⟩ := bnd hf
  refine cl_wi (rest := []) (m_K16 l hst ca ad bq nF nO nL nA nC nV nU nP nE bF bO bL bA bC bV bU bP bE cT cK cO cQ cD pT pK pR pW pU pI pC uO uF uE uN wK jM jN jZ jB (WO ca qa sa oQ oS ++ R) _ x11 0 0 r1 nP_3 nE_4 cK_5 h2) ⟨hx, hb, hml, hown, hts⟩ (vx_cwSW 5 hts (gSW q251 q252 q23 q253) rfl rfl rfl (by decide +kernel) ⟨Nat.le_of_ble_eq_true rfl, Nat.le_of_ble_eq_true rfl⟩) hE hP hD hS hA hZ hNC rfl hl.1 rfl (lv_room (Nat.le_of_ble_eq_true rfl)) dL_law_461 ⟨by show _ ≤ 1200390; omega, by show _ ≤ 5489120; omega⟩ (fun H locs hP hD hS => ?_)
  refine lv_istore (lv' := [(16, .int r1), (0, .ref b), (1, .ref (ad 0)), (2, .ref qa), (3, .ref sa), (4, .int x4), (5, .int x5), (6, .int x6), (7, .int x7), (8, .int x8), (9, .int x9), (10, .int x10), (11, .int x11), (12, .int x12), (13, .int x13), (14, .long x14)]) hx hb dL_law_464 hl (by decide) rfl (fun ls hl => ?_)
  refine lv_goto (tgt := 984) hx hb dL_law_466 (by decide) ?_
  cases hf
  refine W.widen (k := cN0 + 2) (n := sN0 + 12) (by omega) (by omega) ?_
  exact kk _ _ _ hP hD hS (lv_sub hl [1, 2, 3, 4, 5, 6, 7, 8, 9, 15, 0] rfl)
