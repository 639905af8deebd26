/-! THE ROUNDS OVER THE MACHINE (printed by program, genR.py) -/
def ATL (p : Program) (l : Launch) (e : Env) (s : State) (m : MethodId) (below : List Frame) (meth : Method) (c : Code) (Qm : State → Prop) (D : va_G) (A : Nat → Prop) (b : Nat) (ca : Nat → ClassId) (ad : Nat → Nat) (bq qa sa : Nat) (j cN sN : Nat) : Prop :=
  ∀ (x4 x5 x6 x7 : Int32) (nF : Int32) (nO : Nat → Int32) (nL : Nat → Int32) (nA : Nat → Int32) (nC : Nat → Int32) (nV : Nat → Int32) (nU : Nat → Int32) (nP : Nat → Int32) (nE : Int32) (bF : Int32) (bO : Nat → Int32) (bL : Nat → Int32) (bA : Nat → Int32) (bC : Nat → Int32) (bV : Nat → Int32) (bU : Nat → Int32) (bP : Nat → Int32) (bE : Int32) (cT : Int32) (cK : Nat → Int32) (cO : Int32) (cQ : Nat → Int32) (cD : Int32) (pT : Int32) (pK : Int32) (pR : Nat → Int32) (pW : Nat → Int32) (pU : Nat → Int32) (pI : Nat → Int32) (pC : Nat → Nat → Int32) (uO : Int32) (uF : Nat → Int32) (uE : Nat → Int32) (uN : Nat → Int32) (wK : Nat → Int32) (jM : Int32) (jN : Int32) (jZ : Nat) (jB : Nat → Int32) (oQ : Nat → Int32) (oS : Nat → Int32) (R : va_W), INV j x4 x5 x6 x7 nF nO nL nA nC nV nU nP nE bF bO bL bA bC bV bU bP bE cT cO cQ cD pT pK pR pW pU pI pC uO uF uE uN oQ oS → ∀ (H : Heap) (locs : List Loc) (ls : Array Slot), va_P D vwCl (WC ca ad bq nF nO nL nA nC nV nU nP nE bF bO bL bA bC bV bU bP bE cT cK cO cQ cD pT pK pR pW pU pI pC uO uF uE uN wK jM jN jZ jB ++ (WO ca qa sa oQ oS ++ R)) H → va_D A (WC ca ad bq nF nO nL nA nC nV nU nP nE bF bO bL bA bC bV bU bP bE cT cK cO cQ cD pT pK pR pW pU pI pC uO uF uE uN wK jM jN jZ jB ++ (WO ca qa sa oQ oS ++ R)) → va_S A s.heap H locs → lv_has ls 21 [(0, .ref b), (1, .ref (ad 0)), (2, .ref qa), (3, .ref sa), (4, .int x4), (5, .int x5), (6, .int x6), (7, .int x7), (8, .int (nI j))] → W p l e room_1 s m #[Value.ref b] below meth c H locs cN sN Qm (F0 m 33 ls [])
section LOOP
variable {p : Program} {l : Launch} {e : Env} {s : State} {m : MethodId} {below : List Frame} {meth : Method} {c : Code} {Qm : State → Prop} {D : va_G} {A : Nat → Prop} {b LL : Nat} {xs : Nat → Int32} {ca : Nat → ClassId} {ad : Nat → Nat} {bq qa sa j cN sN : Nat}
set_option maxHeartbeats 4000000 in
set_option maxRecDepth 100000 in
theorem s_round (hst : l.stackTraces = false) (hx : p.tables.exec = Jvm.exec) (hb : c.code = cL_law) (hml : c.maxLocals = 21) (hown : s.vm.findClass RL = some m.cls) (hts : ∀ w ∈ WW, w.before #[Value.ref b] s = true) (hE : EE D ca SL0 s) (hA : ∀ q, s.heap.size ≤ q → A q) (hZ : ZZ A s s.heap) (hNC : NCE s) (hX : va_X b LL xs s s.heap) (hbl : b < s.heap.size) (hbA : ¬ A b) (hLL : LL ≤ 260) (hj : j < 46) (hcN : cN + 9850 ≤ 1200390) (hsN : sN + 59100 ≤ 5489120) (next : ATL p l e s m below meth c Qm D A b ca ad bq qa sa (j + 1) (cN + 9850) (sN + 59100)) : ATL p l e s m below meth c Qm D A b ca ad bq qa sa j cN sN := by
  intro x4 x5 x6 x7 nF nO nL nA nC nV nU nP nE bF bO bL bA bC bV bU bP bE cT cK cO cQ cD pT pK pR pW pU pI pC uO uF uE uN wK jM jN jZ jB oQ oS R hI H locs ls hP hD hS hl
  have a1 : ¬ (46 : Int32) ≤ nI j := fun z => absurd ((nI_leI (a := 46) (b := j) (by omega) (by omega)).mp z) (by omega)
  refine lv_iload hx hb dL_law_33 (lv_at hl 8 rfl) ?_
  refine lv_bipush (v := 46) hx hb dL_law_35 (by decide) ?_
  refine lv_icmp_ge (tgt := 1110) hx hb dL_law_37 (by decide) (fun c1 => absurd c1 a1) (fun c1 => ?_)
  obtain ⟨y9, y10, y11, y12, eA⟩ := rA_ok (xs := xs) hLL (show j ≤ 500 by omega) hI
  obtain ⟨r, y14, hr, eS, est⟩ := rS_ok (x9 := y9) (show j ≤ 500 by omega) hI
  obtain ⟨y4, y5, y6, y7, y16, o_nF, o_nO, o_nL, o_nA, o_nC, o_nV, o_nU, o_nP, o_nE, o_bF, o_bO, o_bL, o_bA, o_bC, o_bV, o_bU, o_bP, o_bE, o_cT, o_cK, o_cO, o_cQ, o_cD, o_pT, o_pK, o_pR, o_pW, o_pU, o_pI, o_pC, o_uO, o_uF, o_uE, o_uN, o_oQ, o_oS, eB, hI2, hsame⟩ := rB_ok (x8 := nI j) (x9 := y9) (x10 := y10) (x11 := y11) (x12 := y12) (x14 := y14) (cK := cK) hr (show j ≤ 500 by omega) hI
  have eC := rC_ok est hsame
  obtain ⟨o_wK, eE⟩ := rE_ok (x8 := nI j) (wK := wK) hI2
  rw [nI_1] at eE
  refine l_rA ca hst hx hb hml hown hts hE hA hZ hNC hX hbl hbA ad bq qa sa nF nO nL nA nC nV nU nP nE bF bO bL bA bC bV bU bP bE cT cK cO cQ cD pT pK pR pW pU pI pC uO uF uE uN wK jM jN jZ jB oQ oS R x4 x5 x6 x7 (nI j) _ _ (by omega) (by omega) y9 y10 y11 y12 eA hP hD hS (lv_sub hl [0, 1, 2, 3, 4, 5, 6, 7, 8] rfl) (fun H locs ls hP hD hS hl => ?_)
  refine l_rS ca hst hx hb hml hown hts hE hA hZ hNC hX hbl hbA ad bq qa sa nF nO nL nA nC nV nU nP nE bF bO bL bA bC bV bU bP bE cT cK cO cQ cD pT pK pR pW pU pI pC uO uF uE uN wK jM jN jZ jB oQ oS R x4 x5 x6 x7 (nI j) y9 y10 y11 y12 _ _ (by omega) (by omega) (nI r) y14 eS hP hD hS (lv_sub hl [0, 1, 2, 3, 4, 5, 6, 7, 8, 9, 10, 11, 12] rfl) (fun H locs ls hP hD hS hl => ?_)
  refine l_rB ca hst hx hb hml hown hts hE hA hZ hNC hX hbl hbA ad bq qa sa nF nO nL nA nC nV nU nP nE bF bO bL bA bC bV bU bP bE cT cK cO cQ cD pT pK pR pW pU pI pC uO uF uE uN wK jM jN jZ jB oQ oS R x4 x5 x6 x7 (nI j) y9 y10 y11 y12 (nI r) y14 0 _ _ (by omega) (by omega) y4 y5 y6 y7 y16 o_nF o_nO o_nL o_nA o_nC o_nV o_nU o_nP o_nE o_bF o_bO o_bL o_bA o_bC o_bV o_bU o_bP o_bE o_cT o_cK o_cO o_cQ o_cD o_pT o_pK o_pR o_pW o_pU o_pI o_pC o_uO o_uF o_uE o_uN o_oQ o_oS eB hP hD hS (lv_sub hl [0, 1, 2, 3, 4, 5, 6, 7, 8, 9, 10, 11, 12, 13, 14, 15] rfl) (fun H locs ls hP hD hS hl => ?_)
  refine l_rC ca hst hx hb hml hown hts hE hA hZ hNC hX hbl hbA ad bq qa sa o_nF o_nO o_nL o_nA o_nC o_nV o_nU o_nP o_nE o_bF o_bO o_bL o_bA o_bC o_bV o_bU o_bP o_bE o_cT o_cK o_cO o_cQ o_cD o_pT o_pK o_pR o_pW o_pU o_pI o_pC o_uO o_uF o_uE o_uN wK jM jN jZ jB o_oQ o_oS R y4 y5 y6 y7 (nI j) y14 y16 _ _ (by omega) (by omega)  eC hP hD hS (lv_sub hl [0, 1, 2, 3, 4, 5, 6, 7, 8, 9, 10] rfl) (fun H locs ls hP hD hS hl => ?_)
  refine l_rE ca hst hx hb hml hown hts hE hA hZ hNC hX hbl hbA ad bq qa sa o_nF o_nO o_nL o_nA o_nC o_nV o_nU o_nP o_nE o_bF o_bO o_bL o_bA o_bC o_bV o_bU o_bP o_bE o_cT o_cK o_cO o_cQ o_cD o_pT o_pK o_pR o_pW o_pU o_pI o_pC o_uO o_uF o_uE o_uN wK jM jN jZ jB o_oQ o_oS R y4 y5 y6 y7 (nI j) _ _ (by omega) (by omega) (nI (j + 1)) o_wK eE hP hD hS (lv_sub hl [0, 1, 2, 3, 4, 5, 6, 7, 8] rfl) (fun H locs ls hP hD hS hl => ?_)
  refine W.widen (k := cN + 9850) (n := sN + 59100) (by omega) (by omega) ?_
  exact next y4 y5 y6 y7 o_nF o_nO o_nL o_nA o_nC o_nV o_nU o_nP o_nE o_bF o_bO o_bL o_bA o_bC o_bV o_bU o_bP o_bE o_cT o_cK o_cO o_cQ o_cD o_pT o_pK o_pR o_pW o_pU o_pI o_pC o_uO o_uF o_uE o_uN o_wK jM jN jZ jB o_oQ o_oS R hI2 H locs ls hP hD hS hl
set_option maxHeartbeats 4000000 in
set_option maxRecDepth 100000 in
theorem s_loop (hst : l.stackTraces = false) (hx : p.tables.exec = Jvm.exec) (hb : c.code = cL_law) (hml : c.maxLocals = 21) (hown : s.vm.findClass RL = some m.cls) (hts : ∀ w ∈ WW, w.before #[Value.ref b] s = true) (hE : EE D ca SL0 s) (hA : ∀ q, s.heap.size ≤ q → A q) (hZ : ZZ A s s.heap) (hNC : NCE s) (hX : va_X b LL xs s s.heap) (hbl : b < s.heap.size) (hbA : ¬ A b) (hLL : LL ≤ 260) {c0 s0 : Nat} (hc0 : c0 + 453106 ≤ 1200390) (hs0 : s0 + 2718636 ≤ 5489120) (kend : ∀ (H : Heap) (locs : List Loc) (ls : Array Slot), va_S A s.heap H locs → W p l e room_1 s m #[Value.ref b] below meth c H locs 1200390 5489120 Qm (F0 m 1160 ls [])) : ∀ n j : Nat, j + n = 46 → ATL p l e s m below meth c Qm D A b ca ad bq qa sa j (c0 + j * 9850) (s0 + j * 59100) := by
  intro n
  induction n with
  | zero =>
    intro j hj
    have e46 : j = 46 := by omega
    subst e46
    intro x4 x5 x6 x7 nF nO nL nA nC nV nU nP nE bF bO bL bA bC bV bU bP bE cT cK cO cQ cD pT pK pR pW pU pI pC uO uF uE uN wK jM jN jZ jB oQ oS R hI H locs ls hP hD hS hl
    have a1 : (46 : Int32) ≤ nI 46 := by decide
    refine lv_iload hx hb dL_law_33 (lv_at hl 8 rfl) ?_
    refine lv_bipush (v := 46) hx hb dL_law_35 (by decide) ?_
    refine lv_icmp_ge (tgt := 1110) hx hb dL_law_37 (by decide) (fun c1 => ?_) (fun c1 => absurd a1 c1)
    obtain ⟨o_nU, o_pK, o_pW, o_pU, eD⟩ := rD_ok hI
    refine l_rD ca hst hx hb hml hown hts hE hA hZ hNC hX hbl hbA ad bq qa sa nF nO nL nA nC nV nU nP nE bF bO bL bA bC bV bU bP bE cT cK cO cQ cD pT pK pR pW pU pI pC uO uF uE uN wK jM jN jZ jB oQ oS R x4 x5 x6 x7 (nI 46) _ _ (by omega) (by omega) o_nU o_pK o_pW o_pU eD hP hD hS (lv_sub hl [0, 1, 2, 3, 4, 5, 6, 7, 8] rfl) (fun H locs ls hP hD hS hl => ?_)
    refine W.widen (k := 1200390) (n := 5489120) (by omega) (by omega) ?_
    exact kend H locs ls hS
  | succ n ih =>
    intro j hj
    have h2 := ih (j + 1) (by omega)
    rw [show c0 + (j + 1) * 9850 = c0 + j * 9850 + 9850 by omega, show s0 + (j + 1) * 59100 = s0 + j * 59100 + 59100 by omega] at h2
    exact s_round hst hx hb hml hown hts hE hA hZ hNC hX hbl hbA hLL (by omega) (by omega) (by omega) h2
end LOOP
