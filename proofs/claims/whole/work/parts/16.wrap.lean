def f_L_addOwner (p1 : Int32) (cT : Int32) (cO : Int32) (cQ : Nat → Int32) (oL : Nat → Int64) : Option (Int32 × Int32 × (Nat → Int32) × (Nat → Int64)) :=
  (f_C_addOwner p1 cT cO cQ).bind fun (x1, cO_2, cQ_3) =>
  match x1 with
  | .error n5 => if n5 = 1 then some (1, cO_2, cQ_3, oL) else if n5 = 2 then some (2, cO_2, cQ_3, oL) else none
  | .ok r6 =>
  some (0, cO_2, cQ_3, (vp_updL oL (0 : Int32).toNatClampNeg ((r6).toInt64)))
set_option maxHeartbeats 4000000 in
set_option maxRecDepth 100000 in
theorem m_L_addOwner (l : Launch) (hst : l.stackTraces = false) {D : va_G} (ca : Nat → ClassId) (ad : Nat → Nat) (bq : Nat) (oa od : Nat) (nF : Int32) (nO : Nat → Int32) (nL : Nat → Int32) (nA : Nat → Int32) (nC : Nat → Int32) (nV : Nat → Int32) (nU : Nat → Int32) (nP : Nat → Int32) (nE : Int32) (bF : Int32) (bO : Nat → Int32) (bL : Nat → Int32) (bA : Nat → Int32) (bC : Nat → Int32) (bV : Nat → Int32) (bU : Nat → Int32) (bP : Nat → Int32) (bE : Int32) (cT : Int32) (cK : Nat → Int32) (cO : Int32) (cQ : Nat → Int32) (cD : Int32) (pT : Int32) (pK : Int32) (pR : Nat → Int32) (pW : Nat → Int32) (pU : Nat → Int32) (pI : Nat → Int32) (pC : Nat → Nat → Int32) (uO : Int32) (uF : Nat → Int32) (uE : Nat → Int32) (uN : Nat → Int32) (wK : Nat → Int32) (jM : Int32) (jN : Int32) (jZ : Nat) (jB : Nat → Int32) (oL : Nat → Int64) (oD : Nat → UInt64) (R : va_W) (sz : Nat) (p1 : Int32) (ro : Int32) (ocO : Int32) (ocQ : Nat → Int32) (ooL : Nat → Int64) (hf : f_L_addOwner p1 cT cO cQ oL = some (ro, ocO, ocQ, ooL)) : vx_Met l yL_addOwner (wmW yL_addOwner cL_addOwner 4 (some .int) [(0, 9, 12, 13), (0, 9, 15, 15)]) ({ frames := 8, cells := 3, slots := 18, locals := 135 } : Room) (PREL [.ref (ad 0), .int p1, .ref oa] D ca SL0 (WC ca ad bq nF nO nL nA nC nV nU nP nE bF bO bL bA bC bV bU bP bE cT cK cO cQ cD pT pK pR pW pU pI pC uO uF uE uN wK jM jN jZ jB ++ (WO ca oa od oL oD ++ R)) sz) (QI ro D (WC ca ad bq nF nO nL nA nC nV nU nP nE bF bO bL bA bC bV bU bP bE cT cK ocO ocQ cD pT pK pR pW pU pI pC uO uF uE uN wK jM jN jZ jB ++ (WO ca oa od ooL oD ++ R)) (WC ca ad bq nF nO nL nA nC nV nU nP nE bF bO bL bA bC bV bU bP bE cT cK cO cQ cD pT pK pR pW pU pI pC uO uF uE uN wK jM jN jZ jB ++ (WO ca oa od oL oD ++ R)) sz) (fun _ _ _ => False) 3 18 (va_A (WC ca ad bq nF nO nL nA nC nV nU nP nE bF bO bL bA bC bV bU bP bE cT cK cO cQ cD pT pK pR pW pU pI pC uO uF uE uN wK jM jN jZ jB ++ (WO ca oa od oL oD ++ R)) sz) := by
  refine vx_ofWH (cc := cL_addOwner) (maxL := 4) (ret := (some .int)) (hh := [(0, 9, 12, 13), (0, 9, 15, 15)]) (by decide) rfl ?_
  intro p e s m args below meth c s₁ B hml hv
  obtain ⟨rfl, rfl, hP, hE, hD0, hZ, hNC⟩ := hv
  have hx := B.exec
  have hb := B.bytes
  have hr := B.returns
  have hts0 := atoms_spec (ws := wmW yL_addOwner cL_addOwner 4 (some .int) [(0, 9, 12, 13), (0, 9, 15, 15)]) B.pre
  have hts := wmW_ww hts0
  have htab := vx_table (x := yL_addOwner) B (hts0 _ List.mem_cons_self)
  have hown : s.vm.findClass RL = some m.cls := findClass_of_methodNamed B.named
  have hlocks := B.notSynchronized
  have hK := hE.1
  have hD := hD0.self (sz := s.heap.size)
  generalize hAe : va_A (WC ca ad bq nF nO nL nA nC nV nU nP nE bF bO bL bA bC bV bU bP bE cT cK cO cQ cD pT pK pR pW pU pI pC uO uF uE uN wK jM jN jZ jB ++ (WO ca oa od oL oD ++ R)) s.heap.size = A at hD hZ ⊢
  have hA : ∀ q : Nat, s.heap.size ≤ q → A q := fun q h => by rw [← hAe]; exact Or.inr h
  have hS : va_S A s.heap s.heap [] := va_S.rf
  have hl := lv_entry ([.ref (ad 0), .int p1, .ref oa]) (n := 4) (Nat.le_of_ble_eq_true rfl)
  rw [lg_entry_eq]
  generalize (lg_sl ([.ref (ad 0), .int p1, .ref oa]) ++ List.replicate (4 - (lg_sl ([.ref (ad 0), .int p1, .ref oa])).length) Slot.unset).toArray = ls at hl ⊢
  have hl : lv_has ls 4 [(0, .ref (ad 0)), (1, .int p1), (2, .ref oa)] := hl
  change W p l e ({ frames := 8, cells := 3, slots := 18, locals := 135 } : Room) s m _ below meth c s.heap [] 0 0 _ _
  generalize hQm : vx_MQ below (QI ro D (WC ca ad bq nF nO nL nA nC nV nU nP nE bF bO bL bA bC bV bU bP bE cT cK ocO ocQ cD pT pK pR pW pU pI pC uO uF uE uN wK jM jN jZ jB ++ (WO ca oa od ooL oD ++ R)) (WC ca ad bq nF nO nL nA nC nV nU nP nE bF bO bL bA bC bV bU bP bE cT cK cO cQ cD pT pK pR pW pU pI pC uO uF uE uN wK jM jN jZ jB ++ (WO ca oa od oL oD ++ R)) s.heap.size) (fun _ _ _ => False) _ s 3 18 A = Qm
  have hP : va_P D vwCl (WC ca ad bq nF nO nL nA nC nV nU nP nE bF bO bL bA bC bV bU bP bE cT cK cO cQ cD pT pK pR pW pU pI pC uO uF uE uN wK jM jN jZ jB ++ (WO ca oa od oL oD ++ R)) s.heap := hP
  generalize hae : ([.ref (ad 0), .int p1, .ref oa] : List Value).toArray = args at hts hQm ⊢
  refine lv_aload_n hx hb dL_addOwner_0 rfl (lv_at hl 2 rfl) ?_
  refine lv_iconst (v := 0) hx hb dL_addOwner_1 (by decide) ?_
  refine lv_aload_n hx hb dL_addOwner_2 rfl (lv_at hl 0 rfl) ?_
  refine lv_iload_n hx hb dL_addOwner_3 rfl (lv_at hl 1 rfl) ?_
  obtain ⟨⟨x1, cO_2, cQ_3⟩, h4, hf⟩ := bnd hf
  rcases x1 with n5 | r6
  · have hf : (if n5 = 1 then some (1, cO_2, cQ_3, oL) else if n5 = 2 then some (2, cO_2, cQ_3, oL) else none) = some (ro, ocO, ocQ, ooL) := hf
    by_cases c7 : n5 = 1
    · subst c7
      have hf := br_pos rfl hf
      refine cw_vi_err (rest := [.int 0, .ref oa]) (m_C_addOwner l hst ca ad bq nF nO nL nA nC nV nU nP nE bF bO bL bA bC bV bU bP bE cT cK cO cQ cD pT pK pR pW pU pI pC uO uF uE uN wK jM jN jZ jB (WO ca oa od oL oD ++ R) _ p1 (.error 1) cO_2 cQ_3 h4) ⟨hx, hb, hml, hown, hts⟩ (cwV 1 hts (gV q354 q355 q356 q41 q357) rfl rfl rfl (by decide +kernel) ⟨Nat.le_of_ble_eq_true rfl, Nat.le_of_ble_eq_true rfl⟩) (va_recv hK hP (ci := 7) (q0 := 0) rfl rfl) hE hP hD hS hA hZ rfl hl.1 rfl (lv_room (Nat.le_of_ble_eq_true rfl)) dL_addOwner_4 ⟨Nat.le_of_ble_eq_true rfl, Nat.le_of_ble_eq_true rfl⟩ (fun H locs q9 ce hP hD hS hce hv9 hcl => ?_)
      refine vx_catch (E := "java/lang/IllegalArgumentException") hown [] ⟨0, 9, 12, 13⟩ [⟨0, 9, 15, 15⟩] htab (fun _ h => absurd h List.not_mem_nil) (by decide) (by decide) (hts _ q352) (va_Nw.use rfl (hE.2.1 _ n364)) hce hv9 hcl ?_
      refine lv_astore_n (lv' := [(3, .ref q9), (0, .ref (ad 0)), (1, .int p1), (2, .ref oa)]) hx hb dL_addOwner_12 rfl hl (by decide) rfl (fun ls hl => ?_)
      refine lv_iconst (v := 1) hx hb dL_addOwner_13 (by decide) ?_
      cases hf
      exact endw_i hAe hQm hx hb hr hlocks rfl hP hD hS dL_addOwner_14 (Nat.le_of_ble_eq_true rfl) (Nat.le_of_ble_eq_true rfl)
    have hf := br_neg c7 hf
    by_cases c8 : n5 = 2
    · subst c8
      have hf := br_pos rfl hf
      refine cw_vi_err (rest := [.int 0, .ref oa]) (m_C_addOwner l hst ca ad bq nF nO nL nA nC nV nU nP nE bF bO bL bA bC bV bU bP bE cT cK cO cQ cD pT pK pR pW pU pI pC uO uF uE uN wK jM jN jZ jB (WO ca oa od oL oD ++ R) _ p1 (.error 2) cO_2 cQ_3 h4) ⟨hx, hb, hml, hown, hts⟩ (cwV 1 hts (gV q354 q355 q356 q41 q357) rfl rfl rfl (by decide +kernel) ⟨Nat.le_of_ble_eq_true rfl, Nat.le_of_ble_eq_true rfl⟩) (va_recv hK hP (ci := 7) (q0 := 0) rfl rfl) hE hP hD hS hA hZ rfl hl.1 rfl (lv_room (Nat.le_of_ble_eq_true rfl)) dL_addOwner_4 ⟨Nat.le_of_ble_eq_true rfl, Nat.le_of_ble_eq_true rfl⟩ (fun H locs q9 ce hP hD hS hce hv9 hcl => ?_)
      refine vx_catch (E := "java/lang/IllegalStateException") hown [⟨0, 9, 12, 13⟩] ⟨0, 9, 15, 15⟩ [] htab (List.forall_mem_cons.mpr ⟨Or.inr ⟨by decide, _, hts _ q352, hNC _ nc_2_1⟩, fun _ h => absurd h List.not_mem_nil⟩) (by decide) (by decide) (hts _ q353) (va_Nw.use rfl (hE.2.1 _ n440)) hce hv9 hcl ?_
      refine lv_astore_n (lv' := [(3, .ref q9), (0, .ref (ad 0)), (1, .int p1), (2, .ref oa)]) hx hb dL_addOwner_15 rfl hl (by decide) rfl (fun ls hl => ?_)
      refine lv_iconst (v := 2) hx hb dL_addOwner_16 (by decide) ?_
      cases hf
      exact endw_i hAe hQm hx hb hr hlocks rfl hP hD hS dL_addOwner_17 (Nat.le_of_ble_eq_true rfl) (Nat.le_of_ble_eq_true rfl)
    have hf := br_neg c8 hf
    cases hf
  refine cw_vi_ok (rest := [.int 0, .ref oa]) (m_C_addOwner l hst ca ad bq nF nO nL nA nC nV nU nP nE bF bO bL bA bC bV bU bP bE cT cK cO cQ cD pT pK pR pW pU pI pC uO uF uE uN wK jM jN jZ jB (WO ca oa od oL oD ++ R) _ p1 (.ok r6) cO_2 cQ_3 h4) ⟨hx, hb, hml, hown, hts⟩ (cwV 1 hts (gV q354 q355 q356 q41 q357) rfl rfl rfl (by decide +kernel) ⟨Nat.le_of_ble_eq_true rfl, Nat.le_of_ble_eq_true rfl⟩) (va_recv hK hP (ci := 7) (q0 := 0) rfl rfl) hE hP hD hS hA hZ rfl hl.1 rfl (lv_room (Nat.le_of_ble_eq_true rfl)) dL_addOwner_4 ⟨Nat.le_of_ble_eq_true rfl, Nat.le_of_ble_eq_true rfl⟩ (fun H locs hP hD hS => ?_)
  refine lv_i2l hx hb dL_addOwner_7 rfl ?_
  refine va_last (D := D) hx hb hK hP hD hS 40 5 rfl rfl (by unfold vp_in; decide) dL_addOwner_8 (fun H locs hP hD hS => ?_)
  have hP : va_P D vwCl (WC ca ad bq nF nO nL nA nC nV nU nP nE bF bO bL bA bC bV bU bP bE cT cK cO_2 cQ_3 cD pT pK pR pW pU pI pC uO uF uE uN wK jM jN jZ jB ++ (WO ca oa od (vp_updL oL (0 : Int32).toNatClampNeg ((r6).toInt64)) oD ++ R)) H := hP
  have hD : va_D A (WC ca ad bq nF nO nL nA nC nV nU nP nE bF bO bL bA bC bV bU bP bE cT cK cO_2 cQ_3 cD pT pK pR pW pU pI pC uO uF uE uN wK jM jN jZ jB ++ (WO ca oa od (vp_updL oL (0 : Int32).toNatClampNeg ((r6).toInt64)) oD ++ R)) := hD
  refine lv_goto (tgt := 18) hx hb dL_addOwner_9 (by decide) ?_
  refine lv_iconst (v := 0) hx hb dL_addOwner_18 (by decide) ?_
  cases hf
  exact endw_i hAe hQm hx hb hr hlocks rfl hP hD hS dL_addOwner_19 (Nat.le_of_ble_eq_true rfl) (Nat.le_of_ble_eq_true rfl)
def f_L_createFile (p1 : Int32) (nF : Int32) (nO : Nat → Int32) (nL : Nat → Int32) (nA : Nat → Int32) (nE : Int32) (cK : Nat → Int32) (cO : Int32) (oL : Nat → Int64) : Option (Int32 × Int32 × (Nat → Int32) × (Nat → Int32) × (Nat → Int32) × Int32 × (Nat → Int32) × (Nat → Int64)) :=
  (f_C_createFile p1 nF nO nL nA nE cK cO).bind fun (x1, nF_2, nO_3, nL_4, nA_5, nE_6, cK_7) =>
  match x1 with
  | .error n9 => if n9 = 3 then some (1, nF_2, nO_3, nL_4, nA_5, nE_6, cK_7, oL) else if n9 = 2 then some (2, nF_2, nO_3, nL_4, nA_5, nE_6, cK_7, oL) else none
  | .ok r10 =>
  some (0, nF_2, nO_3, nL_4, nA_5, nE_6, cK_7, (vp_updL oL (0 : Int32).toNatClampNeg ((r10).toInt64)))
set_option maxHeartbeats 4000000 in
set_option maxRecDepth 100000 in
theorem m_L_createFile (l : Launch) (hst : l.stackTraces = false) {D : va_G} (ca : Nat → ClassId) (ad : Nat → Nat) (bq : Nat) (oa od : Nat) (nF : Int32) (nO : Nat → Int32) (nL : Nat → Int32) (nA : Nat → Int32) (nC : Nat → Int32) (nV : Nat → Int32) (nU : Nat → Int32) (nP : Nat → Int32) (nE : Int32) (bF : Int32) (bO : Nat → Int32) (bL : Nat → Int32) (bA : Nat → Int32) (bC : Nat → Int32) (bV : Nat → Int32) (bU : Nat → Int32) (bP : Nat → Int32) (bE : Int32) (cT : Int32) (cK : Nat → Int32) (cO : Int32) (cQ : Nat → Int32) (cD : Int32) (pT : Int32) (pK : Int32) (pR : Nat → Int32) (pW : Nat → Int32) (pU : Nat → Int32) (pI : Nat → Int32) (pC : Nat → Nat → Int32) (uO : Int32) (uF : Nat → Int32) (uE : Nat → Int32) (uN : Nat → Int32) (wK : Nat → Int32) (jM : Int32) (jN : Int32) (jZ : Nat) (jB : Nat → Int32) (oL : Nat → Int64) (oD : Nat → UInt64) (R : va_W) (sz : Nat) (p1 : Int32) (ro : Int32) (onF : Int32) (onO : Nat → Int32) (onL : Nat → Int32) (onA : Nat → Int32) (onE : Int32) (ocK : Nat → Int32) (ooL : Nat → Int64) (hf : f_L_createFile p1 nF nO nL nA nE cK cO oL = some (ro, onF, onO, onL, onA, onE, ocK, ooL)) : vx_Met l yL_createFile (wmW yL_createFile cL_createFile 4 (some .int) [(0, 9, 12, 20), (0, 9, 15, 15)]) ({ frames := 8, cells := 2, slots := 12, locals := 133 } : Room) (PREL [.ref (ad 0), .int p1, .ref oa] D ca SL0 (WC ca ad bq nF nO nL nA nC nV nU nP nE bF bO bL bA bC bV bU bP bE cT cK cO cQ cD pT pK pR pW pU pI pC uO uF uE uN wK jM jN jZ jB ++ (WO ca oa od oL oD ++ R)) sz) (QI ro D (WC ca ad bq onF onO onL onA nC nV nU nP onE bF bO bL bA bC bV bU bP bE cT ocK cO cQ cD pT pK pR pW pU pI pC uO uF uE uN wK jM jN jZ jB ++ (WO ca oa od ooL oD ++ R)) (WC ca ad bq nF nO nL nA nC nV nU nP nE bF bO bL bA bC bV bU bP bE cT cK cO cQ cD pT pK pR pW pU pI pC uO uF uE uN wK jM jN jZ jB ++ (WO ca oa od oL oD ++ R)) sz) (fun _ _ _ => False) 2 12 (va_A (WC ca ad bq nF nO nL nA nC nV nU nP nE bF bO bL bA bC bV bU bP bE cT cK cO cQ cD pT pK pR pW pU pI pC uO uF uE uN wK jM jN jZ jB ++ (WO ca oa od oL oD ++ R)) sz) := by
  refine vx_ofWH (cc := cL_createFile) (maxL := 4) (ret := (some .int)) (hh := [(0, 9, 12, 20), (0, 9, 15, 15)]) (by decide) rfl ?_
  intro p e s m args below meth c s₁ B hml hv
  obtain ⟨rfl, rfl, hP, hE, hD0, hZ, hNC⟩ := hv
  have hx := B.exec
  have hb := B.bytes
  have hr := B.returns
  have hts0 := atoms_spec (ws := wmW yL_createFile cL_createFile 4 (some .int) [(0, 9, 12, 20), (0, 9, 15, 15)]) B.pre
  have hts := wmW_ww hts0
  have htab := vx_table (x := yL_createFile) B (hts0 _ List.mem_cons_self)
  have hown : s.vm.findClass RL = some m.cls := findClass_of_methodNamed B.named
  have hlocks := B.notSynchronized
  have hK := hE.1
  have hD := hD0.self (sz := s.heap.size)
  generalize hAe : va_A (WC ca ad bq nF nO nL nA nC nV nU nP nE bF bO bL bA bC bV bU bP bE cT cK cO cQ cD pT pK pR pW pU pI pC uO uF uE uN wK jM jN jZ jB ++ (WO ca oa od oL oD ++ R)) s.heap.size = A at hD hZ ⊢
  have hA : ∀ q : Nat, s.heap.size ≤ q → A q := fun q h => by rw [← hAe]; exact Or.inr h
  have hS : va_S A s.heap s.heap [] := va_S.rf
  have hl := lv_entry ([.ref (ad 0), .int p1, .ref oa]) (n := 4) (Nat.le_of_ble_eq_true rfl)
  rw [lg_entry_eq]
  generalize (lg_sl ([.ref (ad 0), .int p1, .ref oa]) ++ List.replicate (4 - (lg_sl ([.ref (ad 0), .int p1, .ref oa])).length) Slot.unset).toArray = ls at hl ⊢
  have hl : lv_has ls 4 [(0, .ref (ad 0)), (1, .int p1), (2, .ref oa)] := hl
  change W p l e ({ frames := 8, cells := 2, slots := 12, locals := 133 } : Room) s m _ below meth c s.heap [] 0 0 _ _
  generalize hQm : vx_MQ below (QI ro D (WC ca ad bq onF onO onL onA nC nV nU nP onE bF bO bL bA bC bV bU bP bE cT ocK cO cQ cD pT pK pR pW pU pI pC uO uF uE uN wK jM jN jZ jB ++ (WO ca oa od ooL oD ++ R)) (WC ca ad bq nF nO nL nA nC nV nU nP nE bF bO bL bA bC bV bU bP bE cT cK cO cQ cD pT pK pR pW pU pI pC uO uF uE uN wK jM jN jZ jB ++ (WO ca oa od oL oD ++ R)) s.heap.size) (fun _ _ _ => False) _ s 2 12 A = Qm
  have hP : va_P D vwCl (WC ca ad bq nF nO nL nA nC nV nU nP nE bF bO bL bA bC bV bU bP bE cT cK cO cQ cD pT pK pR pW pU pI pC uO uF uE uN wK jM jN jZ jB ++ (WO ca oa od oL oD ++ R)) s.heap := hP
  generalize hae : ([.ref (ad 0), .int p1, .ref oa] : List Value).toArray = args at hts hQm ⊢
  refine lv_aload_n hx hb dL_createFile_0 rfl (lv_at hl 2 rfl) ?_
  refine lv_iconst (v := 0) hx hb dL_createFile_1 (by decide) ?_
  refine lv_aload_n hx hb dL_createFile_2 rfl (lv_at hl 0 rfl) ?_
  refine lv_iload_n hx hb dL_createFile_3 rfl (lv_at hl 1 rfl) ?_
  obtain ⟨⟨x1, nF_2, nO_3, nL_4, nA_5, nE_6, cK_7⟩, h8, hf⟩ := bnd hf
  rcases x1 with n9 | r10
  · have hf : (if n9 = 3 then some (1, nF_2, nO_3, nL_4, nA_5, nE_6, cK_7, oL) else if n9 = 2 then some (2, nF_2, nO_3, nL_4, nA_5, nE_6, cK_7, oL) else none) = some (ro, onF, onO, onL, onA, onE, ocK, ooL) := hf
    by_cases c11 : n9 = 3
    · subst c11
      have hf := br_pos rfl hf
      refine cw_vi_err (rest := [.int 0, .ref oa]) (m_C_createFile l hst ca ad bq nF nO nL nA nC nV nU nP nE bF bO bL bA bC bV bU bP bE cT cK cO cQ cD pT pK pR pW pU pI pC uO uF uE uN wK jM jN jZ jB (WO ca oa od oL oD ++ R) _ p1 (.error 3) nF_2 nO_3 nL_4 nA_5 nE_6 cK_7 h8) ⟨hx, hb, hml, hown, hts⟩ (cwV 1 hts (gV q482 q483 q484 q41 q485) rfl rfl rfl (by decide +kernel) ⟨Nat.le_of_ble_eq_true rfl, Nat.le_of_ble_eq_true rfl⟩) (va_recv hK hP (ci := 7) (q0 := 0) rfl rfl) hE hP hD hS hA hZ rfl hl.1 rfl (lv_room (Nat.le_of_ble_eq_true rfl)) dL_createFile_4 ⟨Nat.le_of_ble_eq_true rfl, Nat.le_of_ble_eq_true rfl⟩ (fun H locs q9 ce hP hD hS hce hv9 hcl => ?_)
      refine vx_catch (E := "java/lang/IndexOutOfBoundsException") hown [] ⟨0, 9, 12, 20⟩ [⟨0, 9, 15, 15⟩] htab (fun _ h => absurd h List.not_mem_nil) (by decide) (by decide) (hts _ q458) (va_Nw.use rfl (hE.2.1 _ n492)) hce hv9 hcl ?_
      refine lv_astore_n (lv' := [(3, .ref q9), (0, .ref (ad 0)), (1, .int p1), (2, .ref oa)]) hx hb dL_createFile_12 rfl hl (by decide) rfl (fun ls hl => ?_)
      refine lv_iconst (v := 1) hx hb dL_createFile_13 (by decide) ?_
      cases hf
      exact endw_i hAe hQm hx hb hr hlocks rfl hP hD hS dL_createFile_14 (Nat.le_of_ble_eq_true rfl) (Nat.le_of_ble_eq_true rfl)
    have hf := br_neg c11 hf
    by_cases c12 : n9 = 2
    · subst c12
      have hf := br_pos rfl hf
      refine cw_vi_err (rest := [.int 0, .ref oa]) (m_C_createFile l hst ca ad bq nF nO nL nA nC nV nU nP nE bF bO bL bA bC bV bU bP bE cT cK cO cQ cD pT pK pR pW pU pI pC uO uF uE uN wK jM jN jZ jB (WO ca oa od oL oD ++ R) _ p1 (.error 2) nF_2 nO_3 nL_4 nA_5 nE_6 cK_7 h8) ⟨hx, hb, hml, hown, hts⟩ (cwV 1 hts (gV q482 q483 q484 q41 q485) rfl rfl rfl (by decide +kernel) ⟨Nat.le_of_ble_eq_true rfl, Nat.le_of_ble_eq_true rfl⟩) (va_recv hK hP (ci := 7) (q0 := 0) rfl rfl) hE hP hD hS hA hZ rfl hl.1 rfl (lv_room (Nat.le_of_ble_eq_true rfl)) dL_createFile_4 ⟨Nat.le_of_ble_eq_true rfl, Nat.le_of_ble_eq_true rfl⟩ (fun H locs q9 ce hP hD hS hce hv9 hcl => ?_)
      refine vx_catch (E := "java/lang/IllegalStateException") hown [⟨0, 9, 12, 20⟩] ⟨0, 9, 15, 15⟩ [] htab (List.forall_mem_cons.mpr ⟨Or.inr ⟨by decide, _, hts _ q458, hNC _ nc_2_3⟩, fun _ h => absurd h List.not_mem_nil⟩) (by decide) (by decide) (hts _ q353) (va_Nw.use rfl (hE.2.1 _ n440)) hce hv9 hcl ?_
      refine lv_astore_n (lv' := [(3, .ref q9), (0, .ref (ad 0)), (1, .int p1), (2, .ref oa)]) hx hb dL_createFile_15 rfl hl (by decide) rfl (fun ls hl => ?_)
      refine lv_iconst (v := 2) hx hb dL_createFile_16 (by decide) ?_
      cases hf
      exact endw_i hAe hQm hx hb hr hlocks rfl hP hD hS dL_createFile_17 (Nat.le_of_ble_eq_true rfl) (Nat.le_of_ble_eq_true rfl)
    have hf := br_neg c12 hf
    cases hf
  refine cw_vi_ok (rest := [.int 0, .ref oa]) (m_C_createFile l hst ca ad bq nF nO nL nA nC nV nU nP nE bF bO bL bA bC bV bU bP bE cT cK cO cQ cD pT pK pR pW pU pI pC uO uF uE uN wK jM jN jZ jB (WO ca oa od oL oD ++ R) _ p1 (.ok r10) nF_2 nO_3 nL_4 nA_5 nE_6 cK_7 h8) ⟨hx, hb, hml, hown, hts⟩ (cwV 1 hts (gV q482 q483 q484 q41 q485) rfl rfl rfl (by decide +kernel) ⟨Nat.le_of_ble_eq_true rfl, Nat.le_of_ble_eq_true rfl⟩) (va_recv hK hP (ci := 7) (q0 := 0) rfl rfl) hE hP hD hS hA hZ rfl hl.1 rfl (lv_room (Nat.le_of_ble_eq_true rfl)) dL_createFile_4 ⟨Nat.le_of_ble_eq_true rfl, Nat.le_of_ble_eq_true rfl⟩ (fun H locs hP hD hS => ?_)
  refine lv_i2l hx hb dL_createFile_7 rfl ?_
  refine va_last (D := D) hx hb hK hP hD hS 40 5 rfl rfl (by unfold vp_in; decide) dL_createFile_8 (fun H locs hP hD hS => ?_)
  have hP : va_P D vwCl (WC ca ad bq nF_2 nO_3 nL_4 nA_5 nC nV nU nP nE_6 bF bO bL bA bC bV bU bP bE cT cK_7 cO cQ cD pT pK pR pW pU pI pC uO uF uE uN wK jM jN jZ jB ++ (WO ca oa od (vp_updL oL (0 : Int32).toNatClampNeg ((r10).toInt64)) oD ++ R)) H := hP
  have hD : va_D A (WC ca ad bq nF_2 nO_3 nL_4 nA_5 nC nV nU nP nE_6 bF bO bL bA bC bV bU bP bE cT cK_7 cO cQ cD pT pK pR pW pU pI pC uO uF uE uN wK jM jN jZ jB ++ (WO ca oa od (vp_updL oL (0 : Int32).toNatClampNeg ((r10).toInt64)) oD ++ R)) := hD
  refine lv_goto (tgt := 18) hx hb dL_createFile_9 (by decide) ?_
  refine lv_iconst (v := 0) hx hb dL_createFile_18 (by decide) ?_
  cases hf
  exact endw_i hAe hQm hx hb hr hlocks rfl hP hD hS dL_createFile_19 (Nat.le_of_ble_eq_true rfl) (Nat.le_of_ble_eq_true rfl)
def f_L_doesExist (p1 : Int32) (nF : Int32) (nA : Nat → Int32) (oL : Nat → Int64) : Option (Int32 × (Nat → Int64)) :=
  (f_C_doesExist p1 nF nA).bind fun x1 =>
  match x1 with
  | .error n3 => if n3 = 3 then some (1, oL) else none
  | .ok r4 =>
  if r4 = 0 then
    some (0, (vp_updL oL (0 : Int32).toNatClampNeg 0))
  else
    some (0, (vp_updL oL (0 : Int32).toNatClampNeg 1))
set_option maxHeartbeats 4000000 in
set_option maxRecDepth 100000 in
theorem m_L_doesExist (l : Launch) (hst : l.stackTraces = false) {D : va_G} (ca : Nat → ClassId) (ad : Nat → Nat) (bq : Nat) (oa od : Nat) (nF : Int32) (nO : Nat → Int32) (nL : Nat → Int32) (nA : Nat → Int32) (nC : Nat → Int32) (nV : Nat → Int32) (nU : Nat → Int32) (nP : Nat → Int32) (nE : Int32) (bF : Int32) (bO : Nat → Int32) (bL : Nat → Int32) (bA : Nat → Int32) (bC : Nat → Int32) (bV : Nat → Int32) (bU : Nat → Int32) (bP : Nat → Int32) (bE : Int32) (cT : Int32) (cK : Nat → Int32) (cO : Int32) (cQ : Nat → Int32) (cD : Int32) (pT : Int32) (pK : Int32) (pR : Nat → Int32) (pW : Nat → Int32) (pU : Nat → Int32) (pI : Nat → Int32) (pC : Nat → Nat → Int32) (uO : Int32) (uF : Nat → Int32) (uE : Nat → Int32) (uN : Nat → Int32) (wK : Nat → Int32) (jM : Int32) (jN : Int32) (jZ : Nat) (jB : Nat → Int32) (oL : Nat → Int64) (oD : Nat → UInt64) (R : va_W) (sz : Nat) (p1 : Int32) (ro : Int32) (ooL : Nat → Int64) (hf : f_L_doesExist p1 nF nA oL = some (ro, ooL)) : vx_Met l yL_doesExist (wmW yL_doesExist cL_doesExist 4 (some .int) [(0, 16, 19, 20)]) ({ frames := 8, cells := 1, slots := 6, locals := 132 } : Room) (PREL [.ref (ad 0), .int p1, .ref oa] D ca SL0 (WC ca ad bq nF nO nL nA nC nV nU nP nE bF bO bL bA bC bV bU bP bE cT cK cO cQ cD pT pK pR pW pU pI pC uO uF uE uN wK jM jN jZ jB ++ (WO ca oa od oL oD ++ R)) sz) (QI ro D (WC ca ad bq nF nO nL nA nC nV nU nP nE bF bO bL bA bC bV bU bP bE cT cK cO cQ cD pT pK pR pW pU pI pC uO uF uE uN wK jM jN jZ jB ++ (WO ca oa od ooL oD ++ R)) (WC ca ad bq nF nO nL nA nC nV nU nP nE bF bO bL bA bC bV bU bP bE cT cK cO cQ cD pT pK pR pW pU pI pC uO uF uE uN wK jM jN jZ jB ++ (WO ca oa od oL oD ++ R)) sz) (fun _ _ _ => False) 1 6 (va_A (WC ca ad bq nF nO nL nA nC nV nU nP nE bF bO bL bA bC bV bU bP bE cT cK cO cQ cD pT pK pR pW pU pI pC uO uF uE uN wK jM jN jZ jB ++ (WO ca oa od oL oD ++ R)) sz) := by
  refine vx_ofWH (cc := cL_doesExist) (maxL := 4) (ret := (some .int)) (hh := [(0, 16, 19, 20)]) (by decide) rfl ?_
  intro p e s m args below meth c s₁ B hml hv
  obtain ⟨rfl, rfl, hP, hE, hD0, hZ, hNC⟩ := hv
  have hx := B.exec
  have hb := B.bytes
  have hr := B.returns
  have hts0 := atoms_spec (ws := wmW yL_doesExist cL_doesExist 4 (some .int) [(0, 16, 19, 20)]) B.pre
  have hts := wmW_ww hts0
  have htab := vx_table (x := yL_doesExist) B (hts0 _ List.mem_cons_self)
  have hown : s.vm.findClass RL = some m.cls := findClass_of_methodNamed B.named
  have hlocks := B.notSynchronized
  have hK := hE.1
  have hD := hD0.self (sz := s.heap.size)
  generalize hAe : va_A (WC ca ad bq nF nO nL nA nC nV nU nP nE bF bO bL bA bC bV bU bP bE cT cK cO cQ cD pT pK pR pW pU pI pC uO uF uE uN wK jM jN jZ jB ++ (WO ca oa od oL oD ++ R)) s.heap.size = A at hD hZ ⊢
  have hA : ∀ q : Nat, s.heap.size ≤ q → A q := fun q h => by rw [← hAe]; exact Or.inr h
  have hS : va_S A s.heap s.heap [] := va_S.rf
  have hl := lv_entry ([.ref (ad 0), .int p1, .ref oa]) (n := 4) (Nat.le_of_ble_eq_true rfl)
  rw [lg_entry_eq]
  generalize (lg_sl ([.ref (ad 0), .int p1, .ref oa]) ++ List.replicate (4 - (lg_sl ([.ref (ad 0), .int p1, .ref oa])).length) Slot.unset).toArray = ls at hl ⊢
  have hl : lv_has ls 4 [(0, .ref (ad 0)), (1, .int p1), (2, .ref oa)] := hl
  change W p l e ({ frames := 8, cells := 1, slots := 6, locals := 132 } : Room) s m _ below meth c s.heap [] 0 0 _ _
  generalize hQm : vx_MQ below (QI ro D (WC ca ad bq nF nO nL nA nC nV nU nP nE bF bO bL bA bC bV bU bP bE cT cK cO cQ cD pT pK pR pW pU pI pC uO uF uE uN wK jM jN jZ jB ++ (WO ca oa od ooL oD ++ R)) (WC ca ad bq nF nO nL nA nC nV nU nP nE bF bO bL bA bC bV bU bP bE cT cK cO cQ cD pT pK pR pW pU pI pC uO uF uE uN wK jM jN jZ jB ++ (WO ca oa od oL oD ++ R)) s.heap.size) (fun _ _ _ => False) _ s 1 6 A = Qm
  have hP : va_P D vwCl (WC ca ad bq nF nO nL nA nC nV nU nP nE bF bO bL bA bC bV bU bP bE cT cK cO cQ cD pT pK pR pW pU pI pC uO uF uE uN wK jM jN jZ jB ++ (WO ca oa od oL oD ++ R)) s.heap := hP
  generalize hae : ([.ref (ad 0), .int p1, .ref oa] : List Value).toArray = args at hts hQm ⊢
  refine lv_aload_n hx hb dL_doesExist_0 rfl (lv_at hl 2 rfl) ?_
  refine lv_iconst (v := 0) hx hb dL_doesExist_1 (by decide) ?_
  refine lv_aload_n hx hb dL_doesExist_2 rfl (lv_at hl 0 rfl) ?_
  refine lv_iload_n hx hb dL_doesExist_3 rfl (lv_at hl 1 rfl) ?_
  obtain ⟨x1, h2, hf⟩ := bnd hf
  rcases x1 with n3 | r4
  · have hf : (if n3 = 3 then some (1, oL) else none) = some (ro, ooL) := hf
    by_cases c5 : n3 = 3
    · subst c5
      have hf := br_pos rfl hf
      refine cw_vi_err (rest := [.int 0, .ref oa]) (m_C_doesExist l hst ca ad bq nF nO nL nA nC nV nU nP nE bF bO bL bA bC bV bU bP bE cT cK cO cQ cD pT pK pR pW pU pI pC uO uF uE uN wK jM jN jZ jB (WO ca oa od oL oD ++ R) _ p1 (.error 3) h2) ⟨hx, hb, hml, hown, hts⟩ (cwV 1 hts (gV q519 q520 q521 q41 q522) rfl rfl rfl (by decide +kernel) ⟨Nat.le_of_ble_eq_true rfl, Nat.le_of_ble_eq_true rfl⟩) (va_recv hK hP (ci := 7) (q0 := 0) rfl rfl) hE hP hD hS hA hZ rfl hl.1 rfl (lv_room (Nat.le_of_ble_eq_true rfl)) dL_doesExist_4 ⟨Nat.le_of_ble_eq_true rfl, Nat.le_of_ble_eq_true rfl⟩ (fun H locs q9 ce hP hD hS hce hv9 hcl => ?_)
      refine vx_catch (E := "java/lang/IndexOutOfBoundsException") hown [] ⟨0, 16, 19, 20⟩ [] htab (fun _ h => absurd h List.not_mem_nil) (by decide) (by decide) (hts _ q458) (va_Nw.use rfl (hE.2.1 _ n492)) hce hv9 hcl ?_
      refine lv_astore_n (lv' := [(3, .ref q9), (0, .ref (ad 0)), (1, .int p1), (2, .ref oa)]) hx hb dL_doesExist_19 rfl hl (by decide) rfl (fun ls hl => ?_)
      refine lv_iconst (v := 1) hx hb dL_doesExist_20 (by decide) ?_
      cases hf
      exact endw_i hAe hQm hx hb hr hlocks rfl hP hD hS dL_doesExist_21 (Nat.le_of_ble_eq_true rfl) (Nat.le_of_ble_eq_true rfl)
    have hf := br_neg c5 hf
    cases hf
  refine cw_vi_ok (rest := [.int 0, .ref oa]) (m_C_doesExist l hst ca ad bq nF nO nL nA nC nV nU nP nE bF bO bL bA bC bV bU bP bE cT cK cO cQ cD pT pK pR pW pU pI pC uO uF uE uN wK jM jN jZ jB (WO ca oa od oL oD ++ R) _ p1 (.ok r4) h2) ⟨hx, hb, hml, hown, hts⟩ (cwV 1 hts (gV q519 q520 q521 q41 q522) rfl rfl rfl (by decide +kernel) ⟨Nat.le_of_ble_eq_true rfl, Nat.le_of_ble_eq_true rfl⟩) (va_recv hK hP (ci := 7) (q0 := 0) rfl rfl) hE hP hD hS hA hZ rfl hl.1 rfl (lv_room (Nat.le_of_ble_eq_true rfl)) dL_doesExist_4 ⟨Nat.le_of_ble_eq_true rfl, Nat.le_of_ble_eq_true rfl⟩ (fun H locs hP hD hS => ?_)
  refine lv_if_eq (tgt := 14) hx hb dL_doesExist_7 (by decide) (fun c6 => ?_) (fun c6 => ?_)
  · have hf := br_pos c6 hf
    refine lv_lconst (v := 0) hx hb dL_doesExist_14 (by decide) ?_
    refine va_last (D := D) hx hb hK hP hD hS 40 5 rfl rfl (by unfold vp_in; decide) dL_doesExist_15 (fun H locs hP hD hS => ?_)
    have hP : va_P D vwCl (WC ca ad bq nF nO nL nA nC nV nU nP nE bF bO bL bA bC bV bU bP bE cT cK cO cQ cD pT pK pR pW pU pI pC uO uF uE uN wK jM jN jZ jB ++ (WO ca oa od (vp_updL oL (0 : Int32).toNatClampNeg 0) oD ++ R)) H := hP
    have hD : va_D A (WC ca ad bq nF nO nL nA nC nV nU nP nE bF bO bL bA bC bV bU bP bE cT cK cO cQ cD pT pK pR pW pU pI pC uO uF uE uN wK jM jN jZ jB ++ (WO ca oa od (vp_updL oL (0 : Int32).toNatClampNeg 0) oD ++ R)) := hD
    refine lv_goto (tgt := 22) hx hb dL_doesExist_16 (by decide) ?_
    refine lv_iconst (v := 0) hx hb dL_doesExist_22 (by decide) ?_
    cases hf
    exact endw_i hAe hQm hx hb hr hlocks rfl hP hD hS dL_doesExist_23 (Nat.le_of_ble_eq_true rfl) (Nat.le_of_ble_eq_true rfl)
  · have hf := br_neg c6 hf
    refine lv_lconst (v := 1) hx hb dL_doesExist_10 (by decide) ?_
    refine lv_goto (tgt := 15) hx hb dL_doesExist_11 (by decide) ?_
    refine va_last (D := D) hx hb hK hP hD hS 40 5 rfl rfl (by unfold vp_in; decide) dL_doesExist_15 (fun H locs hP hD hS => ?_)
    have hP : va_P D vwCl (WC ca ad bq nF nO nL nA nC nV nU nP nE bF bO bL bA bC bV bU bP bE cT cK cO cQ cD pT pK pR pW pU pI pC uO uF uE uN wK jM jN jZ jB ++ (WO ca oa od (vp_updL oL (0 : Int32).toNatClampNeg 1) oD ++ R)) H := hP
    have hD : va_D A (WC ca ad bq nF nO nL nA nC nV nU nP nE bF bO bL bA bC bV bU bP bE cT cK cO cQ cD pT pK pR pW pU pI pC uO uF uE uN wK jM jN jZ jB ++ (WO ca oa od (vp_updL oL (0 : Int32).toNatClampNeg 1) oD ++ R)) := hD
    refine lv_goto (tgt := 22) hx hb dL_doesExist_16 (by decide) ?_
    refine lv_iconst (v := 0) hx hb dL_doesExist_22 (by decide) ?_
    cases hf
    exact endw_i hAe hQm hx hb hr hlocks rfl hP hD hS dL_doesExist_23 (Nat.le_of_ble_eq_true rfl) (Nat.le_of_ble_eq_true rfl)
def f_L_linksOf (p1 : Int32) (nF : Int32) (nL : Nat → Int32) (oL : Nat → Int64) : Option (Int32 × (Nat → Int64)) :=
  (f_C_linksOf p1 nF nL).bind fun x1 =>
  match x1 with
  | .error n3 => if n3 = 3 then some (1, oL) else none
  | .ok r4 =>
  some (0, (vp_updL oL (0 : Int32).toNatClampNeg ((r4).toInt64)))
set_option maxHeartbeats 4000000 in
set_option maxRecDepth 100000 in
theorem m_L_linksOf (l : Launch) (hst : l.stackTraces = false) {D : va_G} (ca : Nat → ClassId) (ad : Nat → Nat) (bq : Nat) (oa od : Nat) (nF : Int32) (nO : Nat → Int32) (nL : Nat → Int32) (nA : Nat → Int32) (nC : Nat → Int32) (nV : Nat → Int32) (nU : Nat → Int32) (nP : Nat → Int32) (nE : Int32) (bF : Int32) (bO : Nat → Int32) (bL : Nat → Int32) (bA : Nat → Int32) (bC : Nat → Int32) (bV : Nat → Int32) (bU : Nat → Int32) (bP : Nat → Int32) (bE : Int32) (cT : Int32) (cK : Nat → Int32) (cO : Int32) (cQ : Nat → Int32) (cD : Int32) (pT : Int32) (pK : Int32) (pR : Nat → Int32) (pW : Nat → Int32) (pU : Nat → Int32) (pI : Nat → Int32) (pC : Nat → Nat → Int32) (uO : Int32) (uF : Nat → Int32) (uE : Nat → Int32) (uN : Nat → Int32) (wK : Nat → Int32) (jM : Int32) (jN : Int32) (jZ : Nat) (jB : Nat → Int32) (oL : Nat → Int64) (oD : Nat → UInt64) (R : va_W) (sz : Nat) (p1 : Int32) (ro : Int32) (ooL : Nat → Int64) (hf : f_L_linksOf p1 nF nL oL = some (ro, ooL)) : vx_Met l yL_linksOf (wmW yL_linksOf cL_linksOf 4 (some .int) [(0, 9, 12, 20)]) ({ frames := 8, cells := 1, slots := 6, locals := 132 } : Room) (PREL [.ref (ad 0), .int p1, .ref oa] D ca SL0 (WC ca ad bq nF nO nL nA nC nV nU nP nE bF bO bL bA bC bV bU bP bE cT cK cO cQ cD pT pK pR pW pU pI pC uO uF uE uN wK jM jN jZ jB ++ (WO ca oa od oL oD ++ R)) sz) (QI ro D (WC ca ad bq nF nO nL nA nC nV nU nP nE bF bO bL bA bC bV bU bP bE cT cK cO cQ cD pT pK pR pW pU pI pC uO uF uE uN wK jM jN jZ jB ++ (WO ca oa od ooL oD ++ R)) (WC ca ad bq nF nO nL nA nC nV nU nP nE bF bO bL bA bC bV bU bP bE cT cK cO cQ cD pT pK pR pW pU pI pC uO uF uE uN wK jM jN jZ jB ++ (WO ca oa od oL oD ++ R)) sz) (fun _ _ _ => False) 1 6 (va_A (WC ca ad bq nF nO nL nA nC nV nU nP nE bF bO bL bA bC bV bU bP bE cT cK cO cQ cD pT pK pR pW pU pI pC uO uF uE uN wK jM jN jZ jB ++ (WO ca oa od oL oD ++ R)) sz) := by
  refine vx_ofWH (cc := cL_linksOf) (maxL := 4) (ret := (some .int)) (hh := [(0, 9, 12, 20)]) (by decide) rfl ?_
  intro p e s m args below meth c s₁ B hml hv
  obtain ⟨rfl, rfl, hP, hE, hD0, hZ, hNC⟩ := hv
  have hx := B.exec
  have hb := B.bytes
  have hr := B.returns
  have hts0 := atoms_spec (ws := wmW yL_linksOf cL_linksOf 4 (some .int) [(0, 9, 12, 20)]) B.pre
  have hts := wmW_ww hts0
  have htab := vx_table (x := yL_linksOf) B (hts0 _ List.mem_cons_self)
  have hown : s.vm.findClass RL = some m.cls := findClass_of_methodNamed B.named
  have hlocks := B.notSynchronized
  have hK := hE.1
  have hD := hD0.self (sz := s.heap.size)
  generalize hAe : va_A (WC ca ad bq nF nO nL nA nC nV nU nP nE bF bO bL bA bC bV bU bP bE cT cK cO cQ cD pT pK pR pW pU pI pC uO uF uE uN wK jM jN jZ jB ++ (WO ca oa od oL oD ++ R)) s.heap.size = A at hD hZ ⊢
  have hA : ∀ q : Nat, s.heap.size ≤ q → A q := fun q h => by rw [← hAe]; exact Or.inr h
  have hS : va_S A s.heap s.heap [] := va_S.rf
  have hl := lv_entry ([.ref (ad 0), .int p1, .ref oa]) (n := 4) (Nat.le_of_ble_eq_true rfl)
  rw [lg_entry_eq]
  generalize (lg_sl ([.ref (ad 0), .int p1, .ref oa]) ++ List.replicate (4 - (lg_sl ([.ref (ad 0), .int p1, .ref oa])).length) Slot.unset).toArray = ls at hl ⊢
  have hl : lv_has ls 4 [(0, .ref (ad 0)), (1, .int p1), (2, .ref oa)] := hl
  change W p l e ({ frames := 8, cells := 1, slots := 6, locals := 132 } : Room) s m _ below meth c s.heap [] 0 0 _ _
  generalize hQm : vx_MQ below (QI ro D (WC ca ad bq nF nO nL nA nC nV nU nP nE bF bO bL bA bC bV bU bP bE cT cK cO cQ cD pT pK pR pW pU pI pC uO uF uE uN wK jM jN jZ jB ++ (WO ca oa od ooL oD ++ R)) (WC ca ad bq nF nO nL nA nC nV nU nP nE bF bO bL bA bC bV bU bP bE cT cK cO cQ cD pT pK pR pW pU pI pC uO uF uE uN wK jM jN jZ jB ++ (WO ca oa od oL oD ++ R)) s.heap.size) (fun _ _ _ => False) _ s 1 6 A = Qm
  have hP : va_P D vwCl (WC ca ad bq nF nO nL nA nC nV nU nP nE bF bO bL bA bC bV bU bP bE cT cK cO cQ cD pT pK pR pW pU pI pC uO uF uE uN wK jM jN jZ jB ++ (WO ca oa od oL oD ++ R)) s.heap := hP
  generalize hae : ([.ref (ad 0), .int p1, .ref oa] : List Value).toArray = args at hts hQm ⊢
  refine lv_aload_n hx hb dL_linksOf_0 rfl (lv_at hl 2 rfl) ?_
  refine lv_iconst (v := 0) hx hb dL_linksOf_1 (by decide) ?_
  refine lv_aload_n hx hb dL_linksOf_2 rfl (lv_at hl 0 rfl) ?_
  refine lv_iload_n hx hb dL_linksOf_3 rfl (lv_at hl 1 rfl) ?_
  obtain ⟨x1, h2, hf⟩ := bnd hf
  rcases x1 with n3 | r4
  · have hf : (if n3 = 3 then some (1, oL) else none) = some (ro, ooL) := hf
    by_cases c5 : n3 = 3
    · subst c5
      have hf := br_pos rfl hf
      refine cw_vi_err (rest := [.int 0, .ref oa]) (m_C_linksOf l hst ca ad bq nF nO nL nA nC nV nU nP nE bF bO bL bA bC bV bU bP bE cT cK cO cQ cD pT pK pR pW pU pI pC uO uF uE uN wK jM jN jZ jB (WO ca oa od oL oD ++ R) _ p1 (.error 3) h2) ⟨hx, hb, hml, hown, hts⟩ (cwV 1 hts (gV q532 q533 q534 q41 q535) rfl rfl rfl (by decide +kernel) ⟨Nat.le_of_ble_eq_true rfl, Nat.le_of_ble_eq_true rfl⟩) (va_recv hK hP (ci := 7) (q0 := 0) rfl rfl) hE hP hD hS hA hZ rfl hl.1 rfl (lv_room (Nat.le_of_ble_eq_true rfl)) dL_linksOf_4 ⟨Nat.le_of_ble_eq_true rfl, Nat.le_of_ble_eq_true rfl⟩ (fun H locs q9 ce hP hD hS hce hv9 hcl => ?_)
      refine vx_catch (E := "java/lang/IndexOutOfBoundsException") hown [] ⟨0, 9, 12, 20⟩ [] htab (fun _ h => absurd h List.not_mem_nil) (by decide) (by decide) (hts _ q458) (va_Nw.use rfl (hE.2.1 _ n492)) hce hv9 hcl ?_
      refine lv_astore_n (lv' := [(3, .ref q9), (0, .ref (ad 0)), (1, .int p1), (2, .ref oa)]) hx hb dL_linksOf_12 rfl hl (by decide) rfl (fun ls hl => ?_)
      refine lv_iconst (v := 1) hx hb dL_linksOf_13 (by decide) ?_
      cases hf
      exact endw_i hAe hQm hx hb hr hlocks rfl hP hD hS dL_linksOf_14 (Nat.le_of_ble_eq_true rfl) (Nat.le_of_ble_eq_true rfl)
    have hf := br_neg c5 hf
    cases hf
  refine cw_vi_ok (rest := [.int 0, .ref oa]) (m_C_linksOf l hst ca ad bq nF nO nL nA nC nV nU nP nE bF bO bL bA bC bV bU bP bE cT cK cO cQ cD pT pK pR pW pU pI pC uO uF uE uN wK jM jN jZ jB (WO ca oa od oL oD ++ R) _ p1 (.ok r4) h2) ⟨hx, hb, hml, hown, hts⟩ (cwV 1 hts (gV q532 q533 q534 q41 q535) rfl rfl rfl (by decide +kernel) ⟨Nat.le_of_ble_eq_true rfl, Nat.le_of_ble_eq_true rfl⟩) (va_recv hK hP (ci := 7) (q0 := 0) rfl rfl) hE hP hD hS hA hZ rfl hl.1 rfl (lv_room (Nat.le_of_ble_eq_true rfl)) dL_linksOf_4 ⟨Nat.le_of_ble_eq_true rfl, Nat.le_of_ble_eq_true rfl⟩ (fun H locs hP hD hS => ?_)
  refine lv_i2l hx hb dL_linksOf_7 rfl ?_
  refine va_last (D := D) hx hb hK hP hD hS 40 5 rfl rfl (by unfold vp_in; decide) dL_linksOf_8 (fun H locs hP hD hS => ?_)
  have hP : va_P D vwCl (WC ca ad bq nF nO nL nA nC nV nU nP nE bF bO bL bA bC bV bU bP bE cT cK cO cQ cD pT pK pR pW pU pI pC uO uF uE uN wK jM jN jZ jB ++ (WO ca oa od (vp_updL oL (0 : Int32).toNatClampNeg ((r4).toInt64)) oD ++ R)) H := hP
  have hD : va_D A (WC ca ad bq nF nO nL nA nC nV nU nP nE bF bO bL bA bC bV bU bP bE cT cK cO cQ cD pT pK pR pW pU pI pC uO uF uE uN wK jM jN jZ jB ++ (WO ca oa od (vp_updL oL (0 : Int32).toNatClampNeg ((r4).toInt64)) oD ++ R)) := hD
  refine lv_goto (tgt := 15) hx hb dL_linksOf_9 (by decide) ?_
  refine lv_iconst (v := 0) hx hb dL_linksOf_15 (by decide) ?_
  cases hf
  exact endw_i hAe hQm hx hb hr hlocks rfl hP hD hS dL_linksOf_16 (Nat.le_of_ble_eq_true rfl) (Nat.le_of_ble_eq_true rfl)
def f_L_link (p1 : Int32) (nF : Int32) (nL : Nat → Int32) (nE : Int32) (cK : Nat → Int32) (oL : Nat → Int64) : Option (Int32 × (Nat → Int32) × Int32 × (Nat → Int32) × (Nat → Int64)) :=
  (f_C_link p1 nF nL nE cK).bind fun (x1, nL_2, nE_3, cK_4) =>
  match x1 with
  | .error n6 => if n6 = 3 then some (1, nL_2, nE_3, cK_4, oL) else if n6 = 2 then some (2, nL_2, nE_3, cK_4, oL) else none
  | .ok r7 =>
  some (0, nL_2, nE_3, cK_4, (vp_updL oL (0 : Int32).toNatClampNeg ((r7).toInt64)))
set_option maxHeartbeats 4000000 in
set_option maxRecDepth 100000 in
theorem m_L_link (l : Launch) (hst : l.stackTraces = false) {D : va_G} (ca : Nat → ClassId) (ad : Nat → Nat) (bq : Nat) (oa od : Nat) (nF : Int32) (nO : Nat → Int32) (nL : Nat → Int32) (nA : Nat → Int32) (nC : Nat → Int32) (nV : Nat → Int32) (nU : Nat → Int32) (nP : Nat → Int32) (nE : Int32) (bF : Int32) (bO : Nat → Int32) (bL : Nat → Int32) (bA : Nat → Int32) (bC : Nat → Int32) (bV : Nat → Int32) (bU : Nat → Int32) (bP : Nat → Int32) (bE : Int32) (cT : Int32) (cK : Nat → Int32) (cO : Int32) (cQ : Nat → Int32) (cD : Int32) (pT : Int32) (pK : Int32) (pR : Nat → Int32) (pW : Nat → Int32) (pU : Nat → Int32) (pI : Nat → Int32) (pC : Nat → Nat → Int32) (uO : Int32) (uF : Nat → Int32) (uE : Nat → Int32) (uN : Nat → Int32) (wK : Nat → Int32) (jM : Int32) (jN : Int32) (jZ : Nat) (jB : Nat → Int32) (oL : Nat → Int64) (oD : Nat → UInt64) (R : va_W) (sz : Nat) (p1 : Int32) (ro : Int32) (onL : Nat → Int32) (onE : Int32) (ocK : Nat → Int32) (ooL : Nat → Int64) (hf : f_L_link p1 nF nL nE cK oL = some (ro, onL, onE, ocK, ooL)) : vx_Met l yL_link (wmW yL_link cL_link 4 (some .int) [(0, 9, 12, 20), (0, 9, 15, 15)]) ({ frames := 8, cells := 3, slots := 18, locals := 133 } : Room) (PREL [.ref (ad 0), .int p1, .ref oa] D ca SL0 (WC ca ad bq nF nO nL nA nC nV nU nP nE bF bO bL bA bC bV bU bP bE cT cK cO cQ cD pT pK pR pW pU pI pC uO uF uE uN wK jM jN jZ jB ++ (WO ca oa od oL oD ++ R)) sz) (QI ro D (WC ca ad bq nF nO onL nA nC nV nU nP onE bF bO bL bA bC bV bU bP bE cT ocK cO cQ cD pT pK pR pW pU pI pC uO uF uE uN wK jM jN jZ jB ++ (WO ca oa od ooL oD ++ R)) (WC ca ad bq nF nO nL nA nC nV nU nP nE bF bO bL bA bC bV bU bP bE cT cK cO cQ cD pT pK pR pW pU pI pC uO uF uE uN wK jM jN jZ jB ++ (WO ca oa od oL oD ++ R)) sz) (fun _ _ _ => False) 3 18 (va_A (WC ca ad bq nF nO nL nA nC nV nU nP nE bF bO bL bA bC bV bU bP bE cT cK cO cQ cD pT pK pR pW pU pI pC uO uF uE uN wK jM jN jZ jB ++ (WO ca oa od oL oD ++ R)) sz) := by
  refine vx_ofWH (cc := cL_link) (maxL := 4) (ret := (some .int)) (hh := [(0, 9, 12, 20), (0, 9, 15, 15)]) (by decide) rfl ?_
  intro p e s m args below meth c s₁ B hml hv
  obtain ⟨rfl, rfl, hP, hE, hD0, hZ, hNC⟩ := hv
  have hx := B.exec
  have hb := B.bytes
  have hr := B.returns
  have hts0 := atoms_spec (ws := wmW yL_link cL_link 4 (some .int) [(0, 9, 12, 20), (0, 9, 15, 15)]) B.pre
  have hts := wmW_ww hts0
  have htab := vx_table (x := yL_link) B (hts0 _ List.mem_cons_self)
  have hown : s.vm.findClass RL = some m.cls := findClass_of_methodNamed B.named
  have hlocks := B.notSynchronized
  have hK := hE.1
  have hD := hD0.self (sz := s.heap.size)
  generalize hAe : va_A (WC ca ad bq nF nO nL nA nC nV nU nP nE bF bO bL bA bC bV bU bP bE cT cK cO cQ cD pT pK pR pW pU pI pC uO uF uE uN wK jM jN jZ jB ++ (WO ca oa od oL oD ++ R)) s.heap.size = A at hD hZ ⊢
  have hA : ∀ q : Nat, s.heap.size ≤ q → A q := fun q h => by rw [← hAe]; exact Or.inr h
  have hS : va_S A s.heap s.heap [] := va_S.rf
  have hl := lv_entry ([.ref (ad 0), .int p1, .ref oa]) (n := 4) (Nat.le_of_ble_eq_true rfl)
  rw [lg_entry_eq]
  generalize (lg_sl ([.ref (ad 0), .int p1, .ref oa]) ++ List.replicate (4 - (lg_sl ([.ref (ad 0), .int p1, .ref oa])).length) Slot.unset).toArray = ls at hl ⊢
  have hl : lv_has ls 4 [(0, .ref (ad 0)), (1, .int p1), (2, .ref oa)] := hl
  change W p l e ({ frames := 8, cells := 3, slots := 18, locals := 133 } : Room) s m _ below meth c s.heap [] 0 0 _ _
  generalize hQm : vx_MQ below (QI ro D (WC ca ad bq nF nO onL nA nC nV nU nP onE bF bO bL bA bC bV bU bP bE cT ocK cO cQ cD pT pK pR pW pU pI pC uO uF uE uN wK jM jN jZ jB ++ (WO ca oa od ooL oD ++ R)) (WC ca ad bq nF nO nL nA nC nV nU nP nE bF bO bL bA bC bV bU bP bE cT cK cO cQ cD pT pK pR pW pU pI pC uO uF uE uN wK jM jN jZ jB ++ (WO ca oa od oL oD ++ R)) s.heap.size) (fun _ _ _ => False) _ s 3 18 A = Qm
  have hP : va_P D vwCl (WC ca ad bq nF nO nL nA nC nV nU nP nE bF bO bL bA bC bV bU bP bE cT cK cO cQ cD pT pK pR pW pU pI pC uO uF uE uN wK jM jN jZ jB ++ (WO ca oa od oL oD ++ R)) s.heap := hP
  generalize hae : ([.ref (ad 0), .int p1, .ref oa] : List Value).toArray = args at hts hQm ⊢
  refine lv_aload_n hx hb dL_link_0 rfl (lv_at hl 2 rfl) ?_
  refine lv_iconst (v := 0) hx hb dL_link_1 (by decide) ?_
  refine lv_aload_n hx hb dL_link_2 rfl (lv_at hl 0 rfl) ?_
  refine lv_iload_n hx hb dL_link_3 rfl (lv_at hl 1 rfl) ?_
  obtain ⟨⟨x1, nL_2, nE_3, cK_4⟩, h5, hf⟩ := bnd hf
  rcases x1 with n6 | r7
  · have hf : (if n6 = 3 then some (1, nL_2, nE_3, cK_4, oL) else if n6 = 2 then some (2, nL_2, nE_3, cK_4, oL) else none) = some (ro, onL, onE, ocK, ooL) := hf
    by_cases c8 : n6 = 3
    · subst c8
      have hf := br_pos rfl hf
      refine cw_vi_err (rest := [.int 0, .ref oa]) (m_C_link l hst ca ad bq nF nO nL nA nC nV nU nP nE bF bO bL bA bC bV bU bP bE cT cK cO cQ cD pT pK pR pW pU pI pC uO uF uE uN wK jM jN jZ jB (WO ca oa od oL oD ++ R) _ p1 (.error 3) nL_2 nE_3 cK_4 h5) ⟨hx, hb, hml, hown, hts⟩ (cwV 1 hts (gV q543 q544 q545 q41 q546) rfl rfl rfl (by decide +kernel) ⟨Nat.le_of_ble_eq_true rfl, Nat.le_of_ble_eq_true rfl⟩) (va_recv hK hP (ci := 7) (q0 := 0) rfl rfl) hE hP hD hS hA hZ rfl hl.1 rfl (lv_room (Nat.le_of_ble_eq_true rfl)) dL_link_4 ⟨Nat.le_of_ble_eq_true rfl, Nat.le_of_ble_eq_true rfl⟩ (fun H locs q9 ce hP hD hS hce hv9 hcl => ?_)
      refine vx_catch (E := "java/lang/IndexOutOfBoundsException") hown [] ⟨0, 9, 12, 20⟩ [⟨0, 9, 15, 15⟩] htab (fun _ h => absurd h List.not_mem_nil) (by decide) (by decide) (hts _ q458) (va_Nw.use rfl (hE.2.1 _ n492)) hce hv9 hcl ?_
      refine lv_astore_n (lv' := [(3, .ref q9), (0, .ref (ad 0)), (1, .int p1), (2, .ref oa)]) hx hb dL_link_12 rfl hl (by decide) rfl (fun ls hl => ?_)
      refine lv_iconst (v := 1) hx hb dL_link_13 (by decide) ?_
      cases hf
      exact endw_i hAe hQm hx hb hr hlocks rfl hP hD hS dL_link_14 (Nat.le_of_ble_eq_true rfl) (Nat.le_of_ble_eq_true rfl)
    have hf := br_neg c8 hf
    by_cases c9 : n6 = 2
    · subst c9
      have hf := br_pos rfl hf
      refine cw_vi_err (rest := [.int 0, .ref oa]) (m_C_link l hst ca ad bq nF nO nL nA nC nV nU nP nE bF bO bL bA bC bV bU bP bE cT cK cO cQ cD pT pK pR pW pU pI pC uO uF uE uN wK jM jN jZ jB (WO ca oa od oL oD ++ R) _ p1 (.error 2) nL_2 nE_3 cK_4 h5) ⟨hx, hb, hml, hown, hts⟩ (cwV 1 hts (gV q543 q544 q545 q41 q546) rfl rfl rfl (by decide +kernel) ⟨Nat.le_of_ble_eq_true rfl, Nat.le_of_ble_eq_true rfl⟩) (va_recv hK hP (ci := 7) (q0 := 0) rfl rfl) hE hP hD hS hA hZ rfl hl.1 rfl (lv_room (Nat.le_of_ble_eq_true rfl)) dL_link_4 ⟨Nat.le_of_ble_eq_true rfl, Nat.le_of_ble_eq_true rfl⟩ (fun H locs q9 ce hP hD hS hce hv9 hcl => ?_)
      refine vx_catch (E := "java/lang/IllegalStateException") hown [⟨0, 9, 12, 20⟩] ⟨0, 9, 15, 15⟩ [] htab (List.forall_mem_cons.mpr ⟨Or.inr ⟨by decide, _, hts _ q458, hNC _ nc_2_3⟩, fun _ h => absurd h List.not_mem_nil⟩) (by decide) (by decide) (hts _ q353) (va_Nw.use rfl (hE.2.1 _ n440)) hce hv9 hcl ?_
      refine lv_astore_n (lv' := [(3, .ref q9), (0, .ref (ad 0)), (1, .int p1), (2, .ref oa)]) hx hb dL_link_15 rfl hl (by decide) rfl (fun ls hl => ?_)
      refine lv_iconst (v := 2) hx hb dL_link_16 (by decide) ?_
      cases hf
      exact endw_i hAe hQm hx hb hr hlocks rfl hP hD hS dL_link_17 (Nat.le_of_ble_eq_true rfl) (Nat.le_of_ble_eq_true rfl)
    have hf := br_neg c9 hf
    cases hf
  refine cw_vi_ok (rest := [.int 0, .ref oa]) (m_C_link l hst ca ad bq nF nO nL nA nC nV nU nP nE bF bO bL bA bC bV bU bP bE cT cK cO cQ cD pT pK pR pW pU pI pC uO uF uE uN wK jM jN jZ jB (WO ca oa od oL oD ++ R) _ p1 (.ok r7) nL_2 nE_3 cK_4 h5) ⟨hx, hb, hml, hown, hts⟩ (cwV 1 hts (gV q543 q544 q545 q41 q546) rfl rfl rfl (by decide +kernel) ⟨Nat.le_of_ble_eq_true rfl, Nat.le_of_ble_eq_true rfl⟩) (va_recv hK hP (ci := 7) (q0 := 0) rfl rfl) hE hP hD hS hA hZ rfl hl.1 rfl (lv_room (Nat.le_of_ble_eq_true rfl)) dL_link_4 ⟨Nat.le_of_ble_eq_true rfl, Nat.le_of_ble_eq_true rfl⟩ (fun H locs hP hD hS => ?_)
  refine lv_i2l hx hb dL_link_7 rfl ?_
  refine va_last (D := D) hx hb hK hP hD hS 40 5 rfl rfl (by unfold vp_in; decide) dL_link_8 (fun H locs hP hD hS => ?_)
  have hP : va_P D vwCl (WC ca ad bq nF nO nL_2 nA nC nV nU nP nE_3 bF bO bL bA bC bV bU bP bE cT cK_4 cO cQ cD pT pK pR pW pU pI pC uO uF uE uN wK jM jN jZ jB ++ (WO ca oa od (vp_updL oL (0 : Int32).toNatClampNeg ((r7).toInt64)) oD ++ R)) H := hP
  have hD : va_D A (WC ca ad bq nF nO nL_2 nA nC nV nU nP nE_3 bF bO bL bA bC bV bU bP bE cT cK_4 cO cQ cD pT pK pR pW pU pI pC uO uF uE uN wK jM jN jZ jB ++ (WO ca oa od (vp_updL oL (0 : Int32).toNatClampNeg ((r7).toInt64)) oD ++ R)) := hD
  refine lv_goto (tgt := 18) hx hb dL_link_9 (by decide) ?_
  refine lv_iconst (v := 0) hx hb dL_link_18 (by decide) ?_
  cases hf
  exact endw_i hAe hQm hx hb hr hlocks rfl hP hD hS dL_link_19 (Nat.le_of_ble_eq_true rfl) (Nat.le_of_ble_eq_true rfl)
def f_L_unlink (p1 : Int32) (nF : Int32) (nL : Nat → Int32) (nA : Nat → Int32) (nC : Nat → Int32) (nU : Nat → Int32) (nE : Int32) (cK : Nat → Int32) (uO : Int32) (uF : Nat → Int32) (uN : Nat → Int32) (oL : Nat → Int64) : Option (Int32 × (Nat → Int32) × (Nat → Int32) × (Nat → Int32) × (Nat → Int32) × Int32 × (Nat → Int32) × (Nat → Int64)) :=
  (f_C_unlink p1 nF nL nA nC nU nE cK uO uF uN).bind fun (x1, nL_2, nA_3, nC_4, nU_5, nE_6, cK_7) =>
  match x1 with
  | .error n9 => if n9 = 3 then some (1, nL_2, nA_3, nC_4, nU_5, nE_6, cK_7, oL) else if n9 = 2 then some (2, nL_2, nA_3, nC_4, nU_5, nE_6, cK_7, oL) else none
  | .ok r10 =>
  some (0, nL_2, nA_3, nC_4, nU_5, nE_6, cK_7, (vp_updL oL (0 : Int32).toNatClampNeg ((r10).toInt64)))
set_option maxHeartbeats 4000000 in
set_option maxRecDepth 100000 in
theorem m_L_unlink (l : Launch) (hst : l.stackTraces = false) {D : va_G} (ca : Nat → ClassId) (ad : Nat → Nat) (bq : Nat) (oa od : Nat) (nF : Int32) (nO : Nat → Int32) (nL : Nat → Int32) (nA : Nat → Int32) (nC : Nat → Int32) (nV : Nat → Int32) (nU : Nat → Int32) (nP : Nat → Int32) (nE : Int32) (bF : Int32) (bO : Nat → Int32) (bL : Nat → Int32) (bA : Nat → Int32) (bC : Nat → Int32) (bV : Nat → Int32) (bU : Nat → Int32) (bP : Nat → Int32) (bE : Int32) (cT : Int32) (cK : Nat → Int32) (cO : Int32) (cQ : Nat → Int32) (cD : Int32) (pT : Int32) (pK : Int32) (pR : Nat → Int32) (pW : Nat → Int32) (pU : Nat → Int32) (pI : Nat → Int32) (pC : Nat → Nat → Int32) (uO : Int32) (uF : Nat → Int32) (uE : Nat → Int32) (uN : Nat → Int32) (wK : Nat → Int32) (jM : Int32) (jN : Int32) (jZ : Nat) (jB : Nat → Int32) (oL : Nat → Int64) (oD : Nat → UInt64) (R : va_W) (sz : Nat) (p1 : Int32) (ro : Int32) (onL : Nat → Int32) (onA : Nat → Int32) (onC : Nat → Int32) (onU : Nat → Int32) (onE : Int32) (ocK : Nat → Int32) (ooL : Nat → Int64) (hf : f_L_unlink p1 nF nL nA nC nU nE cK uO uF uN oL = some (ro, onL, onA, onC, onU, onE, ocK, ooL)) : vx_Met l yL_unlink (wmW yL_unlink cL_unlink 4 (some .int) [(0, 9, 12, 20), (0, 9, 15, 15)]) ({ frames := 8, cells := 2, slots := 12, locals := 133 } : Room) (PREL [.ref (ad 0), .int p1, .ref oa] D ca SL0 (WC ca ad bq nF nO nL nA nC nV nU nP nE bF bO bL bA bC bV bU bP bE cT cK cO cQ cD pT pK pR pW pU pI pC uO uF uE uN wK jM jN jZ jB ++ (WO ca oa od oL oD ++ R)) sz) (QI ro D (WC ca ad bq nF nO onL onA onC nV onU nP onE bF bO bL bA bC bV bU bP bE cT ocK cO cQ cD pT pK pR pW pU pI pC uO uF uE uN wK jM jN jZ jB ++ (WO ca oa od ooL oD ++ R)) (WC ca ad bq nF nO nL nA nC nV nU nP nE bF bO bL bA bC bV bU bP bE cT cK cO cQ cD pT pK pR pW pU pI pC uO uF uE uN wK jM jN jZ jB ++ (WO ca oa od oL oD ++ R)) sz) (fun _ _ _ => False) 2 12 (va_A (WC ca ad bq nF nO nL nA nC nV nU nP nE bF bO bL bA bC bV bU bP bE cT cK cO cQ cD pT pK pR pW pU pI pC uO uF uE uN wK jM jN jZ jB ++ (WO ca oa od oL oD ++ R)) sz) := by
  refine vx_ofWH (cc := cL_unlink) (maxL := 4) (ret := (some .int)) (hh := [(0, 9, 12, 20), (0, 9, 15, 15)]) (by decide) rfl ?_
  intro p e s m args below meth c s₁ B hml hv
  obtain ⟨rfl, rfl, hP, hE, hD0, hZ, hNC⟩ := hv
  have hx := B.exec
  have hb := B.bytes
  have hr := B.returns
  have hts0 := atoms_spec (ws := wmW yL_unlink cL_unlink 4 (some .int) [(0, 9, 12, 20), (0, 9, 15, 15)]) B.pre
  have hts := wmW_ww hts0
  have htab := vx_table (x := yL_unlink) B (hts0 _ List.mem_cons_self)
  have hown : s.vm.findClass RL = some m.cls := findClass_of_methodNamed B.named
  have hlocks := B.notSynchronized
  have hK := hE.1
  have hD := hD0.self (sz := s.heap.size)
  generalize hAe : va_A (WC ca ad bq nF nO nL nA nC nV nU nP nE bF bO bL bA bC bV bU bP bE cT cK cO cQ cD pT pK pR pW pU pI pC uO uF uE uN wK jM jN jZ jB ++ (WO ca oa od oL oD ++ R)) s.heap.size = A at hD hZ ⊢
  have hA : ∀ q : Nat, s.heap.size ≤ q → A q := fun q h => by rw [← hAe]; exact Or.inr h
  have hS : va_S A s.heap s.heap [] := va_S.rf
  have hl := lv_entry ([.ref (ad 0), .int p1, .ref oa]) (n := 4) (Nat.le_of_ble_eq_true rfl)
  rw [lg_entry_eq]
  generalize (lg_sl ([.ref (ad 0), .int p1, .ref oa]) ++ List.replicate (4 - (lg_sl ([.ref (ad 0), .int p1, .ref oa])).length) Slot.unset).toArray = ls at hl ⊢
  have hl : lv_has ls 4 [(0, .ref (ad 0)), (1, .int p1), (2, .ref oa)] := hl
  change W p l e ({ frames := 8, cells := 2, slots := 12, locals := 133 } : Room) s m _ below meth c s.heap [] 0 0 _ _
  generalize hQm : vx_MQ below (QI ro D (WC ca ad bq nF nO onL onA onC nV onU nP onE bF bO bL bA bC bV bU bP bE cT ocK cO cQ cD pT pK pR pW pU pI pC uO uF uE uN wK jM jN jZ jB ++ (WO ca oa od ooL oD ++ R)) (WC ca ad bq nF nO nL nA nC nV nU nP nE bF bO bL bA bC bV bU bP bE cT cK cO cQ cD pT pK pR pW pU pI pC uO uF uE uN wK jM jN jZ jB ++ (WO ca oa od oL oD ++ R)) s.heap.size) (fun _ _ _ => False) _ s 2 12 A = Qm
  have hP : va_P D vwCl (WC ca ad bq nF nO nL nA nC nV nU nP nE bF bO bL bA bC bV bU bP bE cT cK cO cQ cD pT pK pR pW pU pI pC uO uF uE uN wK jM jN jZ jB ++ (WO ca oa od oL oD ++ R)) s.heap := hP
  generalize hae : ([.ref (ad 0), .int p1, .ref oa] : List Value).toArray = args at hts hQm ⊢
  refine lv_aload_n hx hb dL_unlink_0 rfl (lv_at hl 2 rfl) ?_
  refine lv_iconst (v := 0) hx hb dL_unlink_1 (by decide) ?_
  refine lv_aload_n hx hb dL_unlink_2 rfl (lv_at hl 0 rfl) ?_
  refine lv_iload_n hx hb dL_unlink_3 rfl (lv_at hl 1 rfl) ?_
  obtain ⟨⟨x1, nL_2, nA_3, nC_4, nU_5, nE_6, cK_7⟩, h8, hf⟩ := bnd hf
  rcases x1 with n9 | r10
  · have hf : (if n9 = 3 then some (1, nL_2, nA_3, nC_4, nU_5, nE_6, cK_7, oL) else if n9 = 2 then some (2, nL_2, nA_3, nC_4, nU_5, nE_6, cK_7, oL) else none) = some (ro, onL, onA, onC, onU, onE, ocK, ooL) := hf
    by_cases c11 : n9 = 3
    · subst c11
      have hf := br_pos rfl hf
      refine cw_vi_err (rest := [.int 0, .ref oa]) (m_C_unlink l hst ca ad bq nF nO nL nA nC nV nU nP nE bF bO bL bA bC bV bU bP bE cT cK cO cQ cD pT pK pR pW pU pI pC uO uF uE uN wK jM jN jZ jB (WO ca oa od oL oD ++ R) _ p1 (.error 3) nL_2 nA_3 nC_4 nU_5 nE_6 cK_7 h8) ⟨hx, hb, hml, hown, hts⟩ (cwV 1 hts (gV q560 q561 q562 q41 q563) rfl rfl rfl (by decide +kernel) ⟨Nat.le_of_ble_eq_true rfl, Nat.le_of_ble_eq_true rfl⟩) (va_recv hK hP (ci := 7) (q0 := 0) rfl rfl) hE hP hD hS hA hZ rfl hl.1 rfl (lv_room (Nat.le_of_ble_eq_true rfl)) dL_unlink_4 ⟨Nat.le_of_ble_eq_true rfl, Nat.le_of_ble_eq_true rfl⟩ (fun H locs q9 ce hP hD hS hce hv9 hcl => ?_)
      refine vx_catch (E := "java/lang/IndexOutOfBoundsException") hown [] ⟨0, 9, 12, 20⟩ [⟨0, 9, 15, 15⟩] htab (fun _ h => absurd h List.not_mem_nil) (by decide) (by decide) (hts _ q458) (va_Nw.use rfl (hE.2.1 _ n492)) hce hv9 hcl ?_
      refine lv_astore_n (lv' := [(3, .ref q9), (0, .ref (ad 0)), (1, .int p1), (2, .ref oa)]) hx hb dL_unlink_12 rfl hl (by decide) rfl (fun ls hl => ?_)
      refine lv_iconst (v := 1) hx hb dL_unlink_13 (by decide) ?_
      cases hf
      exact endw_i hAe hQm hx hb hr hlocks rfl hP hD hS dL_unlink_14 (Nat.le_of_ble_eq_true rfl) (Nat.le_of_ble_eq_true rfl)
    have hf := br_neg c11 hf
    by_cases c12 : n9 = 2
    · subst c12
      have hf := br_pos rfl hf
      refine cw_vi_err (rest := [.int 0, .ref oa]) (m_C_unlink l hst ca ad bq nF nO nL nA nC nV nU nP nE bF bO bL bA bC bV bU bP bE cT cK cO cQ cD pT pK pR pW pU pI pC uO uF uE uN wK jM jN jZ jB (WO ca oa od oL oD ++ R) _ p1 (.error 2) nL_2 nA_3 nC_4 nU_5 nE_6 cK_7 h8) ⟨hx, hb, hml, hown, hts⟩ (cwV 1 hts (gV q560 q561 q562 q41 q563) rfl rfl rfl (by decide +kernel) ⟨Nat.le_of_ble_eq_true rfl, Nat.le_of_ble_eq_true rfl⟩) (va_recv hK hP (ci := 7) (q0 := 0) rfl rfl) hE hP hD hS hA hZ rfl hl.1 rfl (lv_room (Nat.le_of_ble_eq_true rfl)) dL_unlink_4 ⟨Nat.le_of_ble_eq_true rfl, Nat.le_of_ble_eq_true rfl⟩ (fun H locs q9 ce hP hD hS hce hv9 hcl => ?_)
      refine vx_catch (E := "java/lang/IllegalStateException") hown [⟨0, 9, 12, 20⟩] ⟨0, 9, 15, 15⟩ [] htab (List.forall_mem_cons.mpr ⟨Or.inr ⟨by decide, _, hts _ q458, hNC _ nc_2_3⟩, fun _ h => absurd h List.not_mem_nil⟩) (by decide) (by decide) (hts _ q353) (va_Nw.use rfl (hE.2.1 _ n440)) hce hv9 hcl ?_
      refine lv_astore_n (lv' := [(3, .ref q9), (0, .ref (ad 0)), (1, .int p1), (2, .ref oa)]) hx hb dL_unlink_15 rfl hl (by decide) rfl (fun ls hl => ?_)
      refine lv_iconst (v := 2) hx hb dL_unlink_16 (by decide) ?_
      cases hf
      exact endw_i hAe hQm hx hb hr hlocks rfl hP hD hS dL_unlink_17 (Nat.le_of_ble_eq_true rfl) (Nat.le_of_ble_eq_true rfl)
    have hf := br_neg c12 hf
    cases hf
  refine cw_vi_ok (rest := [.int 0, .ref oa]) (m_C_unlink l hst ca ad bq nF nO nL nA nC nV nU nP nE bF bO bL bA bC bV bU bP bE cT cK cO cQ cD pT pK pR pW pU pI pC uO uF uE uN wK jM jN jZ jB (WO ca oa od oL oD ++ R) _ p1 (.ok r10) nL_2 nA_3 nC_4 nU_5 nE_6 cK_7 h8) ⟨hx, hb, hml, hown, hts⟩ (cwV 1 hts (gV q560 q561 q562 q41 q563) rfl rfl rfl (by decide +kernel) ⟨Nat.le_of_ble_eq_true rfl, Nat.le_of_ble_eq_true rfl⟩) (va_recv hK hP (ci := 7) (q0 := 0) rfl rfl) hE hP hD hS hA hZ rfl hl.1 rfl (lv_room (Nat.le_of_ble_eq_true rfl)) dL_unlink_4 ⟨Nat.le_of_ble_eq_true rfl, Nat.le_of_ble_eq_true rfl⟩ (fun H locs hP hD hS => ?_)
  refine lv_i2l hx hb dL_unlink_7 rfl ?_
  refine va_last (D := D) hx hb hK hP hD hS 40 5 rfl rfl (by unfold vp_in; decide) dL_unlink_8 (fun H locs hP hD hS => ?_)
  have hP : va_P D vwCl (WC ca ad bq nF nO nL_2 nA_3 nC_4 nV nU_5 nP nE_6 bF bO bL bA bC bV bU bP bE cT cK_7 cO cQ cD pT pK pR pW pU pI pC uO uF uE uN wK jM jN jZ jB ++ (WO ca oa od (vp_updL oL (0 : Int32).toNatClampNeg ((r10).toInt64)) oD ++ R)) H := hP
  have hD : va_D A (WC ca ad bq nF nO nL_2 nA_3 nC_4 nV nU_5 nP nE_6 bF bO bL bA bC bV bU bP bE cT cK_7 cO cQ cD pT pK pR pW pU pI pC uO uF uE uN wK jM jN jZ jB ++ (WO ca oa od (vp_updL oL (0 : Int32).toNatClampNeg ((r10).toInt64)) oD ++ R)) := hD
  refine lv_goto (tgt := 18) hx hb dL_unlink_9 (by decide) ?_
  refine lv_iconst (v := 0) hx hb dL_unlink_18 (by decide) ?_
  cases hf
  exact endw_i hAe hQm hx hb hr hlocks rfl hP hD hS dL_unlink_19 (Nat.le_of_ble_eq_true rfl) (Nat.le_of_ble_eq_true rfl)
def f_L_write (p1 : Int32) (p2 : Int32) (p3 : Int32) (nF : Int32) (nO : Nat → Int32) (nL : Nat → Int32) (nC : Nat → Int32) (nV : Nat → Int32) (nU : Nat → Int32) (nP : Nat → Int32) (nE : Int32) (cK : Nat → Int32) (cO : Int32) (cQ : Nat → Int32) (oL : Nat → Int64) : Option (Int32 × (Nat → Int32) × (Nat → Int32) × (Nat → Int32) × (Nat → Int32) × Int32 × (Nat → Int32) × (Nat → Int64)) :=
  (f_C_write p1 p2 p3 nF nO nL nC nV nU nP nE cK cO cQ).bind fun (x1, nC_2, nV_3, nU_4, nP_5, nE_6, cK_7) =>
  match x1 with
  | .error n9 => if n9 = 3 then some (1, nC_2, nV_3, nU_4, nP_5, nE_6, cK_7, oL) else if n9 = 1 then some (2, nC_2, nV_3, nU_4, nP_5, nE_6, cK_7, oL) else if n9 = 2 then some (3, nC_2, nV_3, nU_4, nP_5, nE_6, cK_7, oL) else if n9 = 4 then some (4, nC_2, nV_3, nU_4, nP_5, nE_6, cK_7, oL) else none
  | .ok r10 =>
  some (0, nC_2, nV_3, nU_4, nP_5, nE_6, cK_7, (vp_updL oL (0 : Int32).toNatClampNeg ((r10).toInt64)))
set_option maxHeartbeats 4000000 in
set_option maxRecDepth 100000 in
theorem m_L_write (l : Launch) (hst : l.stackTraces = false) {D : va_G} (ca : Nat → ClassId) (ad : Nat → Nat) (bq : Nat) (oa od : Nat) (nF : Int32) (nO : Nat → Int32) (nL : Nat → Int32) (nA : Nat → Int32) (nC : Nat → Int32) (nV : Nat → Int32) (nU : Nat → Int32) (nP : Nat → Int32) (nE : Int32) (bF : Int32) (bO : Nat → Int32) (bL : Nat → Int32) (bA : Nat → Int32) (bC : Nat → Int32) (bV : Nat → Int32) (bU : Nat → Int32) (bP : Nat → Int32) (bE : Int32) (cT : Int32) (cK : Nat → Int32) (cO : Int32) (cQ : Nat → Int32) (cD : Int32) (pT : Int32) (pK : Int32) (pR : Nat → Int32) (pW : Nat → Int32) (pU : Nat → Int32) (pI : Nat → Int32) (pC : Nat → Nat → Int32) (uO : Int32) (uF : Nat → Int32) (uE : Nat → Int32) (uN : Nat → Int32) (wK : Nat → Int32) (jM : Int32) (jN : Int32) (jZ : Nat) (jB : Nat → Int32) (oL : Nat → Int64) (oD : Nat → UInt64) (R : va_W) (sz : Nat) (p1 : Int32) (p2 : Int32) (p3 : Int32) (ro : Int32) (onC : Nat → Int32) (onV : Nat → Int32) (onU : Nat → Int32) (onP : Nat → Int32) (onE : Int32) (ocK : Nat → Int32) (ooL : Nat → Int64) (hf : f_L_write p1 p2 p3 nF nO nL nC nV nU nP nE cK cO cQ oL = some (ro, onC, onV, onU, onP, onE, ocK, ooL)) : vx_Met l yL_write (wmW yL_write cL_write 6 (some .int) [(0, 12, 15, 20), (0, 12, 19, 13), (0, 12, 23, 15), (0, 12, 27, 39)]) ({ frames := 8, cells := 5, slots := 30, locals := 144 } : Room) (PREL [.ref (ad 0), .int p1, .int p2, .int p3, .ref oa] D ca SL0 (WC ca ad bq nF nO nL nA nC nV nU nP nE bF bO bL bA bC bV bU bP bE cT cK cO cQ cD pT pK pR pW pU pI pC uO uF uE uN wK jM jN jZ jB ++ (WO ca oa od oL oD ++ R)) sz) (QI ro D (WC ca ad bq nF nO nL nA onC onV onU onP onE bF bO bL bA bC bV bU bP bE cT ocK cO cQ cD pT pK pR pW pU pI pC uO uF uE uN wK jM jN jZ jB ++ (WO ca oa od ooL oD ++ R)) (WC ca ad bq nF nO nL nA nC nV nU nP nE bF bO bL bA bC bV bU bP bE cT cK cO cQ cD pT pK pR pW pU pI pC uO uF uE uN wK jM jN jZ jB ++ (WO ca oa od oL oD ++ R)) sz) (fun _ _ _ => False) 5 30 (va_A (WC ca ad bq nF nO nL nA nC nV nU nP nE bF bO bL bA bC bV bU bP bE cT cK cO cQ cD pT pK pR pW pU pI pC uO uF uE uN wK jM jN jZ jB ++ (WO ca oa od oL oD ++ R)) sz) := by
  refine vx_ofWH (cc := cL_write) (maxL := 6) (ret := (some .int)) (hh := [(0, 12, 15, 20), (0, 12, 19, 13), (0, 12, 23, 15), (0, 12, 27, 39)]) (by decide) rfl ?_
  intro p e s m args below meth c s₁ B hml hv
  obtain ⟨rfl, rfl, hP, hE, hD0, hZ, hNC⟩ := hv
  have hx := B.exec
  have hb := B.bytes
  have hr := B.returns
  have hts0 := atoms_spec (ws := wmW yL_write cL_write 6 (some .int) [(0, 12, 15, 20), (0, 12, 19, 13), (0, 12, 23, 15), (0, 12, 27, 39)]) B.pre
  have hts := wmW_ww hts0
  have htab := vx_table (x := yL_write) B (hts0 _ List.mem_cons_self)
  have hown : s.vm.findClass RL = some m.cls := findClass_of_methodNamed B.named
  have hlocks := B.notSynchronized
  have hK := hE.1
  have hD := hD0.self (sz := s.heap.size)
  generalize hAe : va_A (WC ca ad bq nF nO nL nA nC nV nU nP nE bF bO bL bA bC bV bU bP bE cT cK cO cQ cD pT pK pR pW pU pI pC uO uF uE uN wK jM jN jZ jB ++ (WO ca oa od oL oD ++ R)) s.heap.size = A at hD hZ ⊢
  have hA : ∀ q : Nat, s.heap.size ≤ q → A q := fun q h => by rw [← hAe]; exact Or.inr h
  have hS : va_S A s.heap s.heap [] := va_S.rf
  have hl := lv_entry ([.ref (ad 0), .int p1, .int p2, .int p3, .ref oa]) (n := 6) (Nat.le_of_ble_eq_true rfl)
  rw [lg_entry_eq]
  generalize (lg_sl ([.ref (ad 0), .int p1, .int p2, .int p3, .ref oa]) ++ List.replicate (6 - (lg_sl ([.ref (ad 0), .int p1, .int p2, .int p3, .ref oa])).length) Slot.unset).toArray = ls at hl ⊢
  have hl : lv_has ls 6 [(0, .ref (ad 0)), (1, .int p1), (2, .int p2), (3, .int p3), (4, .ref oa)] := hl
  change W p l e ({ frames := 8, cells := 5, slots := 30, locals := 144 } : Room) s m _ below meth c s.heap [] 0 0 _ _
  generalize hQm : vx_MQ below (QI ro D (WC ca ad bq nF nO nL nA onC onV onU onP onE bF bO bL bA bC bV bU bP bE cT ocK cO cQ cD pT pK pR pW pU pI pC uO uF uE uN wK jM jN jZ jB ++ (WO ca oa od ooL oD ++ R)) (WC ca ad bq nF nO nL nA nC nV nU nP nE bF bO bL bA bC bV bU bP bE cT cK cO cQ cD pT pK pR pW pU pI pC uO uF uE uN wK jM jN jZ jB ++ (WO ca oa od oL oD ++ R)) s.heap.size) (fun _ _ _ => False) _ s 5 30 A = Qm
  have hP : va_P D vwCl (WC ca ad bq nF nO nL nA nC nV nU nP nE bF bO bL bA bC bV bU bP bE cT cK cO cQ cD pT pK pR pW pU pI pC uO uF uE uN wK jM jN jZ jB ++ (WO ca oa od oL oD ++ R)) s.heap := hP
  generalize hae : ([.ref (ad 0), .int p1, .int p2, .int p3, .ref oa] : List Value).toArray = args at hts hQm ⊢
  refine lv_aload hx hb dL_write_0 (lv_at hl 4 rfl) ?_
  refine lv_iconst (v := 0) hx hb dL_write_2 (by decide) ?_
  refine lv_aload_n hx hb dL_write_3 rfl (lv_at hl 0 rfl) ?_
  refine lv_iload_n hx hb dL_write_4 rfl (lv_at hl 1 rfl) ?_
  refine lv_iload_n hx hb dL_write_5 rfl (lv_at hl 2 rfl) ?_
  refine lv_iload_n hx hb dL_write_6 rfl (lv_at hl 3 rfl) ?_
  obtain ⟨⟨x1, nC_2, nV_3, nU_4, nP_5, nE_6, cK_7⟩, h8, hf⟩ := bnd hf
  rcases x1 with n9 | r10
  · have hf : (if n9 = 3 then some (1, nC_2, nV_3, nU_4, nP_5, nE_6, cK_7, oL) else if n9 = 1 then some (2, nC_2, nV_3, nU_4, nP_5, nE_6, cK_7, oL) else if n9 = 2 then some (3, nC_2, nV_3, nU_4, nP_5, nE_6, cK_7, oL) else if n9 = 4 then some (4, nC_2, nV_3, nU_4, nP_5, nE_6, cK_7, oL) else none) = some (ro, onC, onV, onU, onP, onE, ocK, ooL) := hf
    by_cases c11 : n9 = 3
    · subst c11
      have hf := br_pos rfl hf
      refine cw_vi_err (rest := [.int 0, .ref oa]) (m_C_write l hst ca ad bq nF nO nL nA nC nV nU nP nE bF bO bL bA bC bV bU bP bE cT cK cO cQ cD pT pK pR pW pU pI pC uO uF uE uN wK jM jN jZ jB (WO ca oa od oL oD ++ R) _ p1 p2 p3 (.error 3) nC_2 nV_3 nU_4 nP_5 nE_6 cK_7 h8) ⟨hx, hb, hml, hown, hts⟩ (cwV 3 hts (gV q593 q594 q595 q41 q596) rfl rfl rfl (by decide +kernel) ⟨Nat.le_of_ble_eq_true rfl, Nat.le_of_ble_eq_true rfl⟩) (va_recv hK hP (ci := 7) (q0 := 0) rfl rfl) hE hP hD hS hA hZ rfl hl.1 rfl (lv_room (Nat.le_of_ble_eq_true rfl)) dL_write_7 ⟨Nat.le_of_ble_eq_true rfl, Nat.le_of_ble_eq_true rfl⟩ (fun H locs q9 ce hP hD hS hce hv9 hcl => ?_)
      refine vx_catch (E := "java/lang/IndexOutOfBoundsException") hown [] ⟨0, 12, 15, 20⟩ [⟨0, 12, 19, 13⟩, ⟨0, 12, 23, 15⟩, ⟨0, 12, 27, 39⟩] htab (fun _ h => absurd h List.not_mem_nil) (by decide) (by decide) (hts _ q458) (va_Nw.use rfl (hE.2.1 _ n492)) hce hv9 hcl ?_
      refine lv_astore (lv' := [(5, .ref q9), (0, .ref (ad 0)), (1, .int p1), (2, .int p2), (3, .int p3), (4, .ref oa)]) hx hb dL_write_15 hl (by decide) rfl (fun ls hl => ?_)
      refine lv_iconst (v := 1) hx hb dL_write_17 (by decide) ?_
      cases hf
      exact endw_i hAe hQm hx hb hr hlocks rfl hP hD hS dL_write_18 (Nat.le_of_ble_eq_true rfl) (Nat.le_of_ble_eq_true rfl)
    have hf := br_neg c11 hf
    by_cases c12 : n9 = 1
    · subst c12
      have hf := br_pos rfl hf
      refine cw_vi_err (rest := [.int 0, .ref oa]) (m_C_write l hst ca ad bq nF nO nL nA nC nV nU nP nE bF bO bL bA bC bV bU bP bE cT cK cO cQ cD pT pK pR pW pU pI pC uO uF uE uN wK jM jN jZ jB (WO ca oa od oL oD ++ R) _ p1 p2 p3 (.error 1) nC_2 nV_3 nU_4 nP_5 nE_6 cK_7 h8) ⟨hx, hb, hml, hown, hts⟩ (cwV 3 hts (gV q593 q594 q595 q41 q596) rfl rfl rfl (by decide +kernel) ⟨Nat.le_of_ble_eq_true rfl, Nat.le_of_ble_eq_true rfl⟩) (va_recv hK hP (ci := 7) (q0 := 0) rfl rfl) hE hP hD hS hA hZ rfl hl.1 rfl (lv_room (Nat.le_of_ble_eq_true rfl)) dL_write_7 ⟨Nat.le_of_ble_eq_true rfl, Nat.le_of_ble_eq_true rfl⟩ (fun H locs q9 ce hP hD hS hce hv9 hcl => ?_)
      refine vx_catch (E := "java/lang/IllegalArgumentException") hown [⟨0, 12, 15, 20⟩] ⟨0, 12, 19, 13⟩ [⟨0, 12, 23, 15⟩, ⟨0, 12, 27, 39⟩] htab (List.forall_mem_cons.mpr ⟨Or.inr ⟨by decide, _, hts _ q458, hNC _ nc_1_3⟩, fun _ h => absurd h List.not_mem_nil⟩) (by decide) (by decide) (hts _ q352) (va_Nw.use rfl (hE.2.1 _ n364)) hce hv9 hcl ?_
      refine lv_astore (lv' := [(5, .ref q9), (0, .ref (ad 0)), (1, .int p1), (2, .int p2), (3, .int p3), (4, .ref oa)]) hx hb dL_write_19 hl (by decide) rfl (fun ls hl => ?_)
      refine lv_iconst (v := 2) hx hb dL_write_21 (by decide) ?_
      cases hf
      exact endw_i hAe hQm hx hb hr hlocks rfl hP hD hS dL_write_22 (Nat.le_of_ble_eq_true rfl) (Nat.le_of_ble_eq_true rfl)
    have hf := br_neg c12 hf
    by_cases c13 : n9 = 2
    · subst c13
      have hf := br_pos rfl hf
      refine cw_vi_err (rest := [.int 0, .ref oa]) (m_C_write l hst ca ad bq nF nO nL nA nC nV nU nP nE bF bO bL bA bC bV bU bP bE cT cK cO cQ cD pT pK pR pW pU pI pC uO uF uE uN wK jM jN jZ jB (WO ca oa od oL oD ++ R) _ p1 p2 p3 (.error 2) nC_2 nV_3 nU_4 nP_5 nE_6 cK_7 h8) ⟨hx, hb, hml, hown, hts⟩ (cwV 3 hts (gV q593 q594 q595 q41 q596) rfl rfl rfl (by decide +kernel) ⟨Nat.le_of_ble_eq_true rfl, Nat.le_of_ble_eq_true rfl⟩) (va_recv hK hP (ci := 7) (q0 := 0) rfl rfl) hE hP hD hS hA hZ rfl hl.1 rfl (lv_room (Nat.le_of_ble_eq_true rfl)) dL_write_7 ⟨Nat.le_of_ble_eq_true rfl, Nat.le_of_ble_eq_true rfl⟩ (fun H locs q9 ce hP hD hS hce hv9 hcl => ?_)
      refine vx_catch (E := "java/lang/IllegalStateException") hown [⟨0, 12, 15, 20⟩, ⟨0, 12, 19, 13⟩] ⟨0, 12, 23, 15⟩ [⟨0, 12, 27, 39⟩] htab (List.forall_mem_cons.mpr ⟨Or.inr ⟨by decide, _, hts _ q458, hNC _ nc_2_3⟩, List.forall_mem_cons.mpr ⟨Or.inr ⟨by decide, _, hts _ q352, hNC _ nc_2_1⟩, fun _ h => absurd h List.not_mem_nil⟩⟩) (by decide) (by decide) (hts _ q353) (va_Nw.use rfl (hE.2.1 _ n440)) hce hv9 hcl ?_
      refine lv_astore (lv' := [(5, .ref q9), (0, .ref (ad 0)), (1, .int p1), (2, .int p2), (3, .int p3), (4, .ref oa)]) hx hb dL_write_23 hl (by decide) rfl (fun ls hl => ?_)
      refine lv_iconst (v := 3) hx hb dL_write_25 (by decide) ?_
      cases hf
      exact endw_i hAe hQm hx hb hr hlocks rfl hP hD hS dL_write_26 (Nat.le_of_ble_eq_true rfl) (Nat.le_of_ble_eq_true rfl)
    have hf := br_neg c13 hf
    by_cases c14 : n9 = 4
    · subst c14
      have hf := br_pos rfl hf
      refine cw_vi_err (rest := [.int 0, .ref oa]) (m_C_write l hst ca ad bq nF nO nL nA nC nV nU nP nE bF bO bL bA bC bV bU bP bE cT cK cO cQ cD pT pK pR pW pU pI pC uO uF uE uN wK jM jN jZ jB (WO ca oa od oL oD ++ R) _ p1 p2 p3 (.error 4) nC_2 nV_3 nU_4 nP_5 nE_6 cK_7 h8) ⟨hx, hb, hml, hown, hts⟩ (cwV 3 hts (gV q593 q594 q595 q41 q596) rfl rfl rfl (by decide +kernel) ⟨Nat.le_of_ble_eq_true rfl, Nat.le_of_ble_eq_true rfl⟩) (va_recv hK hP (ci := 7) (q0 := 0) rfl rfl) hE hP hD hS hA hZ rfl hl.1 rfl (lv_room (Nat.le_of_ble_eq_true rfl)) dL_write_7 ⟨Nat.le_of_ble_eq_true rfl, Nat.le_of_ble_eq_true rfl⟩ (fun H locs q9 ce hP hD hS hce hv9 hcl => ?_)
      refine vx_catch (E := "java/lang/UnsupportedOperationException") hown [⟨0, 12, 15, 20⟩, ⟨0, 12, 19, 13⟩, ⟨0, 12, 23, 15⟩] ⟨0, 12, 27, 39⟩ [] htab (List.forall_mem_cons.mpr ⟨Or.inr ⟨by decide, _, hts _ q458, hNC _ nc_4_3⟩, List.forall_mem_cons.mpr ⟨Or.inr ⟨by decide, _, hts _ q352, hNC _ nc_4_1⟩, List.forall_mem_cons.mpr ⟨Or.inr ⟨by decide, _, hts _ q353, hNC _ nc_4_2⟩, fun _ h => absurd h List.not_mem_nil⟩⟩⟩) (by decide) (by decide) (hts _ q592) (va_Nw.use rfl (hE.2.1 _ n634)) hce hv9 hcl ?_
      refine lv_astore (lv' := [(5, .ref q9), (0, .ref (ad 0)), (1, .int p1), (2, .int p2), (3, .int p3), (4, .ref oa)]) hx hb dL_write_27 hl (by decide) rfl (fun ls hl => ?_)
      refine lv_iconst (v := 4) hx hb dL_write_29 (by decide) ?_
      cases hf
      exact endw_i hAe hQm hx hb hr hlocks rfl hP hD hS dL_write_30 (Nat.le_of_ble_eq_true rfl) (Nat.le_of_ble_eq_true rfl)
    have hf := br_neg c14 hf
    cases hf
  refine cw_vi_ok (rest := [.int 0, .ref oa]) (m_C_write l hst ca ad bq nF nO nL nA nC nV nU nP nE bF bO bL bA bC bV bU bP bE cT cK cO cQ cD pT pK pR pW pU pI pC uO uF uE uN wK jM jN jZ jB (WO ca oa od oL oD ++ R) _ p1 p2 p3 (.ok r10) nC_2 nV_3 nU_4 nP_5 nE_6 cK_7 h8) ⟨hx, hb, hml, hown, hts⟩ (cwV 3 hts (gV q593 q594 q595 q41 q596) rfl rfl rfl (by decide +kernel) ⟨Nat.le_of_ble_eq_true rfl, Nat.le_of_ble_eq_true rfl⟩) (va_recv hK hP (ci := 7) (q0 := 0) rfl rfl) hE hP hD hS hA hZ rfl hl.1 rfl (lv_room (Nat.le_of_ble_eq_true rfl)) dL_write_7 ⟨Nat.le_of_ble_eq_true rfl, Nat.le_of_ble_eq_true rfl⟩ (fun H locs hP hD hS => ?_)
  refine lv_i2l hx hb dL_write_10 rfl ?_
  refine va_last (D := D) hx hb hK hP hD hS 40 5 rfl rfl (by unfold vp_in; decide) dL_write_11 (fun H locs hP hD hS => ?_)
  have hP : va_P D vwCl (WC ca ad bq nF nO nL nA nC_2 nV_3 nU_4 nP_5 nE_6 bF bO bL bA bC bV bU bP bE cT cK_7 cO cQ cD pT pK pR pW pU pI pC uO uF uE uN wK jM jN jZ jB ++ (WO ca oa od (vp_updL oL (0 : Int32).toNatClampNeg ((r10).toInt64)) oD ++ R)) H := hP
  have hD : va_D A (WC ca ad bq nF nO nL nA nC_2 nV_3 nU_4 nP_5 nE_6 bF bO bL bA bC bV bU bP bE cT cK_7 cO cQ cD pT pK pR pW pU pI pC uO uF uE uN wK jM jN jZ jB ++ (WO ca oa od (vp_updL oL (0 : Int32).toNatClampNeg ((r10).toInt64)) oD ++ R)) := hD
  refine lv_goto (tgt := 31) hx hb dL_write_12 (by decide) ?_
  refine lv_iconst (v := 0) hx hb dL_write_31 (by decide) ?_
  cases hf
  exact endw_i hAe hQm hx hb hr hlocks rfl hP hD hS dL_write_32 (Nat.le_of_ble_eq_true rfl) (Nat.le_of_ble_eq_true rfl)
def f_L_punch (p1 : Int32) (p2 : Int32) (nF : Int32) (nL : Nat → Int32) (nC : Nat → Int32) (nU : Nat → Int32) (nE : Int32) (cK : Nat → Int32) (oL : Nat → Int64) : Option (Int32 × (Nat → Int32) × (Nat → Int32) × Int32 × (Nat → Int32) × (Nat → Int64)) :=
  (f_C_punch p1 p2 nF nL nC nU nE cK).bind fun (x1, nC_2, nU_3, nE_4, cK_5) =>
  match x1 with
  | .error n7 => if n7 = 3 then some (1, nC_2, nU_3, nE_4, cK_5, oL) else if n7 = 2 then some (2, nC_2, nU_3, nE_4, cK_5, oL) else none
  | .ok r8 =>
  some (0, nC_2, nU_3, nE_4, cK_5, (vp_updL oL (0 : Int32).toNatClampNeg ((r8).toInt64)))
set_option maxHeartbeats 4000000 in
set_option maxRecDepth 100000 in
theorem m_L_punch (l : Launch) (hst : l.stackTraces = false) {D : va_G} (ca : Nat → ClassId) (ad : Nat → Nat) (bq : Nat) (oa od : Nat) (nF : Int32) (nO : Nat → Int32) (nL : Nat → Int32) (nA : Nat → Int32) (nC : Nat → Int32) (nV : Nat → Int32) (nU : Nat → Int32) (nP : Nat → Int32) (nE : Int32) (bF : Int32) (bO : Nat → Int32) (bL : Nat → Int32) (bA : Nat → Int32) (bC : Nat → Int32) (bV : Nat → Int32) (bU : Nat → Int32) (bP : Nat → Int32) (bE : Int32) (cT : Int32) (cK : Nat → Int32) (cO : Int32) (cQ : Nat → Int32) (cD : Int32) (pT : Int32) (pK : Int32) (pR : Nat → Int32) (pW : Nat → Int32) (pU : Nat → Int32) (pI : Nat → Int32) (pC : Nat → Nat → Int32) (uO : Int32) (uF : Nat → Int32) (uE : Nat → Int32) (uN : Nat → Int32) (wK : Nat → Int32) (jM : Int32) (jN : Int32) (jZ : Nat) (jB : Nat → Int32) (oL : Nat → Int64) (oD : Nat → UInt64) (R : va_W) (sz : Nat) (p1 : Int32) (p2 : Int32) (ro : Int32) (onC : Nat → Int32) (onU : Nat → Int32) (onE : Int32) (ocK : Nat → Int32) (ooL : Nat → Int64) (hf : f_L_punch p1 p2 nF nL nC nU nE cK oL = some (ro, onC, onU, onE, ocK, ooL)) : vx_Met l yL_punch (wmW yL_punch cL_punch 5 (some .int) [(0, 10, 13, 20), (0, 10, 17, 15)]) ({ frames := 8, cells := 4, slots := 24, locals := 134 } : Room) (PREL [.ref (ad 0), .int p1, .int p2, .ref oa] D ca SL0 (WC ca ad bq nF nO nL nA nC nV nU nP nE bF bO bL bA bC bV bU bP bE cT cK cO cQ cD pT pK pR pW pU pI pC uO uF uE uN wK jM jN jZ jB ++ (WO ca oa od oL oD ++ R)) sz) (QI ro D (WC ca ad bq nF nO nL nA onC nV onU nP onE bF bO bL bA bC bV bU bP bE cT ocK cO cQ cD pT pK pR pW pU pI pC uO uF uE uN wK jM jN jZ jB ++ (WO ca oa od ooL oD ++ R)) (WC ca ad bq nF nO nL nA nC nV nU nP nE bF bO bL bA bC bV bU bP bE cT cK cO cQ cD pT pK pR pW pU pI pC uO uF uE uN wK jM jN jZ jB ++ (WO ca oa od oL oD ++ R)) sz) (fun _ _ _ => False) 4 24 (va_A (WC ca ad bq nF nO nL nA nC nV nU nP nE bF bO bL bA bC bV bU bP bE cT cK cO cQ cD pT pK pR pW pU pI pC uO uF uE uN wK jM jN jZ jB ++ (WO ca oa od oL oD ++ R)) sz) := by
  refine vx_ofWH (cc := cL_punch) (maxL := 5) (ret := (some .int)) (hh := [(0, 10, 13, 20), (0, 10, 17, 15)]) (by decide) rfl ?_
  intro p e s m args below meth c s₁ B hml hv
  obtain ⟨rfl, rfl, hP, hE, hD0, hZ, hNC⟩ := hv
  have hx := B.exec
  have hb := B.bytes
  have hr := B.returns
  have hts0 := atoms_spec (ws := wmW yL_punch cL_punch 5 (some .int) [(0, 10, 13, 20), (0, 10, 17, 15)]) B.pre
  have hts := wmW_ww hts0
  have htab := vx_table (x := yL_punch) B (hts0 _ List.mem_cons_self)
  have hown : s.vm.findClass RL = some m.cls := findClass_of_methodNamed B.named
  have hlocks := B.notSynchronized
  have hK := hE.1
  have hD := hD0.self (sz := s.heap.size)
  generalize hAe : va_A (WC ca ad bq nF nO nL nA nC nV nU nP nE bF bO bL bA bC bV bU bP bE cT cK cO cQ cD pT pK pR pW pU pI pC uO uF uE uN wK jM jN jZ jB ++ (WO ca oa od oL oD ++ R)) s.heap.size = A at hD hZ ⊢
  have hA : ∀ q : Nat, s.heap.size ≤ q → A q := fun q h => by rw [← hAe]; exact Or.inr h
  have hS : va_S A s.heap s.heap [] := va_S.rf
  have hl := lv_entry ([.ref (ad 0), .int p1, .int p2, .ref oa]) (n := 5) (Nat.le_of_ble_eq_true rfl)
  rw [lg_entry_eq]
  generalize (lg_sl ([.ref (ad 0), .int p1, .int p2, .ref oa]) ++ List.replicate (5 - (lg_sl ([.ref (ad 0), .int p1, .int p2, .ref oa])).length) Slot.unset).toArray = ls at hl ⊢
  have hl : lv_has ls 5 [(0, .ref (ad 0)), (1, .int p1), (2, .int p2), (3, .ref oa)] := hl
  change W p l e ({ frames := 8, cells := 4, slots := 24, locals := 134 } : Room) s m _ below meth c s.heap [] 0 0 _ _
  generalize hQm : vx_MQ below (QI ro D (WC ca ad bq nF nO nL nA onC nV onU nP onE bF bO bL bA bC bV bU bP bE cT ocK cO cQ cD pT pK pR pW pU pI pC uO uF uE uN wK jM jN jZ jB ++ (WO ca oa od ooL oD ++ R)) (WC ca ad bq nF nO nL nA nC nV nU nP nE bF bO bL bA bC bV bU bP bE cT cK cO cQ cD pT pK pR pW pU pI pC uO uF uE uN wK jM jN jZ jB ++ (WO ca oa od oL oD ++ R)) s.heap.size) (fun _ _ _ => False) _ s 4 24 A = Qm
  have hP : va_P D vwCl (WC ca ad bq nF nO nL nA nC nV nU nP nE bF bO bL bA bC bV bU bP bE cT cK cO cQ cD pT pK pR pW pU pI pC uO uF uE uN wK jM jN jZ jB ++ (WO ca oa od oL oD ++ R)) s.heap := hP
  generalize hae : ([.ref (ad 0), .int p1, .int p2, .ref oa] : List Value).toArray = args at hts hQm ⊢
  refine lv_aload_n hx hb dL_punch_0 rfl (lv_at hl 3 rfl) ?_
  refine lv_iconst (v := 0) hx hb dL_punch_1 (by decide) ?_
  refine lv_aload_n hx hb dL_punch_2 rfl (lv_at hl 0 rfl) ?_
  refine lv_iload_n hx hb dL_punch_3 rfl (lv_at hl 1 rfl) ?_
  refine lv_iload_n hx hb dL_punch_4 rfl (lv_at hl 2 rfl) ?_
  obtain ⟨⟨x1, nC_2, nU_3, nE_4, cK_5⟩, h6, hf⟩ := bnd hf
  rcases x1 with n7 | r8
  · have hf : (if n7 = 3 then some (1, nC_2, nU_3, nE_4, cK_5, oL) else if n7 = 2 then some (2, nC_2, nU_3, nE_4, cK_5, oL) else none) = some (ro, onC, onU, onE, ocK, ooL) := hf
    by_cases c9 : n7 = 3
    · subst c9
      have hf := br_pos rfl hf
      refine cw_vi_err (rest := [.int 0, .ref oa]) (m_C_punch l hst ca ad bq nF nO nL nA nC nV nU nP nE bF bO bL bA bC bV bU bP bE cT cK cO cQ cD pT pK pR pW pU pI pC uO uF uE uN wK jM jN jZ jB (WO ca oa od oL oD ++ R) _ p1 p2 (.error 3) nC_2 nU_3 nE_4 cK_5 h6) ⟨hx, hb, hml, hown, hts⟩ (cwV 2 hts (gV q673 q674 q675 q41 q676) rfl rfl rfl (by decide +kernel) ⟨Nat.le_of_ble_eq_true rfl, Nat.le_of_ble_eq_true rfl⟩) (va_recv hK hP (ci := 7) (q0 := 0) rfl rfl) hE hP hD hS hA hZ rfl hl.1 rfl (lv_room (Nat.le_of_ble_eq_true rfl)) dL_punch_5 ⟨Nat.le_of_ble_eq_true rfl, Nat.le_of_ble_eq_true rfl⟩ (fun H locs q9 ce hP hD hS hce hv9 hcl => ?_)
      refine vx_catch (E := "java/lang/IndexOutOfBoundsException") hown [] ⟨0, 10, 13, 20⟩ [⟨0, 10, 17, 15⟩] htab (fun _ h => absurd h List.not_mem_nil) (by decide) (by decide) (hts _ q458) (va_Nw.use rfl (hE.2.1 _ n492)) hce hv9 hcl ?_
      refine lv_astore (lv' := [(4, .ref q9), (0, .ref (ad 0)), (1, .int p1), (2, .int p2), (3, .ref oa)]) hx hb dL_punch_13 hl (by decide) rfl (fun ls hl => ?_)
      refine lv_iconst (v := 1) hx hb dL_punch_15 (by decide) ?_
      cases hf
      exact endw_i hAe hQm hx hb hr hlocks rfl hP hD hS dL_punch_16 (Nat.le_of_ble_eq_true rfl) (Nat.le_of_ble_eq_true rfl)
    have hf := br_neg c9 hf
    by_cases c10 : n7 = 2
    · subst c10
      have hf := br_pos rfl hf
      refine cw_vi_err (rest := [.int 0, .ref oa]) (m_C_punch l hst ca ad bq nF nO nL nA nC nV nU nP nE bF bO bL bA bC bV bU bP bE cT cK cO cQ cD pT pK pR pW pU pI pC uO uF uE uN wK jM jN jZ jB (WO ca oa od oL oD ++ R) _ p1 p2 (.error 2) nC_2 nU_3 nE_4 cK_5 h6) ⟨hx, hb, hml, hown, hts⟩ (cwV 2 hts (gV q673 q674 q675 q41 q676) rfl rfl rfl (by decide +kernel) ⟨Nat.le_of_ble_eq_true rfl, Nat.le_of_ble_eq_true rfl⟩) (va_recv hK hP (ci := 7) (q0 := 0) rfl rfl) hE hP hD hS hA hZ rfl hl.1 rfl (lv_room (Nat.le_of_ble_eq_true rfl)) dL_punch_5 ⟨Nat.le_of_ble_eq_true rfl, Nat.le_of_ble_eq_true rfl⟩ (fun H locs q9 ce hP hD hS hce hv9 hcl => ?_)
      refine vx_catch (E := "java/lang/IllegalStateException") hown [⟨0, 10, 13, 20⟩] ⟨0, 10, 17, 15⟩ [] htab (List.forall_mem_cons.mpr ⟨Or.inr ⟨by decide, _, hts _ q458, hNC _ nc_2_3⟩, fun _ h => absurd h List.not_mem_nil⟩) (by decide) (by decide) (hts _ q353) (va_Nw.use rfl (hE.2.1 _ n440)) hce hv9 hcl ?_
      refine lv_astore (lv' := [(4, .ref q9), (0, .ref (ad 0)), (1, .int p1), (2, .int p2), (3, .ref oa)]) hx hb dL_punch_17 hl (by decide) rfl (fun ls hl => ?_)
      refine lv_iconst (v := 2) hx hb dL_punch_19 (by decide) ?_
      cases hf
      exact endw_i hAe hQm hx hb hr hlocks rfl hP hD hS dL_punch_20 (Nat.le_of_ble_eq_true rfl) (Nat.le_of_ble_eq_true rfl)
    have hf := br_neg c10 hf
    cases hf
  refine cw_vi_ok (rest := [.int 0, .ref oa]) (m_C_punch l hst ca ad bq nF nO nL nA nC nV nU nP nE bF bO bL bA bC bV bU bP bE cT cK cO cQ cD pT pK pR pW pU pI pC uO uF uE uN wK jM jN jZ jB (WO ca oa od oL oD ++ R) _ p1 p2 (.ok r8) nC_2 nU_3 nE_4 cK_5 h6) ⟨hx, hb, hml, hown, hts⟩ (cwV 2 hts (gV q673 q674 q675 q41 q676) rfl rfl rfl (by decide +kernel) ⟨Nat.le_of_ble_eq_true rfl, Nat.le_of_ble_eq_true rfl⟩) (va_recv hK hP (ci := 7) (q0 := 0) rfl rfl) hE hP hD hS hA hZ rfl hl.1 rfl (lv_room (Nat.le_of_ble_eq_true rfl)) dL_punch_5 ⟨Nat.le_of_ble_eq_true rfl, Nat.le_of_ble_eq_true rfl⟩ (fun H locs hP hD hS => ?_)
  refine lv_i2l hx hb dL_punch_8 rfl ?_
  refine va_last (D := D) hx hb hK hP hD hS 40 5 rfl rfl (by unfold vp_in; decide) dL_punch_9 (fun H locs hP hD hS => ?_)
  have hP : va_P D vwCl (WC ca ad bq nF nO nL nA nC_2 nV nU_3 nP nE_4 bF bO bL bA bC bV bU bP bE cT cK_5 cO cQ cD pT pK pR pW pU pI pC uO uF uE uN wK jM jN jZ jB ++ (WO ca oa od (vp_updL oL (0 : Int32).toNatClampNeg ((r8).toInt64)) oD ++ R)) H := hP
  have hD : va_D A (WC ca ad bq nF nO nL nA nC_2 nV nU_3 nP nE_4 bF bO bL bA bC bV bU bP bE cT cK_5 cO cQ cD pT pK pR pW pU pI pC uO uF uE uN wK jM jN jZ jB ++ (WO ca oa od (vp_updL oL (0 : Int32).toNatClampNeg ((r8).toInt64)) oD ++ R)) := hD
  refine lv_goto (tgt := 21) hx hb dL_punch_10 (by decide) ?_
  refine lv_iconst (v := 0) hx hb dL_punch_21 (by decide) ?_
  cases hf
  exact endw_i hAe hQm hx hb hr hlocks rfl hP hD hS dL_punch_22 (Nat.le_of_ble_eq_true rfl) (Nat.le_of_ble_eq_true rfl)
def f_L_read (p1 : Int32) (p2 : Int32) (nF : Int32) (nC : Nat → Int32) (nV : Nat → Int32) (oL : Nat → Int64) : Option (Int32 × (Nat → Int64)) :=
  (f_C_read p1 p2 nF nC nV).bind fun x1 =>
  match x1 with
  | .error n3 => if n3 = 3 then some (1, oL) else if n3 = 5 then some (2, oL) else none
  | .ok r4 =>
  some (0, (vp_updL oL (0 : Int32).toNatClampNeg ((r4).toInt64)))
set_option maxHeartbeats 4000000 in
set_option maxRecDepth 100000 in
theorem m_L_read (l : Launch) (hst : l.stackTraces = false) {D : va_G} (ca : Nat → ClassId) (ad : Nat → Nat) (bq : Nat) (oa od : Nat) (nF : Int32) (nO : Nat → Int32) (nL : Nat → Int32) (nA : Nat → Int32) (nC : Nat → Int32) (nV : Nat → Int32) (nU : Nat → Int32) (nP : Nat → Int32) (nE : Int32) (bF : Int32) (bO : Nat → Int32) (bL : Nat → Int32) (bA : Nat → Int32) (bC : Nat → Int32) (bV : Nat → Int32) (bU : Nat → Int32) (bP : Nat → Int32) (bE : Int32) (cT : Int32) (cK : Nat → Int32) (cO : Int32) (cQ : Nat → Int32) (cD : Int32) (pT : Int32) (pK : Int32) (pR : Nat → Int32) (pW : Nat → Int32) (pU : Nat → Int32) (pI : Nat → Int32) (pC : Nat → Nat → Int32) (uO : Int32) (uF : Nat → Int32) (uE : Nat → Int32) (uN : Nat → Int32) (wK : Nat → Int32) (jM : Int32) (jN : Int32) (jZ : Nat) (jB : Nat → Int32) (oL : Nat → Int64) (oD : Nat → UInt64) (R : va_W) (sz : Nat) (p1 : Int32) (p2 : Int32) (ro : Int32) (ooL : Nat → Int64) (hf : f_L_read p1 p2 nF nC nV oL = some (ro, ooL)) : vx_Met l yL_read (wmW yL_read cL_read 5 (some .int) [(0, 10, 13, 20), (0, 10, 17, 48)]) ({ frames := 9, cells := 3, slots := 18, locals := 156 } : Room) (PREL [.ref (ad 0), .int p1, .int p2, .ref oa] D ca SL0 (WC ca ad bq nF nO nL nA nC nV nU nP nE bF bO bL bA bC bV bU bP bE cT cK cO cQ cD pT pK pR pW pU pI pC uO uF uE uN wK jM jN jZ jB ++ (WO ca oa od oL oD ++ R)) sz) (QI ro D (WC ca ad bq nF nO nL nA nC nV nU nP nE bF bO bL bA bC bV bU bP bE cT cK cO cQ cD pT pK pR pW pU pI pC uO uF uE uN wK jM jN jZ jB ++ (WO ca oa od ooL oD ++ R)) (WC ca ad bq nF nO nL nA nC nV nU nP nE bF bO bL bA bC bV bU bP bE cT cK cO cQ cD pT pK pR pW pU pI pC uO uF uE uN wK jM jN jZ jB ++ (WO ca oa od oL oD ++ R)) sz) (fun _ _ _ => False) 3 18 (va_A (WC ca ad bq nF nO nL nA nC nV nU nP nE bF bO bL bA bC bV bU bP bE cT cK cO cQ cD pT pK pR pW pU pI pC uO uF uE uN wK jM jN jZ jB ++ (WO ca oa od oL oD ++ R)) sz) := by
  refine vx_ofWH (cc := cL_read) (maxL := 5) (ret := (some .int)) (hh := [(0, 10, 13, 20), (0, 10, 17, 48)]) (by decide) rfl ?_
  intro p e s m args below meth c s₁ B hml hv
  obtain ⟨rfl, rfl, hP, hE, hD0, hZ, hNC⟩ := hv
  have hx := B.exec
  have hb := B.bytes
  have hr := B.returns
  have hts0 := atoms_spec (ws := wmW yL_read cL_read 5 (some .int) [(0, 10, 13, 20), (0, 10, 17, 48)]) B.pre
  have hts := wmW_ww hts0
  have htab := vx_table (x := yL_read) B (hts0 _ List.mem_cons_self)
  have hown : s.vm.findClass RL = some m.cls := findClass_of_methodNamed B.named
  have hlocks := B.notSynchronized
  have hK := hE.1
  have hD := hD0.self (sz := s.heap.size)
  generalize hAe : va_A (WC ca ad bq nF nO nL nA nC nV nU nP nE bF bO bL bA bC bV bU bP bE cT cK cO cQ cD pT pK pR pW pU pI pC uO uF uE uN wK jM jN jZ jB ++ (WO ca oa od oL oD ++ R)) s.heap.size = A at hD hZ ⊢
  have hA : ∀ q : Nat, s.heap.size ≤ q → A q := fun q h => by rw [← hAe]; exact Or.inr h
  have hS : va_S A s.heap s.heap [] := va_S.rf
  have hl := lv_entry ([.ref (ad 0), .int p1, .int p2, .ref oa]) (n := 5) (Nat.le_of_ble_eq_true rfl)
  rw [lg_entry_eq]
  generalize (lg_sl ([.ref (ad 0), .int p1, .int p2, .ref oa]) ++ List.replicate (5 - (lg_sl ([.ref (ad 0), .int p1, .int p2, .ref oa])).length) Slot.unset).toArray = ls at hl ⊢
  have hl : lv_has ls 5 [(0, .ref (ad 0)), (1, .int p1), (2, .int p2), (3, .ref oa)] := hl
  change W p l e ({ frames := 9, cells := 3, slots := 18, locals := 156 } : Room) s m _ below meth c s.heap [] 0 0 _ _
  generalize hQm : vx_MQ below (QI ro D (WC ca ad bq nF nO nL nA nC nV nU nP nE bF bO bL bA bC bV bU bP bE cT cK cO cQ cD pT pK pR pW pU pI pC uO uF uE uN wK jM jN jZ jB ++ (WO ca oa od ooL oD ++ R)) (WC ca ad bq nF nO nL nA nC nV nU nP nE bF bO bL bA bC bV bU bP bE cT cK cO cQ cD pT pK pR pW pU pI pC uO uF uE uN wK jM jN jZ jB ++ (WO ca oa od oL oD ++ R)) s.heap.size) (fun _ _ _ => False) _ s 3 18 A = Qm
  have hP : va_P D vwCl (WC ca ad bq nF nO nL nA nC nV nU nP nE bF bO bL bA bC bV bU bP bE cT cK cO cQ cD pT pK pR pW pU pI pC uO uF uE uN wK jM jN jZ jB ++ (WO ca oa od oL oD ++ R)) s.heap := hP
  generalize hae : ([.ref (ad 0), .int p1, .int p2, .ref oa] : List Value).toArray = args at hts hQm ⊢
  refine lv_aload_n hx hb dL_read_0 rfl (lv_at hl 3 rfl) ?_
  refine lv_iconst (v := 0) hx hb dL_read_1 (by decide) ?_
  refine lv_aload_n hx hb dL_read_2 rfl (lv_at hl 0 rfl) ?_
  refine lv_iload_n hx hb dL_read_3 rfl (lv_at hl 1 rfl) ?_
  refine lv_iload_n hx hb dL_read_4 rfl (lv_at hl 2 rfl) ?_
  obtain ⟨x1, h2, hf⟩ := bnd hf
  rcases x1 with n3 | r4
  · have hf : (if n3 = 3 then some (1, oL) else if n3 = 5 then some (2, oL) else none) = some (ro, ooL) := hf
    by_cases c5 : n3 = 3
    · subst c5
      have hf := br_pos rfl hf
      refine cw_vi_err (rest := [.int 0, .ref oa]) (m_C_read l hst ca ad bq nF nO nL nA nC nV nU nP nE bF bO bL bA bC bV bU bP bE cT cK cO cQ cD pT pK pR pW pU pI pC uO uF uE uN wK jM jN jZ jB (WO ca oa od oL oD ++ R) _ p1 p2 (.error 3) h2) ⟨hx, hb, hml, hown, hts⟩ (cwV 2 hts (gV q682 q683 q684 q41 q685) rfl rfl rfl (by decide +kernel) ⟨Nat.le_of_ble_eq_true rfl, Nat.le_of_ble_eq_true rfl⟩) (va_recv hK hP (ci := 7) (q0 := 0) rfl rfl) hE hP hD hS hA hZ rfl hl.1 rfl (lv_room (Nat.le_of_ble_eq_true rfl)) dL_read_5 ⟨Nat.le_of_ble_eq_true rfl, Nat.le_of_ble_eq_true rfl⟩ (fun H locs q9 ce hP hD hS hce hv9 hcl => ?_)
      refine vx_catch (E := "java/lang/IndexOutOfBoundsException") hown [] ⟨0, 10, 13, 20⟩ [⟨0, 10, 17, 48⟩] htab (fun _ h => absurd h List.not_mem_nil) (by decide) (by decide) (hts _ q458) (va_Nw.use rfl (hE.2.1 _ n492)) hce hv9 hcl ?_
      refine lv_astore (lv' := [(4, .ref q9), (0, .ref (ad 0)), (1, .int p1), (2, .int p2), (3, .ref oa)]) hx hb dL_read_13 hl (by decide) rfl (fun ls hl => ?_)
      refine lv_iconst (v := 1) hx hb dL_read_15 (by decide) ?_
      cases hf
      exact endw_i hAe hQm hx hb hr hlocks rfl hP hD hS dL_read_16 (Nat.le_of_ble_eq_true rfl) (Nat.le_of_ble_eq_true rfl)
    have hf := br_neg c5 hf
    by_cases c6 : n3 = 5
    · subst c6
      have hf := br_pos rfl hf
      refine cw_vi_err (rest := [.int 0, .ref oa]) (m_C_read l hst ca ad bq nF nO nL nA nC nV nU nP nE bF bO bL bA bC bV bU bP bE cT cK cO cQ cD pT pK pR pW pU pI pC uO uF uE uN wK jM jN jZ jB (WO ca oa od oL oD ++ R) _ p1 p2 (.error 5) h2) ⟨hx, hb, hml, hown, hts⟩ (cwV 2 hts (gV q682 q683 q684 q41 q685) rfl rfl rfl (by decide +kernel) ⟨Nat.le_of_ble_eq_true rfl, Nat.le_of_ble_eq_true rfl⟩) (va_recv hK hP (ci := 7) (q0 := 0) rfl rfl) hE hP hD hS hA hZ rfl hl.1 rfl (lv_room (Nat.le_of_ble_eq_true rfl)) dL_read_5 ⟨Nat.le_of_ble_eq_true rfl, Nat.le_of_ble_eq_true rfl⟩ (fun H locs q9 ce hP hD hS hce hv9 hcl => ?_)
      refine vx_catch (E := "java/util/NoSuchElementException") hown [⟨0, 10, 13, 20⟩] ⟨0, 10, 17, 48⟩ [] htab (List.forall_mem_cons.mpr ⟨Or.inr ⟨by decide, _, hts _ q458, hNC _ nc_5_3⟩, fun _ h => absurd h List.not_mem_nil⟩) (by decide) (by decide) (hts _ q681) (va_Nw.use rfl (hE.2.1 _ n692)) hce hv9 hcl ?_
      refine lv_astore (lv' := [(4, .ref q9), (0, .ref (ad 0)), (1, .int p1), (2, .int p2), (3, .ref oa)]) hx hb dL_read_17 hl (by decide) rfl (fun ls hl => ?_)
      refine lv_iconst (v := 2) hx hb dL_read_19 (by decide) ?_
      cases hf
      exact endw_i hAe hQm hx hb hr hlocks rfl hP hD hS dL_read_20 (Nat.le_of_ble_eq_true rfl) (Nat.le_of_ble_eq_true rfl)
    have hf := br_neg c6 hf
    cases hf
  refine cw_vi_ok (rest := [.int 0, .ref oa]) (m_C_read l hst ca ad bq nF nO nL nA nC nV nU nP nE bF bO bL bA bC bV bU bP bE cT cK cO cQ cD pT pK pR pW pU pI pC uO uF uE uN wK jM jN jZ jB (WO ca oa od oL oD ++ R) _ p1 p2 (.ok r4) h2) ⟨hx, hb, hml, hown, hts⟩ (cwV 2 hts (gV q682 q683 q684 q41 q685) rfl rfl rfl (by decide +kernel) ⟨Nat.le_of_ble_eq_true rfl, Nat.le_of_ble_eq_true rfl⟩) (va_recv hK hP (ci := 7) (q0 := 0) rfl rfl) hE hP hD hS hA hZ rfl hl.1 rfl (lv_room (Nat.le_of_ble_eq_true rfl)) dL_read_5 ⟨Nat.le_of_ble_eq_true rfl, Nat.le_of_ble_eq_true rfl⟩ (fun H locs hP hD hS => ?_)
  refine lv_i2l hx hb dL_read_8 rfl ?_
  refine va_last (D := D) hx hb hK hP hD hS 40 5 rfl rfl (by unfold vp_in; decide) dL_read_9 (fun H locs hP hD hS => ?_)
  have hP : va_P D vwCl (WC ca ad bq nF nO nL nA nC nV nU nP nE bF bO bL bA bC bV bU bP bE cT cK cO cQ cD pT pK pR pW pU pI pC uO uF uE uN wK jM jN jZ jB ++ (WO ca oa od (vp_updL oL (0 : Int32).toNatClampNeg ((r4).toInt64)) oD ++ R)) H := hP
  have hD : va_D A (WC ca ad bq nF nO nL nA nC nV nU nP nE bF bO bL bA bC bV bU bP bE cT cK cO cQ cD pT pK pR pW pU pI pC uO uF uE uN wK jM jN jZ jB ++ (WO ca oa od (vp_updL oL (0 : Int32).toNatClampNeg ((r4).toInt64)) oD ++ R)) := hD
  refine lv_goto (tgt := 21) hx hb dL_read_10 (by decide) ?_
  refine lv_iconst (v := 0) hx hb dL_read_21 (by decide) ?_
  cases hf
  exact endw_i hAe hQm hx hb hr hlocks rfl hP hD hS dL_read_22 (Nat.le_of_ble_eq_true rfl) (Nat.le_of_ble_eq_true rfl)
def f_L_blockAt (p1 : Int32) (p2 : Int32) (nF : Int32) (nC : Nat → Int32) (oL : Nat → Int64) : Option (Int32 × (Nat → Int64)) :=
  (f_C_blockAt p1 p2 nF nC).bind fun x1 =>
  match x1 with
  | .error n3 => if n3 = 3 then some (1, oL) else if n3 = 5 then some (2, oL) else none
  | .ok r4 =>
  some (0, (vp_updL oL (0 : Int32).toNatClampNeg ((r4).toInt64)))
set_option maxHeartbeats 4000000 in
set_option maxRecDepth 100000 in
theorem m_L_blockAt (l : Launch) (hst : l.stackTraces = false) {D : va_G} (ca : Nat → ClassId) (ad : Nat → Nat) (bq : Nat) (oa od : Nat) (nF : Int32) (nO : Nat → Int32) (nL : Nat → Int32) (nA : Nat → Int32) (nC : Nat → Int32) (nV : Nat → Int32) (nU : Nat → Int32) (nP : Nat → Int32) (nE : Int32) (bF : Int32) (bO : Nat → Int32) (bL : Nat → Int32) (bA : Nat → Int32) (bC : Nat → Int32) (bV : Nat → Int32) (bU : Nat → Int32) (bP : Nat → Int32) (bE : Int32) (cT : Int32) (cK : Nat → Int32) (cO : Int32) (cQ : Nat → Int32) (cD : Int32) (pT : Int32) (pK : Int32) (pR : Nat → Int32) (pW : Nat → Int32) (pU : Nat → Int32) (pI : Nat → Int32) (pC : Nat → Nat → Int32) (uO : Int32) (uF : Nat → Int32) (uE : Nat → Int32) (uN : Nat → Int32) (wK : Nat → Int32) (jM : Int32) (jN : Int32) (jZ : Nat) (jB : Nat → Int32) (oL : Nat → Int64) (oD : Nat → UInt64) (R : va_W) (sz : Nat) (p1 : Int32) (p2 : Int32) (ro : Int32) (ooL : Nat → Int64) (hf : f_L_blockAt p1 p2 nF nC oL = some (ro, ooL)) : vx_Met l yL_blockAt (wmW yL_blockAt cL_blockAt 5 (some .int) [(0, 10, 13, 20), (0, 10, 17, 48)]) ({ frames := 9, cells := 3, slots := 18, locals := 156 } : Room) (PREL [.ref (ad 0), .int p1, .int p2, .ref oa] D ca SL0 (WC ca ad bq nF nO nL nA nC nV nU nP nE bF bO bL bA bC bV bU bP bE cT cK cO cQ cD pT pK pR pW pU pI pC uO uF uE uN wK jM jN jZ jB ++ (WO ca oa od oL oD ++ R)) sz) (QI ro D (WC ca ad bq nF nO nL nA nC nV nU nP nE bF bO bL bA bC bV bU bP bE cT cK cO cQ cD pT pK pR pW pU pI pC uO uF uE uN wK jM jN jZ jB ++ (WO ca oa od ooL oD ++ R)) (WC ca ad bq nF nO nL nA nC nV nU nP nE bF bO bL bA bC bV bU bP bE cT cK cO cQ cD pT pK pR pW pU pI pC uO uF uE uN wK jM jN jZ jB ++ (WO ca oa od oL oD ++ R)) sz) (fun _ _ _ => False) 3 18 (va_A (WC ca ad bq nF nO nL nA nC nV nU nP nE bF bO bL bA bC bV bU bP bE cT cK cO cQ cD pT pK pR pW pU pI pC uO uF uE uN wK jM jN jZ jB ++ (WO ca oa od oL oD ++ R)) sz) := by
  refine vx_ofWH (cc := cL_blockAt) (maxL := 5) (ret := (some .int)) (hh := [(0, 10, 13, 20), (0, 10, 17, 48)]) (by decide) rfl ?_
  intro p e s m args below meth c s₁ B hml hv
  obtain ⟨rfl, rfl, hP, hE, hD0, hZ, hNC⟩ := hv
  have hx := B.exec
  have hb := B.bytes
  have hr := B.returns
  have hts0 := atoms_spec (ws := wmW yL_blockAt cL_blockAt 5 (some .int) [(0, 10, 13, 20), (0, 10, 17, 48)]) B.pre
  have hts := wmW_ww hts0
  have htab := vx_table (x := yL_blockAt) B (hts0 _ List.mem_cons_self)
  have hown : s.vm.findClass RL = some m.cls := findClass_of_methodNamed B.named
  have hlocks := B.notSynchronized
  have hK := hE.1
  have hD := hD0.self (sz := s.heap.size)
  generalize hAe : va_A (WC ca ad bq nF nO nL nA nC nV nU nP nE bF bO bL bA bC bV bU bP bE cT cK cO cQ cD pT pK pR pW pU pI pC uO uF uE uN wK jM jN jZ jB ++ (WO ca oa od oL oD ++ R)) s.heap.size = A at hD hZ ⊢
  have hA : ∀ q : Nat, s.heap.size ≤ q → A q := fun q h => by rw [← hAe]; exact Or.inr h
  have hS : va_S A s.heap s.heap [] := va_S.rf
  have hl := lv_entry ([.ref (ad 0), .int p1, .int p2, .ref oa]) (n := 5) (Nat.le_of_ble_eq_true rfl)
  rw [lg_entry_eq]
  generalize (lg_sl ([.ref (ad 0), .int p1, .int p2, .ref oa]) ++ List.replicate (5 - (lg_sl ([.ref (ad 0), .int p1, .int p2, .ref oa])).length) Slot.unset).toArray = ls at hl ⊢
  have hl : lv_has ls 5 [(0, .ref (ad 0)), (1, .int p1), (2, .int p2), (3, .ref oa)] := hl
  change W p l e ({ frames := 9, cells := 3, slots := 18, locals := 156 } : Room) s m _ below meth c s.heap [] 0 0 _ _
  generalize hQm : vx_MQ below (QI ro D (WC ca ad bq nF nO nL nA nC nV nU nP nE bF bO bL bA bC bV bU bP bE cT cK cO cQ cD pT pK pR pW pU pI pC uO uF uE uN wK jM jN jZ jB ++ (WO ca oa od ooL oD ++ R)) (WC ca ad bq nF nO nL nA nC nV nU nP nE bF bO bL bA bC bV bU bP bE cT cK cO cQ cD pT pK pR pW pU pI pC uO uF uE uN wK jM jN jZ jB ++ (WO ca oa od oL oD ++ R)) s.heap.size) (fun _ _ _ => False) _ s 3 18 A = Qm
  have hP : va_P D vwCl (WC ca ad bq nF nO nL nA nC nV nU nP nE bF bO bL bA bC bV bU bP bE cT cK cO cQ cD pT pK pR pW pU pI pC uO uF uE uN wK jM jN jZ jB ++ (WO ca oa od oL oD ++ R)) s.heap := hP
  generalize hae : ([.ref (ad 0), .int p1, .int p2, .ref oa] : List Value).toArray = args at hts hQm ⊢
  refine lv_aload_n hx hb dL_blockAt_0 rfl (lv_at hl 3 rfl) ?_
  refine lv_iconst (v := 0) hx hb dL_blockAt_1 (by decide) ?_
  refine lv_aload_n hx hb dL_blockAt_2 rfl (lv_at hl 0 rfl) ?_
  refine lv_iload_n hx hb dL_blockAt_3 rfl (lv_at hl 1 rfl) ?_
  refine lv_iload_n hx hb dL_blockAt_4 rfl (lv_at hl 2 rfl) ?_
  obtain ⟨x1, h2, hf⟩ := bnd hf
  rcases x1 with n3 | r4
  · have hf : (if n3 = 3 then some (1, oL) else if n3 = 5 then some (2, oL) else none) = some (ro, ooL) := hf
    by_cases c5 : n3 = 3
    · subst c5
      have hf := br_pos rfl hf
      refine cw_vi_err (rest := [.int 0, .ref oa]) (m_C_blockAt l hst ca ad bq nF nO nL nA nC nV nU nP nE bF bO bL bA bC bV bU bP bE cT cK cO cQ cD pT pK pR pW pU pI pC uO uF uE uN wK jM jN jZ jB (WO ca oa od oL oD ++ R) _ p1 p2 (.error 3) h2) ⟨hx, hb, hml, hown, hts⟩ (cwV 2 hts (gV q713 q714 q715 q41 q716) rfl rfl rfl (by decide +kernel) ⟨Nat.le_of_ble_eq_true rfl, Nat.le_of_ble_eq_true rfl⟩) (va_recv hK hP (ci := 7) (q0 := 0) rfl rfl) hE hP hD hS hA hZ rfl hl.1 rfl (lv_room (Nat.le_of_ble_eq_true rfl)) dL_blockAt_5 ⟨Nat.le_of_ble_eq_true rfl, Nat.le_of_ble_eq_true rfl⟩ (fun H locs q9 ce hP hD hS hce hv9 hcl => ?_)
      refine vx_catch (E := "java/lang/IndexOutOfBoundsException") hown [] ⟨0, 10, 13, 20⟩ [⟨0, 10, 17, 48⟩] htab (fun _ h => absurd h List.not_mem_nil) (by decide) (by decide) (hts _ q458) (va_Nw.use rfl (hE.2.1 _ n492)) hce hv9 hcl ?_
      refine lv_astore (lv' := [(4, .ref q9), (0, .ref (ad 0)), (1, .int p1), (2, .int p2), (3, .ref oa)]) hx hb dL_blockAt_13 hl (by decide) rfl (fun ls hl => ?_)
      refine lv_iconst (v := 1) hx hb dL_blockAt_15 (by decide) ?_
      cases hf
      exact endw_i hAe hQm hx hb hr hlocks rfl hP hD hS dL_blockAt_16 (Nat.le_of_ble_eq_true rfl) (Nat.le_of_ble_eq_true rfl)
    have hf := br_neg c5 hf
    by_cases c6 : n3 = 5
    · subst c6
      have hf := br_pos rfl hf
      refine cw_vi_err (rest := [.int 0, .ref oa]) (m_C_blockAt l hst ca ad bq nF nO nL nA nC nV nU nP nE bF bO bL bA bC bV bU bP bE cT cK cO cQ cD pT pK pR pW pU pI pC uO uF uE uN wK jM jN jZ jB (WO ca oa od oL oD ++ R) _ p1 p2 (.error 5) h2) ⟨hx, hb, hml, hown, hts⟩ (cwV 2 hts (gV q713 q714 q715 q41 q716) rfl rfl rfl (by decide +kernel) ⟨Nat.le_of_ble_eq_true rfl, Nat.le_of_ble_eq_true rfl⟩) (va_recv hK hP (ci := 7) (q0 := 0) rfl rfl) hE hP hD hS hA hZ rfl hl.1 rfl (lv_room (Nat.le_of_ble_eq_true rfl)) dL_blockAt_5 ⟨Nat.le_of_ble_eq_true rfl, Nat.le_of_ble_eq_true rfl⟩ (fun H locs q9 ce hP hD hS hce hv9 hcl => ?_)
      refine vx_catch (E := "java/util/NoSuchElementException") hown [⟨0, 10, 13, 20⟩] ⟨0, 10, 17, 48⟩ [] htab (List.forall_mem_cons.mpr ⟨Or.inr ⟨by decide, _, hts _ q458, hNC _ nc_5_3⟩, fun _ h => absurd h List.not_mem_nil⟩) (by decide) (by decide) (hts _ q681) (va_Nw.use rfl (hE.2.1 _ n692)) hce hv9 hcl ?_
      refine lv_astore (lv' := [(4, .ref q9), (0, .ref (ad 0)), (1, .int p1), (2, .int p2), (3, .ref oa)]) hx hb dL_blockAt_17 hl (by decide) rfl (fun ls hl => ?_)
      refine lv_iconst (v := 2) hx hb dL_blockAt_19 (by decide) ?_
      cases hf
      exact endw_i hAe hQm hx hb hr hlocks rfl hP hD hS dL_blockAt_20 (Nat.le_of_ble_eq_true rfl) (Nat.le_of_ble_eq_true rfl)
    have hf := br_neg c6 hf
    cases hf
  refine cw_vi_ok (rest := [.int 0, .ref oa]) (m_C_blockAt l hst ca ad bq nF nO nL nA nC nV nU nP nE bF bO bL bA bC bV bU bP bE cT cK cO cQ cD pT pK pR pW pU pI pC uO uF uE uN wK jM jN jZ jB (WO ca oa od oL oD ++ R) _ p1 p2 (.ok r4) h2) ⟨hx, hb, hml, hown, hts⟩ (cwV 2 hts (gV q713 q714 q715 q41 q716) rfl rfl rfl (by decide +kernel) ⟨Nat.le_of_ble_eq_true rfl, Nat.le_of_ble_eq_true rfl⟩) (va_recv hK hP (ci := 7) (q0 := 0) rfl rfl) hE hP hD hS hA hZ rfl hl.1 rfl (lv_room (Nat.le_of_ble_eq_true rfl)) dL_blockAt_5 ⟨Nat.le_of_ble_eq_true rfl, Nat.le_of_ble_eq_true rfl⟩ (fun H locs hP hD hS => ?_)
  refine lv_i2l hx hb dL_blockAt_8 rfl ?_
  refine va_last (D := D) hx hb hK hP hD hS 40 5 rfl rfl (by unfold vp_in; decide) dL_blockAt_9 (fun H locs hP hD hS => ?_)
  have hP : va_P D vwCl (WC ca ad bq nF nO nL nA nC nV nU nP nE bF bO bL bA bC bV bU bP bE cT cK cO cQ cD pT pK pR pW pU pI pC uO uF uE uN wK jM jN jZ jB ++ (WO ca oa od (vp_updL oL (0 : Int32).toNatClampNeg ((r4).toInt64)) oD ++ R)) H := hP
  have hD : va_D A (WC ca ad bq nF nO nL nA nC nV nU nP nE bF bO bL bA bC bV bU bP bE cT cK cO cQ cD pT pK pR pW pU pI pC uO uF uE uN wK jM jN jZ jB ++ (WO ca oa od (vp_updL oL (0 : Int32).toNatClampNeg ((r4).toInt64)) oD ++ R)) := hD
  refine lv_goto (tgt := 21) hx hb dL_blockAt_10 (by decide) ?_
  refine lv_iconst (v := 0) hx hb dL_blockAt_21 (by decide) ?_
  cases hf
  exact endw_i hAe hQm hx hb hr hlocks rfl hP hD hS dL_blockAt_22 (Nat.le_of_ble_eq_true rfl) (Nat.le_of_ble_eq_true rfl)
def f_L_blocksOf (p1 : Int32) (nF : Int32) (nC : Nat → Int32) (oL : Nat → Int64) : Option (Int32 × (Nat → Int64)) :=
  (f_C_blocksOf p1 nF nC).bind fun x1 =>
  match x1 with
  | .error n3 => if n3 = 3 then some (1, oL) else none
  | .ok r4 =>
  some (0, (vp_updL oL (0 : Int32).toNatClampNeg ((r4).toInt64)))
set_option maxHeartbeats 4000000 in
set_option maxRecDepth 100000 in
theorem m_L_blocksOf (l : Launch) (hst : l.stackTraces = false) {D : va_G} (ca : Nat → ClassId) (ad : Nat → Nat) (bq : Nat) (oa od : Nat) (nF : Int32) (nO : Nat → Int32) (nL : Nat → Int32) (nA : Nat → Int32) (nC : Nat → Int32) (nV : Nat → Int32) (nU : Nat → Int32) (nP : Nat → Int32) (nE : Int32) (bF : Int32) (bO : Nat → Int32) (bL : Nat → Int32) (bA : Nat → Int32) (bC : Nat → Int32) (bV : Nat → Int32) (bU : Nat → Int32) (bP : Nat → Int32) (bE : Int32) (cT : Int32) (cK : Nat → Int32) (cO : Int32) (cQ : Nat → Int32) (cD : Int32) (pT : Int32) (pK : Int32) (pR : Nat → Int32) (pW : Nat → Int32) (pU : Nat → Int32) (pI : Nat → Int32) (pC : Nat → Nat → Int32) (uO : Int32) (uF : Nat → Int32) (uE : Nat → Int32) (uN : Nat → Int32) (wK : Nat → Int32) (jM : Int32) (jN : Int32) (jZ : Nat) (jB : Nat → Int32) (oL : Nat → Int64) (oD : Nat → UInt64) (R : va_W) (sz : Nat) (p1 : Int32) (ro : Int32) (ooL : Nat → Int64) (hf : f_L_blocksOf p1 nF nC oL = some (ro, ooL)) : vx_Met l yL_blocksOf (wmW yL_blocksOf cL_blocksOf 4 (some .int) [(0, 9, 12, 20)]) ({ frames := 8, cells := 1, slots := 6, locals := 134 } : Room) (PREL [.ref (ad 0), .int p1, .ref oa] D ca SL0 (WC ca ad bq nF nO nL nA nC nV nU nP nE bF bO bL bA bC bV bU bP bE cT cK cO cQ cD pT pK pR pW pU pI pC uO uF uE uN wK jM jN jZ jB ++ (WO ca oa od oL oD ++ R)) sz) (QI ro D (WC ca ad bq nF nO nL nA nC nV nU nP nE bF bO bL bA bC bV bU bP bE cT cK cO cQ cD pT pK pR pW pU pI pC uO uF uE uN wK jM jN jZ jB ++ (WO ca oa od ooL oD ++ R)) (WC ca ad bq nF nO nL nA nC nV nU nP nE bF bO bL bA bC bV bU bP bE cT cK cO cQ cD pT pK pR pW pU pI pC uO uF uE uN wK jM jN jZ jB ++ (WO ca oa od oL oD ++ R)) sz) (fun _ _ _ => False) 1 6 (va_A (WC ca ad bq nF nO nL nA nC nV nU nP nE bF bO bL bA bC bV bU bP bE cT cK cO cQ cD pT pK pR pW pU pI pC uO uF uE uN wK jM jN jZ jB ++ (WO ca oa od oL oD ++ R)) sz) := by
  refine vx_ofWH (cc := cL_blocksOf) (maxL := 4) (ret := (some .int)) (hh := [(0, 9, 12, 20)]) (by decide) rfl ?_
  intro p e s m args below meth c s₁ B hml hv
  obtain ⟨rfl, rfl, hP, hE, hD0, hZ, hNC⟩ := hv
  have hx := B.exec
  have hb := B.bytes
  have hr := B.returns
  have hts0 := atoms_spec (ws := wmW yL_blocksOf cL_blocksOf 4 (some .int) [(0, 9, 12, 20)]) B.pre
  have hts := wmW_ww hts0
  have htab := vx_table (x := yL_blocksOf) B (hts0 _ List.mem_cons_self)
  have hown : s.vm.findClass RL = some m.cls := findClass_of_methodNamed B.named
  have hlocks := B.notSynchronized
  have hK := hE.1
  have hD := hD0.self (sz := s.heap.size)
  generalize hAe : va_A (WC ca ad bq nF nO nL nA nC nV nU nP nE bF bO bL bA bC bV bU bP bE cT cK cO cQ cD pT pK pR pW pU pI pC uO uF uE uN wK jM jN jZ jB ++ (WO ca oa od oL oD ++ R)) s.heap.size = A at hD hZ ⊢
  have hA : ∀ q : Nat, s.heap.size ≤ q → A q := fun q h => by rw [← hAe]; exact Or.inr h
  have hS : va_S A s.heap s.heap [] := va_S.rf
  have hl := lv_entry ([.ref (ad 0), .int p1, .ref oa]) (n := 4) (Nat.le_of_ble_eq_true rfl)
  rw [lg_entry_eq]
  generalize (lg_sl ([.ref (ad 0), .int p1, .ref oa]) ++ List.replicate (4 - (lg_sl ([.ref (ad 0), .int p1, .ref oa])).length) Slot.unset).toArray = ls at hl ⊢
  have hl : lv_has ls 4 [(0, .ref (ad 0)), (1, .int p1), (2, .ref oa)] := hl
  change W p l e ({ frames := 8, cells := 1, slots := 6, locals := 134 } : Room) s m _ below meth c s.heap [] 0 0 _ _
  generalize hQm : vx_MQ below (QI ro D (WC ca ad bq nF nO nL nA nC nV nU nP nE bF bO bL bA bC bV bU bP bE cT cK cO cQ cD pT pK pR pW pU pI pC uO uF uE uN wK jM jN jZ jB ++ (WO ca oa od ooL oD ++ R)) (WC ca ad bq nF nO nL nA nC nV nU nP nE bF bO bL bA bC bV bU bP bE cT cK cO cQ cD pT pK pR pW pU pI pC uO uF uE uN wK jM jN jZ jB ++ (WO ca oa od oL oD ++ R)) s.heap.size) (fun _ _ _ => False) _ s 1 6 A = Qm
  have hP : va_P D vwCl (WC ca ad bq nF nO nL nA nC nV nU nP nE bF bO bL bA bC bV bU bP bE cT cK cO cQ cD pT pK pR pW pU pI pC uO uF uE uN wK jM jN jZ jB ++ (WO ca oa od oL oD ++ R)) s.heap := hP
  generalize hae : ([.ref (ad 0), .int p1, .ref oa] : List Value).toArray = args at hts hQm ⊢
  refine lv_aload_n hx hb dL_blocksOf_0 rfl (lv_at hl 2 rfl) ?_
  refine lv_iconst (v := 0) hx hb dL_blocksOf_1 (by decide) ?_
  refine lv_aload_n hx hb dL_blocksOf_2 rfl (lv_at hl 0 rfl) ?_
  refine lv_iload_n hx hb dL_blocksOf_3 rfl (lv_at hl 1 rfl) ?_
  obtain ⟨x1, h2, hf⟩ := bnd hf
  rcases x1 with n3 | r4
  · have hf : (if n3 = 3 then some (1, oL) else none) = some (ro, ooL) := hf
    by_cases c5 : n3 = 3
    · subst c5
      have hf := br_pos rfl hf
      refine cw_vi_err (rest := [.int 0, .ref oa]) (m_C_blocksOf l hst ca ad bq nF nO nL nA nC nV nU nP nE bF bO bL bA bC bV bU bP bE cT cK cO cQ cD pT pK pR pW pU pI pC uO uF uE uN wK jM jN jZ jB (WO ca oa od oL oD ++ R) _ p1 (.error 3) h2) ⟨hx, hb, hml, hown, hts⟩ (cwV 1 hts (gV q720 q721 q722 q41 q723) rfl rfl rfl (by decide +kernel) ⟨Nat.le_of_ble_eq_true rfl, Nat.le_of_ble_eq_true rfl⟩) (va_recv hK hP (ci := 7) (q0 := 0) rfl rfl) hE hP hD hS hA hZ rfl hl.1 rfl (lv_room (Nat.le_of_ble_eq_true rfl)) dL_blocksOf_4 ⟨Nat.le_of_ble_eq_true rfl, Nat.le_of_ble_eq_true rfl⟩ (fun H locs q9 ce hP hD hS hce hv9 hcl => ?_)
      refine vx_catch (E := "java/lang/IndexOutOfBoundsException") hown [] ⟨0, 9, 12, 20⟩ [] htab (fun _ h => absurd h List.not_mem_nil) (by decide) (by decide) (hts _ q458) (va_Nw.use rfl (hE.2.1 _ n492)) hce hv9 hcl ?_
      refine lv_astore_n (lv' := [(3, .ref q9), (0, .ref (ad 0)), (1, .int p1), (2, .ref oa)]) hx hb dL_blocksOf_12 rfl hl (by decide) rfl (fun ls hl => ?_)
      refine lv_iconst (v := 1) hx hb dL_blocksOf_13 (by decide) ?_
      cases hf
      exact endw_i hAe hQm hx hb hr hlocks rfl hP hD hS dL_blocksOf_14 (Nat.le_of_ble_eq_true rfl) (Nat.le_of_ble_eq_true rfl)
    have hf := br_neg c5 hf
    cases hf
  refine cw_vi_ok (rest := [.int 0, .ref oa]) (m_C_blocksOf l hst ca ad bq nF nO nL nA nC nV nU nP nE bF bO bL bA bC bV bU bP bE cT cK cO cQ cD pT pK pR pW pU pI pC uO uF uE uN wK jM jN jZ jB (WO ca oa od oL oD ++ R) _ p1 (.ok r4) h2) ⟨hx, hb, hml, hown, hts⟩ (cwV 1 hts (gV q720 q721 q722 q41 q723) rfl rfl rfl (by decide +kernel) ⟨Nat.le_of_ble_eq_true rfl, Nat.le_of_ble_eq_true rfl⟩) (va_recv hK hP (ci := 7) (q0 := 0) rfl rfl) hE hP hD hS hA hZ rfl hl.1 rfl (lv_room (Nat.le_of_ble_eq_true rfl)) dL_blocksOf_4 ⟨Nat.le_of_ble_eq_true rfl, Nat.le_of_ble_eq_true rfl⟩ (fun H locs hP hD hS => ?_)
  refine lv_i2l hx hb dL_blocksOf_7 rfl ?_
  refine va_last (D := D) hx hb hK hP hD hS 40 5 rfl rfl (by unfold vp_in; decide) dL_blocksOf_8 (fun H locs hP hD hS => ?_)
  have hP : va_P D vwCl (WC ca ad bq nF nO nL nA nC nV nU nP nE bF bO bL bA bC bV bU bP bE cT cK cO cQ cD pT pK pR pW pU pI pC uO uF uE uN wK jM jN jZ jB ++ (WO ca oa od (vp_updL oL (0 : Int32).toNatClampNeg ((r4).toInt64)) oD ++ R)) H := hP
  have hD : va_D A (WC ca ad bq nF nO nL nA nC nV nU nP nE bF bO bL bA bC bV bU bP bE cT cK cO cQ cD pT pK pR pW pU pI pC uO uF uE uN wK jM jN jZ jB ++ (WO ca oa od (vp_updL oL (0 : Int32).toNatClampNeg ((r4).toInt64)) oD ++ R)) := hD
  refine lv_goto (tgt := 15) hx hb dL_blocksOf_9 (by decide) ?_
  refine lv_iconst (v := 0) hx hb dL_blocksOf_15 (by decide) ?_
  cases hf
  exact endw_i hAe hQm hx hb hr hlocks rfl hP hD hS dL_blocksOf_16 (Nat.le_of_ble_eq_true rfl) (Nat.le_of_ble_eq_true rfl)
def f_L_usedBy (p1 : Int32) (nF : Int32) (nO : Nat → Int32) (nC : Nat → Int32) (cO : Int32) (oL : Nat → Int64) : Option (Int32 × (Nat → Int64)) :=
  (f_C_usedBy p1 nF nO nC cO).bind fun x1 =>
  match x1 with
  | .error n3 => if n3 = 3 then some (1, oL) else none
  | .ok r4 =>
  some (0, (vp_updL oL (0 : Int32).toNatClampNeg ((r4).toInt64)))
set_option maxHeartbeats 4000000 in
set_option maxRecDepth 100000 in
theorem m_L_usedBy (l : Launch) (hst : l.stackTraces = false) {D : va_G} (ca : Nat → ClassId) (ad : Nat → Nat) (bq : Nat) (oa od : Nat) (nF : Int32) (nO : Nat → Int32) (nL : Nat → Int32) (nA : Nat → Int32) (nC : Nat → Int32) (nV : Nat → Int32) (nU : Nat → Int32) (nP : Nat → Int32) (nE : Int32) (bF : Int32) (bO : Nat → Int32) (bL : Nat → Int32) (bA : Nat → Int32) (bC : Nat → Int32) (bV : Nat → Int32) (bU : Nat → Int32) (bP : Nat → Int32) (bE : Int32) (cT : Int32) (cK : Nat → Int32) (cO : Int32) (cQ : Nat → Int32) (cD : Int32) (pT : Int32) (pK : Int32) (pR : Nat → Int32) (pW : Nat → Int32) (pU : Nat → Int32) (pI : Nat → Int32) (pC : Nat → Nat → Int32) (uO : Int32) (uF : Nat → Int32) (uE : Nat → Int32) (uN : Nat → Int32) (wK : Nat → Int32) (jM : Int32) (jN : Int32) (jZ : Nat) (jB : Nat → Int32) (oL : Nat → Int64) (oD : Nat → UInt64) (R : va_W) (sz : Nat) (p1 : Int32) (ro : Int32) (ooL : Nat → Int64) (hf : f_L_usedBy p1 nF nO nC cO oL = some (ro, ooL)) : vx_Met l yL_usedBy (wmW yL_usedBy cL_usedBy 4 (some .int) [(0, 9, 12, 20)]) ({ frames := 8, cells := 1, slots := 6, locals := 132 } : Room) (PREL [.ref (ad 0), .int p1, .ref oa] D ca SL0 (WC ca ad bq nF nO nL nA nC nV nU nP nE bF bO bL bA bC bV bU bP bE cT cK cO cQ cD pT pK pR pW pU pI pC uO uF uE uN wK jM jN jZ jB ++ (WO ca oa od oL oD ++ R)) sz) (QI ro D (WC ca ad bq nF nO nL nA nC nV nU nP nE bF bO bL bA bC bV bU bP bE cT cK cO cQ cD pT pK pR pW pU pI pC uO uF uE uN wK jM jN jZ jB ++ (WO ca oa od ooL oD ++ R)) (WC ca ad bq nF nO nL nA nC nV nU nP nE bF bO bL bA bC bV bU bP bE cT cK cO cQ cD pT pK pR pW pU pI pC uO uF uE uN wK jM jN jZ jB ++ (WO ca oa od oL oD ++ R)) sz) (fun _ _ _ => False) 1 6 (va_A (WC ca ad bq nF nO nL nA nC nV nU nP nE bF bO bL bA bC bV bU bP bE cT cK cO cQ cD pT pK pR pW pU pI pC uO uF uE uN wK jM jN jZ jB ++ (WO ca oa od oL oD ++ R)) sz) := by
  refine vx_ofWH (cc := cL_usedBy) (maxL := 4) (ret := (some .int)) (hh := [(0, 9, 12, 20)]) (by decide) rfl ?_
  intro p e s m args below meth c s₁ B hml hv
  obtain ⟨rfl, rfl, hP, hE, hD0, hZ, hNC⟩ := hv
  have hx := B.exec
  have hb := B.bytes
  have hr := B.returns
  have hts0 := atoms_spec (ws := wmW yL_usedBy cL_usedBy 4 (some .int) [(0, 9, 12, 20)]) B.pre
  have hts := wmW_ww hts0
  have htab := vx_table (x := yL_usedBy) B (hts0 _ List.mem_cons_self)
  have hown : s.vm.findClass RL = some m.cls := findClass_of_methodNamed B.named
  have hlocks := B.notSynchronized
  have hK := hE.1
  have hD := hD0.self (sz := s.heap.size)
  generalize hAe : va_A (WC ca ad bq nF nO nL nA nC nV nU nP nE bF bO bL bA bC bV bU bP bE cT cK cO cQ cD pT pK pR pW pU pI pC uO uF uE uN wK jM jN jZ jB ++ (WO ca oa od oL oD ++ R)) s.heap.size = A at hD hZ ⊢
  have hA : ∀ q : Nat, s.heap.size ≤ q → A q := fun q h => by rw [← hAe]; exact Or.inr h
  have hS : va_S A s.heap s.heap [] := va_S.rf
  have hl := lv_entry ([.ref (ad 0), .int p1, .ref oa]) (n := 4) (Nat.le_of_ble_eq_true rfl)
  rw [lg_entry_eq]
  generalize (lg_sl ([.ref (ad 0), .int p1, .ref oa]) ++ List.replicate (4 - (lg_sl ([.ref (ad 0), .int p1, .ref oa])).length) Slot.unset).toArray = ls at hl ⊢
  have hl : lv_has ls 4 [(0, .ref (ad 0)), (1, .int p1), (2, .ref oa)] := hl
  change W p l e ({ frames := 8, cells := 1, slots := 6, locals := 132 } : Room) s m _ below meth c s.heap [] 0 0 _ _
  generalize hQm : vx_MQ below (QI ro D (WC ca ad bq nF nO nL nA nC nV nU nP nE bF bO bL bA bC bV bU bP bE cT cK cO cQ cD pT pK pR pW pU pI pC uO uF uE uN wK jM jN jZ jB ++ (WO ca oa od ooL oD ++ R)) (WC ca ad bq nF nO nL nA nC nV nU nP nE bF bO bL bA bC bV bU bP bE cT cK cO cQ cD pT pK pR pW pU pI pC uO uF uE uN wK jM jN jZ jB ++ (WO ca oa od oL oD ++ R)) s.heap.size) (fun _ _ _ => False) _ s 1 6 A = Qm
  have hP : va_P D vwCl (WC ca ad bq nF nO nL nA nC nV nU nP nE bF bO bL bA bC bV bU bP bE cT cK cO cQ cD pT pK pR pW pU pI pC uO uF uE uN wK jM jN jZ jB ++ (WO ca oa od oL oD ++ R)) s.heap := hP
  generalize hae : ([.ref (ad 0), .int p1, .ref oa] : List Value).toArray = args at hts hQm ⊢
  refine lv_aload_n hx hb dL_usedBy_0 rfl (lv_at hl 2 rfl) ?_
  refine lv_iconst (v := 0) hx hb dL_usedBy_1 (by decide) ?_
  refine lv_aload_n hx hb dL_usedBy_2 rfl (lv_at hl 0 rfl) ?_
  refine lv_iload_n hx hb dL_usedBy_3 rfl (lv_at hl 1 rfl) ?_
  obtain ⟨x1, h2, hf⟩ := bnd hf
  rcases x1 with n3 | r4
  · have hf : (if n3 = 3 then some (1, oL) else none) = some (ro, ooL) := hf
    by_cases c5 : n3 = 3
    · subst c5
      have hf := br_pos rfl hf
      refine cw_vi_err (rest := [.int 0, .ref oa]) (m_C_usedBy l hst ca ad bq nF nO nL nA nC nV nU nP nE bF bO bL bA bC bV bU bP bE cT cK cO cQ cD pT pK pR pW pU pI pC uO uF uE uN wK jM jN jZ jB (WO ca oa od oL oD ++ R) _ p1 (.error 3) h2) ⟨hx, hb, hml, hown, hts⟩ (cwV 1 hts (gV q727 q728 q729 q41 q730) rfl rfl rfl (by decide +kernel) ⟨Nat.le_of_ble_eq_true rfl, Nat.le_of_ble_eq_true rfl⟩) (va_recv hK hP (ci := 7) (q0 := 0) rfl rfl) hE hP hD hS hA hZ rfl hl.1 rfl (lv_room (Nat.le_of_ble_eq_true rfl)) dL_usedBy_4 ⟨Nat.le_of_ble_eq_true rfl, Nat.le_of_ble_eq_true rfl⟩ (fun H locs q9 ce hP hD hS hce hv9 hcl => ?_)
      refine vx_catch (E := "java/lang/IndexOutOfBoundsException") hown [] ⟨0, 9, 12, 20⟩ [] htab (fun _ h => absurd h List.not_mem_nil) (by decide) (by decide) (hts _ q458) (va_Nw.use rfl (hE.2.1 _ n492)) hce hv9 hcl ?_
      refine lv_astore_n (lv' := [(3, .ref q9), (0, .ref (ad 0)), (1, .int p1), (2, .ref oa)]) hx hb dL_usedBy_12 rfl hl (by decide) rfl (fun ls hl => ?_)
      refine lv_iconst (v := 1) hx hb dL_usedBy_13 (by decide) ?_
      cases hf
      exact endw_i hAe hQm hx hb hr hlocks rfl hP hD hS dL_usedBy_14 (Nat.le_of_ble_eq_true rfl) (Nat.le_of_ble_eq_true rfl)
    have hf := br_neg c5 hf
    cases hf
  refine cw_vi_ok (rest := [.int 0, .ref oa]) (m_C_usedBy l hst ca ad bq nF nO nL nA nC nV nU nP nE bF bO bL bA bC bV bU bP bE cT cK cO cQ cD pT pK pR pW pU pI pC uO uF uE uN wK jM jN jZ jB (WO ca oa od oL oD ++ R) _ p1 (.ok r4) h2) ⟨hx, hb, hml, hown, hts⟩ (cwV 1 hts (gV q727 q728 q729 q41 q730) rfl rfl rfl (by decide +kernel) ⟨Nat.le_of_ble_eq_true rfl, Nat.le_of_ble_eq_true rfl⟩) (va_recv hK hP (ci := 7) (q0 := 0) rfl rfl) hE hP hD hS hA hZ rfl hl.1 rfl (lv_room (Nat.le_of_ble_eq_true rfl)) dL_usedBy_4 ⟨Nat.le_of_ble_eq_true rfl, Nat.le_of_ble_eq_true rfl⟩ (fun H locs hP hD hS => ?_)
  refine lv_i2l hx hb dL_usedBy_7 rfl ?_
  refine va_last (D := D) hx hb hK hP hD hS 40 5 rfl rfl (by unfold vp_in; decide) dL_usedBy_8 (fun H locs hP hD hS => ?_)
  have hP : va_P D vwCl (WC ca ad bq nF nO nL nA nC nV nU nP nE bF bO bL bA bC bV bU bP bE cT cK cO cQ cD pT pK pR pW pU pI pC uO uF uE uN wK jM jN jZ jB ++ (WO ca oa od (vp_updL oL (0 : Int32).toNatClampNeg ((r4).toInt64)) oD ++ R)) H := hP
  have hD : va_D A (WC ca ad bq nF nO nL nA nC nV nU nP nE bF bO bL bA bC bV bU bP bE cT cK cO cQ cD pT pK pR pW pU pI pC uO uF uE uN wK jM jN jZ jB ++ (WO ca oa od (vp_updL oL (0 : Int32).toNatClampNeg ((r4).toInt64)) oD ++ R)) := hD
  refine lv_goto (tgt := 15) hx hb dL_usedBy_9 (by decide) ?_
  refine lv_iconst (v := 0) hx hb dL_usedBy_15 (by decide) ?_
  cases hf
  exact endw_i hAe hQm hx hb hr hlocks rfl hP hD hS dL_usedBy_16 (Nat.le_of_ble_eq_true rfl) (Nat.le_of_ble_eq_true rfl)
def f_L_usersOf (p1 : Int32) (nU : Nat → Int32) (oL : Nat → Int64) : Option (Int32 × (Nat → Int64)) :=
  (f_C_usersOf p1 nU).bind fun x1 =>
  match x1 with
  | .error n3 => if n3 = 3 then some (1, oL) else none
  | .ok r4 =>
  some (0, (vp_updL oL (0 : Int32).toNatClampNeg ((r4).toInt64)))
set_option maxHeartbeats 4000000 in
set_option maxRecDepth 100000 in
theorem m_L_usersOf (l : Launch) (hst : l.stackTraces = false) {D : va_G} (ca : Nat → ClassId) (ad : Nat → Nat) (bq : Nat) (oa od : Nat) (nF : Int32) (nO : Nat → Int32) (nL : Nat → Int32) (nA : Nat → Int32) (nC : Nat → Int32) (nV : Nat → Int32) (nU : Nat → Int32) (nP : Nat → Int32) (nE : Int32) (bF : Int32) (bO : Nat → Int32) (bL : Nat → Int32) (bA : Nat → Int32) (bC : Nat → Int32) (bV : Nat → Int32) (bU : Nat → Int32) (bP : Nat → Int32) (bE : Int32) (cT : Int32) (cK : Nat → Int32) (cO : Int32) (cQ : Nat → Int32) (cD : Int32) (pT : Int32) (pK : Int32) (pR : Nat → Int32) (pW : Nat → Int32) (pU : Nat → Int32) (pI : Nat → Int32) (pC : Nat → Nat → Int32) (uO : Int32) (uF : Nat → Int32) (uE : Nat → Int32) (uN : Nat → Int32) (wK : Nat → Int32) (jM : Int32) (jN : Int32) (jZ : Nat) (jB : Nat → Int32) (oL : Nat → Int64) (oD : Nat → UInt64) (R : va_W) (sz : Nat) (p1 : Int32) (ro : Int32) (ooL : Nat → Int64) (hf : f_L_usersOf p1 nU oL = some (ro, ooL)) : vx_Met l yL_usersOf (wmW yL_usersOf cL_usersOf 4 (some .int) [(0, 9, 12, 20)]) ({ frames := 8, cells := 1, slots := 6, locals := 132 } : Room) (PREL [.ref (ad 0), .int p1, .ref oa] D ca SL0 (WC ca ad bq nF nO nL nA nC nV nU nP nE bF bO bL bA bC bV bU bP bE cT cK cO cQ cD pT pK pR pW pU pI pC uO uF uE uN wK jM jN jZ jB ++ (WO ca oa od oL oD ++ R)) sz) (QI ro D (WC ca ad bq nF nO nL nA nC nV nU nP nE bF bO bL bA bC bV bU bP bE cT cK cO cQ cD pT pK pR pW pU pI pC uO uF uE uN wK jM jN jZ jB ++ (WO ca oa od ooL oD ++ R)) (WC ca ad bq nF nO nL nA nC nV nU nP nE bF bO bL bA bC bV bU bP bE cT cK cO cQ cD pT pK pR pW pU pI pC uO uF uE uN wK jM jN jZ jB ++ (WO ca oa od oL oD ++ R)) sz) (fun _ _ _ => False) 1 6 (va_A (WC ca ad bq nF nO nL nA nC nV nU nP nE bF bO bL bA bC bV bU bP bE cT cK cO cQ cD pT pK pR pW pU pI pC uO uF uE uN wK jM jN jZ jB ++ (WO ca oa od oL oD ++ R)) sz) := by
  refine vx_ofWH (cc := cL_usersOf) (maxL := 4) (ret := (some .int)) (hh := [(0, 9, 12, 20)]) (by decide) rfl ?_
  intro p e s m args below meth c s₁ B hml hv
  obtain ⟨rfl, rfl, hP, hE, hD0, hZ, hNC⟩ := hv
  have hx := B.exec
  have hb := B.bytes
  have hr := B.returns
  have hts0 := atoms_spec (ws := wmW yL_usersOf cL_usersOf 4 (some .int) [(0, 9, 12, 20)]) B.pre
  have hts := wmW_ww hts0
  have htab := vx_table (x := yL_usersOf) B (hts0 _ List.mem_cons_self)
  have hown : s.vm.findClass RL = some m.cls := findClass_of_methodNamed B.named
  have hlocks := B.notSynchronized
  have hK := hE.1
  have hD := hD0.self (sz := s.heap.size)
  generalize hAe : va_A (WC ca ad bq nF nO nL nA nC nV nU nP nE bF bO bL bA bC bV bU bP bE cT cK cO cQ cD pT pK pR pW pU pI pC uO uF uE uN wK jM jN jZ jB ++ (WO ca oa od oL oD ++ R)) s.heap.size = A at hD hZ ⊢
  have hA : ∀ q : Nat, s.heap.size ≤ q → A q := fun q h => by rw [← hAe]; exact Or.inr h
  have hS : va_S A s.heap s.heap [] := va_S.rf
  have hl := lv_entry ([.ref (ad 0), .int p1, .ref oa]) (n := 4) (Nat.le_of_ble_eq_true rfl)
  rw [lg_entry_eq]
  generalize (lg_sl ([.ref (ad 0), .int p1, .ref oa]) ++ List.replicate (4 - (lg_sl ([.ref (ad 0), .int p1, .ref oa])).length) Slot.unset).toArray = ls at hl ⊢
  have hl : lv_has ls 4 [(0, .ref (ad 0)), (1, .int p1), (2, .ref oa)] := hl
  change W p l e ({ frames := 8, cells := 1, slots := 6, locals := 132 } : Room) s m _ below meth c s.heap [] 0 0 _ _
  generalize hQm : vx_MQ below (QI ro D (WC ca ad bq nF nO nL nA nC nV nU nP nE bF bO bL bA bC bV bU bP bE cT cK cO cQ cD pT pK pR pW pU pI pC uO uF uE uN wK jM jN jZ jB ++ (WO ca oa od ooL oD ++ R)) (WC ca ad bq nF nO nL nA nC nV nU nP nE bF bO bL bA bC bV bU bP bE cT cK cO cQ cD pT pK pR pW pU pI pC uO uF uE uN wK jM jN jZ jB ++ (WO ca oa od oL oD ++ R)) s.heap.size) (fun _ _ _ => False) _ s 1 6 A = Qm
  have hP : va_P D vwCl (WC ca ad bq nF nO nL nA nC nV nU nP nE bF bO bL bA bC bV bU bP bE cT cK cO cQ cD pT pK pR pW pU pI pC uO uF uE uN wK jM jN jZ jB ++ (WO ca oa od oL oD ++ R)) s.heap := hP
  generalize hae : ([.ref (ad 0), .int p1, .ref oa] : List Value).toArray = args at hts hQm ⊢
  refine lv_aload_n hx hb dL_usersOf_0 rfl (lv_at hl 2 rfl) ?_
  refine lv_iconst (v := 0) hx hb dL_usersOf_1 (by decide) ?_
  refine lv_aload_n hx hb dL_usersOf_2 rfl (lv_at hl 0 rfl) ?_
  refine lv_iload_n hx hb dL_usersOf_3 rfl (lv_at hl 1 rfl) ?_
  obtain ⟨x1, h2, hf⟩ := bnd hf
  rcases x1 with n3 | r4
  · have hf : (if n3 = 3 then some (1, oL) else none) = some (ro, ooL) := hf
    by_cases c5 : n3 = 3
    · subst c5
      have hf := br_pos rfl hf
      refine cw_vi_err (rest := [.int 0, .ref oa]) (m_C_usersOf l hst ca ad bq nF nO nL nA nC nV nU nP nE bF bO bL bA bC bV bU bP bE cT cK cO cQ cD pT pK pR pW pU pI pC uO uF uE uN wK jM jN jZ jB (WO ca oa od oL oD ++ R) _ p1 (.error 3) h2) ⟨hx, hb, hml, hown, hts⟩ (cwV 1 hts (gV q734 q735 q736 q41 q737) rfl rfl rfl (by decide +kernel) ⟨Nat.le_of_ble_eq_true rfl, Nat.le_of_ble_eq_true rfl⟩) (va_recv hK hP (ci := 7) (q0 := 0) rfl rfl) hE hP hD hS hA hZ rfl hl.1 rfl (lv_room (Nat.le_of_ble_eq_true rfl)) dL_usersOf_4 ⟨Nat.le_of_ble_eq_true rfl, Nat.le_of_ble_eq_true rfl⟩ (fun H locs q9 ce hP hD hS hce hv9 hcl => ?_)
      refine vx_catch (E := "java/lang/IndexOutOfBoundsException") hown [] ⟨0, 9, 12, 20⟩ [] htab (fun _ h => absurd h List.not_mem_nil) (by decide) (by decide) (hts _ q458) (va_Nw.use rfl (hE.2.1 _ n492)) hce hv9 hcl ?_
      refine lv_astore_n (lv' := [(3, .ref q9), (0, .ref (ad 0)), (1, .int p1), (2, .ref oa)]) hx hb dL_usersOf_12 rfl hl (by decide) rfl (fun ls hl => ?_)
      refine lv_iconst (v := 1) hx hb dL_usersOf_13 (by decide) ?_
      cases hf
      exact endw_i hAe hQm hx hb hr hlocks rfl hP hD hS dL_usersOf_14 (Nat.le_of_ble_eq_true rfl) (Nat.le_of_ble_eq_true rfl)
    have hf := br_neg c5 hf
    cases hf
  refine cw_vi_ok (rest := [.int 0, .ref oa]) (m_C_usersOf l hst ca ad bq nF nO nL nA nC nV nU nP nE bF bO bL bA bC bV bU bP bE cT cK cO cQ cD pT pK pR pW pU pI pC uO uF uE uN wK jM jN jZ jB (WO ca oa od oL oD ++ R) _ p1 (.ok r4) h2) ⟨hx, hb, hml, hown, hts⟩ (cwV 1 hts (gV q734 q735 q736 q41 q737) rfl rfl rfl (by decide +kernel) ⟨Nat.le_of_ble_eq_true rfl, Nat.le_of_ble_eq_true rfl⟩) (va_recv hK hP (ci := 7) (q0 := 0) rfl rfl) hE hP hD hS hA hZ rfl hl.1 rfl (lv_room (Nat.le_of_ble_eq_true rfl)) dL_usersOf_4 ⟨Nat.le_of_ble_eq_true rfl, Nat.le_of_ble_eq_true rfl⟩ (fun H locs hP hD hS => ?_)
  refine lv_i2l hx hb dL_usersOf_7 rfl ?_
  refine va_last (D := D) hx hb hK hP hD hS 40 5 rfl rfl (by unfold vp_in; decide) dL_usersOf_8 (fun H locs hP hD hS => ?_)
  have hP : va_P D vwCl (WC ca ad bq nF nO nL nA nC nV nU nP nE bF bO bL bA bC bV bU bP bE cT cK cO cQ cD pT pK pR pW pU pI pC uO uF uE uN wK jM jN jZ jB ++ (WO ca oa od (vp_updL oL (0 : Int32).toNatClampNeg ((r4).toInt64)) oD ++ R)) H := hP
  have hD : va_D A (WC ca ad bq nF nO nL nA nC nV nU nP nE bF bO bL bA bC bV bU bP bE cT cK cO cQ cD pT pK pR pW pU pI pC uO uF uE uN wK jM jN jZ jB ++ (WO ca oa od (vp_updL oL (0 : Int32).toNatClampNeg ((r4).toInt64)) oD ++ R)) := hD
  refine lv_goto (tgt := 15) hx hb dL_usersOf_9 (by decide) ?_
  refine lv_iconst (v := 0) hx hb dL_usersOf_15 (by decide) ?_
  cases hf
  exact endw_i hAe hQm hx hb hr hlocks rfl hP hD hS dL_usersOf_16 (Nat.le_of_ble_eq_true rfl) (Nat.le_of_ble_eq_true rfl)
def f_L_usersByWalk (p1 : Int32) (nF : Int32) (nC : Nat → Int32) (pU : Nat → Int32) (pI : Nat → Int32) (pC : Nat → Nat → Int32) (wK : Nat → Int32) (oL : Nat → Int64) : Option (Int32 × (Nat → Int32) × (Nat → Int64)) :=
  (f_C_usersByWalk p1 nF nC pU pI pC wK).bind fun (x1, wK_2) =>
  match x1 with
  | .error n4 => if n4 = 3 then some (1, wK_2, oL) else none
  | .ok r5 =>
  some (0, wK_2, (vp_updL oL (0 : Int32).toNatClampNeg ((r5).toInt64)))
set_option maxHeartbeats 4000000 in
set_option maxRecDepth 100000 in
theorem m_L_usersByWalk (l : Launch) (hst : l.stackTraces = false) {D : va_G} (ca : Nat → ClassId) (ad : Nat → Nat) (bq : Nat) (oa od : Nat) (nF : Int32) (nO : Nat → Int32) (nL : Nat → Int32) (nA : Nat → Int32) (nC : Nat → Int32) (nV : Nat → Int32) (nU : Nat → Int32) (nP : Nat → Int32) (nE : Int32) (bF : Int32) (bO : Nat → Int32) (bL : Nat → Int32) (bA : Nat → Int32) (bC : Nat → Int32) (bV : Nat → Int32) (bU : Nat → Int32) (bP : Nat → Int32) (bE : Int32) (cT : Int32) (cK : Nat → Int32) (cO : Int32) (cQ : Nat → Int32) (cD : Int32) (pT : Int32) (pK : Int32) (pR : Nat → Int32) (pW : Nat → Int32) (pU : Nat → Int32) (pI : Nat → Int32) (pC : Nat → Nat → Int32) (uO : Int32) (uF : Nat → Int32) (uE : Nat → Int32) (uN : Nat → Int32) (wK : Nat → Int32) (jM : Int32) (jN : Int32) (jZ : Nat) (jB : Nat → Int32) (oL : Nat → Int64) (oD : Nat → UInt64) (R : va_W) (sz : Nat) (p1 : Int32) (ro : Int32) (owK : Nat → Int32) (ooL : Nat → Int64) (hf : f_L_usersByWalk p1 nF nC pU pI pC wK oL = some (ro, owK, ooL)) : vx_Met l yL_usersByWalk (wmW yL_usersByWalk cL_usersByWalk 4 (some .int) [(0, 9, 12, 20)]) ({ frames := 8, cells := 1, slots := 6, locals := 132 } : Room) (PREL [.ref (ad 0), .int p1, .ref oa] D ca SL0 (WC ca ad bq nF nO nL nA nC nV nU nP nE bF bO bL bA bC bV bU bP bE cT cK cO cQ cD pT pK pR pW pU pI pC uO uF uE uN wK jM jN jZ jB ++ (WO ca oa od oL oD ++ R)) sz) (QI ro D (WC ca ad bq nF nO nL nA nC nV nU nP nE bF bO bL bA bC bV bU bP bE cT cK cO cQ cD pT pK pR pW pU pI pC uO uF uE uN owK jM jN jZ jB ++ (WO ca oa od ooL oD ++ R)) (WC ca ad bq nF nO nL nA nC nV nU nP nE bF bO bL bA bC bV bU bP bE cT cK cO cQ cD pT pK pR pW pU pI pC uO uF uE uN wK jM jN jZ jB ++ (WO ca oa od oL oD ++ R)) sz) (fun _ _ _ => False) 1 6 (va_A (WC ca ad bq nF nO nL nA nC nV nU nP nE bF bO bL bA bC bV bU bP bE cT cK cO cQ cD pT pK pR pW pU pI pC uO uF uE uN wK jM jN jZ jB ++ (WO ca oa od oL oD ++ R)) sz) := by
  refine vx_ofWH (cc := cL_usersByWalk) (maxL := 4) (ret := (some .int)) (hh := [(0, 9, 12, 20)]) (by decide) rfl ?_
  intro p e s m args below meth c s₁ B hml hv
  obtain ⟨rfl, rfl, hP, hE, hD0, hZ, hNC⟩ := hv
  have hx := B.exec
  have hb := B.bytes
  have hr := B.returns
  have hts0 := atoms_spec (ws := wmW yL_usersByWalk cL_usersByWalk 4 (some .int) [(0, 9, 12, 20)]) B.pre
  have hts := wmW_ww hts0
  have htab := vx_table (x := yL_usersByWalk) B (hts0 _ List.mem_cons_self)
  have hown : s.vm.findClass RL = some m.cls := findClass_of_methodNamed B.named
  have hlocks := B.notSynchronized
  have hK := hE.1
  have hD := hD0.self (sz := s.heap.size)
  generalize hAe : va_A (WC ca ad bq nF nO nL nA nC nV nU nP nE bF bO bL bA bC bV bU bP bE cT cK cO cQ cD pT pK pR pW pU pI pC uO uF uE uN wK jM jN jZ jB ++ (WO ca oa od oL oD ++ R)) s.heap.size = A at hD hZ ⊢
  have hA : ∀ q : Nat, s.heap.size ≤ q → A q := fun q h => by rw [← hAe]; exact Or.inr h
  have hS : va_S A s.heap s.heap [] := va_S.rf
  have hl := lv_entry ([.ref (ad 0), .int p1, .ref oa]) (n := 4) (Nat.le_of_ble_eq_true rfl)
  rw [lg_entry_eq]
  generalize (lg_sl ([.ref (ad 0), .int p1, .ref oa]) ++ List.replicate (4 - (lg_sl ([.ref (ad 0), .int p1, .ref oa])).length) Slot.unset).toArray = ls at hl ⊢
  have hl : lv_has ls 4 [(0, .ref (ad 0)), (1, .int p1), (2, .ref oa)] := hl
  change W p l e ({ frames := 8, cells := 1, slots := 6, locals := 132 } : Room) s m _ below meth c s.heap [] 0 0 _ _
  generalize hQm : vx_MQ below (QI ro D (WC ca ad bq nF nO nL nA nC nV nU nP nE bF bO bL bA bC bV bU bP bE cT cK cO cQ cD pT pK pR pW pU pI pC uO uF uE uN owK jM jN jZ jB ++ (WO ca oa od ooL oD ++ R)) (WC ca ad bq nF nO nL nA nC nV nU nP nE bF bO bL bA bC bV bU bP bE cT cK cO cQ cD pT pK pR pW pU pI pC uO uF uE uN wK jM jN jZ jB ++ (WO ca oa od oL oD ++ R)) s.heap.size) (fun _ _ _ => False) _ s 1 6 A = Qm
  have hP : va_P D vwCl (WC ca ad bq nF nO nL nA nC nV nU nP nE bF bO bL bA bC bV bU bP bE cT cK cO cQ cD pT pK pR pW pU pI pC uO uF uE uN wK jM jN jZ jB ++ (WO ca oa od oL oD ++ R)) s.heap := hP
  generalize hae : ([.ref (ad 0), .int p1, .ref oa] : List Value).toArray = args at hts hQm ⊢
  refine lv_aload_n hx hb dL_usersByWalk_0 rfl (lv_at hl 2 rfl) ?_
  refine lv_iconst (v := 0) hx hb dL_usersByWalk_1 (by decide) ?_
  refine lv_aload_n hx hb dL_usersByWalk_2 rfl (lv_at hl 0 rfl) ?_
  refine lv_iload_n hx hb dL_usersByWalk_3 rfl (lv_at hl 1 rfl) ?_
  obtain ⟨⟨x1, wK_2⟩, h3, hf⟩ := bnd hf
  rcases x1 with n4 | r5
  · have hf : (if n4 = 3 then some (1, wK_2, oL) else none) = some (ro, owK, ooL) := hf
    by_cases c6 : n4 = 3
    · subst c6
      have hf := br_pos rfl hf
      refine cw_vi_err (rest := [.int 0, .ref oa]) (m_C_usersByWalk l hst ca ad bq nF nO nL nA nC nV nU nP nE bF bO bL bA bC bV bU bP bE cT cK cO cQ cD pT pK pR pW pU pI pC uO uF uE uN wK jM jN jZ jB (WO ca oa od oL oD ++ R) _ p1 (.error 3) wK_2 h3) ⟨hx, hb, hml, hown, hts⟩ (cwV 1 hts (gV q746 q747 q748 q41 q749) rfl rfl rfl (by decide +kernel) ⟨Nat.le_of_ble_eq_true rfl, Nat.le_of_ble_eq_true rfl⟩) (va_recv hK hP (ci := 7) (q0 := 0) rfl rfl) hE hP hD hS hA hZ rfl hl.1 rfl (lv_room (Nat.le_of_ble_eq_true rfl)) dL_usersByWalk_4 ⟨Nat.le_of_ble_eq_true rfl, Nat.le_of_ble_eq_true rfl⟩ (fun H locs q9 ce hP hD hS hce hv9 hcl => ?_)
      refine vx_catch (E := "java/lang/IndexOutOfBoundsException") hown [] ⟨0, 9, 12, 20⟩ [] htab (fun _ h => absurd h List.not_mem_nil) (by decide) (by decide) (hts _ q458) (va_Nw.use rfl (hE.2.1 _ n492)) hce hv9 hcl ?_
      refine lv_astore_n (lv' := [(3, .ref q9), (0, .ref (ad 0)), (1, .int p1), (2, .ref oa)]) hx hb dL_usersByWalk_12 rfl hl (by decide) rfl (fun ls hl => ?_)
      refine lv_iconst (v := 1) hx hb dL_usersByWalk_13 (by decide) ?_
      cases hf
      exact endw_i hAe hQm hx hb hr hlocks rfl hP hD hS dL_usersByWalk_14 (Nat.le_of_ble_eq_true rfl) (Nat.le_of_ble_eq_true rfl)
    have hf := br_neg c6 hf
    cases hf
  refine cw_vi_ok (rest := [.int 0, .ref oa]) (m_C_usersByWalk l hst ca ad bq nF nO nL nA nC nV nU nP nE bF bO bL bA bC bV bU bP bE cT cK cO cQ cD pT pK pR pW pU pI pC uO uF uE uN wK jM jN jZ jB (WO ca oa od oL oD ++ R) _ p1 (.ok r5) wK_2 h3) ⟨hx, hb, hml, hown, hts⟩ (cwV 1 hts (gV q746 q747 q748 q41 q749) rfl rfl rfl (by decide +kernel) ⟨Nat.le_of_ble_eq_true rfl, Nat.le_of_ble_eq_true rfl⟩) (va_recv hK hP (ci := 7) (q0 := 0) rfl rfl) hE hP hD hS hA hZ rfl hl.1 rfl (lv_room (Nat.le_of_ble_eq_true rfl)) dL_usersByWalk_4 ⟨Nat.le_of_ble_eq_true rfl, Nat.le_of_ble_eq_true rfl⟩ (fun H locs hP hD hS => ?_)
  refine lv_i2l hx hb dL_usersByWalk_7 rfl ?_
  refine va_last (D := D) hx hb hK hP hD hS 40 5 rfl rfl (by unfold vp_in; decide) dL_usersByWalk_8 (fun H locs hP hD hS => ?_)
  have hP : va_P D vwCl (WC ca ad bq nF nO nL nA nC nV nU nP nE bF bO bL bA bC bV bU bP bE cT cK cO cQ cD pT pK pR pW pU pI pC uO uF uE uN wK_2 jM jN jZ jB ++ (WO ca oa od (vp_updL oL (0 : Int32).toNatClampNeg ((r5).toInt64)) oD ++ R)) H := hP
  have hD : va_D A (WC ca ad bq nF nO nL nA nC nV nU nP nE bF bO bL bA bC bV bU bP bE cT cK cO cQ cD pT pK pR pW pU pI pC uO uF uE uN wK_2 jM jN jZ jB ++ (WO ca oa od (vp_updL oL (0 : Int32).toNatClampNeg ((r5).toInt64)) oD ++ R)) := hD
  refine lv_goto (tgt := 15) hx hb dL_usersByWalk_9 (by decide) ?_
  refine lv_iconst (v := 0) hx hb dL_usersByWalk_15 (by decide) ?_
  cases hf
  exact endw_i hAe hQm hx hb hr hlocks rfl hP hD hS dL_usersByWalk_16 (Nat.le_of_ble_eq_true rfl) (Nat.le_of_ble_eq_true rfl)
def f_L_promise (p1 : Int32) (p2 : Int32) (nU : Nat → Int32) (nP : Nat → Int32) (nE : Int32) (cK : Nat → Int32) (cO : Int32) (oL : Nat → Int64) : Option (Int32 × (Nat → Int32) × Int32 × (Nat → Int32) × (Nat → Int64)) :=
  (f_C_promise p1 p2 nU nP nE cK cO).bind fun (x1, nP_2, nE_3, cK_4) =>
  match x1 with
  | .error n6 => if n6 = 3 then some (1, nP_2, nE_3, cK_4, oL) else if n6 = 1 then some (2, nP_2, nE_3, cK_4, oL) else if n6 = 4 then some (3, nP_2, nE_3, cK_4, oL) else none
  | .ok r7 =>
  some (0, nP_2, nE_3, cK_4, (vp_updL oL (0 : Int32).toNatClampNeg ((r7).toInt64)))
set_option maxHeartbeats 4000000 in
set_option maxRecDepth 100000 in
theorem m_L_promise (l : Launch) (hst : l.stackTraces = false) {D : va_G} (ca : Nat → ClassId) (ad : Nat → Nat) (bq : Nat) (oa od : Nat) (nF : Int32) (nO : Nat → Int32) (nL : Nat → Int32) (nA : Nat → Int32) (nC : Nat → Int32) (nV : Nat → Int32) (nU : Nat → Int32) (nP : Nat → Int32) (nE : Int32) (bF : Int32) (bO : Nat → Int32) (bL : Nat → Int32) (bA : Nat → Int32) (bC : Nat → Int32) (bV : Nat → Int32) (bU : Nat → Int32) (bP : Nat → Int32) (bE : Int32) (cT : Int32) (cK : Nat → Int32) (cO : Int32) (cQ : Nat → Int32) (cD : Int32) (pT : Int32) (pK : Int32) (pR : Nat → Int32) (pW : Nat → Int32) (pU : Nat → Int32) (pI : Nat → Int32) (pC : Nat → Nat → Int32) (uO : Int32) (uF : Nat → Int32) (uE : Nat → Int32) (uN : Nat → Int32) (wK : Nat → Int32) (jM : Int32) (jN : Int32) (jZ : Nat) (jB : Nat → Int32) (oL : Nat → Int64) (oD : Nat → UInt64) (R : va_W) (sz : Nat) (p1 : Int32) (p2 : Int32) (ro : Int32) (onP : Nat → Int32) (onE : Int32) (ocK : Nat → Int32) (ooL : Nat → Int64) (hf : f_L_promise p1 p2 nU nP nE cK cO oL = some (ro, onP, onE, ocK, ooL)) : vx_Met l yL_promise (wmW yL_promise cL_promise 5 (some .int) [(0, 10, 13, 20), (0, 10, 17, 13), (0, 10, 21, 39)]) ({ frames := 8, cells := 3, slots := 18, locals := 136 } : Room) (PREL [.ref (ad 0), .int p1, .int p2, .ref oa] D ca SL0 (WC ca ad bq nF nO nL nA nC nV nU nP nE bF bO bL bA bC bV bU bP bE cT cK cO cQ cD pT pK pR pW pU pI pC uO uF uE uN wK jM jN jZ jB ++ (WO ca oa od oL oD ++ R)) sz) (QI ro D (WC ca ad bq nF nO nL nA nC nV nU onP onE bF bO bL bA bC bV bU bP bE cT ocK cO cQ cD pT pK pR pW pU pI pC uO uF uE uN wK jM jN jZ jB ++ (WO ca oa od ooL oD ++ R)) (WC ca ad bq nF nO nL nA nC nV nU nP nE bF bO bL bA bC bV bU bP bE cT cK cO cQ cD pT pK pR pW pU pI pC uO uF uE uN wK jM jN jZ jB ++ (WO ca oa od oL oD ++ R)) sz) (fun _ _ _ => False) 3 18 (va_A (WC ca ad bq nF nO nL nA nC nV nU nP nE bF bO bL bA bC bV bU bP bE cT cK cO cQ cD pT pK pR pW pU pI pC uO uF uE uN wK jM jN jZ jB ++ (WO ca oa od oL oD ++ R)) sz) := by
  refine vx_ofWH (cc := cL_promise) (maxL := 5) (ret := (some .int)) (hh := [(0, 10, 13, 20), (0, 10, 17, 13), (0, 10, 21, 39)]) (by decide) rfl ?_
  intro p e s m args below meth c s₁ B hml hv
  obtain ⟨rfl, rfl, hP, hE, hD0, hZ, hNC⟩ := hv
  have hx := B.exec
  have hb := B.bytes
  have hr := B.returns
  have hts0 := atoms_spec (ws := wmW yL_promise cL_promise 5 (some .int) [(0, 10, 13, 20), (0, 10, 17, 13), (0, 10, 21, 39)]) B.pre
  have hts := wmW_ww hts0
  have htab := vx_table (x := yL_promise) B (hts0 _ List.mem_cons_self)
  have hown : s.vm.findClass RL = some m.cls := findClass_of_methodNamed B.named
  have hlocks := B.notSynchronized
  have hK := hE.1
  have hD := hD0.self (sz := s.heap.size)
  generalize hAe : va_A (WC ca ad bq nF nO nL nA nC nV nU nP nE bF bO bL bA bC bV bU bP bE cT cK cO cQ cD pT pK pR pW pU pI pC uO uF uE uN wK jM jN jZ jB ++ (WO ca oa od oL oD ++ R)) s.heap.size = A at hD hZ ⊢
  have hA : ∀ q : Nat, s.heap.size ≤ q → A q := fun q h => by rw [← hAe]; exact Or.inr h
  have hS : va_S A s.heap s.heap [] := va_S.rf
  have hl := lv_entry ([.ref (ad 0), .int p1, .int p2, .ref oa]) (n := 5) (Nat.le_of_ble_eq_true rfl)
  rw [lg_entry_eq]
  generalize (lg_sl ([.ref (ad 0), .int p1, .int p2, .ref oa]) ++ List.replicate (5 - (lg_sl ([.ref (ad 0), .int p1, .int p2, .ref oa])).length) Slot.unset).toArray = ls at hl ⊢
  have hl : lv_has ls 5 [(0, .ref (ad 0)), (1, .int p1), (2, .int p2), (3, .ref oa)] := hl
  change W p l e ({ frames := 8, cells := 3, slots := 18, locals := 136 } : Room) s m _ below meth c s.heap [] 0 0 _ _
  generalize hQm : vx_MQ below (QI ro D (WC ca ad bq nF nO nL nA nC nV nU onP onE bF bO bL bA bC bV bU bP bE cT ocK cO cQ cD pT pK pR pW pU pI pC uO uF uE uN wK jM jN jZ jB ++ (WO ca oa od ooL oD ++ R)) (WC ca ad bq nF nO nL nA nC nV nU nP nE bF bO bL bA bC bV bU bP bE cT cK cO cQ cD pT pK pR pW pU pI pC uO uF uE uN wK jM jN jZ jB ++ (WO ca oa od oL oD ++ R)) s.heap.size) (fun _ _ _ => False) _ s 3 18 A = Qm
  have hP : va_P D vwCl (WC ca ad bq nF nO nL nA nC nV nU nP nE bF bO bL bA bC bV bU bP bE cT cK cO cQ cD pT pK pR pW pU pI pC uO uF uE uN wK jM jN jZ jB ++ (WO ca oa od oL oD ++ R)) s.heap := hP
  generalize hae : ([.ref (ad 0), .int p1, .int p2, .ref oa] : List Value).toArray = args at hts hQm ⊢
  refine lv_aload_n hx hb dL_promise_0 rfl (lv_at hl 3 rfl) ?_
  refine lv_iconst (v := 0) hx hb dL_promise_1 (by decide) ?_
  refine lv_aload_n hx hb dL_promise_2 rfl (lv_at hl 0 rfl) ?_
  refine lv_iload_n hx hb dL_promise_3 rfl (lv_at hl 1 rfl) ?_
  refine lv_iload_n hx hb dL_promise_4 rfl (lv_at hl 2 rfl) ?_
  obtain ⟨⟨x1, nP_2, nE_3, cK_4⟩, h5, hf⟩ := bnd hf
  rcases x1 with n6 | r7
  · have hf : (if n6 = 3 then some (1, nP_2, nE_3, cK_4, oL) else if n6 = 1 then some (2, nP_2, nE_3, cK_4, oL) else if n6 = 4 then some (3, nP_2, nE_3, cK_4, oL) else none) = some (ro, onP, onE, ocK, ooL) := hf
    by_cases c8 : n6 = 3
    · subst c8
      have hf := br_pos rfl hf
      refine cw_vi_err (rest := [.int 0, .ref oa]) (m_C_promise l hst ca ad bq nF nO nL nA nC nV nU nP nE bF bO bL bA bC bV bU bP bE cT cK cO cQ cD pT pK pR pW pU pI pC uO uF uE uN wK jM jN jZ jB (WO ca oa od oL oD ++ R) _ p1 p2 (.error 3) nP_2 nE_3 cK_4 h5) ⟨hx, hb, hml, hown, hts⟩ (cwV 2 hts (gV q753 q754 q755 q41 q756) rfl rfl rfl (by decide +kernel) ⟨Nat.le_of_ble_eq_true rfl, Nat.le_of_ble_eq_true rfl⟩) (va_recv hK hP (ci := 7) (q0 := 0) rfl rfl) hE hP hD hS hA hZ rfl hl.1 rfl (lv_room (Nat.le_of_ble_eq_true rfl)) dL_promise_5 ⟨Nat.le_of_ble_eq_true rfl, Nat.le_of_ble_eq_true rfl⟩ (fun H locs q9 ce hP hD hS hce hv9 hcl => ?_)
      refine vx_catch (E := "java/lang/IndexOutOfBoundsException") hown [] ⟨0, 10, 13, 20⟩ [⟨0, 10, 17, 13⟩, ⟨0, 10, 21, 39⟩] htab (fun _ h => absurd h List.not_mem_nil) (by decide) (by decide) (hts _ q458) (va_Nw.use rfl (hE.2.1 _ n492)) hce hv9 hcl ?_
      refine lv_astore (lv' := [(4, .ref q9), (0, .ref (ad 0)), (1, .int p1), (2, .int p2), (3, .ref oa)]) hx hb dL_promise_13 hl (by decide) rfl (fun ls hl => ?_)
      refine lv_iconst (v := 1) hx hb dL_promise_15 (by decide) ?_
      cases hf
      exact endw_i hAe hQm hx hb hr hlocks rfl hP hD hS dL_promise_16 (Nat.le_of_ble_eq_true rfl) (Nat.le_of_ble_eq_true rfl)
    have hf := br_neg c8 hf
    by_cases c9 : n6 = 1
    · subst c9
      have hf := br_pos rfl hf
      refine cw_vi_err (rest := [.int 0, .ref oa]) (m_C_promise l hst ca ad bq nF nO nL nA nC nV nU nP nE bF bO bL bA bC bV bU bP bE cT cK cO cQ cD pT pK pR pW pU pI pC uO uF uE uN wK jM jN jZ jB (WO ca oa od oL oD ++ R) _ p1 p2 (.error 1) nP_2 nE_3 cK_4 h5) ⟨hx, hb, hml, hown, hts⟩ (cwV 2 hts (gV q753 q754 q755 q41 q756) rfl rfl rfl (by decide +kernel) ⟨Nat.le_of_ble_eq_true rfl, Nat.le_of_ble_eq_true rfl⟩) (va_recv hK hP (ci := 7) (q0 := 0) rfl rfl) hE hP hD hS hA hZ rfl hl.1 rfl (lv_room (Nat.le_of_ble_eq_true rfl)) dL_promise_5 ⟨Nat.le_of_ble_eq_true rfl, Nat.le_of_ble_eq_true rfl⟩ (fun H locs q9 ce hP hD hS hce hv9 hcl => ?_)
      refine vx_catch (E := "java/lang/IllegalArgumentException") hown [⟨0, 10, 13, 20⟩] ⟨0, 10, 17, 13⟩ [⟨0, 10, 21, 39⟩] htab (List.forall_mem_cons.mpr ⟨Or.inr ⟨by decide, _, hts _ q458, hNC _ nc_1_3⟩, fun _ h => absurd h List.not_mem_nil⟩) (by decide) (by decide) (hts _ q352) (va_Nw.use rfl (hE.2.1 _ n364)) hce hv9 hcl ?_
      refine lv_astore (lv' := [(4, .ref q9), (0, .ref (ad 0)), (1, .int p1), (2, .int p2), (3, .ref oa)]) hx hb dL_promise_17 hl (by decide) rfl (fun ls hl => ?_)
      refine lv_iconst (v := 2) hx hb dL_promise_19 (by decide) ?_
      cases hf
      exact endw_i hAe hQm hx hb hr hlocks rfl hP hD hS dL_promise_20 (Nat.le_of_ble_eq_true rfl) (Nat.le_of_ble_eq_true rfl)
    have hf := br_neg c9 hf
    by_cases c10 : n6 = 4
    · subst c10
      have hf := br_pos rfl hf
      refine cw_vi_err (rest := [.int 0, .ref oa]) (m_C_promise l hst ca ad bq nF nO nL nA nC nV nU nP nE bF bO bL bA bC bV bU bP bE cT cK cO cQ cD pT pK pR pW pU pI pC uO uF uE uN wK jM jN jZ jB (WO ca oa od oL oD ++ R) _ p1 p2 (.error 4) nP_2 nE_3 cK_4 h5) ⟨hx, hb, hml, hown, hts⟩ (cwV 2 hts (gV q753 q754 q755 q41 q756) rfl rfl rfl (by decide +kernel) ⟨Nat.le_of_ble_eq_true rfl, Nat.le_of_ble_eq_true rfl⟩) (va_recv hK hP (ci := 7) (q0 := 0) rfl rfl) hE hP hD hS hA hZ rfl hl.1 rfl (lv_room (Nat.le_of_ble_eq_true rfl)) dL_promise_5 ⟨Nat.le_of_ble_eq_true rfl, Nat.le_of_ble_eq_true rfl⟩ (fun H locs q9 ce hP hD hS hce hv9 hcl => ?_)
      refine vx_catch (E := "java/lang/UnsupportedOperationException") hown [⟨0, 10, 13, 20⟩, ⟨0, 10, 17, 13⟩] ⟨0, 10, 21, 39⟩ [] htab (List.forall_mem_cons.mpr ⟨Or.inr ⟨by decide, _, hts _ q458, hNC _ nc_4_3⟩, List.forall_mem_cons.mpr ⟨Or.inr ⟨by decide, _, hts _ q352, hNC _ nc_4_1⟩, fun _ h => absurd h List.not_mem_nil⟩⟩) (by decide) (by decide) (hts _ q592) (va_Nw.use rfl (hE.2.1 _ n634)) hce hv9 hcl ?_
      refine lv_astore (lv' := [(4, .ref q9), (0, .ref (ad 0)), (1, .int p1), (2, .int p2), (3, .ref oa)]) hx hb dL_promise_21 hl (by decide) rfl (fun ls hl => ?_)
      refine lv_iconst (v := 3) hx hb dL_promise_23 (by decide) ?_
      cases hf
      exact endw_i hAe hQm hx hb hr hlocks rfl hP hD hS dL_promise_24 (Nat.le_of_ble_eq_true rfl) (Nat.le_of_ble_eq_true rfl)
    have hf := br_neg c10 hf
    cases hf
  refine cw_vi_ok (rest := [.int 0, .ref oa]) (m_C_promise l hst ca ad bq nF nO nL nA nC nV nU nP nE bF bO bL bA bC bV bU bP bE cT cK cO cQ cD pT pK pR pW pU pI pC uO uF uE uN wK jM jN jZ jB (WO ca oa od oL oD ++ R) _ p1 p2 (.ok r7) nP_2 nE_3 cK_4 h5) ⟨hx, hb, hml, hown, hts⟩ (cwV 2 hts (gV q753 q754 q755 q41 q756) rfl rfl rfl (by decide +kernel) ⟨Nat.le_of_ble_eq_true rfl, Nat.le_of_ble_eq_true rfl⟩) (va_recv hK hP (ci := 7) (q0 := 0) rfl rfl) hE hP hD hS hA hZ rfl hl.1 rfl (lv_room (Nat.le_of_ble_eq_true rfl)) dL_promise_5 ⟨Nat.le_of_ble_eq_true rfl, Nat.le_of_ble_eq_true rfl⟩ (fun H locs hP hD hS => ?_)
  refine lv_i2l hx hb dL_promise_8 rfl ?_
  refine va_last (D := D) hx hb hK hP hD hS 40 5 rfl rfl (by unfold vp_in; decide) dL_promise_9 (fun H locs hP hD hS => ?_)
  have hP : va_P D vwCl (WC ca ad bq nF nO nL nA nC nV nU nP_2 nE_3 bF bO bL bA bC bV bU bP bE cT cK_4 cO cQ cD pT pK pR pW pU pI pC uO uF uE uN wK jM jN jZ jB ++ (WO ca oa od (vp_updL oL (0 : Int32).toNatClampNeg ((r7).toInt64)) oD ++ R)) H := hP
  have hD : va_D A (WC ca ad bq nF nO nL nA nC nV nU nP_2 nE_3 bF bO bL bA bC bV bU bP bE cT cK_4 cO cQ cD pT pK pR pW pU pI pC uO uF uE uN wK jM jN jZ jB ++ (WO ca oa od (vp_updL oL (0 : Int32).toNatClampNeg ((r7).toInt64)) oD ++ R)) := hD
  refine lv_goto (tgt := 25) hx hb dL_promise_10 (by decide) ?_
  refine lv_iconst (v := 0) hx hb dL_promise_25 (by decide) ?_
  cases hf
  exact endw_i hAe hQm hx hb hr hlocks rfl hP hD hS dL_promise_26 (Nat.le_of_ble_eq_true rfl) (Nat.le_of_ble_eq_true rfl)
def f_L_promisedTo (p1 : Int32) (nP : Nat → Int32) (cO : Int32) (oL : Nat → Int64) : Option (Int32 × (Nat → Int64)) :=
  (f_C_promisedTo p1 nP cO).bind fun x1 =>
  match x1 with
  | .error n3 => if n3 = 3 then some (1, oL) else none
  | .ok r4 =>
  some (0, (vp_updL oL (0 : Int32).toNatClampNeg ((r4).toInt64)))
set_option maxHeartbeats 4000000 in
set_option maxRecDepth 100000 in
theorem m_L_promisedTo (l : Launch) (hst : l.stackTraces = false) {D : va_G} (ca : Nat → ClassId) (ad : Nat → Nat) (bq : Nat) (oa od : Nat) (nF : Int32) (nO : Nat → Int32) (nL : Nat → Int32) (nA : Nat → Int32) (nC : Nat → Int32) (nV : Nat → Int32) (nU : Nat → Int32) (nP : Nat → Int32) (nE : Int32) (bF : Int32) (bO : Nat → Int32) (bL : Nat → Int32) (bA : Nat → Int32) (bC : Nat → Int32) (bV : Nat → Int32) (bU : Nat → Int32) (bP : Nat → Int32) (bE : Int32) (cT : Int32) (cK : Nat → Int32) (cO : Int32) (cQ : Nat → Int32) (cD : Int32) (pT : Int32) (pK : Int32) (pR : Nat → Int32) (pW : Nat → Int32) (pU : Nat → Int32) (pI : Nat → Int32) (pC : Nat → Nat → Int32) (uO : Int32) (uF : Nat → Int32) (uE : Nat → Int32) (uN : Nat → Int32) (wK : Nat → Int32) (jM : Int32) (jN : Int32) (jZ : Nat) (jB : Nat → Int32) (oL : Nat → Int64) (oD : Nat → UInt64) (R : va_W) (sz : Nat) (p1 : Int32) (ro : Int32) (ooL : Nat → Int64) (hf : f_L_promisedTo p1 nP cO oL = some (ro, ooL)) : vx_Met l yL_promisedTo (wmW yL_promisedTo cL_promisedTo 4 (some .int) [(0, 9, 12, 20)]) ({ frames := 8, cells := 1, slots := 6, locals := 132 } : Room) (PREL [.ref (ad 0), .int p1, .ref oa] D ca SL0 (WC ca ad bq nF nO nL nA nC nV nU nP nE bF bO bL bA bC bV bU bP bE cT cK cO cQ cD pT pK pR pW pU pI pC uO uF uE uN wK jM jN jZ jB ++ (WO ca oa od oL oD ++ R)) sz) (QI ro D (WC ca ad bq nF nO nL nA nC nV nU nP nE bF bO bL bA bC bV bU bP bE cT cK cO cQ cD pT pK pR pW pU pI pC uO uF uE uN wK jM jN jZ jB ++ (WO ca oa od ooL oD ++ R)) (WC ca ad bq nF nO nL nA nC nV nU nP nE bF bO bL bA bC bV bU bP bE cT cK cO cQ cD pT pK pR pW pU pI pC uO uF uE uN wK jM jN jZ jB ++ (WO ca oa od oL oD ++ R)) sz) (fun _ _ _ => False) 1 6 (va_A (WC ca ad bq nF nO nL nA nC nV nU nP nE bF bO bL bA bC bV bU bP bE cT cK cO cQ cD pT pK pR pW pU pI pC uO uF uE uN wK jM jN jZ jB ++ (WO ca oa od oL oD ++ R)) sz) := by
  refine vx_ofWH (cc := cL_promisedTo) (maxL := 4) (ret := (some .int)) (hh := [(0, 9, 12, 20)]) (by decide) rfl ?_
  intro p e s m args below meth c s₁ B hml hv
  obtain ⟨rfl, rfl, hP, hE, hD0, hZ, hNC⟩ := hv
  have hx := B.exec
  have hb := B.bytes
  have hr := B.returns
  have hts0 := atoms_spec (ws := wmW yL_promisedTo cL_promisedTo 4 (some .int) [(0, 9, 12, 20)]) B.pre
  have hts := wmW_ww hts0
  have htab := vx_table (x := yL_promisedTo) B (hts0 _ List.mem_cons_self)
  have hown : s.vm.findClass RL = some m.cls := findClass_of_methodNamed B.named
  have hlocks := B.notSynchronized
  have hK := hE.1
  have hD := hD0.self (sz := s.heap.size)
  generalize hAe : va_A (WC ca ad bq nF nO nL nA nC nV nU nP nE bF bO bL bA bC bV bU bP bE cT cK cO cQ cD pT pK pR pW pU pI pC uO uF uE uN wK jM jN jZ jB ++ (WO ca oa od oL oD ++ R)) s.heap.size = A at hD hZ ⊢
  have hA : ∀ q : Nat, s.heap.size ≤ q → A q := fun q h => by rw [← hAe]; exact Or.inr h
  have hS : va_S A s.heap s.heap [] := va_S.rf
  have hl := lv_entry ([.ref (ad 0), .int p1, .ref oa]) (n := 4) (Nat.le_of_ble_eq_true rfl)
  rw [lg_entry_eq]
  generalize (lg_sl ([.ref (ad 0), .int p1, .ref oa]) ++ List.replicate (4 - (lg_sl ([.ref (ad 0), .int p1, .ref oa])).length) Slot.unset).toArray = ls at hl ⊢
  have hl : lv_has ls 4 [(0, .ref (ad 0)), (1, .int p1), (2, .ref oa)] := hl
  change W p l e ({ frames := 8, cells := 1, slots := 6, locals := 132 } : Room) s m _ below meth c s.heap [] 0 0 _ _
  generalize hQm : vx_MQ below (QI ro D (WC ca ad bq nF nO nL nA nC nV nU nP nE bF bO bL bA bC bV bU bP bE cT cK cO cQ cD pT pK pR pW pU pI pC uO uF uE uN wK jM jN jZ jB ++ (WO ca oa od ooL oD ++ R)) (WC ca ad bq nF nO nL nA nC nV nU nP nE bF bO bL bA bC bV bU bP bE cT cK cO cQ cD pT pK pR pW pU pI pC uO uF uE uN wK jM jN jZ jB ++ (WO ca oa od oL oD ++ R)) s.heap.size) (fun _ _ _ => False) _ s 1 6 A = Qm
  have hP : va_P D vwCl (WC ca ad bq nF nO nL nA nC nV nU nP nE bF bO bL bA bC bV bU bP bE cT cK cO cQ cD pT pK pR pW pU pI pC uO uF uE uN wK jM jN jZ jB ++ (WO ca oa od oL oD ++ R)) s.heap := hP
  generalize hae : ([.ref (ad 0), .int p1, .ref oa] : List Value).toArray = args at hts hQm ⊢
  refine lv_aload_n hx hb dL_promisedTo_0 rfl (lv_at hl 2 rfl) ?_
  refine lv_iconst (v := 0) hx hb dL_promisedTo_1 (by decide) ?_
  refine lv_aload_n hx hb dL_promisedTo_2 rfl (lv_at hl 0 rfl) ?_
  refine lv_iload_n hx hb dL_promisedTo_3 rfl (lv_at hl 1 rfl) ?_
  obtain ⟨x1, h2, hf⟩ := bnd hf
  rcases x1 with n3 | r4
  · have hf : (if n3 = 3 then some (1, oL) else none) = some (ro, ooL) := hf
    by_cases c5 : n3 = 3
    · subst c5
      have hf := br_pos rfl hf
      refine cw_vi_err (rest := [.int 0, .ref oa]) (m_C_promisedTo l hst ca ad bq nF nO nL nA nC nV nU nP nE bF bO bL bA bC bV bU bP bE cT cK cO cQ cD pT pK pR pW pU pI pC uO uF uE uN wK jM jN jZ jB (WO ca oa od oL oD ++ R) _ p1 (.error 3) h2) ⟨hx, hb, hml, hown, hts⟩ (cwV 1 hts (gV q762 q763 q764 q41 q765) rfl rfl rfl (by decide +kernel) ⟨Nat.le_of_ble_eq_true rfl, Nat.le_of_ble_eq_true rfl⟩) (va_recv hK hP (ci := 7) (q0 := 0) rfl rfl) hE hP hD hS hA hZ rfl hl.1 rfl (lv_room (Nat.le_of_ble_eq_true rfl)) dL_promisedTo_4 ⟨Nat.le_of_ble_eq_true rfl, Nat.le_of_ble_eq_true rfl⟩ (fun H locs q9 ce hP hD hS hce hv9 hcl => ?_)
      refine vx_catch (E := "java/lang/IndexOutOfBoundsException") hown [] ⟨0, 9, 12, 20⟩ [] htab (fun _ h => absurd h List.not_mem_nil) (by decide) (by decide) (hts _ q458) (va_Nw.use rfl (hE.2.1 _ n492)) hce hv9 hcl ?_
      refine lv_astore_n (lv' := [(3, .ref q9), (0, .ref (ad 0)), (1, .int p1), (2, .ref oa)]) hx hb dL_promisedTo_12 rfl hl (by decide) rfl (fun ls hl => ?_)
      refine lv_iconst (v := 1) hx hb dL_promisedTo_13 (by decide) ?_
      cases hf
      exact endw_i hAe hQm hx hb hr hlocks rfl hP hD hS dL_promisedTo_14 (Nat.le_of_ble_eq_true rfl) (Nat.le_of_ble_eq_true rfl)
    have hf := br_neg c5 hf
    cases hf
  refine cw_vi_ok (rest := [.int 0, .ref oa]) (m_C_promisedTo l hst ca ad bq nF nO nL nA nC nV nU nP nE bF bO bL bA bC bV bU bP bE cT cK cO cQ cD pT pK pR pW pU pI pC uO uF uE uN wK jM jN jZ jB (WO ca oa od oL oD ++ R) _ p1 (.ok r4) h2) ⟨hx, hb, hml, hown, hts⟩ (cwV 1 hts (gV q762 q763 q764 q41 q765) rfl rfl rfl (by decide +kernel) ⟨Nat.le_of_ble_eq_true rfl, Nat.le_of_ble_eq_true rfl⟩) (va_recv hK hP (ci := 7) (q0 := 0) rfl rfl) hE hP hD hS hA hZ rfl hl.1 rfl (lv_room (Nat.le_of_ble_eq_true rfl)) dL_promisedTo_4 ⟨Nat.le_of_ble_eq_true rfl, Nat.le_of_ble_eq_true rfl⟩ (fun H locs hP hD hS => ?_)
  refine lv_i2l hx hb dL_promisedTo_7 rfl ?_
  refine va_last (D := D) hx hb hK hP hD hS 40 5 rfl rfl (by unfold vp_in; decide) dL_promisedTo_8 (fun H locs hP hD hS => ?_)
  have hP : va_P D vwCl (WC ca ad bq nF nO nL nA nC nV nU nP nE bF bO bL bA bC bV bU bP bE cT cK cO cQ cD pT pK pR pW pU pI pC uO uF uE uN wK jM jN jZ jB ++ (WO ca oa od (vp_updL oL (0 : Int32).toNatClampNeg ((r4).toInt64)) oD ++ R)) H := hP
  have hD : va_D A (WC ca ad bq nF nO nL nA nC nV nU nP nE bF bO bL bA bC bV bU bP bE cT cK cO cQ cD pT pK pR pW pU pI pC uO uF uE uN wK jM jN jZ jB ++ (WO ca oa od (vp_updL oL (0 : Int32).toNatClampNeg ((r4).toInt64)) oD ++ R)) := hD
  refine lv_goto (tgt := 15) hx hb dL_promisedTo_9 (by decide) ?_
  refine lv_iconst (v := 0) hx hb dL_promisedTo_15 (by decide) ?_
  cases hf
  exact endw_i hAe hQm hx hb hr hlocks rfl hP hD hS dL_promisedTo_16 (Nat.le_of_ble_eq_true rfl) (Nat.le_of_ble_eq_true rfl)
def f_L_giveBack (p1 : Int32) (nP : Nat → Int32) (nE : Int32) (cK : Nat → Int32) (cO : Int32) (oL : Nat → Int64) : Option (Int32 × (Nat → Int32) × Int32 × (Nat → Int32) × (Nat → Int64)) :=
  (f_C_giveBack p1 nP nE cK cO).bind fun (x1, nP_2, nE_3, cK_4) =>
  match x1 with
  | .error n6 => if n6 = 3 then some (1, nP_2, nE_3, cK_4, oL) else if n6 = 2 then some (2, nP_2, nE_3, cK_4, oL) else none
  | .ok r7 =>
  some (0, nP_2, nE_3, cK_4, (vp_updL oL (0 : Int32).toNatClampNeg ((r7).toInt64)))
set_option maxHeartbeats 4000000 in
set_option maxRecDepth 100000 in
theorem m_L_giveBack (l : Launch) (hst : l.stackTraces = false) {D : va_G} (ca : Nat → ClassId) (ad : Nat → Nat) (bq : Nat) (oa od : Nat) (nF : Int32) (nO : Nat → Int32) (nL : Nat → Int32) (nA : Nat → Int32) (nC : Nat → Int32) (nV : Nat → Int32) (nU : Nat → Int32) (nP : Nat → Int32) (nE : Int32) (bF : Int32) (bO : Nat → Int32) (bL : Nat → Int32) (bA : Nat → Int32) (bC : Nat → Int32) (bV : Nat → Int32) (bU : Nat → Int32) (bP : Nat → Int32) (bE : Int32) (cT : Int32) (cK : Nat → Int32) (cO : Int32) (cQ : Nat → Int32) (cD : Int32) (pT : Int32) (pK : Int32) (pR : Nat → Int32) (pW : Nat → Int32) (pU : Nat → Int32) (pI : Nat → Int32) (pC : Nat → Nat → Int32) (uO : Int32) (uF : Nat → Int32) (uE : Nat → Int32) (uN : Nat → Int32) (wK : Nat → Int32) (jM : Int32) (jN : Int32) (jZ : Nat) (jB : Nat → Int32) (oL : Nat → Int64) (oD : Nat → UInt64) (R : va_W) (sz : Nat) (p1 : Int32) (ro : Int32) (onP : Nat → Int32) (onE : Int32) (ocK : Nat → Int32) (ooL : Nat → Int64) (hf : f_L_giveBack p1 nP nE cK cO oL = some (ro, onP, onE, ocK, ooL)) : vx_Met l yL_giveBack (wmW yL_giveBack cL_giveBack 4 (some .int) [(0, 9, 12, 20), (0, 9, 15, 15)]) ({ frames := 8, cells := 2, slots := 12, locals := 133 } : Room) (PREL [.ref (ad 0), .int p1, .ref oa] D ca SL0 (WC ca ad bq nF nO nL nA nC nV nU nP nE bF bO bL bA bC bV bU bP bE cT cK cO cQ cD pT pK pR pW pU pI pC uO uF uE uN wK jM jN jZ jB ++ (WO ca oa od oL oD ++ R)) sz) (QI ro D (WC ca ad bq nF nO nL nA nC nV nU onP onE bF bO bL bA bC bV bU bP bE cT ocK cO cQ cD pT pK pR pW pU pI pC uO uF uE uN wK jM jN jZ jB ++ (WO ca oa od ooL oD ++ R)) (WC ca ad bq nF nO nL nA nC nV nU nP nE bF bO bL bA bC bV bU bP bE cT cK cO cQ cD pT pK pR pW pU pI pC uO uF uE uN wK jM jN jZ jB ++ (WO ca oa od oL oD ++ R)) sz) (fun _ _ _ => False) 2 12 (va_A (WC ca ad bq nF nO nL nA nC nV nU nP nE bF bO bL bA bC bV bU bP bE cT cK cO cQ cD pT pK pR pW pU pI pC uO uF uE uN wK jM jN jZ jB ++ (WO ca oa od oL oD ++ R)) sz) := by
  refine vx_ofWH (cc := cL_giveBack) (maxL := 4) (ret := (some .int)) (hh := [(0, 9, 12, 20), (0, 9, 15, 15)]) (by decide) rfl ?_
  intro p e s m args below meth c s₁ B hml hv
  obtain ⟨rfl, rfl, hP, hE, hD0, hZ, hNC⟩ := hv
  have hx := B.exec
  have hb := B.bytes
  have hr := B.returns
  have hts0 := atoms_spec (ws := wmW yL_giveBack cL_giveBack 4 (some .int) [(0, 9, 12, 20), (0, 9, 15, 15)]) B.pre
  have hts := wmW_ww hts0
  have htab := vx_table (x := yL_giveBack) B (hts0 _ List.mem_cons_self)
  have hown : s.vm.findClass RL = some m.cls := findClass_of_methodNamed B.named
  have hlocks := B.notSynchronized
  have hK := hE.1
  have hD := hD0.self (sz := s.heap.size)
  generalize hAe : va_A (WC ca ad bq nF nO nL nA nC nV nU nP nE bF bO bL bA bC bV bU bP bE cT cK cO cQ cD pT pK pR pW pU pI pC uO uF uE uN wK jM jN jZ jB ++ (WO ca oa od oL oD ++ R)) s.heap.size = A at hD hZ ⊢
  have hA : ∀ q : Nat, s.heap.size ≤ q → A q := fun q h => by rw [← hAe]; exact Or.inr h
  have hS : va_S A s.heap s.heap [] := va_S.rf
  have hl := lv_entry ([.ref (ad 0), .int p1, .ref oa]) (n := 4) (Nat.le_of_ble_eq_true rfl)
  rw [lg_entry_eq]
  generalize (lg_sl ([.ref (ad 0), .int p1, .ref oa]) ++ List.replicate (4 - (lg_sl ([.ref (ad 0), .int p1, .ref oa])).length) Slot.unset).toArray = ls at hl ⊢
  have hl : lv_has ls 4 [(0, .ref (ad 0)), (1, .int p1), (2, .ref oa)] := hl
  change W p l e ({ frames := 8, cells := 2, slots := 12, locals := 133 } : Room) s m _ below meth c s.heap [] 0 0 _ _
  generalize hQm : vx_MQ below (QI ro D (WC ca ad bq nF nO nL nA nC nV nU onP onE bF bO bL bA bC bV bU bP bE cT ocK cO cQ cD pT pK pR pW pU pI pC uO uF uE uN wK jM jN jZ jB ++ (WO ca oa od ooL oD ++ R)) (WC ca ad bq nF nO nL nA nC nV nU nP nE bF bO bL bA bC bV bU bP bE cT cK cO cQ cD pT pK pR pW pU pI pC uO uF uE uN wK jM jN jZ jB ++ (WO ca oa od oL oD ++ R)) s.heap.size) (fun _ _ _ => False) _ s 2 12 A = Qm
  have hP : va_P D vwCl (WC ca ad bq nF nO nL nA nC nV nU nP nE bF bO bL bA bC bV bU bP bE cT cK cO cQ cD pT pK pR pW pU pI pC uO uF uE uN wK jM jN jZ jB ++ (WO ca oa od oL oD ++ R)) s.heap := hP
  generalize hae : ([.ref (ad 0), .int p1, .ref oa] : List Value).toArray = args at hts hQm ⊢
  refine lv_aload_n hx hb dL_giveBack_0 rfl (lv_at hl 2 rfl) ?_
  refine lv_iconst (v := 0) hx hb dL_giveBack_1 (by decide) ?_
  refine lv_aload_n hx hb dL_giveBack_2 rfl (lv_at hl 0 rfl) ?_
  refine lv_iload_n hx hb dL_giveBack_3 rfl (lv_at hl 1 rfl) ?_
  obtain ⟨⟨x1, nP_2, nE_3, cK_4⟩, h5, hf⟩ := bnd hf
  rcases x1 with n6 | r7
  · have hf : (if n6 = 3 then some (1, nP_2, nE_3, cK_4, oL) else if n6 = 2 then some (2, nP_2, nE_3, cK_4, oL) else none) = some (ro, onP, onE, ocK, ooL) := hf
    by_cases c8 : n6 = 3
    · subst c8
      have hf := br_pos rfl hf
      refine cw_vi_err (rest := [.int 0, .ref oa]) (m_C_giveBack l hst ca ad bq nF nO nL nA nC nV nU nP nE bF bO bL bA bC bV bU bP bE cT cK cO cQ cD pT pK pR pW pU pI pC uO uF uE uN wK jM jN jZ jB (WO ca oa od oL oD ++ R) _ p1 (.error 3) nP_2 nE_3 cK_4 h5) ⟨hx, hb, hml, hown, hts⟩ (cwV 1 hts (gV q769 q770 q771 q41 q772) rfl rfl rfl (by decide +kernel) ⟨Nat.le_of_ble_eq_true rfl, Nat.le_of_ble_eq_true rfl⟩) (va_recv hK hP (ci := 7) (q0 := 0) rfl rfl) hE hP hD hS hA hZ rfl hl.1 rfl (lv_room (Nat.le_of_ble_eq_true rfl)) dL_giveBack_4 ⟨Nat.le_of_ble_eq_true rfl, Nat.le_of_ble_eq_true rfl⟩ (fun H locs q9 ce hP hD hS hce hv9 hcl => ?_)
      refine vx_catch (E := "java/lang/IndexOutOfBoundsException") hown [] ⟨0, 9, 12, 20⟩ [⟨0, 9, 15, 15⟩] htab (fun _ h => absurd h List.not_mem_nil) (by decide) (by decide) (hts _ q458) (va_Nw.use rfl (hE.2.1 _ n492)) hce hv9 hcl ?_
      refine lv_astore_n (lv' := [(3, .ref q9), (0, .ref (ad 0)), (1, .int p1), (2, .ref oa)]) hx hb dL_giveBack_12 rfl hl (by decide) rfl (fun ls hl => ?_)
      refine lv_iconst (v := 1) hx hb dL_giveBack_13 (by decide) ?_
      cases hf
      exact endw_i hAe hQm hx hb hr hlocks rfl hP hD hS dL_giveBack_14 (Nat.le_of_ble_eq_true rfl) (Nat.le_of_ble_eq_true rfl)
    have hf := br_neg c8 hf
    by_cases c9 : n6 = 2
    · subst c9
      have hf := br_pos rfl hf
      refine cw_vi_err (rest := [.int 0, .ref oa]) (m_C_giveBack l hst ca ad bq nF nO nL nA nC nV nU nP nE bF bO bL bA bC bV bU bP bE cT cK cO cQ cD pT pK pR pW pU pI pC uO uF uE uN wK jM jN jZ jB (WO ca oa od oL oD ++ R) _ p1 (.error 2) nP_2 nE_3 cK_4 h5) ⟨hx, hb, hml, hown, hts⟩ (cwV 1 hts (gV q769 q770 q771 q41 q772) rfl rfl rfl (by decide +kernel) ⟨Nat.le_of_ble_eq_true rfl, Nat.le_of_ble_eq_true rfl⟩) (va_recv hK hP (ci := 7) (q0 := 0) rfl rfl) hE hP hD hS hA hZ rfl hl.1 rfl (lv_room (Nat.le_of_ble_eq_true rfl)) dL_giveBack_4 ⟨Nat.le_of_ble_eq_true rfl, Nat.le_of_ble_eq_true rfl⟩ (fun H locs q9 ce hP hD hS hce hv9 hcl => ?_)
      refine vx_catch (E := "java/lang/IllegalStateException") hown [⟨0, 9, 12, 20⟩] ⟨0, 9, 15, 15⟩ [] htab (List.forall_mem_cons.mpr ⟨Or.inr ⟨by decide, _, hts _ q458, hNC _ nc_2_3⟩, fun _ h => absurd h List.not_mem_nil⟩) (by decide) (by decide) (hts _ q353) (va_Nw.use rfl (hE.2.1 _ n440)) hce hv9 hcl ?_
      refine lv_astore_n (lv' := [(3, .ref q9), (0, .ref (ad 0)), (1, .int p1), (2, .ref oa)]) hx hb dL_giveBack_15 rfl hl (by decide) rfl (fun ls hl => ?_)
      refine lv_iconst (v := 2) hx hb dL_giveBack_16 (by decide) ?_
      cases hf
      exact endw_i hAe hQm hx hb hr hlocks rfl hP hD hS dL_giveBack_17 (Nat.le_of_ble_eq_true rfl) (Nat.le_of_ble_eq_true rfl)
    have hf := br_neg c9 hf
    cases hf
  refine cw_vi_ok (rest := [.int 0, .ref oa]) (m_C_giveBack l hst ca ad bq nF nO nL nA nC nV nU nP nE bF bO bL bA bC bV bU bP bE cT cK cO cQ cD pT pK pR pW pU pI pC uO uF uE uN wK jM jN jZ jB (WO ca oa od oL oD ++ R) _ p1 (.ok r7) nP_2 nE_3 cK_4 h5) ⟨hx, hb, hml, hown, hts⟩ (cwV 1 hts (gV q769 q770 q771 q41 q772) rfl rfl rfl (by decide +kernel) ⟨Nat.le_of_ble_eq_true rfl, Nat.le_of_ble_eq_true rfl⟩) (va_recv hK hP (ci := 7) (q0 := 0) rfl rfl) hE hP hD hS hA hZ rfl hl.1 rfl (lv_room (Nat.le_of_ble_eq_true rfl)) dL_giveBack_4 ⟨Nat.le_of_ble_eq_true rfl, Nat.le_of_ble_eq_true rfl⟩ (fun H locs hP hD hS => ?_)
  refine lv_i2l hx hb dL_giveBack_7 rfl ?_
  refine va_last (D := D) hx hb hK hP hD hS 40 5 rfl rfl (by unfold vp_in; decide) dL_giveBack_8 (fun H locs hP hD hS => ?_)
  have hP : va_P D vwCl (WC ca ad bq nF nO nL nA nC nV nU nP_2 nE_3 bF bO bL bA bC bV bU bP bE cT cK_4 cO cQ cD pT pK pR pW pU pI pC uO uF uE uN wK jM jN jZ jB ++ (WO ca oa od (vp_updL oL (0 : Int32).toNatClampNeg ((r7).toInt64)) oD ++ R)) H := hP
  have hD : va_D A (WC ca ad bq nF nO nL nA nC nV nU nP_2 nE_3 bF bO bL bA bC bV bU bP bE cT cK_4 cO cQ cD pT pK pR pW pU pI pC uO uF uE uN wK jM jN jZ jB ++ (WO ca oa od (vp_updL oL (0 : Int32).toNatClampNeg ((r7).toInt64)) oD ++ R)) := hD
  refine lv_goto (tgt := 18) hx hb dL_giveBack_9 (by decide) ?_
  refine lv_iconst (v := 0) hx hb dL_giveBack_18 (by decide) ?_
  cases hf
  exact endw_i hAe hQm hx hb hr hlocks rfl hP hD hS dL_giveBack_19 (Nat.le_of_ble_eq_true rfl) (Nat.le_of_ble_eq_true rfl)
def f_L_takeSnapshot (p1 : Int32) (nF : Int32) (nA : Nat → Int32) (nC : Nat → Int32) (nU : Nat → Int32) (cT : Int32) (pT : Int32) (pK : Int32) (pR : Nat → Int32) (pW : Nat → Int32) (pU : Nat → Int32) (pI : Nat → Int32) (pC : Nat → Nat → Int32) (oL : Nat → Int64) : Option (Int32 × (Nat → Int32) × Int32 × Int32 × (Nat → Int32) × (Nat → Int32) × (Nat → Int32) × (Nat → Int32) × (Nat → Nat → Int32) × (Nat → Int64)) :=
  (f_C_takeSnapshot p1 nF nA nC nU cT pT pK pR pW pU pI pC).bind fun (x1, nU_2, pT_3, pK_4, pR_5, pW_6, pU_7, pI_8, pC_9) =>
  match x1 with
  | .error n11 => if n11 = 1 then some (1, nU_2, pT_3, pK_4, pR_5, pW_6, pU_7, pI_8, pC_9, oL) else if n11 = 2 then some (2, nU_2, pT_3, pK_4, pR_5, pW_6, pU_7, pI_8, pC_9, oL) else none
  | .ok r12 =>
  some (0, nU_2, pT_3, pK_4, pR_5, pW_6, pU_7, pI_8, pC_9, (vp_updL oL (0 : Int32).toNatClampNeg ((r12).toInt64)))
set_option maxHeartbeats 4000000 in
set_option maxRecDepth 100000 in
theorem m_L_takeSnapshot (l : Launch) (hst : l.stackTraces = false) {D : va_G} (ca : Nat → ClassId) (ad : Nat → Nat) (bq : Nat) (oa od : Nat) (nF : Int32) (nO : Nat → Int32) (nL : Nat → Int32) (nA : Nat → Int32) (nC : Nat → Int32) (nV : Nat → Int32) (nU : Nat → Int32) (nP : Nat → Int32) (nE : Int32) (bF : Int32) (bO : Nat → Int32) (bL : Nat → Int32) (bA : Nat → Int32) (bC : Nat → Int32) (bV : Nat → Int32) (bU : Nat → Int32) (bP : Nat → Int32) (bE : Int32) (cT : Int32) (cK : Nat → Int32) (cO : Int32) (cQ : Nat → Int32) (cD : Int32) (pT : Int32) (pK : Int32) (pR : Nat → Int32) (pW : Nat → Int32) (pU : Nat → Int32) (pI : Nat → Int32) (pC : Nat → Nat → Int32) (uO : Int32) (uF : Nat → Int32) (uE : Nat → Int32) (uN : Nat → Int32) (wK : Nat → Int32) (jM : Int32) (jN : Int32) (jZ : Nat) (jB : Nat → Int32) (oL : Nat → Int64) (oD : Nat → UInt64) (R : va_W) (sz : Nat) (p1 : Int32) (ro : Int32) (onU : Nat → Int32) (opT : Int32) (opK : Int32) (opR : Nat → Int32) (opW : Nat → Int32) (opU : Nat → Int32) (opI : Nat → Int32) (opC : Nat → Nat → Int32) (ooL : Nat → Int64) (hf : f_L_takeSnapshot p1 nF nA nC nU cT pT pK pR pW pU pI pC oL = some (ro, onU, opT, opK, opR, opW, opU, opI, opC, ooL)) : vx_Met l yL_takeSnapshot (wmW yL_takeSnapshot cL_takeSnapshot 4 (some .int) [(0, 9, 12, 13), (0, 9, 15, 15)]) ({ frames := 8, cells := 3, slots := 18, locals := 134 } : Room) (PREL [.ref (ad 0), .int p1, .ref oa] D ca SL0 (WC ca ad bq nF nO nL nA nC nV nU nP nE bF bO bL bA bC bV bU bP bE cT cK cO cQ cD pT pK pR pW pU pI pC uO uF uE uN wK jM jN jZ jB ++ (WO ca oa od oL oD ++ R)) sz) (QI ro D (WC ca ad bq nF nO nL nA nC nV onU nP nE bF bO bL bA bC bV bU bP bE cT cK cO cQ cD opT opK opR opW opU opI opC uO uF uE uN wK jM jN jZ jB ++ (WO ca oa od ooL oD ++ R)) (WC ca ad bq nF nO nL nA nC nV nU nP nE bF bO bL bA bC bV bU bP bE cT cK cO cQ cD pT pK pR pW pU pI pC uO uF uE uN wK jM jN jZ jB ++ (WO ca oa od oL oD ++ R)) sz) (fun _ _ _ => False) 3 18 (va_A (WC ca ad bq nF nO nL nA nC nV nU nP nE bF bO bL bA bC bV bU bP bE cT cK cO cQ cD pT pK pR pW pU pI pC uO uF uE uN wK jM jN jZ jB ++ (WO ca oa od oL oD ++ R)) sz) := by
  refine vx_ofWH (cc := cL_takeSnapshot) (maxL := 4) (ret := (some .int)) (hh := [(0, 9, 12, 13), (0, 9, 15, 15)]) (by decide) rfl ?_
  intro p e s m args below meth c s₁ B hml hv
  obtain ⟨rfl, rfl, hP, hE, hD0, hZ, hNC⟩ := hv
  have hx := B.exec
  have hb := B.bytes
  have hr := B.returns
  have hts0 := atoms_spec (ws := wmW yL_takeSnapshot cL_takeSnapshot 4 (some .int) [(0, 9, 12, 13), (0, 9, 15, 15)]) B.pre
  have hts := wmW_ww hts0
  have htab := vx_table (x := yL_takeSnapshot) B (hts0 _ List.mem_cons_self)
  have hown : s.vm.findClass RL = some m.cls := findClass_of_methodNamed B.named
  have hlocks := B.notSynchronized
  have hK := hE.1
  have hD := hD0.self (sz := s.heap.size)
  generalize hAe : va_A (WC ca ad bq nF nO nL nA nC nV nU nP nE bF bO bL bA bC bV bU bP bE cT cK cO cQ cD pT pK pR pW pU pI pC uO uF uE uN wK jM jN jZ jB ++ (WO ca oa od oL oD ++ R)) s.heap.size = A at hD hZ ⊢
  have hA : ∀ q : Nat, s.heap.size ≤ q → A q := fun q h => by rw [← hAe]; exact Or.inr h
  have hS : va_S A s.heap s.heap [] := va_S.rf
  have hl := lv_entry ([.ref (ad 0), .int p1, .ref oa]) (n := 4) (Nat.le_of_ble_eq_true rfl)
  rw [lg_entry_eq]
  generalize (lg_sl ([.ref (ad 0), .int p1, .ref oa]) ++ List.replicate (4 - (lg_sl ([.ref (ad 0), .int p1, .ref oa])).length) Slot.unset).toArray = ls at hl ⊢
  have hl : lv_has ls 4 [(0, .ref (ad 0)), (1, .int p1), (2, .ref oa)] := hl
  change W p l e ({ frames := 8, cells := 3, slots := 18, locals := 134 } : Room) s m _ below meth c s.heap [] 0 0 _ _
  generalize hQm : vx_MQ below (QI ro D (WC ca ad bq nF nO nL nA nC nV onU nP nE bF bO bL bA bC bV bU bP bE cT cK cO cQ cD opT opK opR opW opU opI opC uO uF uE uN wK jM jN jZ jB ++ (WO ca oa od ooL oD ++ R)) (WC ca ad bq nF nO nL nA nC nV nU nP nE bF bO bL bA bC bV bU bP bE cT cK cO cQ cD pT pK pR pW pU pI pC uO uF uE uN wK jM jN jZ jB ++ (WO ca oa od oL oD ++ R)) s.heap.size) (fun _ _ _ => False) _ s 3 18 A = Qm
  have hP : va_P D vwCl (WC ca ad bq nF nO nL nA nC nV nU nP nE bF bO bL bA bC bV bU bP bE cT cK cO cQ cD pT pK pR pW pU pI pC uO uF uE uN wK jM jN jZ jB ++ (WO ca oa od oL oD ++ R)) s.heap := hP
  generalize hae : ([.ref (ad 0), .int p1, .ref oa] : List Value).toArray = args at hts hQm ⊢
  refine lv_aload_n hx hb dL_takeSnapshot_0 rfl (lv_at hl 2 rfl) ?_
  refine lv_iconst (v := 0) hx hb dL_takeSnapshot_1 (by decide) ?_
  refine lv_aload_n hx hb dL_takeSnapshot_2 rfl (lv_at hl 0 rfl) ?_
  refine lv_iload_n hx hb dL_takeSnapshot_3 rfl (lv_at hl 1 rfl) ?_
  obtain ⟨⟨x1, nU_2, pT_3, pK_4, pR_5, pW_6, pU_7, pI_8, pC_9⟩, h10, hf⟩ := bnd hf
  rcases x1 with n11 | r12
  · have hf : (if n11 = 1 then some (1, nU_2, pT_3, pK_4, pR_5, pW_6, pU_7, pI_8, pC_9, oL) else if n11 = 2 then some (2, nU_2, pT_3, pK_4, pR_5, pW_6, pU_7, pI_8, pC_9, oL) else none) = some (ro, onU, opT, opK, opR, opW, opU, opI, opC, ooL) := hf
    by_cases c13 : n11 = 1
    · subst c13
      have hf := br_pos rfl hf
      refine cw_vi_err (rest := [.int 0, .ref oa]) (m_C_takeSnapshot l hst ca ad bq nF nO nL nA nC nV nU nP nE bF bO bL bA bC bV bU bP bE cT cK cO cQ cD pT pK pR pW pU pI pC uO uF uE uN wK jM jN jZ jB (WO ca oa od oL oD ++ R) _ p1 (.error 1) nU_2 pT_3 pK_4 pR_5 pW_6 pU_7 pI_8 pC_9 h10) ⟨hx, hb, hml, hown, hts⟩ (cwV 1 hts (gV q777 q778 q779 q41 q780) rfl rfl rfl (by decide +kernel) ⟨Nat.le_of_ble_eq_true rfl, Nat.le_of_ble_eq_true rfl⟩) (va_recv hK hP (ci := 7) (q0 := 0) rfl rfl) hE hP hD hS hA hZ rfl hl.1 rfl (lv_room (Nat.le_of_ble_eq_true rfl)) dL_takeSnapshot_4 ⟨Nat.le_of_ble_eq_true rfl, Nat.le_of_ble_eq_true rfl⟩ (fun H locs q9 ce hP hD hS hce hv9 hcl => ?_)
      refine vx_catch (E := "java/lang/IllegalArgumentException") hown [] ⟨0, 9, 12, 13⟩ [⟨0, 9, 15, 15⟩] htab (fun _ h => absurd h List.not_mem_nil) (by decide) (by decide) (hts _ q352) (va_Nw.use rfl (hE.2.1 _ n364)) hce hv9 hcl ?_
      refine lv_astore_n (lv' := [(3, .ref q9), (0, .ref (ad 0)), (1, .int p1), (2, .ref oa)]) hx hb dL_takeSnapshot_12 rfl hl (by decide) rfl (fun ls hl => ?_)
      refine lv_iconst (v := 1) hx hb dL_takeSnapshot_13 (by decide) ?_
      cases hf
      exact endw_i hAe hQm hx hb hr hlocks rfl hP hD hS dL_takeSnapshot_14 (Nat.le_of_ble_eq_true rfl) (Nat.le_of_ble_eq_true rfl)
    have hf := br_neg c13 hf
    by_cases c14 : n11 = 2
    · subst c14
      have hf := br_pos rfl hf
      refine cw_vi_err (rest := [.int 0, .ref oa]) (m_C_takeSnapshot l hst ca ad bq nF nO nL nA nC nV nU nP nE bF bO bL bA bC bV bU bP bE cT cK cO cQ cD pT pK pR pW pU pI pC uO uF uE uN wK jM jN jZ jB (WO ca oa od oL oD ++ R) _ p1 (.error 2) nU_2 pT_3 pK_4 pR_5 pW_6 pU_7 pI_8 pC_9 h10) ⟨hx, hb, hml, hown, hts⟩ (cwV 1 hts (gV q777 q778 q779 q41 q780) rfl rfl rfl (by decide +kernel) ⟨Nat.le_of_ble_eq_true rfl, Nat.le_of_ble_eq_true rfl⟩) (va_recv hK hP (ci := 7) (q0 := 0) rfl rfl) hE hP hD hS hA hZ rfl hl.1 rfl (lv_room (Nat.le_of_ble_eq_true rfl)) dL_takeSnapshot_4 ⟨Nat.le_of_ble_eq_true rfl, Nat.le_of_ble_eq_true rfl⟩ (fun H locs q9 ce hP hD hS hce hv9 hcl => ?_)
      refine vx_catch (E := "java/lang/IllegalStateException") hown [⟨0, 9, 12, 13⟩] ⟨0, 9, 15, 15⟩ [] htab (List.forall_mem_cons.mpr ⟨Or.inr ⟨by decide, _, hts _ q352, hNC _ nc_2_1⟩, fun _ h => absurd h List.not_mem_nil⟩) (by decide) (by decide) (hts _ q353) (va_Nw.use rfl (hE.2.1 _ n440)) hce hv9 hcl ?_
      refine lv_astore_n (lv' := [(3, .ref q9), (0, .ref (ad 0)), (1, .int p1), (2, .ref oa)]) hx hb dL_takeSnapshot_15 rfl hl (by decide) rfl (fun ls hl => ?_)
      refine lv_iconst (v := 2) hx hb dL_takeSnapshot_16 (by decide) ?_
      cases hf
      exact endw_i hAe hQm hx hb hr hlocks rfl hP hD hS dL_takeSnapshot_17 (Nat.le_of_ble_eq_true rfl) (Nat.le_of_ble_eq_true rfl)
    have hf := br_neg c14 hf
    cases hf
  refine cw_vi_ok (rest := [.int 0, .ref oa]) (m_C_takeSnapshot l hst ca ad bq nF nO nL nA nC nV nU nP nE bF bO bL bA bC bV bU bP bE cT cK cO cQ cD pT pK pR pW pU pI pC uO uF uE uN wK jM jN jZ jB (WO ca oa od oL oD ++ R) _ p1 (.ok r12) nU_2 pT_3 pK_4 pR_5 pW_6 pU_7 pI_8 pC_9 h10) ⟨hx, hb, hml, hown, hts⟩ (cwV 1 hts (gV q777 q778 q779 q41 q780) rfl rfl rfl (by decide +kernel) ⟨Nat.le_of_ble_eq_true rfl, Nat.le_of_ble_eq_true rfl⟩) (va_recv hK hP (ci := 7) (q0 := 0) rfl rfl) hE hP hD hS hA hZ rfl hl.1 rfl (lv_room (Nat.le_of_ble_eq_true rfl)) dL_takeSnapshot_4 ⟨Nat.le_of_ble_eq_true rfl, Nat.le_of_ble_eq_true rfl⟩ (fun H locs hP hD hS => ?_)
  refine lv_i2l hx hb dL_takeSnapshot_7 rfl ?_
  refine va_last (D := D) hx hb hK hP hD hS 40 5 rfl rfl (by unfold vp_in; decide) dL_takeSnapshot_8 (fun H locs hP hD hS => ?_)
  have hP : va_P D vwCl (WC ca ad bq nF nO nL nA nC nV nU_2 nP nE bF bO bL bA bC bV bU bP bE cT cK cO cQ cD pT_3 pK_4 pR_5 pW_6 pU_7 pI_8 pC_9 uO uF uE uN wK jM jN jZ jB ++ (WO ca oa od (vp_updL oL (0 : Int32).toNatClampNeg ((r12).toInt64)) oD ++ R)) H := hP
  have hD : va_D A (WC ca ad bq nF nO nL nA nC nV nU_2 nP nE bF bO bL bA bC bV bU bP bE cT cK cO cQ cD pT_3 pK_4 pR_5 pW_6 pU_7 pI_8 pC_9 uO uF uE uN wK jM jN jZ jB ++ (WO ca oa od (vp_updL oL (0 : Int32).toNatClampNeg ((r12).toInt64)) oD ++ R)) := hD
  refine lv_goto (tgt := 18) hx hb dL_takeSnapshot_9 (by decide) ?_
  refine lv_iconst (v := 0) hx hb dL_takeSnapshot_18 (by decide) ?_
  cases hf
  exact endw_i hAe hQm hx hb hr hlocks rfl hP hD hS dL_takeSnapshot_19 (Nat.le_of_ble_eq_true rfl) (Nat.le_of_ble_eq_true rfl)
def f_L_isKept (p1 : Int32) (pT : Int32) (pW : Nat → Int32) (oL : Nat → Int64) : Option (Int32 × (Nat → Int64)) :=
  (f_C_isKept p1 pT pW).bind fun x1 =>
  match x1 with
  | .error n3 => if n3 = 3 then some (1, oL) else none
  | .ok r4 =>
  if r4 = 0 then
    some (0, (vp_updL oL (0 : Int32).toNatClampNeg 0))
  else
    some (0, (vp_updL oL (0 : Int32).toNatClampNeg 1))
set_option maxHeartbeats 4000000 in
set_option maxRecDepth 100000 in
theorem m_L_isKept (l : Launch) (hst : l.stackTraces = false) {D : va_G} (ca : Nat → ClassId) (ad : Nat → Nat) (bq : Nat) (oa od : Nat) (nF : Int32) (nO : Nat → Int32) (nL : Nat → Int32) (nA : Nat → Int32) (nC : Nat → Int32) (nV : Nat → Int32) (nU : Nat → Int32) (nP : Nat → Int32) (nE : Int32) (bF : Int32) (bO : Nat → Int32) (bL : Nat → Int32) (bA : Nat → Int32) (bC : Nat → Int32) (bV : Nat → Int32) (bU : Nat → Int32) (bP : Nat → Int32) (bE : Int32) (cT : Int32) (cK : Nat → Int32) (cO : Int32) (cQ : Nat → Int32) (cD : Int32) (pT : Int32) (pK : Int32) (pR : Nat → Int32) (pW : Nat → Int32) (pU : Nat → Int32) (pI : Nat → Int32) (pC : Nat → Nat → Int32) (uO : Int32) (uF : Nat → Int32) (uE : Nat → Int32) (uN : Nat → Int32) (wK : Nat → Int32) (jM : Int32) (jN : Int32) (jZ : Nat) (jB : Nat → Int32) (oL : Nat → Int64) (oD : Nat → UInt64) (R : va_W) (sz : Nat) (p1 : Int32) (ro : Int32) (ooL : Nat → Int64) (hf : f_L_isKept p1 pT pW oL = some (ro, ooL)) : vx_Met l yL_isKept (wmW yL_isKept cL_isKept 4 (some .int) [(0, 16, 19, 20)]) ({ frames := 8, cells := 1, slots := 6, locals := 132 } : Room) (PREL [.ref (ad 0), .int p1, .ref oa] D ca SL0 (WC ca ad bq nF nO nL nA nC nV nU nP nE bF bO bL bA bC bV bU bP bE cT cK cO cQ cD pT pK pR pW pU pI pC uO uF uE uN wK jM jN jZ jB ++ (WO ca oa od oL oD ++ R)) sz) (QI ro D (WC ca ad bq nF nO nL nA nC nV nU nP nE bF bO bL bA bC bV bU bP bE cT cK cO cQ cD pT pK pR pW pU pI pC uO uF uE uN wK jM jN jZ jB ++ (WO ca oa od ooL oD ++ R)) (WC ca ad bq nF nO nL nA nC nV nU nP nE bF bO bL bA bC bV bU bP bE cT cK cO cQ cD pT pK pR pW pU pI pC uO uF uE uN wK jM jN jZ jB ++ (WO ca oa od oL oD ++ R)) sz) (fun _ _ _ => False) 1 6 (va_A (WC ca ad bq nF nO nL nA nC nV nU nP nE bF bO bL bA bC bV bU bP bE cT cK cO cQ cD pT pK pR pW pU pI pC uO uF uE uN wK jM jN jZ jB ++ (WO ca oa od oL oD ++ R)) sz) := by
  refine vx_ofWH (cc := cL_isKept) (maxL := 4) (ret := (some .int)) (hh := [(0, 16, 19, 20)]) (by decide) rfl ?_
  intro p e s m args below meth c s₁ B hml hv
  obtain ⟨rfl, rfl, hP, hE, hD0, hZ, hNC⟩ := hv
  have hx := B.exec
  have hb := B.bytes
  have hr := B.returns
  have hts0 := atoms_spec (ws := wmW yL_isKept cL_isKept 4 (some .int) [(0, 16, 19, 20)]) B.pre
  have hts := wmW_ww hts0
  have htab := vx_table (x := yL_isKept) B (hts0 _ List.mem_cons_self)
  have hown : s.vm.findClass RL = some m.cls := findClass_of_methodNamed B.named
  have hlocks := B.notSynchronized
  have hK := hE.1
  have hD := hD0.self (sz := s.heap.size)
  generalize hAe : va_A (WC ca ad bq nF nO nL nA nC nV nU nP nE bF bO bL bA bC bV bU bP bE cT cK cO cQ cD pT pK pR pW pU pI pC uO uF uE uN wK jM jN jZ jB ++ (WO ca oa od oL oD ++ R)) s.heap.size = A at hD hZ ⊢
  have hA : ∀ q : Nat, s.heap.size ≤ q → A q := fun q h => by rw [← hAe]; exact Or.inr h
  have hS : va_S A s.heap s.heap [] := va_S.rf
  have hl := lv_entry ([.ref (ad 0), .int p1, .ref oa]) (n := 4) (Nat.le_of_ble_eq_true rfl)
  rw [lg_entry_eq]
  generalize (lg_sl ([.ref (ad 0), .int p1, .ref oa]) ++ List.replicate (4 - (lg_sl ([.ref (ad 0), .int p1, .ref oa])).length) Slot.unset).toArray = ls at hl ⊢
  have hl : lv_has ls 4 [(0, .ref (ad 0)), (1, .int p1), (2, .ref oa)] := hl
  change W p l e ({ frames := 8, cells := 1, slots := 6, locals := 132 } : Room) s m _ below meth c s.heap [] 0 0 _ _
  generalize hQm : vx_MQ below (QI ro D (WC ca ad bq nF nO nL nA nC nV nU nP nE bF bO bL bA bC bV bU bP bE cT cK cO cQ cD pT pK pR pW pU pI pC uO uF uE uN wK jM jN jZ jB ++ (WO ca oa od ooL oD ++ R)) (WC ca ad bq nF nO nL nA nC nV nU nP nE bF bO bL bA bC bV bU bP bE cT cK cO cQ cD pT pK pR pW pU pI pC uO uF uE uN wK jM jN jZ jB ++ (WO ca oa od oL oD ++ R)) s.heap.size) (fun _ _ _ => False) _ s 1 6 A = Qm
  have hP : va_P D vwCl (WC ca ad bq nF nO nL nA nC nV nU nP nE bF bO bL bA bC bV bU bP bE cT cK cO cQ cD pT pK pR pW pU pI pC uO uF uE uN wK jM jN jZ jB ++ (WO ca oa od oL oD ++ R)) s.heap := hP
  generalize hae : ([.ref (ad 0), .int p1, .ref oa] : List Value).toArray = args at hts hQm ⊢
  refine lv_aload_n hx hb dL_isKept_0 rfl (lv_at hl 2 rfl) ?_
  refine lv_iconst (v := 0) hx hb dL_isKept_1 (by decide) ?_
  refine lv_aload_n hx hb dL_isKept_2 rfl (lv_at hl 0 rfl) ?_
  refine lv_iload_n hx hb dL_isKept_3 rfl (lv_at hl 1 rfl) ?_
  obtain ⟨x1, h2, hf⟩ := bnd hf
  rcases x1 with n3 | r4
  · have hf : (if n3 = 3 then some (1, oL) else none) = some (ro, ooL) := hf
    by_cases c5 : n3 = 3
    · subst c5
      have hf := br_pos rfl hf
      refine cw_vi_err (rest := [.int 0, .ref oa]) (m_C_isKept l hst ca ad bq nF nO nL nA nC nV nU nP nE bF bO bL bA bC bV bU bP bE cT cK cO cQ cD pT pK pR pW pU pI pC uO uF uE uN wK jM jN jZ jB (WO ca oa od oL oD ++ R) _ p1 (.error 3) h2) ⟨hx, hb, hml, hown, hts⟩ (cwV 1 hts (gV q809 q810 q811 q41 q812) rfl rfl rfl (by decide +kernel) ⟨Nat.le_of_ble_eq_true rfl, Nat.le_of_ble_eq_true rfl⟩) (va_recv hK hP (ci := 7) (q0 := 0) rfl rfl) hE hP hD hS hA hZ rfl hl.1 rfl (lv_room (Nat.le_of_ble_eq_true rfl)) dL_isKept_4 ⟨Nat.le_of_ble_eq_true rfl, Nat.le_of_ble_eq_true rfl⟩ (fun H locs q9 ce hP hD hS hce hv9 hcl => ?_)
      refine vx_catch (E := "java/lang/IndexOutOfBoundsException") hown [] ⟨0, 16, 19, 20⟩ [] htab (fun _ h => absurd h List.not_mem_nil) (by decide) (by decide) (hts _ q458) (va_Nw.use rfl (hE.2.1 _ n492)) hce hv9 hcl ?_
      refine lv_astore_n (lv' := [(3, .ref q9), (0, .ref (ad 0)), (1, .int p1), (2, .ref oa)]) hx hb dL_isKept_19 rfl hl (by decide) rfl (fun ls hl => ?_)
      refine lv_iconst (v := 1) hx hb dL_isKept_20 (by decide) ?_
      cases hf
      exact endw_i hAe hQm hx hb hr hlocks rfl hP hD hS dL_isKept_21 (Nat.le_of_ble_eq_true rfl) (Nat.le_of_ble_eq_true rfl)
    have hf := br_neg c5 hf
    cases hf
  refine cw_vi_ok (rest := [.int 0, .ref oa]) (m_C_isKept l hst ca ad bq nF nO nL nA nC nV nU nP nE bF bO bL bA bC bV bU bP bE cT cK cO cQ cD pT pK pR pW pU pI pC uO uF uE uN wK jM jN jZ jB (WO ca oa od oL oD ++ R) _ p1 (.ok r4) h2) ⟨hx, hb, hml, hown, hts⟩ (cwV 1 hts (gV q809 q810 q811 q41 q812) rfl rfl rfl (by decide +kernel) ⟨Nat.le_of_ble_eq_true rfl, Nat.le_of_ble_eq_true rfl⟩) (va_recv hK hP (ci := 7) (q0 := 0) rfl rfl) hE hP hD hS hA hZ rfl hl.1 rfl (lv_room (Nat.le_of_ble_eq_true rfl)) dL_isKept_4 ⟨Nat.le_of_ble_eq_true rfl, Nat.le_of_ble_eq_true rfl⟩ (fun H locs hP hD hS => ?_)
  refine lv_if_eq (tgt := 14) hx hb dL_isKept_7 (by decide) (fun c6 => ?_) (fun c6 => ?_)
  · have hf := br_pos c6 hf
    refine lv_lconst (v := 0) hx hb dL_isKept_14 (by decide) ?_
    refine va_last (D := D) hx hb hK hP hD hS 40 5 rfl rfl (by unfold vp_in; decide) dL_isKept_15 (fun H locs hP hD hS => ?_)
    have hP : va_P D vwCl (WC ca ad bq nF nO nL nA nC nV nU nP nE bF bO bL bA bC bV bU bP bE cT cK cO cQ cD pT pK pR pW pU pI pC uO uF uE uN wK jM jN jZ jB ++ (WO ca oa od (vp_updL oL (0 : Int32).toNatClampNeg 0) oD ++ R)) H := hP
    have hD : va_D A (WC ca ad bq nF nO nL nA nC nV nU nP nE bF bO bL bA bC bV bU bP bE cT cK cO cQ cD pT pK pR pW pU pI pC uO uF uE uN wK jM jN jZ jB ++ (WO ca oa od (vp_updL oL (0 : Int32).toNatClampNeg 0) oD ++ R)) := hD
    refine lv_goto (tgt := 22) hx hb dL_isKept_16 (by decide) ?_
    refine lv_iconst (v := 0) hx hb dL_isKept_22 (by decide) ?_
    cases hf
    exact endw_i hAe hQm hx hb hr hlocks rfl hP hD hS dL_isKept_23 (Nat.le_of_ble_eq_true rfl) (Nat.le_of_ble_eq_true rfl)
  · have hf := br_neg c6 hf
    refine lv_lconst (v := 1) hx hb dL_isKept_10 (by decide) ?_
    refine lv_goto (tgt := 15) hx hb dL_isKept_11 (by decide) ?_
    refine va_last (D := D) hx hb hK hP hD hS 40 5 rfl rfl (by unfold vp_in; decide) dL_isKept_15 (fun H locs hP hD hS => ?_)
    have hP : va_P D vwCl (WC ca ad bq nF nO nL nA nC nV nU nP nE bF bO bL bA bC bV bU bP bE cT cK cO cQ cD pT pK pR pW pU pI pC uO uF uE uN wK jM jN jZ jB ++ (WO ca oa od (vp_updL oL (0 : Int32).toNatClampNeg 1) oD ++ R)) H := hP
    have hD : va_D A (WC ca ad bq nF nO nL nA nC nV nU nP nE bF bO bL bA bC bV bU bP bE cT cK cO cQ cD pT pK pR pW pU pI pC uO uF uE uN wK jM jN jZ jB ++ (WO ca oa od (vp_updL oL (0 : Int32).toNatClampNeg 1) oD ++ R)) := hD
    refine lv_goto (tgt := 22) hx hb dL_isKept_16 (by decide) ?_
    refine lv_iconst (v := 0) hx hb dL_isKept_22 (by decide) ?_
    cases hf
    exact endw_i hAe hQm hx hb hr hlocks rfl hP hD hS dL_isKept_23 (Nat.le_of_ble_eq_true rfl) (Nat.le_of_ble_eq_true rfl)
def f_L_readFrom (p1 : Int32) (p2 : Int32) (p3 : Int32) (nF : Int32) (nV : Nat → Int32) (pT : Int32) (pW : Nat → Int32) (pI : Nat → Int32) (pC : Nat → Nat → Int32) (oL : Nat → Int64) : Option (Int32 × (Nat → Int64)) :=
  (f_C_readFrom p1 p2 p3 nF nV pT pW pI pC).bind fun x1 =>
  match x1 with
  | .error n3 => if n3 = 3 then some (1, oL) else if n3 = 5 then some (2, oL) else none
  | .ok r4 =>
  some (0, (vp_updL oL (0 : Int32).toNatClampNeg ((r4).toInt64)))
set_option maxHeartbeats 4000000 in
set_option maxRecDepth 100000 in
theorem m_L_readFrom (l : Launch) (hst : l.stackTraces = false) {D : va_G} (ca : Nat → ClassId) (ad : Nat → Nat) (bq : Nat) (oa od : Nat) (nF : Int32) (nO : Nat → Int32) (nL : Nat → Int32) (nA : Nat → Int32) (nC : Nat → Int32) (nV : Nat → Int32) (nU : Nat → Int32) (nP : Nat → Int32) (nE : Int32) (bF : Int32) (bO : Nat → Int32) (bL : Nat → Int32) (bA : Nat → Int32) (bC : Nat → Int32) (bV : Nat → Int32) (bU : Nat → Int32) (bP : Nat → Int32) (bE : Int32) (cT : Int32) (cK : Nat → Int32) (cO : Int32) (cQ : Nat → Int32) (cD : Int32) (pT : Int32) (pK : Int32) (pR : Nat → Int32) (pW : Nat → Int32) (pU : Nat → Int32) (pI : Nat → Int32) (pC : Nat → Nat → Int32) (uO : Int32) (uF : Nat → Int32) (uE : Nat → Int32) (uN : Nat → Int32) (wK : Nat → Int32) (jM : Int32) (jN : Int32) (jZ : Nat) (jB : Nat → Int32) (oL : Nat → Int64) (oD : Nat → UInt64) (R : va_W) (sz : Nat) (p1 : Int32) (p2 : Int32) (p3 : Int32) (ro : Int32) (ooL : Nat → Int64) (hf : f_L_readFrom p1 p2 p3 nF nV pT pW pI pC oL = some (ro, ooL)) : vx_Met l yL_readFrom (wmW yL_readFrom cL_readFrom 6 (some .int) [(0, 12, 15, 20), (0, 12, 19, 48)]) ({ frames := 8, cells := 5, slots := 30, locals := 136 } : Room) (PREL [.ref (ad 0), .int p1, .int p2, .int p3, .ref oa] D ca SL0 (WC ca ad bq nF nO nL nA nC nV nU nP nE bF bO bL bA bC bV bU bP bE cT cK cO cQ cD pT pK pR pW pU pI pC uO uF uE uN wK jM jN jZ jB ++ (WO ca oa od oL oD ++ R)) sz) (QI ro D (WC ca ad bq nF nO nL nA nC nV nU nP nE bF bO bL bA bC bV bU bP bE cT cK cO cQ cD pT pK pR pW pU pI pC uO uF uE uN wK jM jN jZ jB ++ (WO ca oa od ooL oD ++ R)) (WC ca ad bq nF nO nL nA nC nV nU nP nE bF bO bL bA bC bV bU bP bE cT cK cO cQ cD pT pK pR pW pU pI pC uO uF uE uN wK jM jN jZ jB ++ (WO ca oa od oL oD ++ R)) sz) (fun _ _ _ => False) 5 30 (va_A (WC ca ad bq nF nO nL nA nC nV nU nP nE bF bO bL bA bC bV bU bP bE cT cK cO cQ cD pT pK pR pW pU pI pC uO uF uE uN wK jM jN jZ jB ++ (WO ca oa od oL oD ++ R)) sz) := by
  refine vx_ofWH (cc := cL_readFrom) (maxL := 6) (ret := (some .int)) (hh := [(0, 12, 15, 20), (0, 12, 19, 48)]) (by decide) rfl ?_
  intro p e s m args below meth c s₁ B hml hv
  obtain ⟨rfl, rfl, hP, hE, hD0, hZ, hNC⟩ := hv
  have hx := B.exec
  have hb := B.bytes
  have hr := B.returns
  have hts0 := atoms_spec (ws := wmW yL_readFrom cL_readFrom 6 (some .int) [(0, 12, 15, 20), (0, 12, 19, 48)]) B.pre
  have hts := wmW_ww hts0
  have htab := vx_table (x := yL_readFrom) B (hts0 _ List.mem_cons_self)
  have hown : s.vm.findClass RL = some m.cls := findClass_of_methodNamed B.named
  have hlocks := B.notSynchronized
  have hK := hE.1
  have hD := hD0.self (sz := s.heap.size)
  generalize hAe : va_A (WC ca ad bq nF nO nL nA nC nV nU nP nE bF bO bL bA bC bV bU bP bE cT cK cO cQ cD pT pK pR pW pU pI pC uO uF uE uN wK jM jN jZ jB ++ (WO ca oa od oL oD ++ R)) s.heap.size = A at hD hZ ⊢
  have hA : ∀ q : Nat, s.heap.size ≤ q → A q := fun q h => by rw [← hAe]; exact Or.inr h
  have hS : va_S A s.heap s.heap [] := va_S.rf
  have hl := lv_entry ([.ref (ad 0), .int p1, .int p2, .int p3, .ref oa]) (n := 6) (Nat.le_of_ble_eq_true rfl)
  rw [lg_entry_eq]
  generalize (lg_sl ([.ref (ad 0), .int p1, .int p2, .int p3, .ref oa]) ++ List.replicate (6 - (lg_sl ([.ref (ad 0), .int p1, .int p2, .int p3, .ref oa])).length) Slot.unset).toArray = ls at hl ⊢
  have hl : lv_has ls 6 [(0, .ref (ad 0)), (1, .int p1), (2, .int p2), (3, .int p3), (4, .ref oa)] := hl
  change W p l e ({ frames := 8, cells := 5, slots := 30, locals := 136 } : Room) s m _ below meth c s.heap [] 0 0 _ _
  generalize hQm : vx_MQ below (QI ro D (WC ca ad bq nF nO nL nA nC nV nU nP nE bF bO bL bA bC bV bU bP bE cT cK cO cQ cD pT pK pR pW pU pI pC uO uF uE uN wK jM jN jZ jB ++ (WO ca oa od ooL oD ++ R)) (WC ca ad bq nF nO nL nA nC nV nU nP nE bF bO bL bA bC bV bU bP bE cT cK cO cQ cD pT pK pR pW pU pI pC uO uF uE uN wK jM jN jZ jB ++ (WO ca oa od oL oD ++ R)) s.heap.size) (fun _ _ _ => False) _ s 5 30 A = Qm
  have hP : va_P D vwCl (WC ca ad bq nF nO nL nA nC nV nU nP nE bF bO bL bA bC bV bU bP bE cT cK cO cQ cD pT pK pR pW pU pI pC uO uF uE uN wK jM jN jZ jB ++ (WO ca oa od oL oD ++ R)) s.heap := hP
  generalize hae : ([.ref (ad 0), .int p1, .int p2, .int p3, .ref oa] : List Value).toArray = args at hts hQm ⊢
  refine lv_aload hx hb dL_readFrom_0 (lv_at hl 4 rfl) ?_
  refine lv_iconst (v := 0) hx hb dL_readFrom_2 (by decide) ?_
  refine lv_aload_n hx hb dL_readFrom_3 rfl (lv_at hl 0 rfl) ?_
  refine lv_iload_n hx hb dL_readFrom_4 rfl (lv_at hl 1 rfl) ?_
  refine lv_iload_n hx hb dL_readFrom_5 rfl (lv_at hl 2 rfl) ?_
  refine lv_iload_n hx hb dL_readFrom_6 rfl (lv_at hl 3 rfl) ?_
  obtain ⟨x1, h2, hf⟩ := bnd hf
  rcases x1 with n3 | r4
  · have hf : (if n3 = 3 then some (1, oL) else if n3 = 5 then some (2, oL) else none) = some (ro, ooL) := hf
    by_cases c5 : n3 = 3
    · subst c5
      have hf := br_pos rfl hf
      refine cw_vi_err (rest := [.int 0, .ref oa]) (m_C_readFrom l hst ca ad bq nF nO nL nA nC nV nU nP nE bF bO bL bA bC bV bU bP bE cT cK cO cQ cD pT pK pR pW pU pI pC uO uF uE uN wK jM jN jZ jB (WO ca oa od oL oD ++ R) _ p1 p2 p3 (.error 3) h2) ⟨hx, hb, hml, hown, hts⟩ (cwV 3 hts (gV q830 q831 q832 q41 q833) rfl rfl rfl (by decide +kernel) ⟨Nat.le_of_ble_eq_true rfl, Nat.le_of_ble_eq_true rfl⟩) (va_recv hK hP (ci := 7) (q0 := 0) rfl rfl) hE hP hD hS hA hZ rfl hl.1 rfl (lv_room (Nat.le_of_ble_eq_true rfl)) dL_readFrom_7 ⟨Nat.le_of_ble_eq_true rfl, Nat.le_of_ble_eq_true rfl⟩ (fun H locs q9 ce hP hD hS hce hv9 hcl => ?_)
      refine vx_catch (E := "java/lang/IndexOutOfBoundsException") hown [] ⟨0, 12, 15, 20⟩ [⟨0, 12, 19, 48⟩] htab (fun _ h => absurd h List.not_mem_nil) (by decide) (by decide) (hts _ q458) (va_Nw.use rfl (hE.2.1 _ n492)) hce hv9 hcl ?_
      refine lv_astore (lv' := [(5, .ref q9), (0, .ref (ad 0)), (1, .int p1), (2, .int p2), (3, .int p3), (4, .ref oa)]) hx hb dL_readFrom_15 hl (by decide) rfl (fun ls hl => ?_)
      refine lv_iconst (v := 1) hx hb dL_readFrom_17 (by decide) ?_
      cases hf
      exact endw_i hAe hQm hx hb hr hlocks rfl hP hD hS dL_readFrom_18 (Nat.le_of_ble_eq_true rfl) (Nat.le_of_ble_eq_true rfl)
    have hf := br_neg c5 hf
    by_cases c6 : n3 = 5
    · subst c6
      have hf := br_pos rfl hf
      refine cw_vi_err (rest := [.int 0, .ref oa]) (m_C_readFrom l hst ca ad bq nF nO nL nA nC nV nU nP nE bF bO bL bA bC bV bU bP bE cT cK cO cQ cD pT pK pR pW pU pI pC uO uF uE uN wK jM jN jZ jB (WO ca oa od oL oD ++ R) _ p1 p2 p3 (.error 5) h2) ⟨hx, hb, hml, hown, hts⟩ (cwV 3 hts (gV q830 q831 q832 q41 q833) rfl rfl rfl (by decide +kernel) ⟨Nat.le_of_ble_eq_true rfl, Nat.le_of_ble_eq_true rfl⟩) (va_recv hK hP (ci := 7) (q0 := 0) rfl rfl) hE hP hD hS hA hZ rfl hl.1 rfl (lv_room (Nat.le_of_ble_eq_true rfl)) dL_readFrom_7 ⟨Nat.le_of_ble_eq_true rfl, Nat.le_of_ble_eq_true rfl⟩ (fun H locs q9 ce hP hD hS hce hv9 hcl => ?_)
      refine vx_catch (E := "java/util/NoSuchElementException") hown [⟨0, 12, 15, 20⟩] ⟨0, 12, 19, 48⟩ [] htab (List.forall_mem_cons.mpr ⟨Or.inr ⟨by decide, _, hts _ q458, hNC _ nc_5_3⟩, fun _ h => absurd h List.not_mem_nil⟩) (by decide) (by decide) (hts _ q681) (va_Nw.use rfl (hE.2.1 _ n692)) hce hv9 hcl ?_
      refine lv_astore (lv' := [(5, .ref q9), (0, .ref (ad 0)), (1, .int p1), (2, .int p2), (3, .int p3), (4, .ref oa)]) hx hb dL_readFrom_19 hl (by decide) rfl (fun ls hl => ?_)
      refine lv_iconst (v := 2) hx hb dL_readFrom_21 (by decide) ?_
      cases hf
      exact endw_i hAe hQm hx hb hr hlocks rfl hP hD hS dL_readFrom_22 (Nat.le_of_ble_eq_true rfl) (Nat.le_of_ble_eq_true rfl)
    have hf := br_neg c6 hf
    cases hf
  refine cw_vi_ok (rest := [.int 0, .ref oa]) (m_C_readFrom l hst ca ad bq nF nO nL nA nC nV nU nP nE bF bO bL bA bC bV bU bP bE cT cK cO cQ cD pT pK pR pW pU pI pC uO uF uE uN wK jM jN jZ jB (WO ca oa od oL oD ++ R) _ p1 p2 p3 (.ok r4) h2) ⟨hx, hb, hml, hown, hts⟩ (cwV 3 hts (gV q830 q831 q832 q41 q833) rfl rfl rfl (by decide +kernel) ⟨Nat.le_of_ble_eq_true rfl, Nat.le_of_ble_eq_true rfl⟩) (va_recv hK hP (ci := 7) (q0 := 0) rfl rfl) hE hP hD hS hA hZ rfl hl.1 rfl (lv_room (Nat.le_of_ble_eq_true rfl)) dL_readFrom_7 ⟨Nat.le_of_ble_eq_true rfl, Nat.le_of_ble_eq_true rfl⟩ (fun H locs hP hD hS => ?_)
  refine lv_i2l hx hb dL_readFrom_10 rfl ?_
  refine va_last (D := D) hx hb hK hP hD hS 40 5 rfl rfl (by unfold vp_in; decide) dL_readFrom_11 (fun H locs hP hD hS => ?_)
  have hP : va_P D vwCl (WC ca ad bq nF nO nL nA nC nV nU nP nE bF bO bL bA bC bV bU bP bE cT cK cO cQ cD pT pK pR pW pU pI pC uO uF uE uN wK jM jN jZ jB ++ (WO ca oa od (vp_updL oL (0 : Int32).toNatClampNeg ((r4).toInt64)) oD ++ R)) H := hP
  have hD : va_D A (WC ca ad bq nF nO nL nA nC nV nU nP nE bF bO bL bA bC bV bU bP bE cT cK cO cQ cD pT pK pR pW pU pI pC uO uF uE uN wK jM jN jZ jB ++ (WO ca oa od (vp_updL oL (0 : Int32).toNatClampNeg ((r4).toInt64)) oD ++ R)) := hD
  refine lv_goto (tgt := 23) hx hb dL_readFrom_12 (by decide) ?_
  refine lv_iconst (v := 0) hx hb dL_readFrom_23 (by decide) ?_
  cases hf
  exact endw_i hAe hQm hx hb hr hlocks rfl hP hD hS dL_readFrom_24 (Nat.le_of_ble_eq_true rfl) (Nat.le_of_ble_eq_true rfl)
def f_L_thin (p1 : Int32) (nU : Nat → Int32) (cT : Int32) (pT : Int32) (pK : Int32) (pR : Nat → Int32) (pW : Nat → Int32) (pU : Nat → Int32) (pI : Nat → Int32) (pC : Nat → Nat → Int32) (oL : Nat → Int64) : Option (Int32 × (Nat → Int32) × Int32 × (Nat → Int32) × (Nat → Int32) × (Nat → Int64)) :=
  (f_C_thin p1 nU cT pT pK pR pW pU pI pC).bind fun (x1, nU_2, pK_3, pW_4, pU_5) =>
  match x1 with
  | .error n7 => if n7 = 1 then some (1, nU_2, pK_3, pW_4, pU_5, oL) else if n7 = 2 then some (2, nU_2, pK_3, pW_4, pU_5, oL) else none
  | .ok r8 =>
  some (0, nU_2, pK_3, pW_4, pU_5, (vp_updL oL (0 : Int32).toNatClampNeg ((r8).toInt64)))
set_option maxHeartbeats 4000000 in
set_option maxRecDepth 100000 in
theorem m_L_thin (l : Launch) (hst : l.stackTraces = false) {D : va_G} (ca : Nat → ClassId) (ad : Nat → Nat) (bq : Nat) (oa od : Nat) (nF : Int32) (nO : Nat → Int32) (nL : Nat → Int32) (nA : Nat → Int32) (nC : Nat → Int32) (nV : Nat → Int32) (nU : Nat → Int32) (nP : Nat → Int32) (nE : Int32) (bF : Int32) (bO : Nat → Int32) (bL : Nat → Int32) (bA : Nat → Int32) (bC : Nat → Int32) (bV : Nat → Int32) (bU : Nat → Int32) (bP : Nat → Int32) (bE : Int32) (cT : Int32) (cK : Nat → Int32) (cO : Int32) (cQ : Nat → Int32) (cD : Int32) (pT : Int32) (pK : Int32) (pR : Nat → Int32) (pW : Nat → Int32) (pU : Nat → Int32) (pI : Nat → Int32) (pC : Nat → Nat → Int32) (uO : Int32) (uF : Nat → Int32) (uE : Nat → Int32) (uN : Nat → Int32) (wK : Nat → Int32) (jM : Int32) (jN : Int32) (jZ : Nat) (jB : Nat → Int32) (oL : Nat → Int64) (oD : Nat → UInt64) (R : va_W) (sz : Nat) (p1 : Int32) (ro : Int32) (onU : Nat → Int32) (opK : Int32) (opW : Nat → Int32) (opU : Nat → Int32) (ooL : Nat → Int64) (hf : f_L_thin p1 nU cT pT pK pR pW pU pI pC oL = some (ro, onU, opK, opW, opU, ooL)) : vx_Met l yL_thin (wmW yL_thin cL_thin 4 (some .int) [(0, 9, 12, 13), (0, 9, 15, 15)]) ({ frames := 8, cells := 2, slots := 12, locals := 136 } : Room) (PREL [.ref (ad 0), .int p1, .ref oa] D ca SL0 (WC ca ad bq nF nO nL nA nC nV nU nP nE bF bO bL bA bC bV bU bP bE cT cK cO cQ cD pT pK pR pW pU pI pC uO uF uE uN wK jM jN jZ jB ++ (WO ca oa od oL oD ++ R)) sz) (QI ro D (WC ca ad bq nF nO nL nA nC nV onU nP nE bF bO bL bA bC bV bU bP bE cT cK cO cQ cD pT opK pR opW opU pI pC uO uF uE uN wK jM jN jZ jB ++ (WO ca oa od ooL oD ++ R)) (WC ca ad bq nF nO nL nA nC nV nU nP nE bF bO bL bA bC bV bU bP bE cT cK cO cQ cD pT pK pR pW pU pI pC uO uF uE uN wK jM jN jZ jB ++ (WO ca oa od oL oD ++ R)) sz) (fun _ _ _ => False) 2 12 (va_A (WC ca ad bq nF nO nL nA nC nV nU nP nE bF bO bL bA bC bV bU bP bE cT cK cO cQ cD pT pK pR pW pU pI pC uO uF uE uN wK jM jN jZ jB ++ (WO ca oa od oL oD ++ R)) sz) := by
  refine vx_ofWH (cc := cL_thin) (maxL := 4) (ret := (some .int)) (hh := [(0, 9, 12, 13), (0, 9, 15, 15)]) (by decide) rfl ?_
  intro p e s m args below meth c s₁ B hml hv
  obtain ⟨rfl, rfl, hP, hE, hD0, hZ, hNC⟩ := hv
  have hx := B.exec
  have hb := B.bytes
  have hr := B.returns
  have hts0 := atoms_spec (ws := wmW yL_thin cL_thin 4 (some .int) [(0, 9, 12, 13), (0, 9, 15, 15)]) B.pre
  have hts := wmW_ww hts0
  have htab := vx_table (x := yL_thin) B (hts0 _ List.mem_cons_self)
  have hown : s.vm.findClass RL = some m.cls := findClass_of_methodNamed B.named
  have hlocks := B.notSynchronized
  have hK := hE.1
  have hD := hD0.self (sz := s.heap.size)
  generalize hAe : va_A (WC ca ad bq nF nO nL nA nC nV nU nP nE bF bO bL bA bC bV bU bP bE cT cK cO cQ cD pT pK pR pW pU pI pC uO uF uE uN wK jM jN jZ jB ++ (WO ca oa od oL oD ++ R)) s.heap.size = A at hD hZ ⊢
  have hA : ∀ q : Nat, s.heap.size ≤ q → A q := fun q h => by rw [← hAe]; exact Or.inr h
  have hS : va_S A s.heap s.heap [] := va_S.rf
  have hl := lv_entry ([.ref (ad 0), .int p1, .ref oa]) (n := 4) (Nat.le_of_ble_eq_true rfl)
  rw [lg_entry_eq]
  generalize (lg_sl ([.ref (ad 0), .int p1, .ref oa]) ++ List.replicate (4 - (lg_sl ([.ref (ad 0), .int p1, .ref oa])).length) Slot.unset).toArray = ls at hl ⊢
  have hl : lv_has ls 4 [(0, .ref (ad 0)), (1, .int p1), (2, .ref oa)] := hl
  change W p l e ({ frames := 8, cells := 2, slots := 12, locals := 136 } : Room) s m _ below meth c s.heap [] 0 0 _ _
  generalize hQm : vx_MQ below (QI ro D (WC ca ad bq nF nO nL nA nC nV onU nP nE bF bO bL bA bC bV bU bP bE cT cK cO cQ cD pT opK pR opW opU pI pC uO uF uE uN wK jM jN jZ jB ++ (WO ca oa od ooL oD ++ R)) (WC ca ad bq nF nO nL nA nC nV nU nP nE bF bO bL bA bC bV bU bP bE cT cK cO cQ cD pT pK pR pW pU pI pC uO uF uE uN wK jM jN jZ jB ++ (WO ca oa od oL oD ++ R)) s.heap.size) (fun _ _ _ => False) _ s 2 12 A = Qm
  have hP : va_P D vwCl (WC ca ad bq nF nO nL nA nC nV nU nP nE bF bO bL bA bC bV bU bP bE cT cK cO cQ cD pT pK pR pW pU pI pC uO uF uE uN wK jM jN jZ jB ++ (WO ca oa od oL oD ++ R)) s.heap := hP
  generalize hae : ([.ref (ad 0), .int p1, .ref oa] : List Value).toArray = args at hts hQm ⊢
  refine lv_aload_n hx hb dL_thin_0 rfl (lv_at hl 2 rfl) ?_
  refine lv_iconst (v := 0) hx hb dL_thin_1 (by decide) ?_
  refine lv_aload_n hx hb dL_thin_2 rfl (lv_at hl 0 rfl) ?_
  refine lv_iload_n hx hb dL_thin_3 rfl (lv_at hl 1 rfl) ?_
  obtain ⟨⟨x1, nU_2, pK_3, pW_4, pU_5⟩, h6, hf⟩ := bnd hf
  rcases x1 with n7 | r8
  · have hf : (if n7 = 1 then some (1, nU_2, pK_3, pW_4, pU_5, oL) else if n7 = 2 then some (2, nU_2, pK_3, pW_4, pU_5, oL) else none) = some (ro, onU, opK, opW, opU, ooL) := hf
    by_cases c9 : n7 = 1
    · subst c9
      have hf := br_pos rfl hf
      refine cw_vi_err (rest := [.int 0, .ref oa]) (m_C_thin l hst ca ad bq nF nO nL nA nC nV nU nP nE bF bO bL bA bC bV bU bP bE cT cK cO cQ cD pT pK pR pW pU pI pC uO uF uE uN wK jM jN jZ jB (WO ca oa od oL oD ++ R) _ p1 (.error 1) nU_2 pK_3 pW_4 pU_5 h6) ⟨hx, hb, hml, hown, hts⟩ (cwV 1 hts (gV q853 q854 q855 q41 q856) rfl rfl rfl (by decide +kernel) ⟨Nat.le_of_ble_eq_true rfl, Nat.le_of_ble_eq_true rfl⟩) (va_recv hK hP (ci := 7) (q0 := 0) rfl rfl) hE hP hD hS hA hZ rfl hl.1 rfl (lv_room (Nat.le_of_ble_eq_true rfl)) dL_thin_4 ⟨Nat.le_of_ble_eq_true rfl, Nat.le_of_ble_eq_true rfl⟩ (fun H locs q9 ce hP hD hS hce hv9 hcl => ?_)
      refine vx_catch (E := "java/lang/IllegalArgumentException") hown [] ⟨0, 9, 12, 13⟩ [⟨0, 9, 15, 15⟩] htab (fun _ h => absurd h List.not_mem_nil) (by decide) (by decide) (hts _ q352) (va_Nw.use rfl (hE.2.1 _ n364)) hce hv9 hcl ?_
      refine lv_astore_n (lv' := [(3, .ref q9), (0, .ref (ad 0)), (1, .int p1), (2, .ref oa)]) hx hb dL_thin_12 rfl hl (by decide) rfl (fun ls hl => ?_)
      refine lv_iconst (v := 1) hx hb dL_thin_13 (by decide) ?_
      cases hf
      exact endw_i hAe hQm hx hb hr hlocks rfl hP hD hS dL_thin_14 (Nat.le_of_ble_eq_true rfl) (Nat.le_of_ble_eq_true rfl)
    have hf := br_neg c9 hf
    by_cases c10 : n7 = 2
    · subst c10
      have hf := br_pos rfl hf
      refine cw_vi_err (rest := [.int 0, .ref oa]) (m_C_thin l hst ca ad bq nF nO nL nA nC nV nU nP nE bF bO bL bA bC bV bU bP bE cT cK cO cQ cD pT pK pR pW pU pI pC uO uF uE uN wK jM jN jZ jB (WO ca oa od oL oD ++ R) _ p1 (.error 2) nU_2 pK_3 pW_4 pU_5 h6) ⟨hx, hb, hml, hown, hts⟩ (cwV 1 hts (gV q853 q854 q855 q41 q856) rfl rfl rfl (by decide +kernel) ⟨Nat.le_of_ble_eq_true rfl, Nat.le_of_ble_eq_true rfl⟩) (va_recv hK hP (ci := 7) (q0 := 0) rfl rfl) hE hP hD hS hA hZ rfl hl.1 rfl (lv_room (Nat.le_of_ble_eq_true rfl)) dL_thin_4 ⟨Nat.le_of_ble_eq_true rfl, Nat.le_of_ble_eq_true rfl⟩ (fun H locs q9 ce hP hD hS hce hv9 hcl => ?_)
      refine vx_catch (E := "java/lang/IllegalStateException") hown [⟨0, 9, 12, 13⟩] ⟨0, 9, 15, 15⟩ [] htab (List.forall_mem_cons.mpr ⟨Or.inr ⟨by decide, _, hts _ q352, hNC _ nc_2_1⟩, fun _ h => absurd h List.not_mem_nil⟩) (by decide) (by decide) (hts _ q353) (va_Nw.use rfl (hE.2.1 _ n440)) hce hv9 hcl ?_
      refine lv_astore_n (lv' := [(3, .ref q9), (0, .ref (ad 0)), (1, .int p1), (2, .ref oa)]) hx hb dL_thin_15 rfl hl (by decide) rfl (fun ls hl => ?_)
      refine lv_iconst (v := 2) hx hb dL_thin_16 (by decide) ?_
      cases hf
      exact endw_i hAe hQm hx hb hr hlocks rfl hP hD hS dL_thin_17 (Nat.le_of_ble_eq_true rfl) (Nat.le_of_ble_eq_true rfl)
    have hf := br_neg c10 hf
    cases hf
  refine cw_vi_ok (rest := [.int 0, .ref oa]) (m_C_thin l hst ca ad bq nF nO nL nA nC nV nU nP nE bF bO bL bA bC bV bU bP bE cT cK cO cQ cD pT pK pR pW pU pI pC uO uF uE uN wK jM jN jZ jB (WO ca oa od oL oD ++ R) _ p1 (.ok r8) nU_2 pK_3 pW_4 pU_5 h6) ⟨hx, hb, hml, hown, hts⟩ (cwV 1 hts (gV q853 q854 q855 q41 q856) rfl rfl rfl (by decide +kernel) ⟨Nat.le_of_ble_eq_true rfl, Nat.le_of_ble_eq_true rfl⟩) (va_recv hK hP (ci := 7) (q0 := 0) rfl rfl) hE hP hD hS hA hZ rfl hl.1 rfl (lv_room (Nat.le_of_ble_eq_true rfl)) dL_thin_4 ⟨Nat.le_of_ble_eq_true rfl, Nat.le_of_ble_eq_true rfl⟩ (fun H locs hP hD hS => ?_)
  refine lv_i2l hx hb dL_thin_7 rfl ?_
  refine va_last (D := D) hx hb hK hP hD hS 40 5 rfl rfl (by unfold vp_in; decide) dL_thin_8 (fun H locs hP hD hS => ?_)
  have hP : va_P D vwCl (WC ca ad bq nF nO nL nA nC nV nU_2 nP nE bF bO bL bA bC bV bU bP bE cT cK cO cQ cD pT pK_3 pR pW_4 pU_5 pI pC uO uF uE uN wK jM jN jZ jB ++ (WO ca oa od (vp_updL oL (0 : Int32).toNatClampNeg ((r8).toInt64)) oD ++ R)) H := hP
  have hD : va_D A (WC ca ad bq nF nO nL nA nC nV nU_2 nP nE bF bO bL bA bC bV bU bP bE cT cK cO cQ cD pT pK_3 pR pW_4 pU_5 pI pC uO uF uE uN wK jM jN jZ jB ++ (WO ca oa od (vp_updL oL (0 : Int32).toNatClampNeg ((r8).toInt64)) oD ++ R)) := hD
  refine lv_goto (tgt := 18) hx hb dL_thin_9 (by decide) ?_
  refine lv_iconst (v := 0) hx hb dL_thin_18 (by decide) ?_
  cases hf
  exact endw_i hAe hQm hx hb hr hlocks rfl hP hD hS dL_thin_19 (Nat.le_of_ble_eq_true rfl) (Nat.le_of_ble_eq_true rfl)
def f_L_nextToDrop (pR : Nat → Int32) (pW : Nat → Int32) (oL : Nat → Int64) : Option (Int32 × (Nat → Int64)) :=
  (f_C_nextToDrop pR pW).bind fun x1 =>
  match x1 with
  | .error n3 => if n3 = 5 then some (1, oL) else none
  | .ok r4 =>
  some (0, (vp_updL oL (0 : Int32).toNatClampNeg ((r4).toInt64)))
set_option maxHeartbeats 4000000 in
set_option maxRecDepth 100000 in
theorem m_L_nextToDrop (l : Launch) (hst : l.stackTraces = false) {D : va_G} (ca : Nat → ClassId) (ad : Nat → Nat) (bq : Nat) (oa od : Nat) (nF : Int32) (nO : Nat → Int32) (nL : Nat → Int32) (nA : Nat → Int32) (nC : Nat → Int32) (nV : Nat → Int32) (nU : Nat → Int32) (nP : Nat → Int32) (nE : Int32) (bF : Int32) (bO : Nat → Int32) (bL : Nat → Int32) (bA : Nat → Int32) (bC : Nat → Int32) (bV : Nat → Int32) (bU : Nat → Int32) (bP : Nat → Int32) (bE : Int32) (cT : Int32) (cK : Nat → Int32) (cO : Int32) (cQ : Nat → Int32) (cD : Int32) (pT : Int32) (pK : Int32) (pR : Nat → Int32) (pW : Nat → Int32) (pU : Nat → Int32) (pI : Nat → Int32) (pC : Nat → Nat → Int32) (uO : Int32) (uF : Nat → Int32) (uE : Nat → Int32) (uN : Nat → Int32) (wK : Nat → Int32) (jM : Int32) (jN : Int32) (jZ : Nat) (jB : Nat → Int32) (oL : Nat → Int64) (oD : Nat → UInt64) (R : va_W) (sz : Nat) (ro : Int32) (ooL : Nat → Int64) (hf : f_L_nextToDrop pR pW oL = some (ro, ooL)) : vx_Met l yL_nextToDrop (wmW yL_nextToDrop cL_nextToDrop 3 (some .int) [(0, 8, 11, 48)]) ({ frames := 7, cells := 1, slots := 6, locals := 111 } : Room) (PREL [.ref (ad 0), .ref oa] D ca SL0 (WC ca ad bq nF nO nL nA nC nV nU nP nE bF bO bL bA bC bV bU bP bE cT cK cO cQ cD pT pK pR pW pU pI pC uO uF uE uN wK jM jN jZ jB ++ (WO ca oa od oL oD ++ R)) sz) (QI ro D (WC ca ad bq nF nO nL nA nC nV nU nP nE bF bO bL bA bC bV bU bP bE cT cK cO cQ cD pT pK pR pW pU pI pC uO uF uE uN wK jM jN jZ jB ++ (WO ca oa od ooL oD ++ R)) (WC ca ad bq nF nO nL nA nC nV nU nP nE bF bO bL bA bC bV bU bP bE cT cK cO cQ cD pT pK pR pW pU pI pC uO uF uE uN wK jM jN jZ jB ++ (WO ca oa od oL oD ++ R)) sz) (fun _ _ _ => False) 1 6 (va_A (WC ca ad bq nF nO nL nA nC nV nU nP nE bF bO bL bA bC bV bU bP bE cT cK cO cQ cD pT pK pR pW pU pI pC uO uF uE uN wK jM jN jZ jB ++ (WO ca oa od oL oD ++ R)) sz) := by
  refine vx_ofWH (cc := cL_nextToDrop) (maxL := 3) (ret := (some .int)) (hh := [(0, 8, 11, 48)]) (by decide) rfl ?_
  intro p e s m args below meth c s₁ B hml hv
  obtain ⟨rfl, rfl, hP, hE, hD0, hZ, hNC⟩ := hv
  have hx := B.exec
  have hb := B.bytes
  have hr := B.returns
  have hts0 := atoms_spec (ws := wmW yL_nextToDrop cL_nextToDrop 3 (some .int) [(0, 8, 11, 48)]) B.pre
  have hts := wmW_ww hts0
  have htab := vx_table (x := yL_nextToDrop) B (hts0 _ List.mem_cons_self)
  have hown : s.vm.findClass RL = some m.cls := findClass_of_methodNamed B.named
  have hlocks := B.notSynchronized
  have hK := hE.1
  have hD := hD0.self (sz := s.heap.size)
  generalize hAe : va_A (WC ca ad bq nF nO nL nA nC nV nU nP nE bF bO bL bA bC bV bU bP bE cT cK cO cQ cD pT pK pR pW pU pI pC uO uF uE uN wK jM jN jZ jB ++ (WO ca oa od oL oD ++ R)) s.heap.size = A at hD hZ ⊢
  have hA : ∀ q : Nat, s.heap.size ≤ q → A q := fun q h => by rw [← hAe]; exact Or.inr h
  have hS : va_S A s.heap s.heap [] := va_S.rf
  have hl := lv_entry ([.ref (ad 0), .ref oa]) (n := 3) (Nat.le_of_ble_eq_true rfl)
  rw [lg_entry_eq]
  generalize (lg_sl ([.ref (ad 0), .ref oa]) ++ List.replicate (3 - (lg_sl ([.ref (ad 0), .ref oa])).length) Slot.unset).toArray = ls at hl ⊢
  have hl : lv_has ls 3 [(0, .ref (ad 0)), (1, .ref oa)] := hl
  change W p l e ({ frames := 7, cells := 1, slots := 6, locals := 111 } : Room) s m _ below meth c s.heap [] 0 0 _ _
  generalize hQm : vx_MQ below (QI ro D (WC ca ad bq nF nO nL nA nC nV nU nP nE bF bO bL bA bC bV bU bP bE cT cK cO cQ cD pT pK pR pW pU pI pC uO uF uE uN wK jM jN jZ jB ++ (WO ca oa od ooL oD ++ R)) (WC ca ad bq nF nO nL nA nC nV nU nP nE bF bO bL bA bC bV bU bP bE cT cK cO cQ cD pT pK pR pW pU pI pC uO uF uE uN wK jM jN jZ jB ++ (WO ca oa od oL oD ++ R)) s.heap.size) (fun _ _ _ => False) _ s 1 6 A = Qm
  have hP : va_P D vwCl (WC ca ad bq nF nO nL nA nC nV nU nP nE bF bO bL bA bC bV bU bP bE cT cK cO cQ cD pT pK pR pW pU pI pC uO uF uE uN wK jM jN jZ jB ++ (WO ca oa od oL oD ++ R)) s.heap := hP
  generalize hae : ([.ref (ad 0), .ref oa] : List Value).toArray = args at hts hQm ⊢
  refine lv_aload_n hx hb dL_nextToDrop_0 rfl (lv_at hl 1 rfl) ?_
  refine lv_iconst (v := 0) hx hb dL_nextToDrop_1 (by decide) ?_
  refine lv_aload_n hx hb dL_nextToDrop_2 rfl (lv_at hl 0 rfl) ?_
  obtain ⟨x1, h2, hf⟩ := bnd hf
  rcases x1 with n3 | r4
  · have hf : (if n3 = 5 then some (1, oL) else none) = some (ro, ooL) := hf
    by_cases c5 : n3 = 5
    · subst c5
      have hf := br_pos rfl hf
      refine cw_vi_err (rest := [.int 0, .ref oa]) (m_C_nextToDrop l hst ca ad bq nF nO nL nA nC nV nU nP nE bF bO bL bA bC bV bU bP bE cT cK cO cQ cD pT pK pR pW pU pI pC uO uF uE uN wK jM jN jZ jB (WO ca oa od oL oD ++ R) _ (.error 5) h2) ⟨hx, hb, hml, hown, hts⟩ (cwV 0 hts (gV q870 q871 q872 q41 q873) rfl rfl rfl (by decide +kernel) ⟨Nat.le_of_ble_eq_true rfl, Nat.le_of_ble_eq_true rfl⟩) (va_recv hK hP (ci := 7) (q0 := 0) rfl rfl) hE hP hD hS hA hZ rfl hl.1 rfl (lv_room (Nat.le_of_ble_eq_true rfl)) dL_nextToDrop_3 ⟨Nat.le_of_ble_eq_true rfl, Nat.le_of_ble_eq_true rfl⟩ (fun H locs q9 ce hP hD hS hce hv9 hcl => ?_)
      refine vx_catch (E := "java/util/NoSuchElementException") hown [] ⟨0, 8, 11, 48⟩ [] htab (fun _ h => absurd h List.not_mem_nil) (by decide) (by decide) (hts _ q681) (va_Nw.use rfl (hE.2.1 _ n692)) hce hv9 hcl ?_
      refine lv_astore_n (lv' := [(2, .ref q9), (0, .ref (ad 0)), (1, .ref oa)]) hx hb dL_nextToDrop_11 rfl hl (by decide) rfl (fun ls hl => ?_)
      refine lv_iconst (v := 1) hx hb dL_nextToDrop_12 (by decide) ?_
      cases hf
      exact endw_i hAe hQm hx hb hr hlocks rfl hP hD hS dL_nextToDrop_13 (Nat.le_of_ble_eq_true rfl) (Nat.le_of_ble_eq_true rfl)
    have hf := br_neg c5 hf
    cases hf
  refine cw_vi_ok (rest := [.int 0, .ref oa]) (m_C_nextToDrop l hst ca ad bq nF nO nL nA nC nV nU nP nE bF bO bL bA bC bV bU bP bE cT cK cO cQ cD pT pK pR pW pU pI pC uO uF uE uN wK jM jN jZ jB (WO ca oa od oL oD ++ R) _ (.ok r4) h2) ⟨hx, hb, hml, hown, hts⟩ (cwV 0 hts (gV q870 q871 q872 q41 q873) rfl rfl rfl (by decide +kernel) ⟨Nat.le_of_ble_eq_true rfl, Nat.le_of_ble_eq_true rfl⟩) (va_recv hK hP (ci := 7) (q0 := 0) rfl rfl) hE hP hD hS hA hZ rfl hl.1 rfl (lv_room (Nat.le_of_ble_eq_true rfl)) dL_nextToDrop_3 ⟨Nat.le_of_ble_eq_true rfl, Nat.le_of_ble_eq_true rfl⟩ (fun H locs hP hD hS => ?_)
  refine lv_i2l hx hb dL_nextToDrop_6 rfl ?_
  refine va_last (D := D) hx hb hK hP hD hS 40 5 rfl rfl (by unfold vp_in; decide) dL_nextToDrop_7 (fun H locs hP hD hS => ?_)
  have hP : va_P D vwCl (WC ca ad bq nF nO nL nA nC nV nU nP nE bF bO bL bA bC bV bU bP bE cT cK cO cQ cD pT pK pR pW pU pI pC uO uF uE uN wK jM jN jZ jB ++ (WO ca oa od (vp_updL oL (0 : Int32).toNatClampNeg ((r4).toInt64)) oD ++ R)) H := hP
  have hD : va_D A (WC ca ad bq nF nO nL nA nC nV nU nP nE bF bO bL bA bC bV bU bP bE cT cK cO cQ cD pT pK pR pW pU pI pC uO uF uE uN wK jM jN jZ jB ++ (WO ca oa od (vp_updL oL (0 : Int32).toNatClampNeg ((r4).toInt64)) oD ++ R)) := hD
  refine lv_goto (tgt := 14) hx hb dL_nextToDrop_8 (by decide) ?_
  refine lv_iconst (v := 0) hx hb dL_nextToDrop_14 (by decide) ?_
  cases hf
  exact endw_i hAe hQm hx hb hr hlocks rfl hP hD hS dL_nextToDrop_15 (Nat.le_of_ble_eq_true rfl) (Nat.le_of_ble_eq_true rfl)
def f_L_restore (p1 : Int32) (p2 : Int32) (nF : Int32) (nO : Nat → Int32) (nL : Nat → Int32) (nC : Nat → Int32) (nU : Nat → Int32) (cT : Int32) (cO : Int32) (cQ : Nat → Int32) (pT : Int32) (pW : Nat → Int32) (pI : Nat → Int32) (pC : Nat → Nat → Int32) (oL : Nat → Int64) : Option (Int32 × (Nat → Int32) × (Nat → Int32) × (Nat → Int64)) :=
  (f_C_restore p1 p2 nF nO nL nC nU cT cO cQ pT pW pI pC).bind fun (x1, nC_2, nU_3) =>
  match x1 with
  | .error n5 => if n5 = 3 then some (1, nC_2, nU_3, oL) else if n5 = 5 then some (2, nC_2, nU_3, oL) else if n5 = 2 then some (3, nC_2, nU_3, oL) else if n5 = 4 then some (4, nC_2, nU_3, oL) else none
  | .ok r6 =>
  some (0, nC_2, nU_3, (vp_updL oL (0 : Int32).toNatClampNeg ((r6).toInt64)))
set_option maxHeartbeats 4000000 in
set_option maxRecDepth 100000 in
theorem m_L_restore (l : Launch) (hst : l.stackTraces = false) {D : va_G} (ca : Nat → ClassId) (ad : Nat → Nat) (bq : Nat) (oa od : Nat) (nF : Int32) (nO : Nat → Int32) (nL : Nat → Int32) (nA : Nat → Int32) (nC : Nat → Int32) (nV : Nat → Int32) (nU : Nat → Int32) (nP : Nat → Int32) (nE : Int32) (bF : Int32) (bO : Nat → Int32) (bL : Nat → Int32) (bA : Nat → Int32) (bC : Nat → Int32) (bV : Nat → Int32) (bU : Nat → Int32) (bP : Nat → Int32) (bE : Int32) (cT : Int32) (cK : Nat → Int32) (cO : Int32) (cQ : Nat → Int32) (cD : Int32) (pT : Int32) (pK : Int32) (pR : Nat → Int32) (pW : Nat → Int32) (pU : Nat → Int32) (pI : Nat → Int32) (pC : Nat → Nat → Int32) (uO : Int32) (uF : Nat → Int32) (uE : Nat → Int32) (uN : Nat → Int32) (wK : Nat → Int32) (jM : Int32) (jN : Int32) (jZ : Nat) (jB : Nat → Int32) (oL : Nat → Int64) (oD : Nat → UInt64) (R : va_W) (sz : Nat) (p1 : Int32) (p2 : Int32) (ro : Int32) (onC : Nat → Int32) (onU : Nat → Int32) (ooL : Nat → Int64) (hf : f_L_restore p1 p2 nF nO nL nC nU cT cO cQ pT pW pI pC oL = some (ro, onC, onU, ooL)) : vx_Met l yL_restore (wmW yL_restore cL_restore 5 (some .int) [(0, 10, 13, 20), (0, 10, 17, 48), (0, 10, 21, 15), (0, 10, 25, 39)]) ({ frames := 8, cells := 6, slots := 36, locals := 140 } : Room) (PREL [.ref (ad 0), .int p1, .int p2, .ref oa] D ca SL0 (WC ca ad bq nF nO nL nA nC nV nU nP nE bF bO bL bA bC bV bU bP bE cT cK cO cQ cD pT pK pR pW pU pI pC uO uF uE uN wK jM jN jZ jB ++ (WO ca oa od oL oD ++ R)) sz) (QI ro D (WC ca ad bq nF nO nL nA onC nV onU nP nE bF bO bL bA bC bV bU bP bE cT cK cO cQ cD pT pK pR pW pU pI pC uO uF uE uN wK jM jN jZ jB ++ (WO ca oa od ooL oD ++ R)) (WC ca ad bq nF nO nL nA nC nV nU nP nE bF bO bL bA bC bV bU bP bE cT cK cO cQ cD pT pK pR pW pU pI pC uO uF uE uN wK jM jN jZ jB ++ (WO ca oa od oL oD ++ R)) sz) (fun _ _ _ => False) 6 36 (va_A (WC ca ad bq nF nO nL nA nC nV nU nP nE bF bO bL bA bC bV bU bP bE cT cK cO cQ cD pT pK pR pW pU pI pC uO uF uE uN wK jM jN jZ jB ++ (WO ca oa od oL oD ++ R)) sz) := by
  refine vx_ofWH (cc := cL_restore) (maxL := 5) (ret := (some .int)) (hh := [(0, 10, 13, 20), (0, 10, 17, 48), (0, 10, 21, 15), (0, 10, 25, 39)]) (by decide) rfl ?_
  intro p e s m args below meth c s₁ B hml hv
  obtain ⟨rfl, rfl, hP, hE, hD0, hZ, hNC⟩ := hv
  have hx := B.exec
  have hb := B.bytes
  have hr := B.returns
  have hts0 := atoms_spec (ws := wmW yL_restore cL_restore 5 (some .int) [(0, 10, 13, 20), (0, 10, 17, 48), (0, 10, 21, 15), (0, 10, 25, 39)]) B.pre
  have hts := wmW_ww hts0
  have htab := vx_table (x := yL_restore) B (hts0 _ List.mem_cons_self)
  have hown : s.vm.findClass RL = some m.cls := findClass_of_methodNamed B.named
  have hlocks := B.notSynchronized
  have hK := hE.1
  have hD := hD0.self (sz := s.heap.size)
  generalize hAe : va_A (WC ca ad bq nF nO nL nA nC nV nU nP nE bF bO bL bA bC bV bU bP bE cT cK cO cQ cD pT pK pR pW pU pI pC uO uF uE uN wK jM jN jZ jB ++ (WO ca oa od oL oD ++ R)) s.heap.size = A at hD hZ ⊢
  have hA : ∀ q : Nat, s.heap.size ≤ q → A q := fun q h => by rw [← hAe]; exact Or.inr h
  have hS : va_S A s.heap s.heap [] := va_S.rf
  have hl := lv_entry ([.ref (ad 0), .int p1, .int p2, .ref oa]) (n := 5) (Nat.le_of_ble_eq_true rfl)
  rw [lg_entry_eq]
  generalize (lg_sl ([.ref (ad 0), .int p1, .int p2, .ref oa]) ++ List.replicate (5 - (lg_sl ([.ref (ad 0), .int p1, .int p2, .ref oa])).length) Slot.unset).toArray = ls at hl ⊢
  have hl : lv_has ls 5 [(0, .ref (ad 0)), (1, .int p1), (2, .int p2), (3, .ref oa)] := hl
  change W p l e ({ frames := 8, cells := 6, slots := 36, locals := 140 } : Room) s m _ below meth c s.heap [] 0 0 _ _
  generalize hQm : vx_MQ below (QI ro D (WC ca ad bq nF nO nL nA onC nV onU nP nE bF bO bL bA bC bV bU bP bE cT cK cO cQ cD pT pK pR pW pU pI pC uO uF uE uN wK jM jN jZ jB ++ (WO ca oa od ooL oD ++ R)) (WC ca ad bq nF nO nL nA nC nV nU nP nE bF bO bL bA bC bV bU bP bE cT cK cO cQ cD pT pK pR pW pU pI pC uO uF uE uN wK jM jN jZ jB ++ (WO ca oa od oL oD ++ R)) s.heap.size) (fun _ _ _ => False) _ s 6 36 A = Qm
  have hP : va_P D vwCl (WC ca ad bq nF nO nL nA nC nV nU nP nE bF bO bL bA bC bV bU bP bE cT cK cO cQ cD pT pK pR pW pU pI pC uO uF uE uN wK jM jN jZ jB ++ (WO ca oa od oL oD ++ R)) s.heap := hP
  generalize hae : ([.ref (ad 0), .int p1, .int p2, .ref oa] : List Value).toArray = args at hts hQm ⊢
  refine lv_aload_n hx hb dL_restore_0 rfl (lv_at hl 3 rfl) ?_
  refine lv_iconst (v := 0) hx hb dL_restore_1 (by decide) ?_
  refine lv_aload_n hx hb dL_restore_2 rfl (lv_at hl 0 rfl) ?_
  refine lv_iload_n hx hb dL_restore_3 rfl (lv_at hl 1 rfl) ?_
  refine lv_iload_n hx hb dL_restore_4 rfl (lv_at hl 2 rfl) ?_
  obtain ⟨⟨x1, nC_2, nU_3⟩, h4, hf⟩ := bnd hf
  rcases x1 with n5 | r6
  · have hf : (if n5 = 3 then some (1, nC_2, nU_3, oL) else if n5 = 5 then some (2, nC_2, nU_3, oL) else if n5 = 2 then some (3, nC_2, nU_3, oL) else if n5 = 4 then some (4, nC_2, nU_3, oL) else none) = some (ro, onC, onU, ooL) := hf
    by_cases c7 : n5 = 3
    · subst c7
      have hf := br_pos rfl hf
      refine cw_vi_err (rest := [.int 0, .ref oa]) (m_C_restore l hst ca ad bq nF nO nL nA nC nV nU nP nE bF bO bL bA bC bV bU bP bE cT cK cO cQ cD pT pK pR pW pU pI pC uO uF uE uN wK jM jN jZ jB (WO ca oa od oL oD ++ R) _ p1 p2 (.error 3) nC_2 nU_3 h4) ⟨hx, hb, hml, hown, hts⟩ (cwV 2 hts (gV q878 q879 q880 q41 q881) rfl rfl rfl (by decide +kernel) ⟨Nat.le_of_ble_eq_true rfl, Nat.le_of_ble_eq_true rfl⟩) (va_recv hK hP (ci := 7) (q0 := 0) rfl rfl) hE hP hD hS hA hZ rfl hl.1 rfl (lv_room (Nat.le_of_ble_eq_true rfl)) dL_restore_5 ⟨Nat.le_of_ble_eq_true rfl, Nat.le_of_ble_eq_true rfl⟩ (fun H locs q9 ce hP hD hS hce hv9 hcl => ?_)
      refine vx_catch (E := "java/lang/IndexOutOfBoundsException") hown [] ⟨0, 10, 13, 20⟩ [⟨0, 10, 17, 48⟩, ⟨0, 10, 21, 15⟩, ⟨0, 10, 25, 39⟩] htab (fun _ h => absurd h List.not_mem_nil) (by decide) (by decide) (hts _ q458) (va_Nw.use rfl (hE.2.1 _ n492)) hce hv9 hcl ?_
      refine lv_astore (lv' := [(4, .ref q9), (0, .ref (ad 0)), (1, .int p1), (2, .int p2), (3, .ref oa)]) hx hb dL_restore_13 hl (by decide) rfl (fun ls hl => ?_)
      refine lv_iconst (v := 1) hx hb dL_restore_15 (by decide) ?_
      cases hf
      exact endw_i hAe hQm hx hb hr hlocks rfl hP hD hS dL_restore_16 (Nat.le_of_ble_eq_true rfl) (Nat.le_of_ble_eq_true rfl)
    have hf := br_neg c7 hf
    by_cases c8 : n5 = 5
    · subst c8
      have hf := br_pos rfl hf
      refine cw_vi_err (rest := [.int 0, .ref oa]) (m_C_restore l hst ca ad bq nF nO nL nA nC nV nU nP nE bF bO bL bA bC bV bU bP bE cT cK cO cQ cD pT pK pR pW pU pI pC uO uF uE uN wK jM jN jZ jB (WO ca oa od oL oD ++ R) _ p1 p2 (.error 5) nC_2 nU_3 h4) ⟨hx, hb, hml, hown, hts⟩ (cwV 2 hts (gV q878 q879 q880 q41 q881) rfl rfl rfl (by decide +kernel) ⟨Nat.le_of_ble_eq_true rfl, Nat.le_of_ble_eq_true rfl⟩) (va_recv hK hP (ci := 7) (q0 := 0) rfl rfl) hE hP hD hS hA hZ rfl hl.1 rfl (lv_room (Nat.le_of_ble_eq_true rfl)) dL_restore_5 ⟨Nat.le_of_ble_eq_true rfl, Nat.le_of_ble_eq_true rfl⟩ (fun H locs q9 ce hP hD hS hce hv9 hcl => ?_)
      refine vx_catch (E := "java/util/NoSuchElementException") hown [⟨0, 10, 13, 20⟩] ⟨0, 10, 17, 48⟩ [⟨0, 10, 21, 15⟩, ⟨0, 10, 25, 39⟩] htab (List.forall_mem_cons.mpr ⟨Or.inr ⟨by decide, _, hts _ q458, hNC _ nc_5_3⟩, fun _ h => absurd h List.not_mem_nil⟩) (by decide) (by decide) (hts _ q681) (va_Nw.use rfl (hE.2.1 _ n692)) hce hv9 hcl ?_
      refine lv_astore (lv' := [(4, .ref q9), (0, .ref (ad 0)), (1, .int p1), (2, .int p2), (3, .ref oa)]) hx hb dL_restore_17 hl (by decide) rfl (fun ls hl => ?_)
      refine lv_iconst (v := 2) hx hb dL_restore_19 (by decide) ?_
      cases hf
      exact endw_i hAe hQm hx hb hr hlocks rfl hP hD hS dL_restore_20 (Nat.le_of_ble_eq_true rfl) (Nat.le_of_ble_eq_true rfl)
    have hf := br_neg c8 hf
    by_cases c9 : n5 = 2
    · subst c9
      have hf := br_pos rfl hf
      refine cw_vi_err (rest := [.int 0, .ref oa]) (m_C_restore l hst ca ad bq nF nO nL nA nC nV nU nP nE bF bO bL bA bC bV bU bP bE cT cK cO cQ cD pT pK pR pW pU pI pC uO uF uE uN wK jM jN jZ jB (WO ca oa od oL oD ++ R) _ p1 p2 (.error 2) nC_2 nU_3 h4) ⟨hx, hb, hml, hown, hts⟩ (cwV 2 hts (gV q878 q879 q880 q41 q881) rfl rfl rfl (by decide +kernel) ⟨Nat.le_of_ble_eq_true rfl, Nat.le_of_ble_eq_true rfl⟩) (va_recv hK hP (ci := 7) (q0 := 0) rfl rfl) hE hP hD hS hA hZ rfl hl.1 rfl (lv_room (Nat.le_of_ble_eq_true rfl)) dL_restore_5 ⟨Nat.le_of_ble_eq_true rfl, Nat.le_of_ble_eq_true rfl⟩ (fun H locs q9 ce hP hD hS hce hv9 hcl => ?_)
      refine vx_catch (E := "java/lang/IllegalStateException") hown [⟨0, 10, 13, 20⟩, ⟨0, 10, 17, 48⟩] ⟨0, 10, 21, 15⟩ [⟨0, 10, 25, 39⟩] htab (List.forall_mem_cons.mpr ⟨Or.inr ⟨by decide, _, hts _ q458, hNC _ nc_2_3⟩, List.forall_mem_cons.mpr ⟨Or.inr ⟨by decide, _, hts _ q681, hNC _ nc_2_5⟩, fun _ h => absurd h List.not_mem_nil⟩⟩) (by decide) (by decide) (hts _ q353) (va_Nw.use rfl (hE.2.1 _ n440)) hce hv9 hcl ?_
      refine lv_astore (lv' := [(4, .ref q9), (0, .ref (ad 0)), (1, .int p1), (2, .int p2), (3, .ref oa)]) hx hb dL_restore_21 hl (by decide) rfl (fun ls hl => ?_)
      refine lv_iconst (v := 3) hx hb dL_restore_23 (by decide) ?_
      cases hf
      exact endw_i hAe hQm hx hb hr hlocks rfl hP hD hS dL_restore_24 (Nat.le_of_ble_eq_true rfl) (Nat.le_of_ble_eq_true rfl)
    have hf := br_neg c9 hf
    by_cases c10 : n5 = 4
    · subst c10
      have hf := br_pos rfl hf
      refine cw_vi_err (rest := [.int 0, .ref oa]) (m_C_restore l hst ca ad bq nF nO nL nA nC nV nU nP nE bF bO bL bA bC bV bU bP bE cT cK cO cQ cD pT pK pR pW pU pI pC uO uF uE uN wK jM jN jZ jB (WO ca oa od oL oD ++ R) _ p1 p2 (.error 4) nC_2 nU_3 h4) ⟨hx, hb, hml, hown, hts⟩ (cwV 2 hts (gV q878 q879 q880 q41 q881) rfl rfl rfl (by decide +kernel) ⟨Nat.le_of_ble_eq_true rfl, Nat.le_of_ble_eq_true rfl⟩) (va_recv hK hP (ci := 7) (q0 := 0) rfl rfl) hE hP hD hS hA hZ rfl hl.1 rfl (lv_room (Nat.le_of_ble_eq_true rfl)) dL_restore_5 ⟨Nat.le_of_ble_eq_true rfl, Nat.le_of_ble_eq_true rfl⟩ (fun H locs q9 ce hP hD hS hce hv9 hcl => ?_)
      refine vx_catch (E := "java/lang/UnsupportedOperationException") hown [⟨0, 10, 13, 20⟩, ⟨0, 10, 17, 48⟩, ⟨0, 10, 21, 15⟩] ⟨0, 10, 25, 39⟩ [] htab (List.forall_mem_cons.mpr ⟨Or.inr ⟨by decide, _, hts _ q458, hNC _ nc_4_3⟩, List.forall_mem_cons.mpr ⟨Or.inr ⟨by decide, _, hts _ q681, hNC _ nc_4_5⟩, List.forall_mem_cons.mpr ⟨Or.inr ⟨by decide, _, hts _ q353, hNC _ nc_4_2⟩, fun _ h => absurd h List.not_mem_nil⟩⟩⟩) (by decide) (by decide) (hts _ q592) (va_Nw.use rfl (hE.2.1 _ n634)) hce hv9 hcl ?_
      refine lv_astore (lv' := [(4, .ref q9), (0, .ref (ad 0)), (1, .int p1), (2, .int p2), (3, .ref oa)]) hx hb dL_restore_25 hl (by decide) rfl (fun ls hl => ?_)
      refine lv_iconst (v := 4) hx hb dL_restore_27 (by decide) ?_
      cases hf
      exact endw_i hAe hQm hx hb hr hlocks rfl hP hD hS dL_restore_28 (Nat.le_of_ble_eq_true rfl) (Nat.le_of_ble_eq_true rfl)
    have hf := br_neg c10 hf
    cases hf
  refine cw_vi_ok (rest := [.int 0, .ref oa]) (m_C_restore l hst ca ad bq nF nO nL nA nC nV nU nP nE bF bO bL bA bC bV bU bP bE cT cK cO cQ cD pT pK pR pW pU pI pC uO uF uE uN wK jM jN jZ jB (WO ca oa od oL oD ++ R) _ p1 p2 (.ok r6) nC_2 nU_3 h4) ⟨hx, hb, hml, hown, hts⟩ (cwV 2 hts (gV q878 q879 q880 q41 q881) rfl rfl rfl (by decide +kernel) ⟨Nat.le_of_ble_eq_true rfl, Nat.le_of_ble_eq_true rfl⟩) (va_recv hK hP (ci := 7) (q0 := 0) rfl rfl) hE hP hD hS hA hZ rfl hl.1 rfl (lv_room (Nat.le_of_ble_eq_true rfl)) dL_restore_5 ⟨Nat.le_of_ble_eq_true rfl, Nat.le_of_ble_eq_true rfl⟩ (fun H locs hP hD hS => ?_)
  refine lv_i2l hx hb dL_restore_8 rfl ?_
  refine va_last (D := D) hx hb hK hP hD hS 40 5 rfl rfl (by unfold vp_in; decide) dL_restore_9 (fun H locs hP hD hS => ?_)
  have hP : va_P D vwCl (WC ca ad bq nF nO nL nA nC_2 nV nU_3 nP nE bF bO bL bA bC bV bU bP bE cT cK cO cQ cD pT pK pR pW pU pI pC uO uF uE uN wK jM jN jZ jB ++ (WO ca oa od (vp_updL oL (0 : Int32).toNatClampNeg ((r6).toInt64)) oD ++ R)) H := hP
  have hD : va_D A (WC ca ad bq nF nO nL nA nC_2 nV nU_3 nP nE bF bO bL bA bC bV bU bP bE cT cK cO cQ cD pT pK pR pW pU pI pC uO uF uE uN wK jM jN jZ jB ++ (WO ca oa od (vp_updL oL (0 : Int32).toNatClampNeg ((r6).toInt64)) oD ++ R)) := hD
  refine lv_goto (tgt := 29) hx hb dL_restore_10 (by decide) ?_
  refine lv_iconst (v := 0) hx hb dL_restore_29 (by decide) ?_
  cases hf
  exact endw_i hAe hQm hx hb hr hlocks rfl hP hD hS dL_restore_30 (Nat.le_of_ble_eq_true rfl) (Nat.le_of_ble_eq_true rfl)
def f_L_openHold (p1 : Int32) (p2 : Int32) (nF : Int32) (nA : Nat → Int32) (cT : Int32) (cD : Int32) (uO : Int32) (uF : Nat → Int32) (uE : Nat → Int32) (uN : Nat → Int32) (oL : Nat → Int64) : Option (Int32 × Int32 × (Nat → Int32) × (Nat → Int32) × (Nat → Int32) × (Nat → Int64)) :=
  (f_C_openHold p1 p2 nF nA cT cD uO uF uE uN).bind fun (x1, uO_2, uF_3, uE_4, uN_5) =>
  match x1 with
  | .error n7 => if n7 = 3 then some (1, uO_2, uF_3, uE_4, uN_5, oL) else if n7 = 1 then some (2, uO_2, uF_3, uE_4, uN_5, oL) else if n7 = 2 then some (3, uO_2, uF_3, uE_4, uN_5, oL) else none
  | .ok r8 =>
  some (0, uO_2, uF_3, uE_4, uN_5, (vp_updL oL (0 : Int32).toNatClampNeg ((r8).toInt64)))
set_option maxHeartbeats 4000000 in
set_option maxRecDepth 100000 in
theorem m_L_openHold (l : Launch) (hst : l.stackTraces = false) {D : va_G} (ca : Nat → ClassId) (ad : Nat → Nat) (bq : Nat) (oa od : Nat) (nF : Int32) (nO : Nat → Int32) (nL : Nat → Int32) (nA : Nat → Int32) (nC : Nat → Int32) (nV : Nat → Int32) (nU : Nat → Int32) (nP : Nat → Int32) (nE : Int32) (bF : Int32) (bO : Nat → Int32) (bL : Nat → Int32) (bA : Nat → Int32) (bC : Nat → Int32) (bV : Nat → Int32) (bU : Nat → Int32) (bP : Nat → Int32) (bE : Int32) (cT : Int32) (cK : Nat → Int32) (cO : Int32) (cQ : Nat → Int32) (cD : Int32) (pT : Int32) (pK : Int32) (pR : Nat → Int32) (pW : Nat → Int32) (pU : Nat → Int32) (pI : Nat → Int32) (pC : Nat → Nat → Int32) (uO : Int32) (uF : Nat → Int32) (uE : Nat → Int32) (uN : Nat → Int32) (wK : Nat → Int32) (jM : Int32) (jN : Int32) (jZ : Nat) (jB : Nat → Int32) (oL : Nat → Int64) (oD : Nat → UInt64) (R : va_W) (sz : Nat) (p1 : Int32) (p2 : Int32) (ro : Int32) (ouO : Int32) (ouF : Nat → Int32) (ouE : Nat → Int32) (ouN : Nat → Int32) (ooL : Nat → Int64) (hf : f_L_openHold p1 p2 nF nA cT cD uO uF uE uN oL = some (ro, ouO, ouF, ouE, ouN, ooL)) : vx_Met l yL_openHold (wmW yL_openHold cL_openHold 5 (some .int) [(0, 10, 13, 20), (0, 10, 17, 13), (0, 10, 21, 15)]) ({ frames := 8, cells := 4, slots := 24, locals := 135 } : Room) (PREL [.ref (ad 0), .int p1, .int p2, .ref oa] D ca SL0 (WC ca ad bq nF nO nL nA nC nV nU nP nE bF bO bL bA bC bV bU bP bE cT cK cO cQ cD pT pK pR pW pU pI pC uO uF uE uN wK jM jN jZ jB ++ (WO ca oa od oL oD ++ R)) sz) (QI ro D (WC ca ad bq nF nO nL nA nC nV nU nP nE bF bO bL bA bC bV bU bP bE cT cK cO cQ cD pT pK pR pW pU pI pC ouO ouF ouE ouN wK jM jN jZ jB ++ (WO ca oa od ooL oD ++ R)) (WC ca ad bq nF nO nL nA nC nV nU nP nE bF bO bL bA bC bV bU bP bE cT cK cO cQ cD pT pK pR pW pU pI pC uO uF uE uN wK jM jN jZ jB ++ (WO ca oa od oL oD ++ R)) sz) (fun _ _ _ => False) 4 24 (va_A (WC ca ad bq nF nO nL nA nC nV nU nP nE bF bO bL bA bC bV bU bP bE cT cK cO cQ cD pT pK pR pW pU pI pC uO uF uE uN wK jM jN jZ jB ++ (WO ca oa od oL oD ++ R)) sz) := by
  refine vx_ofWH (cc := cL_openHold) (maxL := 5) (ret := (some .int)) (hh := [(0, 10, 13, 20), (0, 10, 17, 13), (0, 10, 21, 15)]) (by decide) rfl ?_
  intro p e s m args below meth c s₁ B hml hv
  obtain ⟨rfl, rfl, hP, hE, hD0, hZ, hNC⟩ := hv
  have hx := B.exec
  have hb := B.bytes
  have hr := B.returns
  have hts0 := atoms_spec (ws := wmW yL_openHold cL_openHold 5 (some .int) [(0, 10, 13, 20), (0, 10, 17, 13), (0, 10, 21, 15)]) B.pre
  have hts := wmW_ww hts0
  have htab := vx_table (x := yL_openHold) B (hts0 _ List.mem_cons_self)
  have hown : s.vm.findClass RL = some m.cls := findClass_of_methodNamed B.named
  have hlocks := B.notSynchronized
  have hK := hE.1
  have hD := hD0.self (sz := s.heap.size)
  generalize hAe : va_A (WC ca ad bq nF nO nL nA nC nV nU nP nE bF bO bL bA bC bV bU bP bE cT cK cO cQ cD pT pK pR pW pU pI pC uO uF uE uN wK jM jN jZ jB ++ (WO ca oa od oL oD ++ R)) s.heap.size = A at hD hZ ⊢
  have hA : ∀ q : Nat, s.heap.size ≤ q → A q := fun q h => by rw [← hAe]; exact Or.inr h
  have hS : va_S A s.heap s.heap [] := va_S.rf
  have hl := lv_entry ([.ref (ad 0), .int p1, .int p2, .ref oa]) (n := 5) (Nat.le_of_ble_eq_true rfl)
  rw [lg_entry_eq]
  generalize (lg_sl ([.ref (ad 0), .int p1, .int p2, .ref oa]) ++ List.replicate (5 - (lg_sl ([.ref (ad 0), .int p1, .int p2, .ref oa])).length) Slot.unset).toArray = ls at hl ⊢
  have hl : lv_has ls 5 [(0, .ref (ad 0)), (1, .int p1), (2, .int p2), (3, .ref oa)] := hl
  change W p l e ({ frames := 8, cells := 4, slots := 24, locals := 135 } : Room) s m _ below meth c s.heap [] 0 0 _ _
  generalize hQm : vx_MQ below (QI ro D (WC ca ad bq nF nO nL nA nC nV nU nP nE bF bO bL bA bC bV bU bP bE cT cK cO cQ cD pT pK pR pW pU pI pC ouO ouF ouE ouN wK jM jN jZ jB ++ (WO ca oa od ooL oD ++ R)) (WC ca ad bq nF nO nL nA nC nV nU nP nE bF bO bL bA bC bV bU bP bE cT cK cO cQ cD pT pK pR pW pU pI pC uO uF uE uN wK jM jN jZ jB ++ (WO ca oa od oL oD ++ R)) s.heap.size) (fun _ _ _ => False) _ s 4 24 A = Qm
  have hP : va_P D vwCl (WC ca ad bq nF nO nL nA nC nV nU nP nE bF bO bL bA bC bV bU bP bE cT cK cO cQ cD pT pK pR pW pU pI pC uO uF uE uN wK jM jN jZ jB ++ (WO ca oa od oL oD ++ R)) s.heap := hP
  generalize hae : ([.ref (ad 0), .int p1, .int p2, .ref oa] : List Value).toArray = args at hts hQm ⊢
  refine lv_aload_n hx hb dL_openHold_0 rfl (lv_at hl 3 rfl) ?_
  refine lv_iconst (v := 0) hx hb dL_openHold_1 (by decide) ?_
  refine lv_aload_n hx hb dL_openHold_2 rfl (lv_at hl 0 rfl) ?_
  refine lv_iload_n hx hb dL_openHold_3 rfl (lv_at hl 1 rfl) ?_
  refine lv_iload_n hx hb dL_openHold_4 rfl (lv_at hl 2 rfl) ?_
  obtain ⟨⟨x1, uO_2, uF_3, uE_4, uN_5⟩, h6, hf⟩ := bnd hf
  rcases x1 with n7 | r8
  · have hf : (if n7 = 3 then some (1, uO_2, uF_3, uE_4, uN_5, oL) else if n7 = 1 then some (2, uO_2, uF_3, uE_4, uN_5, oL) else if n7 = 2 then some (3, uO_2, uF_3, uE_4, uN_5, oL) else none) = some (ro, ouO, ouF, ouE, ouN, ooL) := hf
    by_cases c9 : n7 = 3
    · subst c9
      have hf := br_pos rfl hf
      refine cw_vi_err (rest := [.int 0, .ref oa]) (m_C_openHold l hst ca ad bq nF nO nL nA nC nV nU nP nE bF bO bL bA bC bV bU bP bE cT cK cO cQ cD pT pK pR pW pU pI pC uO uF uE uN wK jM jN jZ jB (WO ca oa od oL oD ++ R) _ p1 p2 (.error 3) uO_2 uF_3 uE_4 uN_5 h6) ⟨hx, hb, hml, hown, hts⟩ (cwV 2 hts (gV q890 q891 q892 q41 q893) rfl rfl rfl (by decide +kernel) ⟨Nat.le_of_ble_eq_true rfl, Nat.le_of_ble_eq_true rfl⟩) (va_recv hK hP (ci := 7) (q0 := 0) rfl rfl) hE hP hD hS hA hZ rfl hl.1 rfl (lv_room (Nat.le_of_ble_eq_true rfl)) dL_openHold_5 ⟨Nat.le_of_ble_eq_true rfl, Nat.le_of_ble_eq_true rfl⟩ (fun H locs q9 ce hP hD hS hce hv9 hcl => ?_)
      refine vx_catch (E := "java/lang/IndexOutOfBoundsException") hown [] ⟨0, 10, 13, 20⟩ [⟨0, 10, 17, 13⟩, ⟨0, 10, 21, 15⟩] htab (fun _ h => absurd h List.not_mem_nil) (by decide) (by decide) (hts _ q458) (va_Nw.use rfl (hE.2.1 _ n492)) hce hv9 hcl ?_
      refine lv_astore (lv' := [(4, .ref q9), (0, .ref (ad 0)), (1, .int p1), (2, .int p2), (3, .ref oa)]) hx hb dL_openHold_13 hl (by decide) rfl (fun ls hl => ?_)
      refine lv_iconst (v := 1) hx hb dL_openHold_15 (by decide) ?_
      cases hf
      exact endw_i hAe hQm hx hb hr hlocks rfl hP hD hS dL_openHold_16 (Nat.le_of_ble_eq_true rfl) (Nat.le_of_ble_eq_true rfl)
    have hf := br_neg c9 hf
    by_cases c10 : n7 = 1
    · subst c10
      have hf := br_pos rfl hf
      refine cw_vi_err (rest := [.int 0, .ref oa]) (m_C_openHold l hst ca ad bq nF nO nL nA nC nV nU nP nE bF bO bL bA bC bV bU bP bE cT cK cO cQ cD pT pK pR pW pU pI pC uO uF uE uN wK jM jN jZ jB (WO ca oa od oL oD ++ R) _ p1 p2 (.error 1) uO_2 uF_3 uE_4 uN_5 h6) ⟨hx, hb, hml, hown, hts⟩ (cwV 2 hts (gV q890 q891 q892 q41 q893) rfl rfl rfl (by decide +kernel) ⟨Nat.le_of_ble_eq_true rfl, Nat.le_of_ble_eq_true rfl⟩) (va_recv hK hP (ci := 7) (q0 := 0) rfl rfl) hE hP hD hS hA hZ rfl hl.1 rfl (lv_room (Nat.le_of_ble_eq_true rfl)) dL_openHold_5 ⟨Nat.le_of_ble_eq_true rfl, Nat.le_of_ble_eq_true rfl⟩ (fun H locs q9 ce hP hD hS hce hv9 hcl => ?_)
      refine vx_catch (E := "java/lang/IllegalArgumentException") hown [⟨0, 10, 13, 20⟩] ⟨0, 10, 17, 13⟩ [⟨0, 10, 21, 15⟩] htab (List.forall_mem_cons.mpr ⟨Or.inr ⟨by decide, _, hts _ q458, hNC _ nc_1_3⟩, fun _ h => absurd h List.not_mem_nil⟩) (by decide) (by decide) (hts _ q352) (va_Nw.use rfl (hE.2.1 _ n364)) hce hv9 hcl ?_
      refine lv_astore (lv' := [(4, .ref q9), (0, .ref (ad 0)), (1, .int p1), (2, .int p2), (3, .ref oa)]) hx hb dL_openHold_17 hl (by decide) rfl (fun ls hl => ?_)
      refine lv_iconst (v := 2) hx hb dL_openHold_19 (by decide) ?_
      cases hf
      exact endw_i hAe hQm hx hb hr hlocks rfl hP hD hS dL_openHold_20 (Nat.le_of_ble_eq_true rfl) (Nat.le_of_ble_eq_true rfl)
    have hf := br_neg c10 hf
    by_cases c11 : n7 = 2
    · subst c11
      have hf := br_pos rfl hf
      refine cw_vi_err (rest := [.int 0, .ref oa]) (m_C_openHold l hst ca ad bq nF nO nL nA nC nV nU nP nE bF bO bL bA bC bV bU bP bE cT cK cO cQ cD pT pK pR pW pU pI pC uO uF uE uN wK jM jN jZ jB (WO ca oa od oL oD ++ R) _ p1 p2 (.error 2) uO_2 uF_3 uE_4 uN_5 h6) ⟨hx, hb, hml, hown, hts⟩ (cwV 2 hts (gV q890 q891 q892 q41 q893) rfl rfl rfl (by decide +kernel) ⟨Nat.le_of_ble_eq_true rfl, Nat.le_of_ble_eq_true rfl⟩) (va_recv hK hP (ci := 7) (q0 := 0) rfl rfl) hE hP hD hS hA hZ rfl hl.1 rfl (lv_room (Nat.le_of_ble_eq_true rfl)) dL_openHold_5 ⟨Nat.le_of_ble_eq_true rfl, Nat.le_of_ble_eq_true rfl⟩ (fun H locs q9 ce hP hD hS hce hv9 hcl => ?_)
      refine vx_catch (E := "java/lang/IllegalStateException") hown [⟨0, 10, 13, 20⟩, ⟨0, 10, 17, 13⟩] ⟨0, 10, 21, 15⟩ [] htab (List.forall_mem_cons.mpr ⟨Or.inr ⟨by decide, _, hts _ q458, hNC _ nc_2_3⟩, List.forall_mem_cons.mpr ⟨Or.inr ⟨by decide, _, hts _ q352, hNC _ nc_2_1⟩, fun _ h => absurd h List.not_mem_nil⟩⟩) (by decide) (by decide) (hts _ q353) (va_Nw.use rfl (hE.2.1 _ n440)) hce hv9 hcl ?_
      refine lv_astore (lv' := [(4, .ref q9), (0, .ref (ad 0)), (1, .int p1), (2, .int p2), (3, .ref oa)]) hx hb dL_openHold_21 hl (by decide) rfl (fun ls hl => ?_)
      refine lv_iconst (v := 3) hx hb dL_openHold_23 (by decide) ?_
      cases hf
      exact endw_i hAe hQm hx hb hr hlocks rfl hP hD hS dL_openHold_24 (Nat.le_of_ble_eq_true rfl) (Nat.le_of_ble_eq_true rfl)
    have hf := br_neg c11 hf
    cases hf
  refine cw_vi_ok (rest := [.int 0, .ref oa]) (m_C_openHold l hst ca ad bq nF nO nL nA nC nV nU nP nE bF bO bL bA bC bV bU bP bE cT cK cO cQ cD pT pK pR pW pU pI pC uO uF uE uN wK jM jN jZ jB (WO ca oa od oL oD ++ R) _ p1 p2 (.ok r8) uO_2 uF_3 uE_4 uN_5 h6) ⟨hx, hb, hml, hown, hts⟩ (cwV 2 hts (gV q890 q891 q892 q41 q893) rfl rfl rfl (by decide +kernel) ⟨Nat.le_of_ble_eq_true rfl, Nat.le_of_ble_eq_true rfl⟩) (va_recv hK hP (ci := 7) (q0 := 0) rfl rfl) hE hP hD hS hA hZ rfl hl.1 rfl (lv_room (Nat.le_of_ble_eq_true rfl)) dL_openHold_5 ⟨Nat.le_of_ble_eq_true rfl, Nat.le_of_ble_eq_true rfl⟩ (fun H locs hP hD hS => ?_)
  refine lv_i2l hx hb dL_openHold_8 rfl ?_
  refine va_last (D := D) hx hb hK hP hD hS 40 5 rfl rfl (by unfold vp_in; decide) dL_openHold_9 (fun H locs hP hD hS => ?_)
  have hP : va_P D vwCl (WC ca ad bq nF nO nL nA nC nV nU nP nE bF bO bL bA bC bV bU bP bE cT cK cO cQ cD pT pK pR pW pU pI pC uO_2 uF_3 uE_4 uN_5 wK jM jN jZ jB ++ (WO ca oa od (vp_updL oL (0 : Int32).toNatClampNeg ((r8).toInt64)) oD ++ R)) H := hP
  have hD : va_D A (WC ca ad bq nF nO nL nA nC nV nU nP nE bF bO bL bA bC bV bU bP bE cT cK cO cQ cD pT pK pR pW pU pI pC uO_2 uF_3 uE_4 uN_5 wK jM jN jZ jB ++ (WO ca oa od (vp_updL oL (0 : Int32).toNatClampNeg ((r8).toInt64)) oD ++ R)) := hD
  refine lv_goto (tgt := 25) hx hb dL_openHold_10 (by decide) ?_
  refine lv_iconst (v := 0) hx hb dL_openHold_25 (by decide) ?_
  cases hf
  exact endw_i hAe hQm hx hb hr hlocks rfl hP hD hS dL_openHold_26 (Nat.le_of_ble_eq_true rfl) (Nat.le_of_ble_eq_true rfl)
def f_L_release (p1 : Int32) (nF : Int32) (nL : Nat → Int32) (nA : Nat → Int32) (nC : Nat → Int32) (nU : Nat → Int32) (cT : Int32) (uO : Int32) (uF : Nat → Int32) (uN : Nat → Int32) (oL : Nat → Int64) : Option (Int32 × (Nat → Int32) × (Nat → Int32) × (Nat → Int32) × (Nat → Int32) × (Nat → Int64)) :=
  (f_C_release p1 nF nL nA nC nU cT uO uF uN).bind fun (x1, nA_2, nC_3, nU_4, uN_5) =>
  match x1 with
  | .error n7 => if n7 = 3 then some (1, nA_2, nC_3, nU_4, uN_5, oL) else if n7 = 2 then some (2, nA_2, nC_3, nU_4, uN_5, oL) else none
  | .ok r8 =>
  some (0, nA_2, nC_3, nU_4, uN_5, (vp_updL oL (0 : Int32).toNatClampNeg ((r8).toInt64)))
set_option maxHeartbeats 4000000 in
set_option maxRecDepth 100000 in
theorem m_L_release (l : Launch) (hst : l.stackTraces = false) {D : va_G} (ca : Nat → ClassId) (ad : Nat → Nat) (bq : Nat) (oa od : Nat) (nF : Int32) (nO : Nat → Int32) (nL : Nat → Int32) (nA : Nat → Int32) (nC : Nat → Int32) (nV : Nat → Int32) (nU : Nat → Int32) (nP : Nat → Int32) (nE : Int32) (bF : Int32) (bO : Nat → Int32) (bL : Nat → Int32) (bA : Nat → Int32) (bC : Nat → Int32) (bV : Nat → Int32) (bU : Nat → Int32) (bP : Nat → Int32) (bE : Int32) (cT : Int32) (cK : Nat → Int32) (cO : Int32) (cQ : Nat → Int32) (cD : Int32) (pT : Int32) (pK : Int32) (pR : Nat → Int32) (pW : Nat → Int32) (pU : Nat → Int32) (pI : Nat → Int32) (pC : Nat → Nat → Int32) (uO : Int32) (uF : Nat → Int32) (uE : Nat → Int32) (uN : Nat → Int32) (wK : Nat → Int32) (jM : Int32) (jN : Int32) (jZ : Nat) (jB : Nat → Int32) (oL : Nat → Int64) (oD : Nat → UInt64) (R : va_W) (sz : Nat) (p1 : Int32) (ro : Int32) (onA : Nat → Int32) (onC : Nat → Int32) (onU : Nat → Int32) (ouN : Nat → Int32) (ooL : Nat → Int64) (hf : f_L_release p1 nF nL nA nC nU cT uO uF uN oL = some (ro, onA, onC, onU, ouN, ooL)) : vx_Met l yL_release (wmW yL_release cL_release 4 (some .int) [(0, 9, 12, 20), (0, 9, 15, 15)]) ({ frames := 8, cells := 3, slots := 18, locals := 150 } : Room) (PREL [.ref (ad 0), .int p1, .ref oa] D ca SL0 (WC ca ad bq nF nO nL nA nC nV nU nP nE bF bO bL bA bC bV bU bP bE cT cK cO cQ cD pT pK pR pW pU pI pC uO uF uE uN wK jM jN jZ jB ++ (WO ca oa od oL oD ++ R)) sz) (QI ro D (WC ca ad bq nF nO nL onA onC nV onU nP nE bF bO bL bA bC bV bU bP bE cT cK cO cQ cD pT pK pR pW pU pI pC uO uF uE ouN wK jM jN jZ jB ++ (WO ca oa od ooL oD ++ R)) (WC ca ad bq nF nO nL nA nC nV nU nP nE bF bO bL bA bC bV bU bP bE cT cK cO cQ cD pT pK pR pW pU pI pC uO uF uE uN wK jM jN jZ jB ++ (WO ca oa od oL oD ++ R)) sz) (fun _ _ _ => False) 3 18 (va_A (WC ca ad bq nF nO nL nA nC nV nU nP nE bF bO bL bA bC bV bU bP bE cT cK cO cQ cD pT pK pR pW pU pI pC uO uF uE uN wK jM jN jZ jB ++ (WO ca oa od oL oD ++ R)) sz) := by
  refine vx_ofWH (cc := cL_release) (maxL := 4) (ret := (some .int)) (hh := [(0, 9, 12, 20), (0, 9, 15, 15)]) (by decide) rfl ?_
  intro p e s m args below meth c s₁ B hml hv
  obtain ⟨rfl, rfl, hP, hE, hD0, hZ, hNC⟩ := hv
  have hx := B.exec
  have hb := B.bytes
  have hr := B.returns
  have hts0 := atoms_spec (ws := wmW yL_release cL_release 4 (some .int) [(0, 9, 12, 20), (0, 9, 15, 15)]) B.pre
  have hts := wmW_ww hts0
  have htab := vx_table (x := yL_release) B (hts0 _ List.mem_cons_self)
  have hown : s.vm.findClass RL = some m.cls := findClass_of_methodNamed B.named
  have hlocks := B.notSynchronized
  have hK := hE.1
  have hD := hD0.self (sz := s.heap.size)
  generalize hAe : va_A (WC ca ad bq nF nO nL nA nC nV nU nP nE bF bO bL bA bC bV bU bP bE cT cK cO cQ cD pT pK pR pW pU pI pC uO uF uE uN wK jM jN jZ jB ++ (WO ca oa od oL oD ++ R)) s.heap.size = A at hD hZ ⊢
  have hA : ∀ q : Nat, s.heap.size ≤ q → A q := fun q h => by rw [← hAe]; exact Or.inr h
  have hS : va_S A s.heap s.heap [] := va_S.rf
  have hl := lv_entry ([.ref (ad 0), .int p1, .ref oa]) (n := 4) (Nat.le_of_ble_eq_true rfl)
  rw [lg_entry_eq]
  generalize (lg_sl ([.ref (ad 0), .int p1, .ref oa]) ++ List.replicate (4 - (lg_sl ([.ref (ad 0), .int p1, .ref oa])).length) Slot.unset).toArray = ls at hl ⊢
  have hl : lv_has ls 4 [(0, .ref (ad 0)), (1, .int p1), (2, .ref oa)] := hl
  change W p l e ({ frames := 8, cells := 3, slots := 18, locals := 150 } : Room) s m _ below meth c s.heap [] 0 0 _ _
  generalize hQm : vx_MQ below (QI ro D (WC ca ad bq nF nO nL onA onC nV onU nP nE bF bO bL bA bC bV bU bP bE cT cK cO cQ cD pT pK pR pW pU pI pC uO uF uE ouN wK jM jN jZ jB ++ (WO ca oa od ooL oD ++ R)) (WC ca ad bq nF nO nL nA nC nV nU nP nE bF bO bL bA bC bV bU bP bE cT cK cO cQ cD pT pK pR pW pU pI pC uO uF uE uN wK jM jN jZ jB ++ (WO ca oa od oL oD ++ R)) s.heap.size) (fun _ _ _ => False) _ s 3 18 A = Qm
  have hP : va_P D vwCl (WC ca ad bq nF nO nL nA nC nV nU nP nE bF bO bL bA bC bV bU bP bE cT cK cO cQ cD pT pK pR pW pU pI pC uO uF uE uN wK jM jN jZ jB ++ (WO ca oa od oL oD ++ R)) s.heap := hP
  generalize hae : ([.ref (ad 0), .int p1, .ref oa] : List Value).toArray = args at hts hQm ⊢
  refine lv_aload_n hx hb dL_release_0 rfl (lv_at hl 2 rfl) ?_
  refine lv_iconst (v := 0) hx hb dL_release_1 (by decide) ?_
  refine lv_aload_n hx hb dL_release_2 rfl (lv_at hl 0 rfl) ?_
  refine lv_iload_n hx hb dL_release_3 rfl (lv_at hl 1 rfl) ?_
  obtain ⟨⟨x1, nA_2, nC_3, nU_4, uN_5⟩, h6, hf⟩ := bnd hf
  rcases x1 with n7 | r8
  · have hf : (if n7 = 3 then some (1, nA_2, nC_3, nU_4, uN_5, oL) else if n7 = 2 then some (2, nA_2, nC_3, nU_4, uN_5, oL) else none) = some (ro, onA, onC, onU, ouN, ooL) := hf
    by_cases c9 : n7 = 3
    · subst c9
      have hf := br_pos rfl hf
      refine cw_vi_err (rest := [.int 0, .ref oa]) (m_C_release l hst ca ad bq nF nO nL nA nC nV nU nP nE bF bO bL bA bC bV bU bP bE cT cK cO cQ cD pT pK pR pW pU pI pC uO uF uE uN wK jM jN jZ jB (WO ca oa od oL oD ++ R) _ p1 (.error 3) nA_2 nC_3 nU_4 uN_5 h6) ⟨hx, hb, hml, hown, hts⟩ (cwV 1 hts (gV q907 q908 q909 q41 q910) rfl rfl rfl (by decide +kernel) ⟨Nat.le_of_ble_eq_true rfl, Nat.le_of_ble_eq_true rfl⟩) (va_recv hK hP (ci := 7) (q0 := 0) rfl rfl) hE hP hD hS hA hZ rfl hl.1 rfl (lv_room (Nat.le_of_ble_eq_true rfl)) dL_release_4 ⟨Nat.le_of_ble_eq_true rfl, Nat.le_of_ble_eq_true rfl⟩ (fun H locs q9 ce hP hD hS hce hv9 hcl => ?_)
      refine vx_catch (E := "java/lang/IndexOutOfBoundsException") hown [] ⟨0, 9, 12, 20⟩ [⟨0, 9, 15, 15⟩] htab (fun _ h => absurd h List.not_mem_nil) (by decide) (by decide) (hts _ q458) (va_Nw.use rfl (hE.2.1 _ n492)) hce hv9 hcl ?_
      refine lv_astore_n (lv' := [(3, .ref q9), (0, .ref (ad 0)), (1, .int p1), (2, .ref oa)]) hx hb dL_release_12 rfl hl (by decide) rfl (fun ls hl => ?_)
      refine lv_iconst (v := 1) hx hb dL_release_13 (by decide) ?_
      cases hf
      exact endw_i hAe hQm hx hb hr hlocks rfl hP hD hS dL_release_14 (Nat.le_of_ble_eq_true rfl) (Nat.le_of_ble_eq_true rfl)
    have hf := br_neg c9 hf
    by_cases c10 : n7 = 2
    · subst c10
      have hf := br_pos rfl hf
      refine cw_vi_err (rest := [.int 0, .ref oa]) (m_C_release l hst ca ad bq nF nO nL nA nC nV nU nP nE bF bO bL bA bC bV bU bP bE cT cK cO cQ cD pT pK pR pW pU pI pC uO uF uE uN wK jM jN jZ jB (WO ca oa od oL oD ++ R) _ p1 (.error 2) nA_2 nC_3 nU_4 uN_5 h6) ⟨hx, hb, hml, hown, hts⟩ (cwV 1 hts (gV q907 q908 q909 q41 q910) rfl rfl rfl (by decide +kernel) ⟨Nat.le_of_ble_eq_true rfl, Nat.le_of_ble_eq_true rfl⟩) (va_recv hK hP (ci := 7) (q0 := 0) rfl rfl) hE hP hD hS hA hZ rfl hl.1 rfl (lv_room (Nat.le_of_ble_eq_true rfl)) dL_release_4 ⟨Nat.le_of_ble_eq_true rfl, Nat.le_of_ble_eq_true rfl⟩ (fun H locs q9 ce hP hD hS hce hv9 hcl => ?_)
      refine vx_catch (E := "java/lang/IllegalStateException") hown [⟨0, 9, 12, 20⟩] ⟨0, 9, 15, 15⟩ [] htab (List.forall_mem_cons.mpr ⟨Or.inr ⟨by decide, _, hts _ q458, hNC _ nc_2_3⟩, fun _ h => absurd h List.not_mem_nil⟩) (by decide) (by decide) (hts _ q353) (va_Nw.use rfl (hE.2.1 _ n440)) hce hv9 hcl ?_
      refine lv_astore_n (lv' := [(3, .ref q9), (0, .ref (ad 0)), (1, .int p1), (2, .ref oa)]) hx hb dL_release_15 rfl hl (by decide) rfl (fun ls hl => ?_)
      refine lv_iconst (v := 2) hx hb dL_release_16 (by decide) ?_
      cases hf
      exact endw_i hAe hQm hx hb hr hlocks rfl hP hD hS dL_release_17 (Nat.le_of_ble_eq_true rfl) (Nat.le_of_ble_eq_true rfl)
    have hf := br_neg c10 hf
    cases hf
  refine cw_vi_ok (rest := [.int 0, .ref oa]) (m_C_release l hst ca ad bq nF nO nL nA nC nV nU nP nE bF bO bL bA bC bV bU bP bE cT cK cO cQ cD pT pK pR pW pU pI pC uO uF uE uN wK jM jN jZ jB (WO ca oa od oL oD ++ R) _ p1 (.ok r8) nA_2 nC_3 nU_4 uN_5 h6) ⟨hx, hb, hml, hown, hts⟩ (cwV 1 hts (gV q907 q908 q909 q41 q910) rfl rfl rfl (by decide +kernel) ⟨Nat.le_of_ble_eq_true rfl, Nat.le_of_ble_eq_true rfl⟩) (va_recv hK hP (ci := 7) (q0 := 0) rfl rfl) hE hP hD hS hA hZ rfl hl.1 rfl (lv_room (Nat.le_of_ble_eq_true rfl)) dL_release_4 ⟨Nat.le_of_ble_eq_true rfl, Nat.le_of_ble_eq_true rfl⟩ (fun H locs hP hD hS => ?_)
  refine lv_i2l hx hb dL_release_7 rfl ?_
  refine va_last (D := D) hx hb hK hP hD hS 40 5 rfl rfl (by unfold vp_in; decide) dL_release_8 (fun H locs hP hD hS => ?_)
  have hP : va_P D vwCl (WC ca ad bq nF nO nL nA_2 nC_3 nV nU_4 nP nE bF bO bL bA bC bV bU bP bE cT cK cO cQ cD pT pK pR pW pU pI pC uO uF uE uN_5 wK jM jN jZ jB ++ (WO ca oa od (vp_updL oL (0 : Int32).toNatClampNeg ((r8).toInt64)) oD ++ R)) H := hP
  have hD : va_D A (WC ca ad bq nF nO nL nA_2 nC_3 nV nU_4 nP nE bF bO bL bA bC bV bU bP bE cT cK cO cQ cD pT pK pR pW pU pI pC uO uF uE uN_5 wK jM jN jZ jB ++ (WO ca oa od (vp_updL oL (0 : Int32).toNatClampNeg ((r8).toInt64)) oD ++ R)) := hD
  refine lv_goto (tgt := 18) hx hb dL_release_9 (by decide) ?_
  refine lv_iconst (v := 0) hx hb dL_release_18 (by decide) ?_
  cases hf
  exact endw_i hAe hQm hx hb hr hlocks rfl hP hD hS dL_release_19 (Nat.le_of_ble_eq_true rfl) (Nat.le_of_ble_eq_true rfl)
def f_L_isOpen (p1 : Int32) (uO : Int32) (uN : Nat → Int32) (oL : Nat → Int64) : Option (Int32 × (Nat → Int64)) :=
  (f_C_isOpen p1 uO uN).bind fun x1 =>
  match x1 with
  | .error n3 => if n3 = 3 then some (1, oL) else none
  | .ok r4 =>
  if r4 = 0 then
    some (0, (vp_updL oL (0 : Int32).toNatClampNeg 0))
  else
    some (0, (vp_updL oL (0 : Int32).toNatClampNeg 1))
set_option maxHeartbeats 4000000 in
set_option maxRecDepth 100000 in
theorem m_L_isOpen (l : Launch) (hst : l.stackTraces = false) {D : va_G} (ca : Nat → ClassId) (ad : Nat → Nat) (bq : Nat) (oa od : Nat) (nF : Int32) (nO : Nat → Int32) (nL : Nat → Int32) (nA : Nat → Int32) (nC : Nat → Int32) (nV : Nat → Int32) (nU : Nat → Int32) (nP : Nat → Int32) (nE : Int32) (bF : Int32) (bO : Nat → Int32) (bL : Nat → Int32) (bA : Nat → Int32) (bC : Nat → Int32) (bV : Nat → Int32) (bU : Nat → Int32) (bP : Nat → Int32) (bE : Int32) (cT : Int32) (cK : Nat → Int32) (cO : Int32) (cQ : Nat → Int32) (cD : Int32) (pT : Int32) (pK : Int32) (pR : Nat → Int32) (pW : Nat → Int32) (pU : Nat → Int32) (pI : Nat → Int32) (pC : Nat → Nat → Int32) (uO : Int32) (uF : Nat → Int32) (uE : Nat → Int32) (uN : Nat → Int32) (wK : Nat → Int32) (jM : Int32) (jN : Int32) (jZ : Nat) (jB : Nat → Int32) (oL : Nat → Int64) (oD : Nat → UInt64) (R : va_W) (sz : Nat) (p1 : Int32) (ro : Int32) (ooL : Nat → Int64) (hf : f_L_isOpen p1 uO uN oL = some (ro, ooL)) : vx_Met l yL_isOpen (wmW yL_isOpen cL_isOpen 4 (some .int) [(0, 16, 19, 20)]) ({ frames := 8, cells := 1, slots := 6, locals := 132 } : Room) (PREL [.ref (ad 0), .int p1, .ref oa] D ca SL0 (WC ca ad bq nF nO nL nA nC nV nU nP nE bF bO bL bA bC bV bU bP bE cT cK cO cQ cD pT pK pR pW pU pI pC uO uF uE uN wK jM jN jZ jB ++ (WO ca oa od oL oD ++ R)) sz) (QI ro D (WC ca ad bq nF nO nL nA nC nV nU nP nE bF bO bL bA bC bV bU bP bE cT cK cO cQ cD pT pK pR pW pU pI pC uO uF uE uN wK jM jN jZ jB ++ (WO ca oa od ooL oD ++ R)) (WC ca ad bq nF nO nL nA nC nV nU nP nE bF bO bL bA bC bV bU bP bE cT cK cO cQ cD pT pK pR pW pU pI pC uO uF uE uN wK jM jN jZ jB ++ (WO ca oa od oL oD ++ R)) sz) (fun _ _ _ => False) 1 6 (va_A (WC ca ad bq nF nO nL nA nC nV nU nP nE bF bO bL bA bC bV bU bP bE cT cK cO cQ cD pT pK pR pW pU pI pC uO uF uE uN wK jM jN jZ jB ++ (WO ca oa od oL oD ++ R)) sz) := by
  refine vx_ofWH (cc := cL_isOpen) (maxL := 4) (ret := (some .int)) (hh := [(0, 16, 19, 20)]) (by decide) rfl ?_
  intro p e s m args below meth c s₁ B hml hv
  obtain ⟨rfl, rfl, hP, hE, hD0, hZ, hNC⟩ := hv
  have hx := B.exec
  have hb := B.bytes
  have hr := B.returns
  have hts0 := atoms_spec (ws := wmW yL_isOpen cL_isOpen 4 (some .int) [(0, 16, 19, 20)]) B.pre
  have hts := wmW_ww hts0
  have htab := vx_table (x := yL_isOpen) B (hts0 _ List.mem_cons_self)
  have hown : s.vm.findClass RL = some m.cls := findClass_of_methodNamed B.named
  have hlocks := B.notSynchronized
  have hK := hE.1
  have hD := hD0.self (sz := s.heap.size)
  generalize hAe : va_A (WC ca ad bq nF nO nL nA nC nV nU nP nE bF bO bL bA bC bV bU bP bE cT cK cO cQ cD pT pK pR pW pU pI pC uO uF uE uN wK jM jN jZ jB ++ (WO ca oa od oL oD ++ R)) s.heap.size = A at hD hZ ⊢
  have hA : ∀ q : Nat, s.heap.size ≤ q → A q := fun q h => by rw [← hAe]; exact Or.inr h
  have hS : va_S A s.heap s.heap [] := va_S.rf
  have hl := lv_entry ([.ref (ad 0), .int p1, .ref oa]) (n := 4) (Nat.le_of_ble_eq_true rfl)
  rw [lg_entry_eq]
  generalize (lg_sl ([.ref (ad 0), .int p1, .ref oa]) ++ List.replicate (4 - (lg_sl ([.ref (ad 0), .int p1, .ref oa])).length) Slot.unset).toArray = ls at hl ⊢
  have hl : lv_has ls 4 [(0, .ref (ad 0)), (1, .int p1), (2, .ref oa)] := hl
  change W p l e ({ frames := 8, cells := 1, slots := 6, locals := 132 } : Room) s m _ below meth c s.heap [] 0 0 _ _
  generalize hQm : vx_MQ below (QI ro D (WC ca ad bq nF nO nL nA nC nV nU nP nE bF bO bL bA bC bV bU bP bE cT cK cO cQ cD pT pK pR pW pU pI pC uO uF uE uN wK jM jN jZ jB ++ (WO ca oa od ooL oD ++ R)) (WC ca ad bq nF nO nL nA nC nV nU nP nE bF bO bL bA bC bV bU bP bE cT cK cO cQ cD pT pK pR pW pU pI pC uO uF uE uN wK jM jN jZ jB ++ (WO ca oa od oL oD ++ R)) s.heap.size) (fun _ _ _ => False) _ s 1 6 A = Qm
  have hP : va_P D vwCl (WC ca ad bq nF nO nL nA nC nV nU nP nE bF bO bL bA bC bV bU bP bE cT cK cO cQ cD pT pK pR pW pU pI pC uO uF uE uN wK jM jN jZ jB ++ (WO ca oa od oL oD ++ R)) s.heap := hP
  generalize hae : ([.ref (ad 0), .int p1, .ref oa] : List Value).toArray = args at hts hQm ⊢
  refine lv_aload_n hx hb dL_isOpen_0 rfl (lv_at hl 2 rfl) ?_
  refine lv_iconst (v := 0) hx hb dL_isOpen_1 (by decide) ?_
  refine lv_aload_n hx hb dL_isOpen_2 rfl (lv_at hl 0 rfl) ?_
  refine lv_iload_n hx hb dL_isOpen_3 rfl (lv_at hl 1 rfl) ?_
  obtain ⟨x1, h2, hf⟩ := bnd hf
  rcases x1 with n3 | r4
  · have hf : (if n3 = 3 then some (1, oL) else none) = some (ro, ooL) := hf
    by_cases c5 : n3 = 3
    · subst c5
      have hf := br_pos rfl hf
      refine cw_vi_err (rest := [.int 0, .ref oa]) (m_C_isOpen l hst ca ad bq nF nO nL nA nC nV nU nP nE bF bO bL bA bC bV bU bP bE cT cK cO cQ cD pT pK pR pW pU pI pC uO uF uE uN wK jM jN jZ jB (WO ca oa od oL oD ++ R) _ p1 (.error 3) h2) ⟨hx, hb, hml, hown, hts⟩ (cwV 1 hts (gV q929 q930 q931 q41 q932) rfl rfl rfl (by decide +kernel) ⟨Nat.le_of_ble_eq_true rfl, Nat.le_of_ble_eq_true rfl⟩) (va_recv hK hP (ci := 7) (q0 := 0) rfl rfl) hE hP hD hS hA hZ rfl hl.1 rfl (lv_room (Nat.le_of_ble_eq_true rfl)) dL_isOpen_4 ⟨Nat.le_of_ble_eq_true rfl, Nat.le_of_ble_eq_true rfl⟩ (fun H locs q9 ce hP hD hS hce hv9 hcl => ?_)
      refine vx_catch (E := "java/lang/IndexOutOfBoundsException") hown [] ⟨0, 16, 19, 20⟩ [] htab (fun _ h => absurd h List.not_mem_nil) (by decide) (by decide) (hts _ q458) (va_Nw.use rfl (hE.2.1 _ n492)) hce hv9 hcl ?_
      refine lv_astore_n (lv' := [(3, .ref q9), (0, .ref (ad 0)), (1, .int p1), (2, .ref oa)]) hx hb dL_isOpen_19 rfl hl (by decide) rfl (fun ls hl => ?_)
      refine lv_iconst (v := 1) hx hb dL_isOpen_20 (by decide) ?_
      cases hf
      exact endw_i hAe hQm hx hb hr hlocks rfl hP hD hS dL_isOpen_21 (Nat.le_of_ble_eq_true rfl) (Nat.le_of_ble_eq_true rfl)
    have hf := br_neg c5 hf
    cases hf
  refine cw_vi_ok (rest := [.int 0, .ref oa]) (m_C_isOpen l hst ca ad bq nF nO nL nA nC nV nU nP nE bF bO bL bA bC bV bU bP bE cT cK cO cQ cD pT pK pR pW pU pI pC uO uF uE uN wK jM jN jZ jB (WO ca oa od oL oD ++ R) _ p1 (.ok r4) h2) ⟨hx, hb, hml, hown, hts⟩ (cwV 1 hts (gV q929 q930 q931 q41 q932) rfl rfl rfl (by decide +kernel) ⟨Nat.le_of_ble_eq_true rfl, Nat.le_of_ble_eq_true rfl⟩) (va_recv hK hP (ci := 7) (q0 := 0) rfl rfl) hE hP hD hS hA hZ rfl hl.1 rfl (lv_room (Nat.le_of_ble_eq_true rfl)) dL_isOpen_4 ⟨Nat.le_of_ble_eq_true rfl, Nat.le_of_ble_eq_true rfl⟩ (fun H locs hP hD hS => ?_)
  refine lv_if_eq (tgt := 14) hx hb dL_isOpen_7 (by decide) (fun c6 => ?_) (fun c6 => ?_)
  · have hf := br_pos c6 hf
    refine lv_lconst (v := 0) hx hb dL_isOpen_14 (by decide) ?_
    refine va_last (D := D) hx hb hK hP hD hS 40 5 rfl rfl (by unfold vp_in; decide) dL_isOpen_15 (fun H locs hP hD hS => ?_)
    have hP : va_P D vwCl (WC ca ad bq nF nO nL nA nC nV nU nP nE bF bO bL bA bC bV bU bP bE cT cK cO cQ cD pT pK pR pW pU pI pC uO uF uE uN wK jM jN jZ jB ++ (WO ca oa od (vp_updL oL (0 : Int32).toNatClampNeg 0) oD ++ R)) H := hP
    have hD : va_D A (WC ca ad bq nF nO nL nA nC nV nU nP nE bF bO bL bA bC bV bU bP bE cT cK cO cQ cD pT pK pR pW pU pI pC uO uF uE uN wK jM jN jZ jB ++ (WO ca oa od (vp_updL oL (0 : Int32).toNatClampNeg 0) oD ++ R)) := hD
    refine lv_goto (tgt := 22) hx hb dL_isOpen_16 (by decide) ?_
    refine lv_iconst (v := 0) hx hb dL_isOpen_22 (by decide) ?_
    cases hf
    exact endw_i hAe hQm hx hb hr hlocks rfl hP hD hS dL_isOpen_23 (Nat.le_of_ble_eq_true rfl) (Nat.le_of_ble_eq_true rfl)
  · have hf := br_neg c6 hf
    refine lv_lconst (v := 1) hx hb dL_isOpen_10 (by decide) ?_
    refine lv_goto (tgt := 15) hx hb dL_isOpen_11 (by decide) ?_
    refine va_last (D := D) hx hb hK hP hD hS 40 5 rfl rfl (by unfold vp_in; decide) dL_isOpen_15 (fun H locs hP hD hS => ?_)
    have hP : va_P D vwCl (WC ca ad bq nF nO nL nA nC nV nU nP nE bF bO bL bA bC bV bU bP bE cT cK cO cQ cD pT pK pR pW pU pI pC uO uF uE uN wK jM jN jZ jB ++ (WO ca oa od (vp_updL oL (0 : Int32).toNatClampNeg 1) oD ++ R)) H := hP
    have hD : va_D A (WC ca ad bq nF nO nL nA nC nV nU nP nE bF bO bL bA bC bV bU bP bE cT cK cO cQ cD pT pK pR pW pU pI pC uO uF uE uN wK jM jN jZ jB ++ (WO ca oa od (vp_updL oL (0 : Int32).toNatClampNeg 1) oD ++ R)) := hD
    refine lv_goto (tgt := 22) hx hb dL_isOpen_16 (by decide) ?_
    refine lv_iconst (v := 0) hx hb dL_isOpen_22 (by decide) ?_
    cases hf
    exact endw_i hAe hQm hx hb hr hlocks rfl hP hD hS dL_isOpen_23 (Nat.le_of_ble_eq_true rfl) (Nat.le_of_ble_eq_true rfl)
def f_L_holdsOn (p1 : Int32) (nF : Int32) (uO : Int32) (uF : Nat → Int32) (uN : Nat → Int32) (oL : Nat → Int64) : Option (Int32 × (Nat → Int64)) :=
  (f_C_holdsOn p1 nF uO uF uN).bind fun x1 =>
  match x1 with
  | .error n3 => if n3 = 3 then some (1, oL) else none
  | .ok r4 =>
  some (0, (vp_updL oL (0 : Int32).toNatClampNeg ((r4).toInt64)))
set_option maxHeartbeats 4000000 in
set_option maxRecDepth 100000 in
theorem m_L_holdsOn (l : Launch) (hst : l.stackTraces = false) {D : va_G} (ca : Nat → ClassId) (ad : Nat → Nat) (bq : Nat) (oa od : Nat) (nF : Int32) (nO : Nat → Int32) (nL : Nat → Int32) (nA : Nat → Int32) (nC : Nat → Int32) (nV : Nat → Int32) (nU : Nat → Int32) (nP : Nat → Int32) (nE : Int32) (bF : Int32) (bO : Nat → Int32) (bL : Nat → Int32) (bA : Nat → Int32) (bC : Nat → Int32) (bV : Nat → Int32) (bU : Nat → Int32) (bP : Nat → Int32) (bE : Int32) (cT : Int32) (cK : Nat → Int32) (cO : Int32) (cQ : Nat → Int32) (cD : Int32) (pT : Int32) (pK : Int32) (pR : Nat → Int32) (pW : Nat → Int32) (pU : Nat → Int32) (pI : Nat → Int32) (pC : Nat → Nat → Int32) (uO : Int32) (uF : Nat → Int32) (uE : Nat → Int32) (uN : Nat → Int32) (wK : Nat → Int32) (jM : Int32) (jN : Int32) (jZ : Nat) (jB : Nat → Int32) (oL : Nat → Int64) (oD : Nat → UInt64) (R : va_W) (sz : Nat) (p1 : Int32) (ro : Int32) (ooL : Nat → Int64) (hf : f_L_holdsOn p1 nF uO uF uN oL = some (ro, ooL)) : vx_Met l yL_holdsOn (wmW yL_holdsOn cL_holdsOn 4 (some .int) [(0, 9, 12, 20)]) ({ frames := 8, cells := 1, slots := 6, locals := 132 } : Room) (PREL [.ref (ad 0), .int p1, .ref oa] D ca SL0 (WC ca ad bq nF nO nL nA nC nV nU nP nE bF bO bL bA bC bV bU bP bE cT cK cO cQ cD pT pK pR pW pU pI pC uO uF uE uN wK jM jN jZ jB ++ (WO ca oa od oL oD ++ R)) sz) (QI ro D (WC ca ad bq nF nO nL nA nC nV nU nP nE bF bO bL bA bC bV bU bP bE cT cK cO cQ cD pT pK pR pW pU pI pC uO uF uE uN wK jM jN jZ jB ++ (WO ca oa od ooL oD ++ R)) (WC ca ad bq nF nO nL nA nC nV nU nP nE bF bO bL bA bC bV bU bP bE cT cK cO cQ cD pT pK pR pW pU pI pC uO uF uE uN wK jM jN jZ jB ++ (WO ca oa od oL oD ++ R)) sz) (fun _ _ _ => False) 1 6 (va_A (WC ca ad bq nF nO nL nA nC nV nU nP nE bF bO bL bA bC bV bU bP bE cT cK cO cQ cD pT pK pR pW pU pI pC uO uF uE uN wK jM jN jZ jB ++ (WO ca oa od oL oD ++ R)) sz) := by
  refine vx_ofWH (cc := cL_holdsOn) (maxL := 4) (ret := (some .int)) (hh := [(0, 9, 12, 20)]) (by decide) rfl ?_
  intro p e s m args below meth c s₁ B hml hv
  obtain ⟨rfl, rfl, hP, hE, hD0, hZ, hNC⟩ := hv
  have hx := B.exec
  have hb := B.bytes
  have hr := B.returns
  have hts0 := atoms_spec (ws := wmW yL_holdsOn cL_holdsOn 4 (some .int) [(0, 9, 12, 20)]) B.pre
  have hts := wmW_ww hts0
  have htab := vx_table (x := yL_holdsOn) B (hts0 _ List.mem_cons_self)
  have hown : s.vm.findClass RL = some m.cls := findClass_of_methodNamed B.named
  have hlocks := B.notSynchronized
  have hK := hE.1
  have hD := hD0.self (sz := s.heap.size)
  generalize hAe : va_A (WC ca ad bq nF nO nL nA nC nV nU nP nE bF bO bL bA bC bV bU bP bE cT cK cO cQ cD pT pK pR pW pU pI pC uO uF uE uN wK jM jN jZ jB ++ (WO ca oa od oL oD ++ R)) s.heap.size = A at hD hZ ⊢
  have hA : ∀ q : Nat, s.heap.size ≤ q → A q := fun q h => by rw [← hAe]; exact Or.inr h
  have hS : va_S A s.heap s.heap [] := va_S.rf
  have hl := lv_entry ([.ref (ad 0), .int p1, .ref oa]) (n := 4) (Nat.le_of_ble_eq_true rfl)
  rw [lg_entry_eq]
  generalize (lg_sl ([.ref (ad 0), .int p1, .ref oa]) ++ List.replicate (4 - (lg_sl ([.ref (ad 0), .int p1, .ref oa])).length) Slot.unset).toArray = ls at hl ⊢
  have hl : lv_has ls 4 [(0, .ref (ad 0)), (1, .int p1), (2, .ref oa)] := hl
  change W p l e ({ frames := 8, cells := 1, slots := 6, locals := 132 } : Room) s m _ below meth c s.heap [] 0 0 _ _
  generalize hQm : vx_MQ below (QI ro D (WC ca ad bq nF nO nL nA nC nV nU nP nE bF bO bL bA bC bV bU bP bE cT cK cO cQ cD pT pK pR pW pU pI pC uO uF uE uN wK jM jN jZ jB ++ (WO ca oa od ooL oD ++ R)) (WC ca ad bq nF nO nL nA nC nV nU nP nE bF bO bL bA bC bV bU bP bE cT cK cO cQ cD pT pK pR pW pU pI pC uO uF uE uN wK jM jN jZ jB ++ (WO ca oa od oL oD ++ R)) s.heap.size) (fun _ _ _ => False) _ s 1 6 A = Qm
  have hP : va_P D vwCl (WC ca ad bq nF nO nL nA nC nV nU nP nE bF bO bL bA bC bV bU bP bE cT cK cO cQ cD pT pK pR pW pU pI pC uO uF uE uN wK jM jN jZ jB ++ (WO ca oa od oL oD ++ R)) s.heap := hP
  generalize hae : ([.ref (ad 0), .int p1, .ref oa] : List Value).toArray = args at hts hQm ⊢
  refine lv_aload_n hx hb dL_holdsOn_0 rfl (lv_at hl 2 rfl) ?_
  refine lv_iconst (v := 0) hx hb dL_holdsOn_1 (by decide) ?_
  refine lv_aload_n hx hb dL_holdsOn_2 rfl (lv_at hl 0 rfl) ?_
  refine lv_iload_n hx hb dL_holdsOn_3 rfl (lv_at hl 1 rfl) ?_
  obtain ⟨x1, h2, hf⟩ := bnd hf
  rcases x1 with n3 | r4
  · have hf : (if n3 = 3 then some (1, oL) else none) = some (ro, ooL) := hf
    by_cases c5 : n3 = 3
    · subst c5
      have hf := br_pos rfl hf
      refine cw_vi_err (rest := [.int 0, .ref oa]) (m_C_holdsOn l hst ca ad bq nF nO nL nA nC nV nU nP nE bF bO bL bA bC bV bU bP bE cT cK cO cQ cD pT pK pR pW pU pI pC uO uF uE uN wK jM jN jZ jB (WO ca oa od oL oD ++ R) _ p1 (.error 3) h2) ⟨hx, hb, hml, hown, hts⟩ (cwV 1 hts (gV q936 q937 q938 q41 q939) rfl rfl rfl (by decide +kernel) ⟨Nat.le_of_ble_eq_true rfl, Nat.le_of_ble_eq_true rfl⟩) (va_recv hK hP (ci := 7) (q0 := 0) rfl rfl) hE hP hD hS hA hZ rfl hl.1 rfl (lv_room (Nat.le_of_ble_eq_true rfl)) dL_holdsOn_4 ⟨Nat.le_of_ble_eq_true rfl, Nat.le_of_ble_eq_true rfl⟩ (fun H locs q9 ce hP hD hS hce hv9 hcl => ?_)
      refine vx_catch (E := "java/lang/IndexOutOfBoundsException") hown [] ⟨0, 9, 12, 20⟩ [] htab (fun _ h => absurd h List.not_mem_nil) (by decide) (by decide) (hts _ q458) (va_Nw.use rfl (hE.2.1 _ n492)) hce hv9 hcl ?_
      refine lv_astore_n (lv' := [(3, .ref q9), (0, .ref (ad 0)), (1, .int p1), (2, .ref oa)]) hx hb dL_holdsOn_12 rfl hl (by decide) rfl (fun ls hl => ?_)
      refine lv_iconst (v := 1) hx hb dL_holdsOn_13 (by decide) ?_
      cases hf
      exact endw_i hAe hQm hx hb hr hlocks rfl hP hD hS dL_holdsOn_14 (Nat.le_of_ble_eq_true rfl) (Nat.le_of_ble_eq_true rfl)
    have hf := br_neg c5 hf
    cases hf
  refine cw_vi_ok (rest := [.int 0, .ref oa]) (m_C_holdsOn l hst ca ad bq nF nO nL nA nC nV nU nP nE bF bO bL bA bC bV bU bP bE cT cK cO cQ cD pT pK pR pW pU pI pC uO uF uE uN wK jM jN jZ jB (WO ca oa od oL oD ++ R) _ p1 (.ok r4) h2) ⟨hx, hb, hml, hown, hts⟩ (cwV 1 hts (gV q936 q937 q938 q41 q939) rfl rfl rfl (by decide +kernel) ⟨Nat.le_of_ble_eq_true rfl, Nat.le_of_ble_eq_true rfl⟩) (va_recv hK hP (ci := 7) (q0 := 0) rfl rfl) hE hP hD hS hA hZ rfl hl.1 rfl (lv_room (Nat.le_of_ble_eq_true rfl)) dL_holdsOn_4 ⟨Nat.le_of_ble_eq_true rfl, Nat.le_of_ble_eq_true rfl⟩ (fun H locs hP hD hS => ?_)
  refine lv_i2l hx hb dL_holdsOn_7 rfl ?_
  refine va_last (D := D) hx hb hK hP hD hS 40 5 rfl rfl (by unfold vp_in; decide) dL_holdsOn_8 (fun H locs hP hD hS => ?_)
  have hP : va_P D vwCl (WC ca ad bq nF nO nL nA nC nV nU nP nE bF bO bL bA bC bV bU bP bE cT cK cO cQ cD pT pK pR pW pU pI pC uO uF uE uN wK jM jN jZ jB ++ (WO ca oa od (vp_updL oL (0 : Int32).toNatClampNeg ((r4).toInt64)) oD ++ R)) H := hP
  have hD : va_D A (WC ca ad bq nF nO nL nA nC nV nU nP nE bF bO bL bA bC bV bU bP bE cT cK cO cQ cD pT pK pR pW pU pI pC uO uF uE uN wK jM jN jZ jB ++ (WO ca oa od (vp_updL oL (0 : Int32).toNatClampNeg ((r4).toInt64)) oD ++ R)) := hD
  refine lv_goto (tgt := 15) hx hb dL_holdsOn_9 (by decide) ?_
  refine lv_iconst (v := 0) hx hb dL_holdsOn_15 (by decide) ?_
  cases hf
  exact endw_i hAe hQm hx hb hr hlocks rfl hP hD hS dL_holdsOn_16 (Nat.le_of_ble_eq_true rfl) (Nat.le_of_ble_eq_true rfl)
def f_L_nextEnd (uO : Int32) (uE : Nat → Int32) (uN : Nat → Int32) (oL : Nat → Int64) : Option (Int32 × (Nat → Int64)) :=
  (f_C_nextEnd uO uE uN).bind fun x1 =>
  match x1 with
  | .error n3 => if n3 = 5 then some (1, oL) else none
  | .ok r4 =>
  some (0, (vp_updL oL (0 : Int32).toNatClampNeg ((r4).toInt64)))
set_option maxHeartbeats 4000000 in
set_option maxRecDepth 100000 in
theorem m_L_nextEnd (l : Launch) (hst : l.stackTraces = false) {D : va_G} (ca : Nat → ClassId) (ad : Nat → Nat) (bq : Nat) (oa od : Nat) (nF : Int32) (nO : Nat → Int32) (nL : Nat → Int32) (nA : Nat → Int32) (nC : Nat → Int32) (nV : Nat → Int32) (nU : Nat → Int32) (nP : Nat → Int32) (nE : Int32) (bF : Int32) (bO : Nat → Int32) (bL : Nat → Int32) (bA : Nat → Int32) (bC : Nat → Int32) (bV : Nat → Int32) (bU : Nat → Int32) (bP : Nat → Int32) (bE : Int32) (cT : Int32) (cK : Nat → Int32) (cO : Int32) (cQ : Nat → Int32) (cD : Int32) (pT : Int32) (pK : Int32) (pR : Nat → Int32) (pW : Nat → Int32) (pU : Nat → Int32) (pI : Nat → Int32) (pC : Nat → Nat → Int32) (uO : Int32) (uF : Nat → Int32) (uE : Nat → Int32) (uN : Nat → Int32) (wK : Nat → Int32) (jM : Int32) (jN : Int32) (jZ : Nat) (jB : Nat → Int32) (oL : Nat → Int64) (oD : Nat → UInt64) (R : va_W) (sz : Nat) (ro : Int32) (ooL : Nat → Int64) (hf : f_L_nextEnd uO uE uN oL = some (ro, ooL)) : vx_Met l yL_nextEnd (wmW yL_nextEnd cL_nextEnd 3 (some .int) [(0, 8, 11, 48)]) ({ frames := 7, cells := 1, slots := 6, locals := 111 } : Room) (PREL [.ref (ad 0), .ref oa] D ca SL0 (WC ca ad bq nF nO nL nA nC nV nU nP nE bF bO bL bA bC bV bU bP bE cT cK cO cQ cD pT pK pR pW pU pI pC uO uF uE uN wK jM jN jZ jB ++ (WO ca oa od oL oD ++ R)) sz) (QI ro D (WC ca ad bq nF nO nL nA nC nV nU nP nE bF bO bL bA bC bV bU bP bE cT cK cO cQ cD pT pK pR pW pU pI pC uO uF uE uN wK jM jN jZ jB ++ (WO ca oa od ooL oD ++ R)) (WC ca ad bq nF nO nL nA nC nV nU nP nE bF bO bL bA bC bV bU bP bE cT cK cO cQ cD pT pK pR pW pU pI pC uO uF uE uN wK jM jN jZ jB ++ (WO ca oa od oL oD ++ R)) sz) (fun _ _ _ => False) 1 6 (va_A (WC ca ad bq nF nO nL nA nC nV nU nP nE bF bO bL bA bC bV bU bP bE cT cK cO cQ cD pT pK pR pW pU pI pC uO uF uE uN wK jM jN jZ jB ++ (WO ca oa od oL oD ++ R)) sz) := by
  refine vx_ofWH (cc := cL_nextEnd) (maxL := 3) (ret := (some .int)) (hh := [(0, 8, 11, 48)]) (by decide) rfl ?_
  intro p e s m args below meth c s₁ B hml hv
  obtain ⟨rfl, rfl, hP, hE, hD0, hZ, hNC⟩ := hv
  have hx := B.exec
  have hb := B.bytes
  have hr := B.returns
  have hts0 := atoms_spec (ws := wmW yL_nextEnd cL_nextEnd 3 (some .int) [(0, 8, 11, 48)]) B.pre
  have hts := wmW_ww hts0
  have htab := vx_table (x := yL_nextEnd) B (hts0 _ List.mem_cons_self)
  have hown : s.vm.findClass RL = some m.cls := findClass_of_methodNamed B.named
  have hlocks := B.notSynchronized
  have hK := hE.1
  have hD := hD0.self (sz := s.heap.size)
  generalize hAe : va_A (WC ca ad bq nF nO nL nA nC nV nU nP nE bF bO bL bA bC bV bU bP bE cT cK cO cQ cD pT pK pR pW pU pI pC uO uF uE uN wK jM jN jZ jB ++ (WO ca oa od oL oD ++ R)) s.heap.size = A at hD hZ ⊢
  have hA : ∀ q : Nat, s.heap.size ≤ q → A q := fun q h => by rw [← hAe]; exact Or.inr h
  have hS : va_S A s.heap s.heap [] := va_S.rf
  have hl := lv_entry ([.ref (ad 0), .ref oa]) (n := 3) (Nat.le_of_ble_eq_true rfl)
  rw [lg_entry_eq]
  generalize (lg_sl ([.ref (ad 0), .ref oa]) ++ List.replicate (3 - (lg_sl ([.ref (ad 0), .ref oa])).length) Slot.unset).toArray = ls at hl ⊢
  have hl : lv_has ls 3 [(0, .ref (ad 0)), (1, .ref oa)] := hl
  change W p l e ({ frames := 7, cells := 1, slots := 6, locals := 111 } : Room) s m _ below meth c s.heap [] 0 0 _ _
  generalize hQm : vx_MQ below (QI ro D (WC ca ad bq nF nO nL nA nC nV nU nP nE bF bO bL bA bC bV bU bP bE cT cK cO cQ cD pT pK pR pW pU pI pC uO uF uE uN wK jM jN jZ jB ++ (WO ca oa od ooL oD ++ R)) (WC ca ad bq nF nO nL nA nC nV nU nP nE bF bO bL bA bC bV bU bP bE cT cK cO cQ cD pT pK pR pW pU pI pC uO uF uE uN wK jM jN jZ jB ++ (WO ca oa od oL oD ++ R)) s.heap.size) (fun _ _ _ => False) _ s 1 6 A = Qm
  have hP : va_P D vwCl (WC ca ad bq nF nO nL nA nC nV nU nP nE bF bO bL bA bC bV bU bP bE cT cK cO cQ cD pT pK pR pW pU pI pC uO uF uE uN wK jM jN jZ jB ++ (WO ca oa od oL oD ++ R)) s.heap := hP
  generalize hae : ([.ref (ad 0), .ref oa] : List Value).toArray = args at hts hQm ⊢
  refine lv_aload_n hx hb dL_nextEnd_0 rfl (lv_at hl 1 rfl) ?_
  refine lv_iconst (v := 0) hx hb dL_nextEnd_1 (by decide) ?_
  refine lv_aload_n hx hb dL_nextEnd_2 rfl (lv_at hl 0 rfl) ?_
  obtain ⟨x1, h2, hf⟩ := bnd hf
  rcases x1 with n3 | r4
  · have hf : (if n3 = 5 then some (1, oL) else none) = some (ro, ooL) := hf
    by_cases c5 : n3 = 5
    · subst c5
      have hf := br_pos rfl hf
      refine cw_vi_err (rest := [.int 0, .ref oa]) (m_C_nextEnd l hst ca ad bq nF nO nL nA nC nV nU nP nE bF bO bL bA bC bV bU bP bE cT cK cO cQ cD pT pK pR pW pU pI pC uO uF uE uN wK jM jN jZ jB (WO ca oa od oL oD ++ R) _ (.error 5) h2) ⟨hx, hb, hml, hown, hts⟩ (cwV 0 hts (gV q943 q944 q945 q41 q946) rfl rfl rfl (by decide +kernel) ⟨Nat.le_of_ble_eq_true rfl, Nat.le_of_ble_eq_true rfl⟩) (va_recv hK hP (ci := 7) (q0 := 0) rfl rfl) hE hP hD hS hA hZ rfl hl.1 rfl (lv_room (Nat.le_of_ble_eq_true rfl)) dL_nextEnd_3 ⟨Nat.le_of_ble_eq_true rfl, Nat.le_of_ble_eq_true rfl⟩ (fun H locs q9 ce hP hD hS hce hv9 hcl => ?_)
      refine vx_catch (E := "java/util/NoSuchElementException") hown [] ⟨0, 8, 11, 48⟩ [] htab (fun _ h => absurd h List.not_mem_nil) (by decide) (by decide) (hts _ q681) (va_Nw.use rfl (hE.2.1 _ n692)) hce hv9 hcl ?_
      refine lv_astore_n (lv' := [(2, .ref q9), (0, .ref (ad 0)), (1, .ref oa)]) hx hb dL_nextEnd_11 rfl hl (by decide) rfl (fun ls hl => ?_)
      refine lv_iconst (v := 1) hx hb dL_nextEnd_12 (by decide) ?_
      cases hf
      exact endw_i hAe hQm hx hb hr hlocks rfl hP hD hS dL_nextEnd_13 (Nat.le_of_ble_eq_true rfl) (Nat.le_of_ble_eq_true rfl)
    have hf := br_neg c5 hf
    cases hf
  refine cw_vi_ok (rest := [.int 0, .ref oa]) (m_C_nextEnd l hst ca ad bq nF nO nL nA nC nV nU nP nE bF bO bL bA bC bV bU bP bE cT cK cO cQ cD pT pK pR pW pU pI pC uO uF uE uN wK jM jN jZ jB (WO ca oa od oL oD ++ R) _ (.ok r4) h2) ⟨hx, hb, hml, hown, hts⟩ (cwV 0 hts (gV q943 q944 q945 q41 q946) rfl rfl rfl (by decide +kernel) ⟨Nat.le_of_ble_eq_true rfl, Nat.le_of_ble_eq_true rfl⟩) (va_recv hK hP (ci := 7) (q0 := 0) rfl rfl) hE hP hD hS hA hZ rfl hl.1 rfl (lv_room (Nat.le_of_ble_eq_true rfl)) dL_nextEnd_3 ⟨Nat.le_of_ble_eq_true rfl, Nat.le_of_ble_eq_true rfl⟩ (fun H locs hP hD hS => ?_)
  refine lv_i2l hx hb dL_nextEnd_6 rfl ?_
  refine va_last (D := D) hx hb hK hP hD hS 40 5 rfl rfl (by unfold vp_in; decide) dL_nextEnd_7 (fun H locs hP hD hS => ?_)
  have hP : va_P D vwCl (WC ca ad bq nF nO nL nA nC nV nU nP nE bF bO bL bA bC bV bU bP bE cT cK cO cQ cD pT pK pR pW pU pI pC uO uF uE uN wK jM jN jZ jB ++ (WO ca oa od (vp_updL oL (0 : Int32).toNatClampNeg ((r4).toInt64)) oD ++ R)) H := hP
  have hD : va_D A (WC ca ad bq nF nO nL nA nC nV nU nP nE bF bO bL bA bC bV bU bP bE cT cK cO cQ cD pT pK pR pW pU pI pC uO uF uE uN wK jM jN jZ jB ++ (WO ca oa od (vp_updL oL (0 : Int32).toNatClampNeg ((r4).toInt64)) oD ++ R)) := hD
  refine lv_goto (tgt := 14) hx hb dL_nextEnd_8 (by decide) ?_
  refine lv_iconst (v := 0) hx hb dL_nextEnd_14 (by decide) ?_
  cases hf
  exact endw_i hAe hQm hx hb hr hlocks rfl hP hD hS dL_nextEnd_15 (Nat.le_of_ble_eq_true rfl) (Nat.le_of_ble_eq_true rfl)
def f_L_pass (p1 : Int32) (nF : Int32) (nL : Nat → Int32) (nA : Nat → Int32) (nC : Nat → Int32) (nU : Nat → Int32) (cT : Int32) (cD : Int32) (uO : Int32) (uF : Nat → Int32) (uE : Nat → Int32) (uN : Nat → Int32) (oL : Nat → Int64) : Option (Int32 × (Nat → Int32) × (Nat → Int32) × (Nat → Int32) × Int32 × (Nat → Int32) × (Nat → Int64)) :=
  (f_C_pass p1 nF nL nA nC nU cT cD uO uF uE uN).bind fun (x1, nA_2, nC_3, nU_4, cD_5, uN_6) =>
  match x1 with
  | .error n8 => if n8 = 1 then some (1, nA_2, nC_3, nU_4, cD_5, uN_6, oL) else if n8 = 2 then some (2, nA_2, nC_3, nU_4, cD_5, uN_6, oL) else none
  | .ok r9 =>
  some (0, nA_2, nC_3, nU_4, cD_5, uN_6, (vp_updL oL (0 : Int32).toNatClampNeg ((r9).toInt64)))
set_option maxHeartbeats 4000000 in
set_option maxRecDepth 100000 in
theorem m_L_pass (l : Launch) (hst : l.stackTraces = false) {D : va_G} (ca : Nat → ClassId) (ad : Nat → Nat) (bq : Nat) (oa od : Nat) (nF : Int32) (nO : Nat → Int32) (nL : Nat → Int32) (nA : Nat → Int32) (nC : Nat → Int32) (nV : Nat → Int32) (nU : Nat → Int32) (nP : Nat → Int32) (nE : Int32) (bF : Int32) (bO : Nat → Int32) (bL : Nat → Int32) (bA : Nat → Int32) (bC : Nat → Int32) (bV : Nat → Int32) (bU : Nat → Int32) (bP : Nat → Int32) (bE : Int32) (cT : Int32) (cK : Nat → Int32) (cO : Int32) (cQ : Nat → Int32) (cD : Int32) (pT : Int32) (pK : Int32) (pR : Nat → Int32) (pW : Nat → Int32) (pU : Nat → Int32) (pI : Nat → Int32) (pC : Nat → Nat → Int32) (uO : Int32) (uF : Nat → Int32) (uE : Nat → Int32) (uN : Nat → Int32) (wK : Nat → Int32) (jM : Int32) (jN : Int32) (jZ : Nat) (jB : Nat → Int32) (oL : Nat → Int64) (oD : Nat → UInt64) (R : va_W) (sz : Nat) (p1 : Int32) (ro : Int32) (onA : Nat → Int32) (onC : Nat → Int32) (onU : Nat → Int32) (ocD : Int32) (ouN : Nat → Int32) (ooL : Nat → Int64) (hf : f_L_pass p1 nF nL nA nC nU cT cD uO uF uE uN oL = some (ro, onA, onC, onU, ocD, ouN, ooL)) : vx_Met l yL_pass (wmW yL_pass cL_pass 4 (some .int) [(0, 9, 12, 13), (0, 9, 15, 15)]) ({ frames := 8, cells := 3, slots := 18, locals := 152 } : Room) (PREL [.ref (ad 0), .int p1, .ref oa] D ca SL0 (WC ca ad bq nF nO nL nA nC nV nU nP nE bF bO bL bA bC bV bU bP bE cT cK cO cQ cD pT pK pR pW pU pI pC uO uF uE uN wK jM jN jZ jB ++ (WO ca oa od oL oD ++ R)) sz) (QI ro D (WC ca ad bq nF nO nL onA onC nV onU nP nE bF bO bL bA bC bV bU bP bE cT cK cO cQ ocD pT pK pR pW pU pI pC uO uF uE ouN wK jM jN jZ jB ++ (WO ca oa od ooL oD ++ R)) (WC ca ad bq nF nO nL nA nC nV nU nP nE bF bO bL bA bC bV bU bP bE cT cK cO cQ cD pT pK pR pW pU pI pC uO uF uE uN wK jM jN jZ jB ++ (WO ca oa od oL oD ++ R)) sz) (fun _ _ _ => False) 3 18 (va_A (WC ca ad bq nF nO nL nA nC nV nU nP nE bF bO bL bA bC bV bU bP bE cT cK cO cQ cD pT pK pR pW pU pI pC uO uF uE uN wK jM jN jZ jB ++ (WO ca oa od oL oD ++ R)) sz) := by
  refine vx_ofWH (cc := cL_pass) (maxL := 4) (ret := (some .int)) (hh := [(0, 9, 12, 13), (0, 9, 15, 15)]) (by decide) rfl ?_
  intro p e s m args below meth c s₁ B hml hv
  obtain ⟨rfl, rfl, hP, hE, hD0, hZ, hNC⟩ := hv
  have hx := B.exec
  have hb := B.bytes
  have hr := B.returns
  have hts0 := atoms_spec (ws := wmW yL_pass cL_pass 4 (some .int) [(0, 9, 12, 13), (0, 9, 15, 15)]) B.pre
  have hts := wmW_ww hts0
  have htab := vx_table (x := yL_pass) B (hts0 _ List.mem_cons_self)
  have hown : s.vm.findClass RL = some m.cls := findClass_of_methodNamed B.named
  have hlocks := B.notSynchronized
  have hK := hE.1
  have hD := hD0.self (sz := s.heap.size)
  generalize hAe : va_A (WC ca ad bq nF nO nL nA nC nV nU nP nE bF bO bL bA bC bV bU bP bE cT cK cO cQ cD pT pK pR pW pU pI pC uO uF uE uN wK jM jN jZ jB ++ (WO ca oa od oL oD ++ R)) s.heap.size = A at hD hZ ⊢
  have hA : ∀ q : Nat, s.heap.size ≤ q → A q := fun q h => by rw [← hAe]; exact Or.inr h
  have hS : va_S A s.heap s.heap [] := va_S.rf
  have hl := lv_entry ([.ref (ad 0), .int p1, .ref oa]) (n := 4) (Nat.le_of_ble_eq_true rfl)
  rw [lg_entry_eq]
  generalize (lg_sl ([.ref (ad 0), .int p1, .ref oa]) ++ List.replicate (4 - (lg_sl ([.ref (ad 0), .int p1, .ref oa])).length) Slot.unset).toArray = ls at hl ⊢
  have hl : lv_has ls 4 [(0, .ref (ad 0)), (1, .int p1), (2, .ref oa)] := hl
  change W p l e ({ frames := 8, cells := 3, slots := 18, locals := 152 } : Room) s m _ below meth c s.heap [] 0 0 _ _
  generalize hQm : vx_MQ below (QI ro D (WC ca ad bq nF nO nL onA onC nV onU nP nE bF bO bL bA bC bV bU bP bE cT cK cO cQ ocD pT pK pR pW pU pI pC uO uF uE ouN wK jM jN jZ jB ++ (WO ca oa od ooL oD ++ R)) (WC ca ad bq nF nO nL nA nC nV nU nP nE bF bO bL bA bC bV bU bP bE cT cK cO cQ cD pT pK pR pW pU pI pC uO uF uE uN wK jM jN jZ jB ++ (WO ca oa od oL oD ++ R)) s.heap.size) (fun _ _ _ => False) _ s 3 18 A = Qm
  have hP : va_P D vwCl (WC ca ad bq nF nO nL nA nC nV nU nP nE bF bO bL bA bC bV bU bP bE cT cK cO cQ cD pT pK pR pW pU pI pC uO uF uE uN wK jM jN jZ jB ++ (WO ca oa od oL oD ++ R)) s.heap := hP
  generalize hae : ([.ref (ad 0), .int p1, .ref oa] : List Value).toArray = args at hts hQm ⊢
  refine lv_aload_n hx hb dL_pass_0 rfl (lv_at hl 2 rfl) ?_
  refine lv_iconst (v := 0) hx hb dL_pass_1 (by decide) ?_
  refine lv_aload_n hx hb dL_pass_2 rfl (lv_at hl 0 rfl) ?_
  refine lv_iload_n hx hb dL_pass_3 rfl (lv_at hl 1 rfl) ?_
  obtain ⟨⟨x1, nA_2, nC_3, nU_4, cD_5, uN_6⟩, h7, hf⟩ := bnd hf
  rcases x1 with n8 | r9
  · have hf : (if n8 = 1 then some (1, nA_2, nC_3, nU_4, cD_5, uN_6, oL) else if n8 = 2 then some (2, nA_2, nC_3, nU_4, cD_5, uN_6, oL) else none) = some (ro, onA, onC, onU, ocD, ouN, ooL) := hf
    by_cases c10 : n8 = 1
    · subst c10
      have hf := br_pos rfl hf
      refine cw_vi_err (rest := [.int 0, .ref oa]) (m_C_pass l hst ca ad bq nF nO nL nA nC nV nU nP nE bF bO bL bA bC bV bU bP bE cT cK cO cQ cD pT pK pR pW pU pI pC uO uF uE uN wK jM jN jZ jB (WO ca oa od oL oD ++ R) _ p1 (.error 1) nA_2 nC_3 nU_4 cD_5 uN_6 h7) ⟨hx, hb, hml, hown, hts⟩ (cwV 1 hts (gV q959 q960 q961 q41 q962) rfl rfl rfl (by decide +kernel) ⟨Nat.le_of_ble_eq_true rfl, Nat.le_of_ble_eq_true rfl⟩) (va_recv hK hP (ci := 7) (q0 := 0) rfl rfl) hE hP hD hS hA hZ rfl hl.1 rfl (lv_room (Nat.le_of_ble_eq_true rfl)) dL_pass_4 ⟨Nat.le_of_ble_eq_true rfl, Nat.le_of_ble_eq_true rfl⟩ (fun H locs q9 ce hP hD hS hce hv9 hcl => ?_)
      refine vx_catch (E := "java/lang/IllegalArgumentException") hown [] ⟨0, 9, 12, 13⟩ [⟨0, 9, 15, 15⟩] htab (fun _ h => absurd h List.not_mem_nil) (by decide) (by decide) (hts _ q352) (va_Nw.use rfl (hE.2.1 _ n364)) hce hv9 hcl ?_
      refine lv_astore_n (lv' := [(3, .ref q9), (0, .ref (ad 0)), (1, .int p1), (2, .ref oa)]) hx hb dL_pass_12 rfl hl (by decide) rfl (fun ls hl => ?_)
      refine lv_iconst (v := 1) hx hb dL_pass_13 (by decide) ?_
      cases hf
      exact endw_i hAe hQm hx hb hr hlocks rfl hP hD hS dL_pass_14 (Nat.le_of_ble_eq_true rfl) (Nat.le_of_ble_eq_true rfl)
    have hf := br_neg c10 hf
    by_cases c11 : n8 = 2
    · subst c11
      have hf := br_pos rfl hf
      refine cw_vi_err (rest := [.int 0, .ref oa]) (m_C_pass l hst ca ad bq nF nO nL nA nC nV nU nP nE bF bO bL bA bC bV bU bP bE cT cK cO cQ cD pT pK pR pW pU pI pC uO uF uE uN wK jM jN jZ jB (WO ca oa od oL oD ++ R) _ p1 (.error 2) nA_2 nC_3 nU_4 cD_5 uN_6 h7) ⟨hx, hb, hml, hown, hts⟩ (cwV 1 hts (gV q959 q960 q961 q41 q962) rfl rfl rfl (by decide +kernel) ⟨Nat.le_of_ble_eq_true rfl, Nat.le_of_ble_eq_true rfl⟩) (va_recv hK hP (ci := 7) (q0 := 0) rfl rfl) hE hP hD hS hA hZ rfl hl.1 rfl (lv_room (Nat.le_of_ble_eq_true rfl)) dL_pass_4 ⟨Nat.le_of_ble_eq_true rfl, Nat.le_of_ble_eq_true rfl⟩ (fun H locs q9 ce hP hD hS hce hv9 hcl => ?_)
      refine vx_catch (E := "java/lang/IllegalStateException") hown [⟨0, 9, 12, 13⟩] ⟨0, 9, 15, 15⟩ [] htab (List.forall_mem_cons.mpr ⟨Or.inr ⟨by decide, _, hts _ q352, hNC _ nc_2_1⟩, fun _ h => absurd h List.not_mem_nil⟩) (by decide) (by decide) (hts _ q353) (va_Nw.use rfl (hE.2.1 _ n440)) hce hv9 hcl ?_
      refine lv_astore_n (lv' := [(3, .ref q9), (0, .ref (ad 0)), (1, .int p1), (2, .ref oa)]) hx hb dL_pass_15 rfl hl (by decide) rfl (fun ls hl => ?_)
      refine lv_iconst (v := 2) hx hb dL_pass_16 (by decide) ?_
      cases hf
      exact endw_i hAe hQm hx hb hr hlocks rfl hP hD hS dL_pass_17 (Nat.le_of_ble_eq_true rfl) (Nat.le_of_ble_eq_true rfl)
    have hf := br_neg c11 hf
    cases hf
  refine cw_vi_ok (rest := [.int 0, .ref oa]) (m_C_pass l hst ca ad bq nF nO nL nA nC nV nU nP nE bF bO bL bA bC bV bU bP bE cT cK cO cQ cD pT pK pR pW pU pI pC uO uF uE uN wK jM jN jZ jB (WO ca oa od oL oD ++ R) _ p1 (.ok r9) nA_2 nC_3 nU_4 cD_5 uN_6 h7) ⟨hx, hb, hml, hown, hts⟩ (cwV 1 hts (gV q959 q960 q961 q41 q962) rfl rfl rfl (by decide +kernel) ⟨Nat.le_of_ble_eq_true rfl, Nat.le_of_ble_eq_true rfl⟩) (va_recv hK hP (ci := 7) (q0 := 0) rfl rfl) hE hP hD hS hA hZ rfl hl.1 rfl (lv_room (Nat.le_of_ble_eq_true rfl)) dL_pass_4 ⟨Nat.le_of_ble_eq_true rfl, Nat.le_of_ble_eq_true rfl⟩ (fun H locs hP hD hS => ?_)
  refine lv_i2l hx hb dL_pass_7 rfl ?_
  refine va_last (D := D) hx hb hK hP hD hS 40 5 rfl rfl (by unfold vp_in; decide) dL_pass_8 (fun H locs hP hD hS => ?_)
  have hP : va_P D vwCl (WC ca ad bq nF nO nL nA_2 nC_3 nV nU_4 nP nE bF bO bL bA bC bV bU bP bE cT cK cO cQ cD_5 pT pK pR pW pU pI pC uO uF uE uN_6 wK jM jN jZ jB ++ (WO ca oa od (vp_updL oL (0 : Int32).toNatClampNeg ((r9).toInt64)) oD ++ R)) H := hP
  have hD : va_D A (WC ca ad bq nF nO nL nA_2 nC_3 nV nU_4 nP nE bF bO bL bA bC bV bU bP bE cT cK cO cQ cD_5 pT pK pR pW pU pI pC uO uF uE uN_6 wK jM jN jZ jB ++ (WO ca oa od (vp_updL oL (0 : Int32).toNatClampNeg ((r9).toInt64)) oD ++ R)) := hD
  refine lv_goto (tgt := 18) hx hb dL_pass_9 (by decide) ?_
  refine lv_iconst (v := 0) hx hb dL_pass_18 (by decide) ?_
  cases hf
  exact endw_i hAe hQm hx hb hr hlocks rfl hP hD hS dL_pass_19 (Nat.le_of_ble_eq_true rfl) (Nat.le_of_ble_eq_true rfl)
def f_L_begin (nF : Int32) (nO : Nat → Int32) (nL : Nat → Int32) (nA : Nat → Int32) (nC : Nat → Int32) (nV : Nat → Int32) (nU : Nat → Int32) (nP : Nat → Int32) (nE : Int32) (bF : Int32) (bO : Nat → Int32) (bL : Nat → Int32) (bA : Nat → Int32) (bC : Nat → Int32) (bV : Nat → Int32) (bU : Nat → Int32) (bP : Nat → Int32) (bE : Int32) (cT : Int32) (oL : Nat → Int64) : Option (Int32 × Int32 × (Nat → Int32) × (Nat → Int32) × (Nat → Int32) × (Nat → Int32) × (Nat → Int32) × (Nat → Int32) × (Nat → Int32) × Int32 × Int32 × (Nat → Int64)) :=
  (f_C_begin nF nO nL nA nC nV nU nP nE bF bO bL bA bC bV bU bP bE cT).bind fun (x1, bF_2, bO_3, bL_4, bA_5, bC_6, bV_7, bU_8, bP_9, bE_10, cT_11) =>
  match x1 with
  | .error n13 => if n13 = 2 then some (1, bF_2, bO_3, bL_4, bA_5, bC_6, bV_7, bU_8, bP_9, bE_10, cT_11, oL) else none
  | .ok r14 =>
  some (0, bF_2, bO_3, bL_4, bA_5, bC_6, bV_7, bU_8, bP_9, bE_10, cT_11, (vp_updL oL (0 : Int32).toNatClampNeg ((r14).toInt64)))
set_option maxHeartbeats 4000000 in
set_option maxRecDepth 100000 in
theorem m_L_begin (l : Launch) (hst : l.stackTraces = false) {D : va_G} (ca : Nat → ClassId) (ad : Nat → Nat) (bq : Nat) (oa od : Nat) (nF : Int32) (nO : Nat → Int32) (nL : Nat → Int32) (nA : Nat → Int32) (nC : Nat → Int32) (nV : Nat → Int32) (nU : Nat → Int32) (nP : Nat → Int32) (nE : Int32) (bF : Int32) (bO : Nat → Int32) (bL : Nat → Int32) (bA : Nat → Int32) (bC : Nat → Int32) (bV : Nat → Int32) (bU : Nat → Int32) (bP : Nat → Int32) (bE : Int32) (cT : Int32) (cK : Nat → Int32) (cO : Int32) (cQ : Nat → Int32) (cD : Int32) (pT : Int32) (pK : Int32) (pR : Nat → Int32) (pW : Nat → Int32) (pU : Nat → Int32) (pI : Nat → Int32) (pC : Nat → Nat → Int32) (uO : Int32) (uF : Nat → Int32) (uE : Nat → Int32) (uN : Nat → Int32) (wK : Nat → Int32) (jM : Int32) (jN : Int32) (jZ : Nat) (jB : Nat → Int32) (oL : Nat → Int64) (oD : Nat → UInt64) (R : va_W) (sz : Nat) (ro : Int32) (obF : Int32) (obO : Nat → Int32) (obL : Nat → Int32) (obA : Nat → Int32) (obC : Nat → Int32) (obV : Nat → Int32) (obU : Nat → Int32) (obP : Nat → Int32) (obE : Int32) (ocT : Int32) (ooL : Nat → Int64) (hf : f_L_begin nF nO nL nA nC nV nU nP nE bF bO bL bA bC bV bU bP bE cT oL = some (ro, obF, obO, obL, obA, obC, obV, obU, obP, obE, ocT, ooL)) : vx_Met l yL_begin (wmW yL_begin cL_begin 3 (some .int) [(0, 8, 11, 15)]) ({ frames := 8, cells := 1, slots := 6, locals := 130 } : Room) (PREL [.ref (ad 0), .ref oa] D ca SL0 (WC ca ad bq nF nO nL nA nC nV nU nP nE bF bO bL bA bC bV bU bP bE cT cK cO cQ cD pT pK pR pW pU pI pC uO uF uE uN wK jM jN jZ jB ++ (WO ca oa od oL oD ++ R)) sz) (QI ro D (WC ca ad bq nF nO nL nA nC nV nU nP nE obF obO obL obA obC obV obU obP obE ocT cK cO cQ cD pT pK pR pW pU pI pC uO uF uE uN wK jM jN jZ jB ++ (WO ca oa od ooL oD ++ R)) (WC ca ad bq nF nO nL nA nC nV nU nP nE bF bO bL bA bC bV bU bP bE cT cK cO cQ cD pT pK pR pW pU pI pC uO uF uE uN wK jM jN jZ jB ++ (WO ca oa od oL oD ++ R)) sz) (fun _ _ _ => False) 1 6 (va_A (WC ca ad bq nF nO nL nA nC nV nU nP nE bF bO bL bA bC bV bU bP bE cT cK cO cQ cD pT pK pR pW pU pI pC uO uF uE uN wK jM jN jZ jB ++ (WO ca oa od oL oD ++ R)) sz) := by
  refine vx_ofWH (cc := cL_begin) (maxL := 3) (ret := (some .int)) (hh := [(0, 8, 11, 15)]) (by decide) rfl ?_
  intro p e s m args below meth c s₁ B hml hv
  obtain ⟨rfl, rfl, hP, hE, hD0, hZ, hNC⟩ := hv
  have hx := B.exec
  have hb := B.bytes
  have hr := B.returns
  have hts0 := atoms_spec (ws := wmW yL_begin cL_begin 3 (some .int) [(0, 8, 11, 15)]) B.pre
  have hts := wmW_ww hts0
  have htab := vx_table (x := yL_begin) B (hts0 _ List.mem_cons_self)
  have hown : s.vm.findClass RL = some m.cls := findClass_of_methodNamed B.named
  have hlocks := B.notSynchronized
  have hK := hE.1
  have hD := hD0.self (sz := s.heap.size)
  generalize hAe : va_A (WC ca ad bq nF nO nL nA nC nV nU nP nE bF bO bL bA bC bV bU bP bE cT cK cO cQ cD pT pK pR pW pU pI pC uO uF uE uN wK jM jN jZ jB ++ (WO ca oa od oL oD ++ R)) s.heap.size = A at hD hZ ⊢
  have hA : ∀ q : Nat, s.heap.size ≤ q → A q := fun q h => by rw [← hAe]; exact Or.inr h
  have hS : va_S A s.heap s.heap [] := va_S.rf
  have hl := lv_entry ([.ref (ad 0), .ref oa]) (n := 3) (Nat.le_of_ble_eq_true rfl)
  rw [lg_entry_eq]
  generalize (lg_sl ([.ref (ad 0), .ref oa]) ++ List.replicate (3 - (lg_sl ([.ref (ad 0), .ref oa])).length) Slot.unset).toArray = ls at hl ⊢
  have hl : lv_has ls 3 [(0, .ref (ad 0)), (1, .ref oa)] := hl
  change W p l e ({ frames := 8, cells := 1, slots := 6, locals := 130 } : Room) s m _ below meth c s.heap [] 0 0 _ _
  generalize hQm : vx_MQ below (QI ro D (WC ca ad bq nF nO nL nA nC nV nU nP nE obF obO obL obA obC obV obU obP obE ocT cK cO cQ cD pT pK pR pW pU pI pC uO uF uE uN wK jM jN jZ jB ++ (WO ca oa od ooL oD ++ R)) (WC ca ad bq nF nO nL nA nC nV nU nP nE bF bO bL bA bC bV bU bP bE cT cK cO cQ cD pT pK pR pW pU pI pC uO uF uE uN wK jM jN jZ jB ++ (WO ca oa od oL oD ++ R)) s.heap.size) (fun _ _ _ => False) _ s 1 6 A = Qm
  have hP : va_P D vwCl (WC ca ad bq nF nO nL nA nC nV nU nP nE bF bO bL bA bC bV bU bP bE cT cK cO cQ cD pT pK pR pW pU pI pC uO uF uE uN wK jM jN jZ jB ++ (WO ca oa od oL oD ++ R)) s.heap := hP
  generalize hae : ([.ref (ad 0), .ref oa] : List Value).toArray = args at hts hQm ⊢
  refine lv_aload_n hx hb dL_begin_0 rfl (lv_at hl 1 rfl) ?_
  refine lv_iconst (v := 0) hx hb dL_begin_1 (by decide) ?_
  refine lv_aload_n hx hb dL_begin_2 rfl (lv_at hl 0 rfl) ?_
  obtain ⟨⟨x1, bF_2, bO_3, bL_4, bA_5, bC_6, bV_7, bU_8, bP_9, bE_10, cT_11⟩, h12, hf⟩ := bnd hf
  rcases x1 with n13 | r14
  · have hf : (if n13 = 2 then some (1, bF_2, bO_3, bL_4, bA_5, bC_6, bV_7, bU_8, bP_9, bE_10, cT_11, oL) else none) = some (ro, obF, obO, obL, obA, obC, obV, obU, obP, obE, ocT, ooL) := hf
    by_cases c15 : n13 = 2
    · subst c15
      have hf := br_pos rfl hf
      refine cw_vi_err (rest := [.int 0, .ref oa]) (m_C_begin l hst ca ad bq nF nO nL nA nC nV nU nP nE bF bO bL bA bC bV bU bP bE cT cK cO cQ cD pT pK pR pW pU pI pC uO uF uE uN wK jM jN jZ jB (WO ca oa od oL oD ++ R) _ (.error 2) bF_2 bO_3 bL_4 bA_5 bC_6 bV_7 bU_8 bP_9 bE_10 cT_11 h12) ⟨hx, hb, hml, hown, hts⟩ (cwV 0 hts (gV q968 q969 q970 q41 q971) rfl rfl rfl (by decide +kernel) ⟨Nat.le_of_ble_eq_true rfl, Nat.le_of_ble_eq_true rfl⟩) (va_recv hK hP (ci := 7) (q0 := 0) rfl rfl) hE hP hD hS hA hZ rfl hl.1 rfl (lv_room (Nat.le_of_ble_eq_true rfl)) dL_begin_3 ⟨Nat.le_of_ble_eq_true rfl, Nat.le_of_ble_eq_true rfl⟩ (fun H locs q9 ce hP hD hS hce hv9 hcl => ?_)
      refine vx_catch (E := "java/lang/IllegalStateException") hown [] ⟨0, 8, 11, 15⟩ [] htab (fun _ h => absurd h List.not_mem_nil) (by decide) (by decide) (hts _ q353) (va_Nw.use rfl (hE.2.1 _ n440)) hce hv9 hcl ?_
      refine lv_astore_n (lv' := [(2, .ref q9), (0, .ref (ad 0)), (1, .ref oa)]) hx hb dL_begin_11 rfl hl (by decide) rfl (fun ls hl => ?_)
      refine lv_iconst (v := 1) hx hb dL_begin_12 (by decide) ?_
      cases hf
      exact endw_i hAe hQm hx hb hr hlocks rfl hP hD hS dL_begin_13 (Nat.le_of_ble_eq_true rfl) (Nat.le_of_ble_eq_true rfl)
    have hf := br_neg c15 hf
    cases hf
  refine cw_vi_ok (rest := [.int 0, .ref oa]) (m_C_begin l hst ca ad bq nF nO nL nA nC nV nU nP nE bF bO bL bA bC bV bU bP bE cT cK cO cQ cD pT pK pR pW pU pI pC uO uF uE uN wK jM jN jZ jB (WO ca oa od oL oD ++ R) _ (.ok r14) bF_2 bO_3 bL_4 bA_5 bC_6 bV_7 bU_8 bP_9 bE_10 cT_11 h12) ⟨hx, hb, hml, hown, hts⟩ (cwV 0 hts (gV q968 q969 q970 q41 q971) rfl rfl rfl (by decide +kernel) ⟨Nat.le_of_ble_eq_true rfl, Nat.le_of_ble_eq_true rfl⟩) (va_recv hK hP (ci := 7) (q0 := 0) rfl rfl) hE hP hD hS hA hZ rfl hl.1 rfl (lv_room (Nat.le_of_ble_eq_true rfl)) dL_begin_3 ⟨Nat.le_of_ble_eq_true rfl, Nat.le_of_ble_eq_true rfl⟩ (fun H locs hP hD hS => ?_)
  refine lv_i2l hx hb dL_begin_6 rfl ?_
  refine va_last (D := D) hx hb hK hP hD hS 40 5 rfl rfl (by unfold vp_in; decide) dL_begin_7 (fun H locs hP hD hS => ?_)
  have hP : va_P D vwCl (WC ca ad bq nF nO nL nA nC nV nU nP nE bF_2 bO_3 bL_4 bA_5 bC_6 bV_7 bU_8 bP_9 bE_10 cT_11 cK cO cQ cD pT pK pR pW pU pI pC uO uF uE uN wK jM jN jZ jB ++ (WO ca oa od (vp_updL oL (0 : Int32).toNatClampNeg ((r14).toInt64)) oD ++ R)) H := hP
  have hD : va_D A (WC ca ad bq nF nO nL nA nC nV nU nP nE bF_2 bO_3 bL_4 bA_5 bC_6 bV_7 bU_8 bP_9 bE_10 cT_11 cK cO cQ cD pT pK pR pW pU pI pC uO uF uE uN wK jM jN jZ jB ++ (WO ca oa od (vp_updL oL (0 : Int32).toNatClampNeg ((r14).toInt64)) oD ++ R)) := hD
  refine lv_goto (tgt := 14) hx hb dL_begin_8 (by decide) ?_
  refine lv_iconst (v := 0) hx hb dL_begin_14 (by decide) ?_
  cases hf
  exact endw_i hAe hQm hx hb hr hlocks rfl hP hD hS dL_begin_15 (Nat.le_of_ble_eq_true rfl) (Nat.le_of_ble_eq_true rfl)
def f_L_commit (nE : Int32) (bE : Int32) (cT : Int32) (oL : Nat → Int64) : Option (Int32 × Int32 × (Nat → Int64)) :=
  (f_C_commit nE bE cT).bind fun (x1, cT_2) =>
  match x1 with
  | .error n4 => if n4 = 2 then some (1, cT_2, oL) else none
  | .ok r5 =>
  some (0, cT_2, (vp_updL oL (0 : Int32).toNatClampNeg ((r5).toInt64)))
set_option maxHeartbeats 4000000 in
set_option maxRecDepth 100000 in
theorem m_L_commit (l : Launch) (hst : l.stackTraces = false) {D : va_G} (ca : Nat → ClassId) (ad : Nat → Nat) (bq : Nat) (oa od : Nat) (nF : Int32) (nO : Nat → Int32) (nL : Nat → Int32) (nA : Nat → Int32) (nC : Nat → Int32) (nV : Nat → Int32) (nU : Nat → Int32) (nP : Nat → Int32) (nE : Int32) (bF : Int32) (bO : Nat → Int32) (bL : Nat → Int32) (bA : Nat → Int32) (bC : Nat → Int32) (bV : Nat → Int32) (bU : Nat → Int32) (bP : Nat → Int32) (bE : Int32) (cT : Int32) (cK : Nat → Int32) (cO : Int32) (cQ : Nat → Int32) (cD : Int32) (pT : Int32) (pK : Int32) (pR : Nat → Int32) (pW : Nat → Int32) (pU : Nat → Int32) (pI : Nat → Int32) (pC : Nat → Nat → Int32) (uO : Int32) (uF : Nat → Int32) (uE : Nat → Int32) (uN : Nat → Int32) (wK : Nat → Int32) (jM : Int32) (jN : Int32) (jZ : Nat) (jB : Nat → Int32) (oL : Nat → Int64) (oD : Nat → UInt64) (R : va_W) (sz : Nat) (ro : Int32) (ocT : Int32) (ooL : Nat → Int64) (hf : f_L_commit nE bE cT oL = some (ro, ocT, ooL)) : vx_Met l yL_commit (wmW yL_commit cL_commit 3 (some .int) [(0, 8, 11, 15)]) ({ frames := 7, cells := 1, slots := 6, locals := 110 } : Room) (PREL [.ref (ad 0), .ref oa] D ca SL0 (WC ca ad bq nF nO nL nA nC nV nU nP nE bF bO bL bA bC bV bU bP bE cT cK cO cQ cD pT pK pR pW pU pI pC uO uF uE uN wK jM jN jZ jB ++ (WO ca oa od oL oD ++ R)) sz) (QI ro D (WC ca ad bq nF nO nL nA nC nV nU nP nE bF bO bL bA bC bV bU bP bE ocT cK cO cQ cD pT pK pR pW pU pI pC uO uF uE uN wK jM jN jZ jB ++ (WO ca oa od ooL oD ++ R)) (WC ca ad bq nF nO nL nA nC nV nU nP nE bF bO bL bA bC bV bU bP bE cT cK cO cQ cD pT pK pR pW pU pI pC uO uF uE uN wK jM jN jZ jB ++ (WO ca oa od oL oD ++ R)) sz) (fun _ _ _ => False) 1 6 (va_A (WC ca ad bq nF nO nL nA nC nV nU nP nE bF bO bL bA bC bV bU bP bE cT cK cO cQ cD pT pK pR pW pU pI pC uO uF uE uN wK jM jN jZ jB ++ (WO ca oa od oL oD ++ R)) sz) := by
  refine vx_ofWH (cc := cL_commit) (maxL := 3) (ret := (some .int)) (hh := [(0, 8, 11, 15)]) (by decide) rfl ?_
  intro p e s m args below meth c s₁ B hml hv
  obtain ⟨rfl, rfl, hP, hE, hD0, hZ, hNC⟩ := hv
  have hx := B.exec
  have hb := B.bytes
  have hr := B.returns
  have hts0 := atoms_spec (ws := wmW yL_commit cL_commit 3 (some .int) [(0, 8, 11, 15)]) B.pre
  have hts := wmW_ww hts0
  have htab := vx_table (x := yL_commit) B (hts0 _ List.mem_cons_self)
  have hown : s.vm.findClass RL = some m.cls := findClass_of_methodNamed B.named
  have hlocks := B.notSynchronized
  have hK := hE.1
  have hD := hD0.self (sz := s.heap.size)
  generalize hAe : va_A (WC ca ad bq nF nO nL nA nC nV nU nP nE bF bO bL bA bC bV bU bP bE cT cK cO cQ cD pT pK pR pW pU pI pC uO uF uE uN wK jM jN jZ jB ++ (WO ca oa od oL oD ++ R)) s.heap.size = A at hD hZ ⊢
  have hA : ∀ q : Nat, s.heap.size ≤ q → A q := fun q h => by rw [← hAe]; exact Or.inr h
  have hS : va_S A s.heap s.heap [] := va_S.rf
  have hl := lv_entry ([.ref (ad 0), .ref oa]) (n := 3) (Nat.le_of_ble_eq_true rfl)
  rw [lg_entry_eq]
  generalize (lg_sl ([.ref (ad 0), .ref oa]) ++ List.replicate (3 - (lg_sl ([.ref (ad 0), .ref oa])).length) Slot.unset).toArray = ls at hl ⊢
  have hl : lv_has ls 3 [(0, .ref (ad 0)), (1, .ref oa)] := hl
  change W p l e ({ frames := 7, cells := 1, slots := 6, locals := 110 } : Room) s m _ below meth c s.heap [] 0 0 _ _
  generalize hQm : vx_MQ below (QI ro D (WC ca ad bq nF nO nL nA nC nV nU nP nE bF bO bL bA bC bV bU bP bE ocT cK cO cQ cD pT pK pR pW pU pI pC uO uF uE uN wK jM jN jZ jB ++ (WO ca oa od ooL oD ++ R)) (WC ca ad bq nF nO nL nA nC nV nU nP nE bF bO bL bA bC bV bU bP bE cT cK cO cQ cD pT pK pR pW pU pI pC uO uF uE uN wK jM jN jZ jB ++ (WO ca oa od oL oD ++ R)) s.heap.size) (fun _ _ _ => False) _ s 1 6 A = Qm
  have hP : va_P D vwCl (WC ca ad bq nF nO nL nA nC nV nU nP nE bF bO bL bA bC bV bU bP bE cT cK cO cQ cD pT pK pR pW pU pI pC uO uF uE uN wK jM jN jZ jB ++ (WO ca oa od oL oD ++ R)) s.heap := hP
  generalize hae : ([.ref (ad 0), .ref oa] : List Value).toArray = args at hts hQm ⊢
  refine lv_aload_n hx hb dL_commit_0 rfl (lv_at hl 1 rfl) ?_
  refine lv_iconst (v := 0) hx hb dL_commit_1 (by decide) ?_
  refine lv_aload_n hx hb dL_commit_2 rfl (lv_at hl 0 rfl) ?_
  obtain ⟨⟨x1, cT_2⟩, h3, hf⟩ := bnd hf
  rcases x1 with n4 | r5
  · have hf : (if n4 = 2 then some (1, cT_2, oL) else none) = some (ro, ocT, ooL) := hf
    by_cases c6 : n4 = 2
    · subst c6
      have hf := br_pos rfl hf
      refine cw_vi_err (rest := [.int 0, .ref oa]) (m_C_commit l hst ca ad bq nF nO nL nA nC nV nU nP nE bF bO bL bA bC bV bU bP bE cT cK cO cQ cD pT pK pR pW pU pI pC uO uF uE uN wK jM jN jZ jB (WO ca oa od oL oD ++ R) _ (.error 2) cT_2 h3) ⟨hx, hb, hml, hown, hts⟩ (cwV 0 hts (gV q975 q976 q977 q41 q978) rfl rfl rfl (by decide +kernel) ⟨Nat.le_of_ble_eq_true rfl, Nat.le_of_ble_eq_true rfl⟩) (va_recv hK hP (ci := 7) (q0 := 0) rfl rfl) hE hP hD hS hA hZ rfl hl.1 rfl (lv_room (Nat.le_of_ble_eq_true rfl)) dL_commit_3 ⟨Nat.le_of_ble_eq_true rfl, Nat.le_of_ble_eq_true rfl⟩ (fun H locs q9 ce hP hD hS hce hv9 hcl => ?_)
      refine vx_catch (E := "java/lang/IllegalStateException") hown [] ⟨0, 8, 11, 15⟩ [] htab (fun _ h => absurd h List.not_mem_nil) (by decide) (by decide) (hts _ q353) (va_Nw.use rfl (hE.2.1 _ n440)) hce hv9 hcl ?_
      refine lv_astore_n (lv' := [(2, .ref q9), (0, .ref (ad 0)), (1, .ref oa)]) hx hb dL_commit_11 rfl hl (by decide) rfl (fun ls hl => ?_)
      refine lv_iconst (v := 1) hx hb dL_commit_12 (by decide) ?_
      cases hf
      exact endw_i hAe hQm hx hb hr hlocks rfl hP hD hS dL_commit_13 (Nat.le_of_ble_eq_true rfl) (Nat.le_of_ble_eq_true rfl)
    have hf := br_neg c6 hf
    cases hf
  refine cw_vi_ok (rest := [.int 0, .ref oa]) (m_C_commit l hst ca ad bq nF nO nL nA nC nV nU nP nE bF bO bL bA bC bV bU bP bE cT cK cO cQ cD pT pK pR pW pU pI pC uO uF uE uN wK jM jN jZ jB (WO ca oa od oL oD ++ R) _ (.ok r5) cT_2 h3) ⟨hx, hb, hml, hown, hts⟩ (cwV 0 hts (gV q975 q976 q977 q41 q978) rfl rfl rfl (by decide +kernel) ⟨Nat.le_of_ble_eq_true rfl, Nat.le_of_ble_eq_true rfl⟩) (va_recv hK hP (ci := 7) (q0 := 0) rfl rfl) hE hP hD hS hA hZ rfl hl.1 rfl (lv_room (Nat.le_of_ble_eq_true rfl)) dL_commit_3 ⟨Nat.le_of_ble_eq_true rfl, Nat.le_of_ble_eq_true rfl⟩ (fun H locs hP hD hS => ?_)
  refine lv_i2l hx hb dL_commit_6 rfl ?_
  refine va_last (D := D) hx hb hK hP hD hS 40 5 rfl rfl (by unfold vp_in; decide) dL_commit_7 (fun H locs hP hD hS => ?_)
  have hP : va_P D vwCl (WC ca ad bq nF nO nL nA nC nV nU nP nE bF bO bL bA bC bV bU bP bE cT_2 cK cO cQ cD pT pK pR pW pU pI pC uO uF uE uN wK jM jN jZ jB ++ (WO ca oa od (vp_updL oL (0 : Int32).toNatClampNeg ((r5).toInt64)) oD ++ R)) H := hP
  have hD : va_D A (WC ca ad bq nF nO nL nA nC nV nU nP nE bF bO bL bA bC bV bU bP bE cT_2 cK cO cQ cD pT pK pR pW pU pI pC uO uF uE uN wK jM jN jZ jB ++ (WO ca oa od (vp_updL oL (0 : Int32).toNatClampNeg ((r5).toInt64)) oD ++ R)) := hD
  refine lv_goto (tgt := 14) hx hb dL_commit_8 (by decide) ?_
  refine lv_iconst (v := 0) hx hb dL_commit_14 (by decide) ?_
  cases hf
  exact endw_i hAe hQm hx hb hr hlocks rfl hP hD hS dL_commit_15 (Nat.le_of_ble_eq_true rfl) (Nat.le_of_ble_eq_true rfl)
def f_L_entryKind (p1 : Int32) (nE : Int32) (cK : Nat → Int32) (oL : Nat → Int64) : Option (Int32 × (Nat → Int64)) :=
  (f_C_entryKind p1 nE cK).bind fun x1 =>
  match x1 with
  | .error n3 => if n3 = 3 then some (1, oL) else none
  | .ok r4 =>
  some (0, (vp_updL oL (0 : Int32).toNatClampNeg ((r4).toInt64)))
set_option maxHeartbeats 4000000 in
set_option maxRecDepth 100000 in
theorem m_L_entryKind (l : Launch) (hst : l.stackTraces = false) {D : va_G} (ca : Nat → ClassId) (ad : Nat → Nat) (bq : Nat) (oa od : Nat) (nF : Int32) (nO : Nat → Int32) (nL : Nat → Int32) (nA : Nat → Int32) (nC : Nat → Int32) (nV : Nat → Int32) (nU : Nat → Int32) (nP : Nat → Int32) (nE : Int32) (bF : Int32) (bO : Nat → Int32) (bL : Nat → Int32) (bA : Nat → Int32) (bC : Nat → Int32) (bV : Nat → Int32) (bU : Nat → Int32) (bP : Nat → Int32) (bE : Int32) (cT : Int32) (cK : Nat → Int32) (cO : Int32) (cQ : Nat → Int32) (cD : Int32) (pT : Int32) (pK : Int32) (pR : Nat → Int32) (pW : Nat → Int32) (pU : Nat → Int32) (pI : Nat → Int32) (pC : Nat → Nat → Int32) (uO : Int32) (uF : Nat → Int32) (uE : Nat → Int32) (uN : Nat → Int32) (wK : Nat → Int32) (jM : Int32) (jN : Int32) (jZ : Nat) (jB : Nat → Int32) (oL : Nat → Int64) (oD : Nat → UInt64) (R : va_W) (sz : Nat) (p1 : Int32) (ro : Int32) (ooL : Nat → Int64) (hf : f_L_entryKind p1 nE cK oL = some (ro, ooL)) : vx_Met l yL_entryKind (wmW yL_entryKind cL_entryKind 4 (some .int) [(0, 9, 12, 20)]) ({ frames := 7, cells := 1, slots := 6, locals := 111 } : Room) (PREL [.ref (ad 0), .int p1, .ref oa] D ca SL0 (WC ca ad bq nF nO nL nA nC nV nU nP nE bF bO bL bA bC bV bU bP bE cT cK cO cQ cD pT pK pR pW pU pI pC uO uF uE uN wK jM jN jZ jB ++ (WO ca oa od oL oD ++ R)) sz) (QI ro D (WC ca ad bq nF nO nL nA nC nV nU nP nE bF bO bL bA bC bV bU bP bE cT cK cO cQ cD pT pK pR pW pU pI pC uO uF uE uN wK jM jN jZ jB ++ (WO ca oa od ooL oD ++ R)) (WC ca ad bq nF nO nL nA nC nV nU nP nE bF bO bL bA bC bV bU bP bE cT cK cO cQ cD pT pK pR pW pU pI pC uO uF uE uN wK jM jN jZ jB ++ (WO ca oa od oL oD ++ R)) sz) (fun _ _ _ => False) 1 6 (va_A (WC ca ad bq nF nO nL nA nC nV nU nP nE bF bO bL bA bC bV bU bP bE cT cK cO cQ cD pT pK pR pW pU pI pC uO uF uE uN wK jM jN jZ jB ++ (WO ca oa od oL oD ++ R)) sz) := by
  refine vx_ofWH (cc := cL_entryKind) (maxL := 4) (ret := (some .int)) (hh := [(0, 9, 12, 20)]) (by decide) rfl ?_
  intro p e s m args below meth c s₁ B hml hv
  obtain ⟨rfl, rfl, hP, hE, hD0, hZ, hNC⟩ := hv
  have hx := B.exec
  have hb := B.bytes
  have hr := B.returns
  have hts0 := atoms_spec (ws := wmW yL_entryKind cL_entryKind 4 (some .int) [(0, 9, 12, 20)]) B.pre
  have hts := wmW_ww hts0
  have htab := vx_table (x := yL_entryKind) B (hts0 _ List.mem_cons_self)
  have hown : s.vm.findClass RL = some m.cls := findClass_of_methodNamed B.named
  have hlocks := B.notSynchronized
  have hK := hE.1
  have hD := hD0.self (sz := s.heap.size)
  generalize hAe : va_A (WC ca ad bq nF nO nL nA nC nV nU nP nE bF bO bL bA bC bV bU bP bE cT cK cO cQ cD pT pK pR pW pU pI pC uO uF uE uN wK jM jN jZ jB ++ (WO ca oa od oL oD ++ R)) s.heap.size = A at hD hZ ⊢
  have hA : ∀ q : Nat, s.heap.size ≤ q → A q := fun q h => by rw [← hAe]; exact Or.inr h
  have hS : va_S A s.heap s.heap [] := va_S.rf
  have hl := lv_entry ([.ref (ad 0), .int p1, .ref oa]) (n := 4) (Nat.le_of_ble_eq_true rfl)
  rw [lg_entry_eq]
  generalize (lg_sl ([.ref (ad 0), .int p1, .ref oa]) ++ List.replicate (4 - (lg_sl ([.ref (ad 0), .int p1, .ref oa])).length) Slot.unset).toArray = ls at hl ⊢
  have hl : lv_has ls 4 [(0, .ref (ad 0)), (1, .int p1), (2, .ref oa)] := hl
  change W p l e ({ frames := 7, cells := 1, slots := 6, locals := 111 } : Room) s m _ below meth c s.heap [] 0 0 _ _
  generalize hQm : vx_MQ below (QI ro D (WC ca ad bq nF nO nL nA nC nV nU nP nE bF bO bL bA bC bV bU bP bE cT cK cO cQ cD pT pK pR pW pU pI pC uO uF uE uN wK jM jN jZ jB ++ (WO ca oa od ooL oD ++ R)) (WC ca ad bq nF nO nL nA nC nV nU nP nE bF bO bL bA bC bV bU bP bE cT cK cO cQ cD pT pK pR pW pU pI pC uO uF uE uN wK jM jN jZ jB ++ (WO ca oa od oL oD ++ R)) s.heap.size) (fun _ _ _ => False) _ s 1 6 A = Qm
  have hP : va_P D vwCl (WC ca ad bq nF nO nL nA nC nV nU nP nE bF bO bL bA bC bV bU bP bE cT cK cO cQ cD pT pK pR pW pU pI pC uO uF uE uN wK jM jN jZ jB ++ (WO ca oa od oL oD ++ R)) s.heap := hP
  generalize hae : ([.ref (ad 0), .int p1, .ref oa] : List Value).toArray = args at hts hQm ⊢
  refine lv_aload_n hx hb dL_entryKind_0 rfl (lv_at hl 2 rfl) ?_
  refine lv_iconst (v := 0) hx hb dL_entryKind_1 (by decide) ?_
  refine lv_aload_n hx hb dL_entryKind_2 rfl (lv_at hl 0 rfl) ?_
  refine lv_iload_n hx hb dL_entryKind_3 rfl (lv_at hl 1 rfl) ?_
  obtain ⟨x1, h2, hf⟩ := bnd hf
  rcases x1 with n3 | r4
  · have hf : (if n3 = 3 then some (1, oL) else none) = some (ro, ooL) := hf
    by_cases c5 : n3 = 3
    · subst c5
      have hf := br_pos rfl hf
      refine cw_vi_err (rest := [.int 0, .ref oa]) (m_C_entryKind l hst ca ad bq nF nO nL nA nC nV nU nP nE bF bO bL bA bC bV bU bP bE cT cK cO cQ cD pT pK pR pW pU pI pC uO uF uE uN wK jM jN jZ jB (WO ca oa od oL oD ++ R) _ p1 (.error 3) h2) ⟨hx, hb, hml, hown, hts⟩ (cwV 1 hts (gV q983 q984 q985 q41 q986) rfl rfl rfl (by decide +kernel) ⟨Nat.le_of_ble_eq_true rfl, Nat.le_of_ble_eq_true rfl⟩) (va_recv hK hP (ci := 7) (q0 := 0) rfl rfl) hE hP hD hS hA hZ rfl hl.1 rfl (lv_room (Nat.le_of_ble_eq_true rfl)) dL_entryKind_4 ⟨Nat.le_of_ble_eq_true rfl, Nat.le_of_ble_eq_true rfl⟩ (fun H locs q9 ce hP hD hS hce hv9 hcl => ?_)
      refine vx_catch (E := "java/lang/IndexOutOfBoundsException") hown [] ⟨0, 9, 12, 20⟩ [] htab (fun _ h => absurd h List.not_mem_nil) (by decide) (by decide) (hts _ q458) (va_Nw.use rfl (hE.2.1 _ n492)) hce hv9 hcl ?_
      refine lv_astore_n (lv' := [(3, .ref q9), (0, .ref (ad 0)), (1, .int p1), (2, .ref oa)]) hx hb dL_entryKind_12 rfl hl (by decide) rfl (fun ls hl => ?_)
      refine lv_iconst (v := 1) hx hb dL_entryKind_13 (by decide) ?_
      cases hf
      exact endw_i hAe hQm hx hb hr hlocks rfl hP hD hS dL_entryKind_14 (Nat.le_of_ble_eq_true rfl) (Nat.le_of_ble_eq_true rfl)
    have hf := br_neg c5 hf
    cases hf
  refine cw_vi_ok (rest := [.int 0, .ref oa]) (m_C_entryKind l hst ca ad bq nF nO nL nA nC nV nU nP nE bF bO bL bA bC bV bU bP bE cT cK cO cQ cD pT pK pR pW pU pI pC uO uF uE uN wK jM jN jZ jB (WO ca oa od oL oD ++ R) _ p1 (.ok r4) h2) ⟨hx, hb, hml, hown, hts⟩ (cwV 1 hts (gV q983 q984 q985 q41 q986) rfl rfl rfl (by decide +kernel) ⟨Nat.le_of_ble_eq_true rfl, Nat.le_of_ble_eq_true rfl⟩) (va_recv hK hP (ci := 7) (q0 := 0) rfl rfl) hE hP hD hS hA hZ rfl hl.1 rfl (lv_room (Nat.le_of_ble_eq_true rfl)) dL_entryKind_4 ⟨Nat.le_of_ble_eq_true rfl, Nat.le_of_ble_eq_true rfl⟩ (fun H locs hP hD hS => ?_)
  refine lv_i2l hx hb dL_entryKind_7 rfl ?_
  refine va_last (D := D) hx hb hK hP hD hS 40 5 rfl rfl (by unfold vp_in; decide) dL_entryKind_8 (fun H locs hP hD hS => ?_)
  have hP : va_P D vwCl (WC ca ad bq nF nO nL nA nC nV nU nP nE bF bO bL bA bC bV bU bP bE cT cK cO cQ cD pT pK pR pW pU pI pC uO uF uE uN wK jM jN jZ jB ++ (WO ca oa od (vp_updL oL (0 : Int32).toNatClampNeg ((r4).toInt64)) oD ++ R)) H := hP
  have hD : va_D A (WC ca ad bq nF nO nL nA nC nV nU nP nE bF bO bL bA bC bV bU bP bE cT cK cO cQ cD pT pK pR pW pU pI pC uO uF uE uN wK jM jN jZ jB ++ (WO ca oa od (vp_updL oL (0 : Int32).toNatClampNeg ((r4).toInt64)) oD ++ R)) := hD
  refine lv_goto (tgt := 15) hx hb dL_entryKind_9 (by decide) ?_
  refine lv_iconst (v := 0) hx hb dL_entryKind_15 (by decide) ?_
  cases hf
  exact endw_i hAe hQm hx hb hr hlocks rfl hP hD hS dL_entryKind_16 (Nat.le_of_ble_eq_true rfl) (Nat.le_of_ble_eq_true rfl)
def f_L_meanUsers (nU : Nat → Int32) (oD : Nat → UInt64) : Option (Int32 × (Nat → UInt64)) :=
  (f_C_meanUsers nU).bind fun x1 =>
  match x1 with
  | .error n3 => if n3 = 6 then some (1, oD) else none
  | .ok r4 =>
  some (0, (vf_upd oD (0 : Int32).toNatClampNeg r4))
set_option maxHeartbeats 4000000 in
set_option maxRecDepth 100000 in
theorem m_L_meanUsers (l : Launch) (hst : l.stackTraces = false) {D : va_G} (ca : Nat → ClassId) (ad : Nat → Nat) (bq : Nat) (oa od : Nat) (nF : Int32) (nO : Nat → Int32) (nL : Nat → Int32) (nA : Nat → Int32) (nC : Nat → Int32) (nV : Nat → Int32) (nU : Nat → Int32) (nP : Nat → Int32) (nE : Int32) (bF : Int32) (bO : Nat → Int32) (bL : Nat → Int32) (bA : Nat → Int32) (bC : Nat → Int32) (bV : Nat → Int32) (bU : Nat → Int32) (bP : Nat → Int32) (bE : Int32) (cT : Int32) (cK : Nat → Int32) (cO : Int32) (cQ : Nat → Int32) (cD : Int32) (pT : Int32) (pK : Int32) (pR : Nat → Int32) (pW : Nat → Int32) (pU : Nat → Int32) (pI : Nat → Int32) (pC : Nat → Nat → Int32) (uO : Int32) (uF : Nat → Int32) (uE : Nat → Int32) (uN : Nat → Int32) (wK : Nat → Int32) (jM : Int32) (jN : Int32) (jZ : Nat) (jB : Nat → Int32) (oL : Nat → Int64) (oD : Nat → UInt64) (R : va_W) (sz : Nat) (ro : Int32) (ooD : Nat → UInt64) (hf : f_L_meanUsers nU oD = some (ro, ooD)) : vx_Met l yL_meanUsers (wmW yL_meanUsers cL_meanUsers 3 (some .int) [(0, 7, 10, 125)]) ({ frames := 7, cells := 1, slots := 6, locals := 113 } : Room) (PREL [.ref (ad 0), .ref od] D ca SL0 (WC ca ad bq nF nO nL nA nC nV nU nP nE bF bO bL bA bC bV bU bP bE cT cK cO cQ cD pT pK pR pW pU pI pC uO uF uE uN wK jM jN jZ jB ++ (WO ca oa od oL oD ++ R)) sz) (QI ro D (WC ca ad bq nF nO nL nA nC nV nU nP nE bF bO bL bA bC bV bU bP bE cT cK cO cQ cD pT pK pR pW pU pI pC uO uF uE uN wK jM jN jZ jB ++ (WO ca oa od oL ooD ++ R)) (WC ca ad bq nF nO nL nA nC nV nU nP nE bF bO bL bA bC bV bU bP bE cT cK cO cQ cD pT pK pR pW pU pI pC uO uF uE uN wK jM jN jZ jB ++ (WO ca oa od oL oD ++ R)) sz) (fun _ _ _ => False) 1 6 (va_A (WC ca ad bq nF nO nL nA nC nV nU nP nE bF bO bL bA bC bV bU bP bE cT cK cO cQ cD pT pK pR pW pU pI pC uO uF uE uN wK jM jN jZ jB ++ (WO ca oa od oL oD ++ R)) sz) := by
  refine vx_ofWH (cc := cL_meanUsers) (maxL := 3) (ret := (some .int)) (hh := [(0, 7, 10, 125)]) (by decide) rfl ?_
  intro p e s m args below meth c s₁ B hml hv
  obtain ⟨rfl, rfl, hP, hE, hD0, hZ, hNC⟩ := hv
  have hx := B.exec
  have hb := B.bytes
  have hr := B.returns
  have hts0 := atoms_spec (ws := wmW yL_meanUsers cL_meanUsers 3 (some .int) [(0, 7, 10, 125)]) B.pre
  have hts := wmW_ww hts0
  have htab := vx_table (x := yL_meanUsers) B (hts0 _ List.mem_cons_self)
  have hown : s.vm.findClass RL = some m.cls := findClass_of_methodNamed B.named
  have hlocks := B.notSynchronized
  have hK := hE.1
  have hD := hD0.self (sz := s.heap.size)
  generalize hAe : va_A (WC ca ad bq nF nO nL nA nC nV nU nP nE bF bO bL bA bC bV bU bP bE cT cK cO cQ cD pT pK pR pW pU pI pC uO uF uE uN wK jM jN jZ jB ++ (WO ca oa od oL oD ++ R)) s.heap.size = A at hD hZ ⊢
  have hA : ∀ q : Nat, s.heap.size ≤ q → A q := fun q h => by rw [← hAe]; exact Or.inr h
  have hS : va_S A s.heap s.heap [] := va_S.rf
  have hl := lv_entry ([.ref (ad 0), .ref od]) (n := 3) (Nat.le_of_ble_eq_true rfl)
  rw [lg_entry_eq]
  generalize (lg_sl ([.ref (ad 0), .ref od]) ++ List.replicate (3 - (lg_sl ([.ref (ad 0), .ref od])).length) Slot.unset).toArray = ls at hl ⊢
  have hl : lv_has ls 3 [(0, .ref (ad 0)), (1, .ref od)] := hl
  change W p l e ({ frames := 7, cells := 1, slots := 6, locals := 113 } : Room) s m _ below meth c s.heap [] 0 0 _ _
  generalize hQm : vx_MQ below (QI ro D (WC ca ad bq nF nO nL nA nC nV nU nP nE bF bO bL bA bC bV bU bP bE cT cK cO cQ cD pT pK pR pW pU pI pC uO uF uE uN wK jM jN jZ jB ++ (WO ca oa od oL ooD ++ R)) (WC ca ad bq nF nO nL nA nC nV nU nP nE bF bO bL bA bC bV bU bP bE cT cK cO cQ cD pT pK pR pW pU pI pC uO uF uE uN wK jM jN jZ jB ++ (WO ca oa od oL oD ++ R)) s.heap.size) (fun _ _ _ => False) _ s 1 6 A = Qm
  have hP : va_P D vwCl (WC ca ad bq nF nO nL nA nC nV nU nP nE bF bO bL bA bC bV bU bP bE cT cK cO cQ cD pT pK pR pW pU pI pC uO uF uE uN wK jM jN jZ jB ++ (WO ca oa od oL oD ++ R)) s.heap := hP
  generalize hae : ([.ref (ad 0), .ref od] : List Value).toArray = args at hts hQm ⊢
  refine lv_aload_n hx hb dL_meanUsers_0 rfl (lv_at hl 1 rfl) ?_
  refine lv_iconst (v := 0) hx hb dL_meanUsers_1 (by decide) ?_
  refine lv_aload_n hx hb dL_meanUsers_2 rfl (lv_at hl 0 rfl) ?_
  obtain ⟨x1, h2, hf⟩ := bnd hf
  rcases x1 with n3 | r4
  · have hf : (if n3 = 6 then some (1, oD) else none) = some (ro, ooD) := hf
    by_cases c5 : n3 = 6
    · subst c5
      have hf := br_pos rfl hf
      refine cw_vd_err (rest := [.int 0, .ref od]) (m_C_meanUsers l hst ca ad bq nF nO nL nA nC nV nU nP nE bF bO bL bA bC bV bU bP bE cT cK cO cQ cD pT pK pR pW pU pI pC uO uF uE uN wK jM jN jZ jB (WO ca oa od oL oD ++ R) _ (.error 6) h2) ⟨hx, hb, hml, hown, hts⟩ (cwV 0 hts (gV q1005 q1006 q1007 q41 q1008) rfl rfl rfl (by decide +kernel) ⟨Nat.le_of_ble_eq_true rfl, Nat.le_of_ble_eq_true rfl⟩) (va_recv hK hP (ci := 7) (q0 := 0) rfl rfl) hE hP hD hS hA hZ rfl hl.1 rfl (lv_room (Nat.le_of_ble_eq_true rfl)) dL_meanUsers_3 ⟨Nat.le_of_ble_eq_true rfl, Nat.le_of_ble_eq_true rfl⟩ (fun H locs q9 ce hP hD hS hce hv9 hcl => ?_)
      refine vx_catch (E := "java/lang/ArithmeticException") hown [] ⟨0, 7, 10, 125⟩ [] htab (fun _ h => absurd h List.not_mem_nil) (by decide) (by decide) (hts _ q991) (va_Nw.use rfl (hE.2.1 _ n1003)) hce hv9 hcl ?_
      refine lv_astore_n (lv' := [(2, .ref q9), (0, .ref (ad 0)), (1, .ref od)]) hx hb dL_meanUsers_10 rfl hl (by decide) rfl (fun ls hl => ?_)
      refine lv_iconst (v := 1) hx hb dL_meanUsers_11 (by decide) ?_
      cases hf
      exact endw_i hAe hQm hx hb hr hlocks rfl hP hD hS dL_meanUsers_12 (Nat.le_of_ble_eq_true rfl) (Nat.le_of_ble_eq_true rfl)
    have hf := br_neg c5 hf
    cases hf
  refine cw_vd_ok (rest := [.int 0, .ref od]) (m_C_meanUsers l hst ca ad bq nF nO nL nA nC nV nU nP nE bF bO bL bA bC bV bU bP bE cT cK cO cQ cD pT pK pR pW pU pI pC uO uF uE uN wK jM jN jZ jB (WO ca oa od oL oD ++ R) _ (.ok r4) h2) ⟨hx, hb, hml, hown, hts⟩ (cwV 0 hts (gV q1005 q1006 q1007 q41 q1008) rfl rfl rfl (by decide +kernel) ⟨Nat.le_of_ble_eq_true rfl, Nat.le_of_ble_eq_true rfl⟩) (va_recv hK hP (ci := 7) (q0 := 0) rfl rfl) hE hP hD hS hA hZ rfl hl.1 rfl (lv_room (Nat.le_of_ble_eq_true rfl)) dL_meanUsers_3 ⟨Nat.le_of_ble_eq_true rfl, Nat.le_of_ble_eq_true rfl⟩ (fun H locs hP hD hS => ?_)
  refine va_dast (D := D) hx hb hK hP hD hS 41 6 rfl rfl (by unfold vp_in; decide) dL_meanUsers_6 (fun H locs hP hD hS => ?_)
  have hP : va_P D vwCl (WC ca ad bq nF nO nL nA nC nV nU nP nE bF bO bL bA bC bV bU bP bE cT cK cO cQ cD pT pK pR pW pU pI pC uO uF uE uN wK jM jN jZ jB ++ (WO ca oa od oL (vf_upd oD (0 : Int32).toNatClampNeg r4) ++ R)) H := hP
  have hD : va_D A (WC ca ad bq nF nO nL nA nC nV nU nP nE bF bO bL bA bC bV bU bP bE cT cK cO cQ cD pT pK pR pW pU pI pC uO uF uE uN wK jM jN jZ jB ++ (WO ca oa od oL (vf_upd oD (0 : Int32).toNatClampNeg r4) ++ R)) := hD
  refine lv_goto (tgt := 13) hx hb dL_meanUsers_7 (by decide) ?_
  refine lv_iconst (v := 0) hx hb dL_meanUsers_13 (by decide) ?_
  cases hf
  exact endw_i hAe hQm hx hb hr hlocks rfl hP hD hS dL_meanUsers_14 (Nat.le_of_ble_eq_true rfl) (Nat.le_of_ble_eq_true rfl)
def f_L_heldShare (nF : Int32) (nA : Nat → Int32) (uO : Int32) (uF : Nat → Int32) (uN : Nat → Int32) (oD : Nat → UInt64) : Option (Int32 × (Nat → UInt64)) :=
  (f_C_heldShare nF nA uO uF uN).bind fun x1 =>
  match x1 with
  | .error n3 => if n3 = 6 then some (1, oD) else none
  | .ok r4 =>
  if ((FP.f2d r4) &&& 0x7fffffffffffffff ≤ 0x7ff0000000000000) then some (0, (vf_upd oD (0 : Int32).toNatClampNeg (FP.f2d r4))) else none
set_option maxHeartbeats 4000000 in
set_option maxRecDepth 100000 in
theorem m_L_heldShare (l : Launch) (hst : l.stackTraces = false) {D : va_G} (ca : Nat → ClassId) (ad : Nat → Nat) (bq : Nat) (oa od : Nat) (nF : Int32) (nO : Nat → Int32) (nL : Nat → Int32) (nA : Nat → Int32) (nC : Nat → Int32) (nV : Nat → Int32) (nU : Nat → Int32) (nP : Nat → Int32) (nE : Int32) (bF : Int32) (bO : Nat → Int32) (bL : Nat → Int32) (bA : Nat → Int32) (bC : Nat → Int32) (bV : Nat → Int32) (bU : Nat → Int32) (bP : Nat → Int32) (bE : Int32) (cT : Int32) (cK : Nat → Int32) (cO : Int32) (cQ : Nat → Int32) (cD : Int32) (pT : Int32) (pK : Int32) (pR : Nat → Int32) (pW : Nat → Int32) (pU : Nat → Int32) (pI : Nat → Int32) (pC : Nat → Nat → Int32) (uO : Int32) (uF : Nat → Int32) (uE : Nat → Int32) (uN : Nat → Int32) (wK : Nat → Int32) (jM : Int32) (jN : Int32) (jZ : Nat) (jB : Nat → Int32) (oL : Nat → Int64) (oD : Nat → UInt64) (R : va_W) (sz : Nat) (ro : Int32) (ooD : Nat → UInt64) (hf : f_L_heldShare nF nA uO uF uN oD = some (ro, ooD)) : vx_Met l yL_heldShare (wmW yL_heldShare cL_heldShare 3 (some .int) [(0, 8, 11, 125)]) ({ frames := 7, cells := 1, slots := 6, locals := 113 } : Room) (PREL [.ref (ad 0), .ref od] D ca SL0 (WC ca ad bq nF nO nL nA nC nV nU nP nE bF bO bL bA bC bV bU bP bE cT cK cO cQ cD pT pK pR pW pU pI pC uO uF uE uN wK jM jN jZ jB ++ (WO ca oa od oL oD ++ R)) sz) (QI ro D (WC ca ad bq nF nO nL nA nC nV nU nP nE bF bO bL bA bC bV bU bP bE cT cK cO cQ cD pT pK pR pW pU pI pC uO uF uE uN wK jM jN jZ jB ++ (WO ca oa od oL ooD ++ R)) (WC ca ad bq nF nO nL nA nC nV nU nP nE bF bO bL bA bC bV bU bP bE cT cK cO cQ cD pT pK pR pW pU pI pC uO uF uE uN wK jM jN jZ jB ++ (WO ca oa od oL oD ++ R)) sz) (fun _ _ _ => False) 1 6 (va_A (WC ca ad bq nF nO nL nA nC nV nU nP nE bF bO bL bA bC bV bU bP bE cT cK cO cQ cD pT pK pR pW pU pI pC uO uF uE uN wK jM jN jZ jB ++ (WO ca oa od oL oD ++ R)) sz) := by
  refine vx_ofWH (cc := cL_heldShare) (maxL := 3) (ret := (some .int)) (hh := [(0, 8, 11, 125)]) (by decide) rfl ?_
  intro p e s m args below meth c s₁ B hml hv
  obtain ⟨rfl, rfl, hP, hE, hD0, hZ, hNC⟩ := hv
  have hx := B.exec
  have hb := B.bytes
  have hr := B.returns
  have hts0 := atoms_spec (ws := wmW yL_heldShare cL_heldShare 3 (some .int) [(0, 8, 11, 125)]) B.pre
  have hts := wmW_ww hts0
  have htab := vx_table (x := yL_heldShare) B (hts0 _ List.mem_cons_self)
  have hown : s.vm.findClass RL = some m.cls := findClass_of_methodNamed B.named
  have hlocks := B.notSynchronized
  have hK := hE.1
  have hD := hD0.self (sz := s.heap.size)
  generalize hAe : va_A (WC ca ad bq nF nO nL nA nC nV nU nP nE bF bO bL bA bC bV bU bP bE cT cK cO cQ cD pT pK pR pW pU pI pC uO uF uE uN wK jM jN jZ jB ++ (WO ca oa od oL oD ++ R)) s.heap.size = A at hD hZ ⊢
  have hA : ∀ q : Nat, s.heap.size ≤ q → A q := fun q h => by rw [← hAe]; exact Or.inr h
  have hS : va_S A s.heap s.heap [] := va_S.rf
  have hl := lv_entry ([.ref (ad 0), .ref od]) (n := 3) (Nat.le_of_ble_eq_true rfl)
  rw [lg_entry_eq]
  generalize (lg_sl ([.ref (ad 0), .ref od]) ++ List.replicate (3 - (lg_sl ([.ref (ad 0), .ref od])).length) Slot.unset).toArray = ls at hl ⊢
  have hl : lv_has ls 3 [(0, .ref (ad 0)), (1, .ref od)] := hl
  change W p l e ({ frames := 7, cells := 1, slots := 6, locals := 113 } : Room) s m _ below meth c s.heap [] 0 0 _ _
  generalize hQm : vx_MQ below (QI ro D (WC ca ad bq nF nO nL nA nC nV nU nP nE bF bO bL bA bC bV bU bP bE cT cK cO cQ cD pT pK pR pW pU pI pC uO uF uE uN wK jM jN jZ jB ++ (WO ca oa od oL ooD ++ R)) (WC ca ad bq nF nO nL nA nC nV nU nP nE bF bO bL bA bC bV bU bP bE cT cK cO cQ cD pT pK pR pW pU pI pC uO uF uE uN wK jM jN jZ jB ++ (WO ca oa od oL oD ++ R)) s.heap.size) (fun _ _ _ => False) _ s 1 6 A = Qm
  have hP : va_P D vwCl (WC ca ad bq nF nO nL nA nC nV nU nP nE bF bO bL bA bC bV bU bP bE cT cK cO cQ cD pT pK pR pW pU pI pC uO uF uE uN wK jM jN jZ jB ++ (WO ca oa od oL oD ++ R)) s.heap := hP
  generalize hae : ([.ref (ad 0), .ref od] : List Value).toArray = args at hts hQm ⊢
  refine lv_aload_n hx hb dL_heldShare_0 rfl (lv_at hl 1 rfl) ?_
  refine lv_iconst (v := 0) hx hb dL_heldShare_1 (by decide) ?_
  refine lv_aload_n hx hb dL_heldShare_2 rfl (lv_at hl 0 rfl) ?_
  obtain ⟨x1, h2, hf⟩ := bnd hf
  rcases x1 with n3 | r4
  · have hf : (if n3 = 6 then some (1, oD) else none) = some (ro, ooD) := hf
    by_cases c5 : n3 = 6
    · subst c5
      have hf := br_pos rfl hf
      refine cw_vf_err (rest := [.int 0, .ref od]) (m_C_heldShare l hst ca ad bq nF nO nL nA nC nV nU nP nE bF bO bL bA bC bV bU bP bE cT cK cO cQ cD pT pK pR pW pU pI pC uO uF uE uN wK jM jN jZ jB (WO ca oa od oL oD ++ R) _ (.error 6) h2) ⟨hx, hb, hml, hown, hts⟩ (cwV 0 hts (gV q1015 q1016 q1017 q41 q1018) rfl rfl rfl (by decide +kernel) ⟨Nat.le_of_ble_eq_true rfl, Nat.le_of_ble_eq_true rfl⟩) (va_recv hK hP (ci := 7) (q0 := 0) rfl rfl) hE hP hD hS hA hZ rfl hl.1 rfl (lv_room (Nat.le_of_ble_eq_true rfl)) dL_heldShare_3 ⟨Nat.le_of_ble_eq_true rfl, Nat.le_of_ble_eq_true rfl⟩ (fun H locs q9 ce hP hD hS hce hv9 hcl => ?_)
      refine vx_catch (E := "java/lang/ArithmeticException") hown [] ⟨0, 8, 11, 125⟩ [] htab (fun _ h => absurd h List.not_mem_nil) (by decide) (by decide) (hts _ q991) (va_Nw.use rfl (hE.2.1 _ n1003)) hce hv9 hcl ?_
      refine lv_astore_n (lv' := [(2, .ref q9), (0, .ref (ad 0)), (1, .ref od)]) hx hb dL_heldShare_11 rfl hl (by decide) rfl (fun ls hl => ?_)
      refine lv_iconst (v := 1) hx hb dL_heldShare_12 (by decide) ?_
      cases hf
      exact endw_i hAe hQm hx hb hr hlocks rfl hP hD hS dL_heldShare_13 (Nat.le_of_ble_eq_true rfl) (Nat.le_of_ble_eq_true rfl)
    have hf := br_neg c5 hf
    cases hf
  refine cw_vf_ok (rest := [.int 0, .ref od]) (m_C_heldShare l hst ca ad bq nF nO nL nA nC nV nU nP nE bF bO bL bA bC bV bU bP bE cT cK cO cQ cD pT pK pR pW pU pI pC uO uF uE uN wK jM jN jZ jB (WO ca oa od oL oD ++ R) _ (.ok r4) h2) ⟨hx, hb, hml, hown, hts⟩ (cwV 0 hts (gV q1015 q1016 q1017 q41 q1018) rfl rfl rfl (by decide +kernel) ⟨Nat.le_of_ble_eq_true rfl, Nat.le_of_ble_eq_true rfl⟩) (va_recv hK hP (ci := 7) (q0 := 0) rfl rfl) hE hP hD hS hA hZ rfl hl.1 rfl (lv_room (Nat.le_of_ble_eq_true rfl)) dL_heldShare_3 ⟨Nat.le_of_ble_eq_true rfl, Nat.le_of_ble_eq_true rfl⟩ (fun H locs hP hD hS => ?_)
  obtain ⟨k6, hf⟩ := ck_yes hf
  refine lv_f2d hx hb dL_heldShare_6 k6 ?_
  refine va_dast (D := D) hx hb hK hP hD hS 41 6 rfl rfl (by unfold vp_in; decide) dL_heldShare_7 (fun H locs hP hD hS => ?_)
  have hP : va_P D vwCl (WC ca ad bq nF nO nL nA nC nV nU nP nE bF bO bL bA bC bV bU bP bE cT cK cO cQ cD pT pK pR pW pU pI pC uO uF uE uN wK jM jN jZ jB ++ (WO ca oa od oL (vf_upd oD (0 : Int32).toNatClampNeg (FP.f2d r4)) ++ R)) H := hP
  have hD : va_D A (WC ca ad bq nF nO nL nA nC nV nU nP nE bF bO bL bA bC bV bU bP bE cT cK cO cQ cD pT pK pR pW pU pI pC uO uF uE uN wK jM jN jZ jB ++ (WO ca oa od oL (vf_upd oD (0 : Int32).toNatClampNeg (FP.f2d r4)) ++ R)) := hD
  refine lv_goto (tgt := 14) hx hb dL_heldShare_8 (by decide) ?_
  refine lv_iconst (v := 0) hx hb dL_heldShare_14 (by decide) ?_
  cases hf
  exact endw_i hAe hQm hx hb hr hlocks rfl hP hD hS dL_heldShare_15 (Nat.le_of_ble_eq_true rfl) (Nat.le_of_ble_eq_true rfl)
