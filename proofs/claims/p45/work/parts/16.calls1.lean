def f_K0 (p2 : Int32) (cT : Int32) (cO : Int32) (cQ : Nat → Int32) : Option (Int32 × Int32 × (Nat → Int32)) :=
  (f_C_addOwner p2 cT cO cQ).bind fun (x1, cO_2, cQ_3) =>
  match x1 with
  | .error n5 => if n5 = 3 then some ((-1001), cO_2, cQ_3) else if n5 = 1 then some ((-1002), cO_2, cQ_3) else if n5 = 2 then some ((-1003), cO_2, cQ_3) else if n5 = 4 then some ((-1004), cO_2, cQ_3) else if n5 = 5 then some ((-1005), cO_2, cQ_3) else none
  | .ok r6 =>
  some (r6, cO_2, cQ_3)
set_option maxHeartbeats 4000000 in
set_option maxRecDepth 100000 in
theorem m_K0 (l : Launch) (hst : l.stackTraces = false) {D : va_G} (ca : Nat → ClassId) (ad : Nat → Nat) (bq : Nat) (nF : Int32) (nO : Nat → Int32) (nL : Nat → Int32) (nA : Nat → Int32) (nC : Nat → Int32) (nV : Nat → Int32) (nU : Nat → Int32) (nP : Nat → Int32) (nE : Int32) (bF : Int32) (bO : Nat → Int32) (bL : Nat → Int32) (bA : Nat → Int32) (bC : Nat → Int32) (bV : Nat → Int32) (bU : Nat → Int32) (bP : Nat → Int32) (bE : Int32) (cT : Int32) (cK : Nat → Int32) (cO : Int32) (cQ : Nat → Int32) (cD : Int32) (pT : Int32) (pK : Int32) (pR : Nat → Int32) (pW : Nat → Int32) (pU : Nat → Int32) (pI : Nat → Int32) (pC : Nat → Nat → Int32) (uO : Int32) (uF : Nat → Int32) (uE : Nat → Int32) (uN : Nat → Int32) (wK : Nat → Int32) (jM : Int32) (jN : Int32) (jZ : Nat) (jB : Nat → Int32) (R : va_W) (sz : Nat) (p2 : Int32) (p3 : Int32) (p4 : Int32) (ro : Int32) (ocO : Int32) (ocQ : Nat → Int32) (hf : f_K0 p2 cT cO cQ = some (ro, ocO, ocQ)) : vx_Met l yL_call (wmW yL_call cL_call 6 (some .int) HH) ({ frames := 8, cells := 3, slots := 18, locals := 135 } : Room) (PREL [.ref (ad 0), .int 0, .int p2, .int p3, .int p4] D ca SL0 (WC ca ad bq nF nO nL nA nC nV nU nP nE bF bO bL bA bC bV bU bP bE cT cK cO cQ cD pT pK pR pW pU pI pC uO uF uE uN wK jM jN jZ jB ++ R) sz) (QI ro D (WC ca ad bq nF nO nL nA nC nV nU nP nE bF bO bL bA bC bV bU bP bE cT cK ocO ocQ cD pT pK pR pW pU pI pC uO uF uE uN wK jM jN jZ jB ++ R) (WC ca ad bq nF nO nL nA nC nV nU nP nE bF bO bL bA bC bV bU bP bE cT cK cO cQ cD pT pK pR pW pU pI pC uO uF uE uN wK jM jN jZ jB ++ R) sz) (fun _ _ _ => False) 3 18 (va_A (WC ca ad bq nF nO nL nA nC nV nU nP nE bF bO bL bA bC bV bU bP bE cT cK cO cQ cD pT pK pR pW pU pI pC uO uF uE uN wK jM jN jZ jB ++ R) sz) := by
  refine vx_ofWH (cc := cL_call) (maxL := 6) (ret := (some .int)) (hh := HH) (by decide) rfl ?_
  intro p e s m args below meth c s₁ B hml hv
  obtain ⟨rfl, rfl, hP, hE, hD0, hZ, hNC⟩ := hv
  have hx := B.exec
  have hb := B.bytes
  have hr := B.returns
  have hts0 := atoms_spec (ws := wmW yL_call cL_call 6 (some .int) HH) B.pre
  have hts := wmW_ww hts0
  have htab := vx_table (x := yL_call) B (hts0 _ List.mem_cons_self)
  have hown : s.vm.findClass RL = some m.cls := findClass_of_methodNamed B.named
  have hlocks := B.notSynchronized
  have hK := hE.1
  have hD := hD0.self (sz := s.heap.size)
  generalize hAe : va_A (WC ca ad bq nF nO nL nA nC nV nU nP nE bF bO bL bA bC bV bU bP bE cT cK cO cQ cD pT pK pR pW pU pI pC uO uF uE uN wK jM jN jZ jB ++ R) s.heap.size = A at hD hZ ⊢
  have hA : ∀ q : Nat, s.heap.size ≤ q → A q := fun q h => by rw [← hAe]; exact Or.inr h
  have hS : va_S A s.heap s.heap [] := va_S.rf
  have hl := lv_entry ([.ref (ad 0), .int 0, .int p2, .int p3, .int p4]) (n := 6) (Nat.le_of_ble_eq_true rfl)
  rw [lg_entry_eq]
  generalize (lg_sl ([.ref (ad 0), .int 0, .int p2, .int p3, .int p4]) ++ List.replicate (6 - (lg_sl ([.ref (ad 0), .int 0, .int p2, .int p3, .int p4])).length) Slot.unset).toArray = ls at hl ⊢
  have hl : lv_has ls 6 [(0, .ref (ad 0)), (1, .int 0), (2, .int p2), (3, .int p3), (4, .int p4)] := hl
  change W p l e ({ frames := 8, cells := 3, slots := 18, locals := 135 } : Room) s m _ below meth c s.heap [] 0 0 _ _
  generalize hQm : vx_MQ below (QI ro D (WC ca ad bq nF nO nL nA nC nV nU nP nE bF bO bL bA bC bV bU bP bE cT cK ocO ocQ cD pT pK pR pW pU pI pC uO uF uE uN wK jM jN jZ jB ++ R) (WC ca ad bq nF nO nL nA nC nV nU nP nE bF bO bL bA bC bV bU bP bE cT cK cO cQ cD pT pK pR pW pU pI pC uO uF uE uN wK jM jN jZ jB ++ R) s.heap.size) (fun _ _ _ => False) _ s 3 18 A = Qm
  have hP : va_P D vwCl (WC ca ad bq nF nO nL nA nC nV nU nP nE bF bO bL bA bC bV bU bP bE cT cK cO cQ cD pT pK pR pW pU pI pC uO uF uE uN wK jM jN jZ jB ++ R) s.heap := hP
  generalize hae : ([.ref (ad 0), .int 0, .int p2, .int p3, .int p4] : List Value).toArray = args at hts hQm ⊢
  refine lv_iload_n hx hb dL_call_0 rfl (lv_at hl 1 rfl) ?_
  refine lv_tableIn (off := 151) (tgt := 152) hx hb dL_call_1 (by decide) (by decide) rfl (by decide) ?_
  refine lv_aload_n hx hb dL_call_152 rfl (lv_at hl 0 rfl) ?_
  refine lv_iload_n hx hb dL_call_153 rfl (lv_at hl 2 rfl) ?_
  obtain ⟨⟨x1, cO_2, cQ_3⟩, h4, hf⟩ := bnd hf
  rcases x1 with n5 | r6
  · have hf : (if n5 = 3 then some ((-1001), cO_2, cQ_3) else if n5 = 1 then some ((-1002), cO_2, cQ_3) else if n5 = 2 then some ((-1003), cO_2, cQ_3) else if n5 = 4 then some ((-1004), cO_2, cQ_3) else if n5 = 5 then some ((-1005), cO_2, cQ_3) else none) = some (ro, ocO, ocQ) := hf
    by_cases c7 : n5 = 3
    · subst c7
      have hf := br_pos rfl hf
      refine cw_vi_err (rest := []) (m_C_addOwner l hst ca ad bq nF nO nL nA nC nV nU nP nE bF bO bL bA bC bV bU bP bE cT cK cO cQ cD pT pK pR pW pU pI pC uO uF uE uN wK jM jN jZ jB R _ p2 (.error 3) cO_2 cQ_3 h4) ⟨hx, hb, hml, hown, hts⟩ (cwV 1 hts (gV q337 q338 q339 q24 q340) rfl rfl rfl (by decide +kernel) ⟨Nat.le_of_ble_eq_true rfl, Nat.le_of_ble_eq_true rfl⟩) (va_recv hK hP (ci := 7) (q0 := 0) rfl rfl) hE hP hD hS hA hZ rfl hl.1 rfl (lv_room (Nat.le_of_ble_eq_true rfl)) dL_call_154 ⟨Nat.le_of_ble_eq_true rfl, Nat.le_of_ble_eq_true rfl⟩ (fun H locs q9 ce hP hD hS hce hv9 hcl => ?_)
      refine vx_catch (E := "java/lang/IndexOutOfBoundsException") hown ((tableOf HH).take 0) ⟨0, 157, 393, 122⟩ ((tableOf HH).drop (0 + 1)) (htab.trans (sp_at (n := 0) hh0)) (hp_of [] (by decide +kernel) (fun _ h => absurd h List.not_mem_nil)) (by decide) (by decide) (hts _ q254) (va_Nw.use rfl (hE.2.1 _ n392)) hce hv9 hcl ?_
      refine lv_astore (lv' := [(5, .ref q9), (0, .ref (ad 0)), (1, .int 0), (2, .int p2), (3, .int p3), (4, .int p4)]) hx hb dL_call_393 hl (by decide) rfl (fun ls hl => ?_)
      refine lv_sipush (v := (-1001)) hx hb dL_call_395 (by decide) ?_
      cases hf
      exact endw_i hAe hQm hx hb hr hlocks rfl hP hD hS dL_call_398 (Nat.le_of_ble_eq_true rfl) (Nat.le_of_ble_eq_true rfl)
    have hf := br_neg c7 hf
    by_cases c8 : n5 = 1
    · subst c8
      have hf := br_pos rfl hf
      refine cw_vi_err (rest := []) (m_C_addOwner l hst ca ad bq nF nO nL nA nC nV nU nP nE bF bO bL bA bC bV bU bP bE cT cK cO cQ cD pT pK pR pW pU pI pC uO uF uE uN wK jM jN jZ jB R _ p2 (.error 1) cO_2 cQ_3 h4) ⟨hx, hb, hml, hown, hts⟩ (cwV 1 hts (gV q337 q338 q339 q24 q340) rfl rfl rfl (by decide +kernel) ⟨Nat.le_of_ble_eq_true rfl, Nat.le_of_ble_eq_true rfl⟩) (va_recv hK hP (ci := 7) (q0 := 0) rfl rfl) hE hP hD hS hA hZ rfl hl.1 rfl (lv_room (Nat.le_of_ble_eq_true rfl)) dL_call_154 ⟨Nat.le_of_ble_eq_true rfl, Nat.le_of_ble_eq_true rfl⟩ (fun H locs q9 ce hP hD hS hce hv9 hcl => ?_)
      refine vx_catch (E := "java/lang/IllegalArgumentException") hown ((tableOf HH).take 35) ⟨0, 157, 399, 124⟩ ((tableOf HH).drop (35 + 1)) (htab.trans (sp_at (n := 35) hh35)) (hp_of [(122, "java/lang/IndexOutOfBoundsException")] (by decide +kernel) (List.forall_mem_cons.mpr ⟨⟨hts _ q254, hNC _ nc_1_3⟩, fun _ h => absurd h List.not_mem_nil⟩)) (by decide) (by decide) (hts _ q333) (va_Nw.use rfl (hE.2.1 _ n347)) hce hv9 hcl ?_
      refine lv_astore (lv' := [(5, .ref q9), (0, .ref (ad 0)), (1, .int 0), (2, .int p2), (3, .int p3), (4, .int p4)]) hx hb dL_call_399 hl (by decide) rfl (fun ls hl => ?_)
      refine lv_sipush (v := (-1002)) hx hb dL_call_401 (by decide) ?_
      cases hf
      exact endw_i hAe hQm hx hb hr hlocks rfl hP hD hS dL_call_404 (Nat.le_of_ble_eq_true rfl) (Nat.le_of_ble_eq_true rfl)
    have hf := br_neg c8 hf
    by_cases c9 : n5 = 2
    · subst c9
      have hf := br_pos rfl hf
      refine cw_vi_err (rest := []) (m_C_addOwner l hst ca ad bq nF nO nL nA nC nV nU nP nE bF bO bL bA bC bV bU bP bE cT cK cO cQ cD pT pK pR pW pU pI pC uO uF uE uN wK jM jN jZ jB R _ p2 (.error 2) cO_2 cQ_3 h4) ⟨hx, hb, hml, hown, hts⟩ (cwV 1 hts (gV q337 q338 q339 q24 q340) rfl rfl rfl (by decide +kernel) ⟨Nat.le_of_ble_eq_true rfl, Nat.le_of_ble_eq_true rfl⟩) (va_recv hK hP (ci := 7) (q0 := 0) rfl rfl) hE hP hD hS hA hZ rfl hl.1 rfl (lv_room (Nat.le_of_ble_eq_true rfl)) dL_call_154 ⟨Nat.le_of_ble_eq_true rfl, Nat.le_of_ble_eq_true rfl⟩ (fun H locs q9 ce hP hD hS hce hv9 hcl => ?_)
      refine vx_catch (E := "java/lang/IllegalStateException") hown ((tableOf HH).take 70) ⟨0, 157, 405, 126⟩ ((tableOf HH).drop (70 + 1)) (htab.trans (sp_at (n := 70) hh70)) (hp_of [(122, "java/lang/IndexOutOfBoundsException"), (124, "java/lang/IllegalArgumentException")] (by decide +kernel) (List.forall_mem_cons.mpr ⟨⟨hts _ q254, hNC _ nc_2_3⟩, List.forall_mem_cons.mpr ⟨⟨hts _ q333, hNC _ nc_2_1⟩, fun _ h => absurd h List.not_mem_nil⟩⟩)) (by decide) (by decide) (hts _ q334) (va_Nw.use rfl (hE.2.1 _ n367)) hce hv9 hcl ?_
      refine lv_astore (lv' := [(5, .ref q9), (0, .ref (ad 0)), (1, .int 0), (2, .int p2), (3, .int p3), (4, .int p4)]) hx hb dL_call_405 hl (by decide) rfl (fun ls hl => ?_)
      refine lv_sipush (v := (-1003)) hx hb dL_call_407 (by decide) ?_
      cases hf
      exact endw_i hAe hQm hx hb hr hlocks rfl hP hD hS dL_call_410 (Nat.le_of_ble_eq_true rfl) (Nat.le_of_ble_eq_true rfl)
    have hf := br_neg c9 hf
    by_cases c10 : n5 = 4
    · subst c10
      have hf := br_pos rfl hf
      refine cw_vi_err (rest := []) (m_C_addOwner l hst ca ad bq nF nO nL nA nC nV nU nP nE bF bO bL bA bC bV bU bP bE cT cK cO cQ cD pT pK pR pW pU pI pC uO uF uE uN wK jM jN jZ jB R _ p2 (.error 4) cO_2 cQ_3 h4) ⟨hx, hb, hml, hown, hts⟩ (cwV 1 hts (gV q337 q338 q339 q24 q340) rfl rfl rfl (by decide +kernel) ⟨Nat.le_of_ble_eq_true rfl, Nat.le_of_ble_eq_true rfl⟩) (va_recv hK hP (ci := 7) (q0 := 0) rfl rfl) hE hP hD hS hA hZ rfl hl.1 rfl (lv_room (Nat.le_of_ble_eq_true rfl)) dL_call_154 ⟨Nat.le_of_ble_eq_true rfl, Nat.le_of_ble_eq_true rfl⟩ (fun H locs q9 ce hP hD hS hce hv9 hcl => ?_)
      refine vx_catch (E := "java/lang/UnsupportedOperationException") hown ((tableOf HH).take 105) ⟨0, 157, 411, 128⟩ ((tableOf HH).drop (105 + 1)) (htab.trans (sp_at (n := 105) hh105)) (hp_of [(122, "java/lang/IndexOutOfBoundsException"), (124, "java/lang/IllegalArgumentException"), (126, "java/lang/IllegalStateException")] (by decide +kernel) (List.forall_mem_cons.mpr ⟨⟨hts _ q254, hNC _ nc_4_3⟩, List.forall_mem_cons.mpr ⟨⟨hts _ q333, hNC _ nc_4_1⟩, List.forall_mem_cons.mpr ⟨⟨hts _ q334, hNC _ nc_4_2⟩, fun _ h => absurd h List.not_mem_nil⟩⟩⟩)) (by decide) (by decide) (hts _ q335) (va_Nw.use rfl (hE.2.1 _ n547)) hce hv9 hcl ?_
      refine lv_astore (lv' := [(5, .ref q9), (0, .ref (ad 0)), (1, .int 0), (2, .int p2), (3, .int p3), (4, .int p4)]) hx hb dL_call_411 hl (by decide) rfl (fun ls hl => ?_)
      refine lv_sipush (v := (-1004)) hx hb dL_call_413 (by decide) ?_
      cases hf
      exact endw_i hAe hQm hx hb hr hlocks rfl hP hD hS dL_call_416 (Nat.le_of_ble_eq_true rfl) (Nat.le_of_ble_eq_true rfl)
    have hf := br_neg c10 hf
    by_cases c11 : n5 = 5
    · subst c11
      have hf := br_pos rfl hf
      refine cw_vi_err (rest := []) (m_C_addOwner l hst ca ad bq nF nO nL nA nC nV nU nP nE bF bO bL bA bC bV bU bP bE cT cK cO cQ cD pT pK pR pW pU pI pC uO uF uE uN wK jM jN jZ jB R _ p2 (.error 5) cO_2 cQ_3 h4) ⟨hx, hb, hml, hown, hts⟩ (cwV 1 hts (gV q337 q338 q339 q24 q340) rfl rfl rfl (by decide +kernel) ⟨Nat.le_of_ble_eq_true rfl, Nat.le_of_ble_eq_true rfl⟩) (va_recv hK hP (ci := 7) (q0 := 0) rfl rfl) hE hP hD hS hA hZ rfl hl.1 rfl (lv_room (Nat.le_of_ble_eq_true rfl)) dL_call_154 ⟨Nat.le_of_ble_eq_true rfl, Nat.le_of_ble_eq_true rfl⟩ (fun H locs q9 ce hP hD hS hce hv9 hcl => ?_)
      refine vx_catch (E := "java/util/NoSuchElementException") hown ((tableOf HH).take 140) ⟨0, 157, 417, 130⟩ ((tableOf HH).drop (140 + 1)) (htab.trans (sp_at (n := 140) hh140)) (hp_of [(122, "java/lang/IndexOutOfBoundsException"), (124, "java/lang/IllegalArgumentException"), (126, "java/lang/IllegalStateException"), (128, "java/lang/UnsupportedOperationException")] (by decide +kernel) (List.forall_mem_cons.mpr ⟨⟨hts _ q254, hNC _ nc_5_3⟩, List.forall_mem_cons.mpr ⟨⟨hts _ q333, hNC _ nc_5_1⟩, List.forall_mem_cons.mpr ⟨⟨hts _ q334, hNC _ nc_5_2⟩, List.forall_mem_cons.mpr ⟨⟨hts _ q335, hNC _ nc_5_4⟩, fun _ h => absurd h List.not_mem_nil⟩⟩⟩⟩)) (by decide) (by decide) (hts _ q336) (va_Nw.use rfl (hE.2.1 _ n606)) hce hv9 hcl ?_
      refine lv_astore (lv' := [(5, .ref q9), (0, .ref (ad 0)), (1, .int 0), (2, .int p2), (3, .int p3), (4, .int p4)]) hx hb dL_call_417 hl (by decide) rfl (fun ls hl => ?_)
      refine lv_sipush (v := (-1005)) hx hb dL_call_419 (by decide) ?_
      cases hf
      exact endw_i hAe hQm hx hb hr hlocks rfl hP hD hS dL_call_422 (Nat.le_of_ble_eq_true rfl) (Nat.le_of_ble_eq_true rfl)
    have hf := br_neg c11 hf
    cases hf
  refine cw_vi_ok (rest := []) (m_C_addOwner l hst ca ad bq nF nO nL nA nC nV nU nP nE bF bO bL bA bC bV bU bP bE cT cK cO cQ cD pT pK pR pW pU pI pC uO uF uE uN wK jM jN jZ jB R _ p2 (.ok r6) cO_2 cQ_3 h4) ⟨hx, hb, hml, hown, hts⟩ (cwV 1 hts (gV q337 q338 q339 q24 q340) rfl rfl rfl (by decide +kernel) ⟨Nat.le_of_ble_eq_true rfl, Nat.le_of_ble_eq_true rfl⟩) (va_recv hK hP (ci := 7) (q0 := 0) rfl rfl) hE hP hD hS hA hZ rfl hl.1 rfl (lv_room (Nat.le_of_ble_eq_true rfl)) dL_call_154 ⟨Nat.le_of_ble_eq_true rfl, Nat.le_of_ble_eq_true rfl⟩ (fun H locs hP hD hS => ?_)
  cases hf
  exact endw_i hAe hQm hx hb hr hlocks rfl hP hD hS dL_call_157 (Nat.le_of_ble_eq_true rfl) (Nat.le_of_ble_eq_true rfl)
def f_K1 (p2 : Int32) (nF : Int32) (nO : Nat → Int32) (nL : Nat → Int32) (nA : Nat → Int32) (nE : Int32) (cK : Nat → Int32) (cO : Int32) : Option (Int32 × Int32 × (Nat → Int32) × (Nat → Int32) × (Nat → Int32) × Int32 × (Nat → Int32)) :=
  (f_C_createFile p2 nF nO nL nA nE cK cO).bind fun (x1, nF_2, nO_3, nL_4, nA_5, nE_6, cK_7) =>
  match x1 with
  | .error n9 => if n9 = 3 then some ((-1001), nF_2, nO_3, nL_4, nA_5, nE_6, cK_7) else if n9 = 1 then some ((-1002), nF_2, nO_3, nL_4, nA_5, nE_6, cK_7) else if n9 = 2 then some ((-1003), nF_2, nO_3, nL_4, nA_5, nE_6, cK_7) else if n9 = 4 then some ((-1004), nF_2, nO_3, nL_4, nA_5, nE_6, cK_7) else if n9 = 5 then some ((-1005), nF_2, nO_3, nL_4, nA_5, nE_6, cK_7) else none
  | .ok r10 =>
  some (r10, nF_2, nO_3, nL_4, nA_5, nE_6, cK_7)
set_option maxHeartbeats 4000000 in
set_option maxRecDepth 100000 in
theorem m_K1 (l : Launch) (hst : l.stackTraces = false) {D : va_G} (ca : Nat → ClassId) (ad : Nat → Nat) (bq : Nat) (nF : Int32) (nO : Nat → Int32) (nL : Nat → Int32) (nA : Nat → Int32) (nC : Nat → Int32) (nV : Nat → Int32) (nU : Nat → Int32) (nP : Nat → Int32) (nE : Int32) (bF : Int32) (bO : Nat → Int32) (bL : Nat → Int32) (bA : Nat → Int32) (bC : Nat → Int32) (bV : Nat → Int32) (bU : Nat → Int32) (bP : Nat → Int32) (bE : Int32) (cT : Int32) (cK : Nat → Int32) (cO : Int32) (cQ : Nat → Int32) (cD : Int32) (pT : Int32) (pK : Int32) (pR : Nat → Int32) (pW : Nat → Int32) (pU : Nat → Int32) (pI : Nat → Int32) (pC : Nat → Nat → Int32) (uO : Int32) (uF : Nat → Int32) (uE : Nat → Int32) (uN : Nat → Int32) (wK : Nat → Int32) (jM : Int32) (jN : Int32) (jZ : Nat) (jB : Nat → Int32) (R : va_W) (sz : Nat) (p2 : Int32) (p3 : Int32) (p4 : Int32) (ro : Int32) (onF : Int32) (onO : Nat → Int32) (onL : Nat → Int32) (onA : Nat → Int32) (onE : Int32) (ocK : Nat → Int32) (hf : f_K1 p2 nF nO nL nA nE cK cO = some (ro, onF, onO, onL, onA, onE, ocK)) : vx_Met l yL_call (wmW yL_call cL_call 6 (some .int) HH) ({ frames := 8, cells := 2, slots := 12, locals := 133 } : Room) (PREL [.ref (ad 0), .int 1, .int p2, .int p3, .int p4] D ca SL0 (WC ca ad bq nF nO nL nA nC nV nU nP nE bF bO bL bA bC bV bU bP bE cT cK cO cQ cD pT pK pR pW pU pI pC uO uF uE uN wK jM jN jZ jB ++ R) sz) (QI ro D (WC ca ad bq onF onO onL onA nC nV nU nP onE bF bO bL bA bC bV bU bP bE cT ocK cO cQ cD pT pK pR pW pU pI pC uO uF uE uN wK jM jN jZ jB ++ R) (WC ca ad bq nF nO nL nA nC nV nU nP nE bF bO bL bA bC bV bU bP bE cT cK cO cQ cD pT pK pR pW pU pI pC uO uF uE uN wK jM jN jZ jB ++ R) sz) (fun _ _ _ => False) 2 12 (va_A (WC ca ad bq nF nO nL nA nC nV nU nP nE bF bO bL bA bC bV bU bP bE cT cK cO cQ cD pT pK pR pW pU pI pC uO uF uE uN wK jM jN jZ jB ++ R) sz) := by
  refine vx_ofWH (cc := cL_call) (maxL := 6) (ret := (some .int)) (hh := HH) (by decide) rfl ?_
  intro p e s m args below meth c s₁ B hml hv
  obtain ⟨rfl, rfl, hP, hE, hD0, hZ, hNC⟩ := hv
  have hx := B.exec
  have hb := B.bytes
  have hr := B.returns
  have hts0 := atoms_spec (ws := wmW yL_call cL_call 6 (some .int) HH) B.pre
  have hts := wmW_ww hts0
  have htab := vx_table (x := yL_call) B (hts0 _ List.mem_cons_self)
  have hown : s.vm.findClass RL = some m.cls := findClass_of_methodNamed B.named
  have hlocks := B.notSynchronized
  have hK := hE.1
  have hD := hD0.self (sz := s.heap.size)
  generalize hAe : va_A (WC ca ad bq nF nO nL nA nC nV nU nP nE bF bO bL bA bC bV bU bP bE cT cK cO cQ cD pT pK pR pW pU pI pC uO uF uE uN wK jM jN jZ jB ++ R) s.heap.size = A at hD hZ ⊢
  have hA : ∀ q : Nat, s.heap.size ≤ q → A q := fun q h => by rw [← hAe]; exact Or.inr h
  have hS : va_S A s.heap s.heap [] := va_S.rf
  have hl := lv_entry ([.ref (ad 0), .int 1, .int p2, .int p3, .int p4]) (n := 6) (Nat.le_of_ble_eq_true rfl)
  rw [lg_entry_eq]
  generalize (lg_sl ([.ref (ad 0), .int 1, .int p2, .int p3, .int p4]) ++ List.replicate (6 - (lg_sl ([.ref (ad 0), .int 1, .int p2, .int p3, .int p4])).length) Slot.unset).toArray = ls at hl ⊢
  have hl : lv_has ls 6 [(0, .ref (ad 0)), (1, .int 1), (2, .int p2), (3, .int p3), (4, .int p4)] := hl
  change W p l e ({ frames := 8, cells := 2, slots := 12, locals := 133 } : Room) s m _ below meth c s.heap [] 0 0 _ _
  generalize hQm : vx_MQ below (QI ro D (WC ca ad bq onF onO onL onA nC nV nU nP onE bF bO bL bA bC bV bU bP bE cT ocK cO cQ cD pT pK pR pW pU pI pC uO uF uE uN wK jM jN jZ jB ++ R) (WC ca ad bq nF nO nL nA nC nV nU nP nE bF bO bL bA bC bV bU bP bE cT cK cO cQ cD pT pK pR pW pU pI pC uO uF uE uN wK jM jN jZ jB ++ R) s.heap.size) (fun _ _ _ => False) _ s 2 12 A = Qm
  have hP : va_P D vwCl (WC ca ad bq nF nO nL nA nC nV nU nP nE bF bO bL bA bC bV bU bP bE cT cK cO cQ cD pT pK pR pW pU pI pC uO uF uE uN wK jM jN jZ jB ++ R) s.heap := hP
  generalize hae : ([.ref (ad 0), .int 1, .int p2, .int p3, .int p4] : List Value).toArray = args at hts hQm ⊢
  refine lv_iload_n hx hb dL_call_0 rfl (lv_at hl 1 rfl) ?_
  refine lv_tableIn (off := 157) (tgt := 158) hx hb dL_call_1 (by decide) (by decide) rfl (by decide) ?_
  refine lv_aload_n hx hb dL_call_158 rfl (lv_at hl 0 rfl) ?_
  refine lv_iload_n hx hb dL_call_159 rfl (lv_at hl 2 rfl) ?_
  obtain ⟨⟨x1, nF_2, nO_3, nL_4, nA_5, nE_6, cK_7⟩, h8, hf⟩ := bnd hf
  rcases x1 with n9 | r10
  · have hf : (if n9 = 3 then some ((-1001), nF_2, nO_3, nL_4, nA_5, nE_6, cK_7) else if n9 = 1 then some ((-1002), nF_2, nO_3, nL_4, nA_5, nE_6, cK_7) else if n9 = 2 then some ((-1003), nF_2, nO_3, nL_4, nA_5, nE_6, cK_7) else if n9 = 4 then some ((-1004), nF_2, nO_3, nL_4, nA_5, nE_6, cK_7) else if n9 = 5 then some ((-1005), nF_2, nO_3, nL_4, nA_5, nE_6, cK_7) else none) = some (ro, onF, onO, onL, onA, onE, ocK) := hf
    by_cases c11 : n9 = 3
    · subst c11
      have hf := br_pos rfl hf
      refine cw_vi_err (rest := []) (m_C_createFile l hst ca ad bq nF nO nL nA nC nV nU nP nE bF bO bL bA bC bV bU bP bE cT cK cO cQ cD pT pK pR pW pU pI pC uO uF uE uN wK jM jN jZ jB R _ p2 (.error 3) nF_2 nO_3 nL_4 nA_5 nE_6 cK_7 h8) ⟨hx, hb, hml, hown, hts⟩ (cwV 1 hts (gV q382 q383 q384 q24 q385) rfl rfl rfl (by decide +kernel) ⟨Nat.le_of_ble_eq_true rfl, Nat.le_of_ble_eq_true rfl⟩) (va_recv hK hP (ci := 7) (q0 := 0) rfl rfl) hE hP hD hS hA hZ rfl hl.1 rfl (lv_room (Nat.le_of_ble_eq_true rfl)) dL_call_160 ⟨Nat.le_of_ble_eq_true rfl, Nat.le_of_ble_eq_true rfl⟩ (fun H locs q9 ce hP hD hS hce hv9 hcl => ?_)
      refine vx_catch (E := "java/lang/IndexOutOfBoundsException") hown ((tableOf HH).take 1) ⟨158, 163, 393, 122⟩ ((tableOf HH).drop (1 + 1)) (htab.trans (sp_at (n := 1) hh1)) (hp_of [] (by decide +kernel) (fun _ h => absurd h List.not_mem_nil)) (by decide) (by decide) (hts _ q254) (va_Nw.use rfl (hE.2.1 _ n392)) hce hv9 hcl ?_
      refine lv_astore (lv' := [(5, .ref q9), (0, .ref (ad 0)), (1, .int 1), (2, .int p2), (3, .int p3), (4, .int p4)]) hx hb dL_call_393 hl (by decide) rfl (fun ls hl => ?_)
      refine lv_sipush (v := (-1001)) hx hb dL_call_395 (by decide) ?_
      cases hf
      exact endw_i hAe hQm hx hb hr hlocks rfl hP hD hS dL_call_398 (Nat.le_of_ble_eq_true rfl) (Nat.le_of_ble_eq_true rfl)
    have hf := br_neg c11 hf
    by_cases c12 : n9 = 1
    · subst c12
      have hf := br_pos rfl hf
      refine cw_vi_err (rest := []) (m_C_createFile l hst ca ad bq nF nO nL nA nC nV nU nP nE bF bO bL bA bC bV bU bP bE cT cK cO cQ cD pT pK pR pW pU pI pC uO uF uE uN wK jM jN jZ jB R _ p2 (.error 1) nF_2 nO_3 nL_4 nA_5 nE_6 cK_7 h8) ⟨hx, hb, hml, hown, hts⟩ (cwV 1 hts (gV q382 q383 q384 q24 q385) rfl rfl rfl (by decide +kernel) ⟨Nat.le_of_ble_eq_true rfl, Nat.le_of_ble_eq_true rfl⟩) (va_recv hK hP (ci := 7) (q0 := 0) rfl rfl) hE hP hD hS hA hZ rfl hl.1 rfl (lv_room (Nat.le_of_ble_eq_true rfl)) dL_call_160 ⟨Nat.le_of_ble_eq_true rfl, Nat.le_of_ble_eq_true rfl⟩ (fun H locs q9 ce hP hD hS hce hv9 hcl => ?_)
      refine vx_catch (E := "java/lang/IllegalArgumentException") hown ((tableOf HH).take 36) ⟨158, 163, 399, 124⟩ ((tableOf HH).drop (36 + 1)) (htab.trans (sp_at (n := 36) hh36)) (hp_of [(122, "java/lang/IndexOutOfBoundsException")] (by decide +kernel) (List.forall_mem_cons.mpr ⟨⟨hts _ q254, hNC _ nc_1_3⟩, fun _ h => absurd h List.not_mem_nil⟩)) (by decide) (by decide) (hts _ q333) (va_Nw.use rfl (hE.2.1 _ n347)) hce hv9 hcl ?_
      refine lv_astore (lv' := [(5, .ref q9), (0, .ref (ad 0)), (1, .int 1), (2, .int p2), (3, .int p3), (4, .int p4)]) hx hb dL_call_399 hl (by decide) rfl (fun ls hl => ?_)
      refine lv_sipush (v := (-1002)) hx hb dL_call_401 (by decide) ?_
      cases hf
      exact endw_i hAe hQm hx hb hr hlocks rfl hP hD hS dL_call_404 (Nat.le_of_ble_eq_true rfl) (Nat.le_of_ble_eq_true rfl)
    have hf := br_neg c12 hf
    by_cases c13 : n9 = 2
    · subst c13
      have hf := br_pos rfl hf
      refine cw_vi_err (rest := []) (m_C_createFile l hst ca ad bq nF nO nL nA nC nV nU nP nE bF bO bL bA bC bV bU bP bE cT cK cO cQ cD pT pK pR pW pU pI pC uO uF uE uN wK jM jN jZ jB R _ p2 (.error 2) nF_2 nO_3 nL_4 nA_5 nE_6 cK_7 h8) ⟨hx, hb, hml, hown, hts⟩ (cwV 1 hts (gV q382 q383 q384 q24 q385) rfl rfl rfl (by decide +kernel) ⟨Nat.le_of_ble_eq_true rfl, Nat.le_of_ble_eq_true rfl⟩) (va_recv hK hP (ci := 7) (q0 := 0) rfl rfl) hE hP hD hS hA hZ rfl hl.1 rfl (lv_room (Nat.le_of_ble_eq_true rfl)) dL_call_160 ⟨Nat.le_of_ble_eq_true rfl, Nat.le_of_ble_eq_true rfl⟩ (fun H locs q9 ce hP hD hS hce hv9 hcl => ?_)
      refine vx_catch (E := "java/lang/IllegalStateException") hown ((tableOf HH).take 71) ⟨158, 163, 405, 126⟩ ((tableOf HH).drop (71 + 1)) (htab.trans (sp_at (n := 71) hh71)) (hp_of [(122, "java/lang/IndexOutOfBoundsException"), (124, "java/lang/IllegalArgumentException")] (by decide +kernel) (List.forall_mem_cons.mpr ⟨⟨hts _ q254, hNC _ nc_2_3⟩, List.forall_mem_cons.mpr ⟨⟨hts _ q333, hNC _ nc_2_1⟩, fun _ h => absurd h List.not_mem_nil⟩⟩)) (by decide) (by decide) (hts _ q334) (va_Nw.use rfl (hE.2.1 _ n367)) hce hv9 hcl ?_
      refine lv_astore (lv' := [(5, .ref q9), (0, .ref (ad 0)), (1, .int 1), (2, .int p2), (3, .int p3), (4, .int p4)]) hx hb dL_call_405 hl (by decide) rfl (fun ls hl => ?_)
      refine lv_sipush (v := (-1003)) hx hb dL_call_407 (by decide) ?_
      cases hf
      exact endw_i hAe hQm hx hb hr hlocks rfl hP hD hS dL_call_410 (Nat.le_of_ble_eq_true rfl) (Nat.le_of_ble_eq_true rfl)
    have hf := br_neg c13 hf
    by_cases c14 : n9 = 4
    · subst c14
      have hf := br_pos rfl hf
      refine cw_vi_err (rest := []) (m_C_createFile l hst ca ad bq nF nO nL nA nC nV nU nP nE bF bO bL bA bC bV bU bP bE cT cK cO cQ cD pT pK pR pW pU pI pC uO uF uE uN wK jM jN jZ jB R _ p2 (.error 4) nF_2 nO_3 nL_4 nA_5 nE_6 cK_7 h8) ⟨hx, hb, hml, hown, hts⟩ (cwV 1 hts (gV q382 q383 q384 q24 q385) rfl rfl rfl (by decide +kernel) ⟨Nat.le_of_ble_eq_true rfl, Nat.le_of_ble_eq_true rfl⟩) (va_recv hK hP (ci := 7) (q0 := 0) rfl rfl) hE hP hD hS hA hZ rfl hl.1 rfl (lv_room (Nat.le_of_ble_eq_true rfl)) dL_call_160 ⟨Nat.le_of_ble_eq_true rfl, Nat.le_of_ble_eq_true rfl⟩ (fun H locs q9 ce hP hD hS hce hv9 hcl => ?_)
      refine vx_catch (E := "java/lang/UnsupportedOperationException") hown ((tableOf HH).take 106) ⟨158, 163, 411, 128⟩ ((tableOf HH).drop (106 + 1)) (htab.trans (sp_at (n := 106) hh106)) (hp_of [(122, "java/lang/IndexOutOfBoundsException"), (124, "java/lang/IllegalArgumentException"), (126, "java/lang/IllegalStateException")] (by decide +kernel) (List.forall_mem_cons.mpr ⟨⟨hts _ q254, hNC _ nc_4_3⟩, List.forall_mem_cons.mpr ⟨⟨hts _ q333, hNC _ nc_4_1⟩, List.forall_mem_cons.mpr ⟨⟨hts _ q334, hNC _ nc_4_2⟩, fun _ h => absurd h List.not_mem_nil⟩⟩⟩)) (by decide) (by decide) (hts _ q335) (va_Nw.use rfl (hE.2.1 _ n547)) hce hv9 hcl ?_
      refine lv_astore (lv' := [(5, .ref q9), (0, .ref (ad 0)), (1, .int 1), (2, .int p2), (3, .int p3), (4, .int p4)]) hx hb dL_call_411 hl (by decide) rfl (fun ls hl => ?_)
      refine lv_sipush (v := (-1004)) hx hb dL_call_413 (by decide) ?_
      cases hf
      exact endw_i hAe hQm hx hb hr hlocks rfl hP hD hS dL_call_416 (Nat.le_of_ble_eq_true rfl) (Nat.le_of_ble_eq_true rfl)
    have hf := br_neg c14 hf
    by_cases c15 : n9 = 5
    · subst c15
      have hf := br_pos rfl hf
      refine cw_vi_err (rest := []) (m_C_createFile l hst ca ad bq nF nO nL nA nC nV nU nP nE bF bO bL bA bC bV bU bP bE cT cK cO cQ cD pT pK pR pW pU pI pC uO uF uE uN wK jM jN jZ jB R _ p2 (.error 5) nF_2 nO_3 nL_4 nA_5 nE_6 cK_7 h8) ⟨hx, hb, hml, hown, hts⟩ (cwV 1 hts (gV q382 q383 q384 q24 q385) rfl rfl rfl (by decide +kernel) ⟨Nat.le_of_ble_eq_true rfl, Nat.le_of_ble_eq_true rfl⟩) (va_recv hK hP (ci := 7) (q0 := 0) rfl rfl) hE hP hD hS hA hZ rfl hl.1 rfl (lv_room (Nat.le_of_ble_eq_true rfl)) dL_call_160 ⟨Nat.le_of_ble_eq_true rfl, Nat.le_of_ble_eq_true rfl⟩ (fun H locs q9 ce hP hD hS hce hv9 hcl => ?_)
      refine vx_catch (E := "java/util/NoSuchElementException") hown ((tableOf HH).take 141) ⟨158, 163, 417, 130⟩ ((tableOf HH).drop (141 + 1)) (htab.trans (sp_at (n := 141) hh141)) (hp_of [(122, "java/lang/IndexOutOfBoundsException"), (124, "java/lang/IllegalArgumentException"), (126, "java/lang/IllegalStateException"), (128, "java/lang/UnsupportedOperationException")] (by decide +kernel) (List.forall_mem_cons.mpr ⟨⟨hts _ q254, hNC _ nc_5_3⟩, List.forall_mem_cons.mpr ⟨⟨hts _ q333, hNC _ nc_5_1⟩, List.forall_mem_cons.mpr ⟨⟨hts _ q334, hNC _ nc_5_2⟩, List.forall_mem_cons.mpr ⟨⟨hts _ q335, hNC _ nc_5_4⟩, fun _ h => absurd h List.not_mem_nil⟩⟩⟩⟩)) (by decide) (by decide) (hts _ q336) (va_Nw.use rfl (hE.2.1 _ n606)) hce hv9 hcl ?_
      refine lv_astore (lv' := [(5, .ref q9), (0, .ref (ad 0)), (1, .int 1), (2, .int p2), (3, .int p3), (4, .int p4)]) hx hb dL_call_417 hl (by decide) rfl (fun ls hl => ?_)
      refine lv_sipush (v := (-1005)) hx hb dL_call_419 (by decide) ?_
      cases hf
      exact endw_i hAe hQm hx hb hr hlocks rfl hP hD hS dL_call_422 (Nat.le_of_ble_eq_true rfl) (Nat.le_of_ble_eq_true rfl)
    have hf := br_neg c15 hf
    cases hf
  refine cw_vi_ok (rest := []) (m_C_createFile l hst ca ad bq nF nO nL nA nC nV nU nP nE bF bO bL bA bC bV bU bP bE cT cK cO cQ cD pT pK pR pW pU pI pC uO uF uE uN wK jM jN jZ jB R _ p2 (.ok r10) nF_2 nO_3 nL_4 nA_5 nE_6 cK_7 h8) ⟨hx, hb, hml, hown, hts⟩ (cwV 1 hts (gV q382 q383 q384 q24 q385) rfl rfl rfl (by decide +kernel) ⟨Nat.le_of_ble_eq_true rfl, Nat.le_of_ble_eq_true rfl⟩) (va_recv hK hP (ci := 7) (q0 := 0) rfl rfl) hE hP hD hS hA hZ rfl hl.1 rfl (lv_room (Nat.le_of_ble_eq_true rfl)) dL_call_160 ⟨Nat.le_of_ble_eq_true rfl, Nat.le_of_ble_eq_true rfl⟩ (fun H locs hP hD hS => ?_)
  cases hf
  exact endw_i hAe hQm hx hb hr hlocks rfl hP hD hS dL_call_163 (Nat.le_of_ble_eq_true rfl) (Nat.le_of_ble_eq_true rfl)
def f_K2 (p2 : Int32) (nF : Int32) (nA : Nat → Int32) : Option (Int32) :=
  (f_C_doesExist p2 nF nA).bind fun x1 =>
  match x1 with
  | .error n3 => if n3 = 3 then some (-1001) else if n3 = 1 then some (-1002) else if n3 = 2 then some (-1003) else if n3 = 4 then some (-1004) else if n3 = 5 then some (-1005) else none
  | .ok r4 =>
  if r4 = 0 then
    some 0
  else
    some 1
set_option maxHeartbeats 4000000 in
set_option maxRecDepth 100000 in
theorem m_K2 (l : Launch) (hst : l.stackTraces = false) {D : va_G} (ca : Nat → ClassId) (ad : Nat → Nat) (bq : Nat) (nF : Int32) (nO : Nat → Int32) (nL : Nat → Int32) (nA : Nat → Int32) (nC : Nat → Int32) (nV : Nat → Int32) (nU : Nat → Int32) (nP : Nat → Int32) (nE : Int32) (bF : Int32) (bO : Nat → Int32) (bL : Nat → Int32) (bA : Nat → Int32) (bC : Nat → Int32) (bV : Nat → Int32) (bU : Nat → Int32) (bP : Nat → Int32) (bE : Int32) (cT : Int32) (cK : Nat → Int32) (cO : Int32) (cQ : Nat → Int32) (cD : Int32) (pT : Int32) (pK : Int32) (pR : Nat → Int32) (pW : Nat → Int32) (pU : Nat → Int32) (pI : Nat → Int32) (pC : Nat → Nat → Int32) (uO : Int32) (uF : Nat → Int32) (uE : Nat → Int32) (uN : Nat → Int32) (wK : Nat → Int32) (jM : Int32) (jN : Int32) (jZ : Nat) (jB : Nat → Int32) (R : va_W) (sz : Nat) (p2 : Int32) (p3 : Int32) (p4 : Int32) (ro : Int32) (hf : f_K2 p2 nF nA = some ro) : vx_Met l yL_call (wmW yL_call cL_call 6 (some .int) HH) ({ frames := 8, cells := 1, slots := 6, locals := 132 } : Room) (PREL [.ref (ad 0), .int 2, .int p2, .int p3, .int p4] D ca SL0 (WC ca ad bq nF nO nL nA nC nV nU nP nE bF bO bL bA bC bV bU bP bE cT cK cO cQ cD pT pK pR pW pU pI pC uO uF uE uN wK jM jN jZ jB ++ R) sz) (QI ro D (WC ca ad bq nF nO nL nA nC nV nU nP nE bF bO bL bA bC bV bU bP bE cT cK cO cQ cD pT pK pR pW pU pI pC uO uF uE uN wK jM jN jZ jB ++ R) (WC ca ad bq nF nO nL nA nC nV nU nP nE bF bO bL bA bC bV bU bP bE cT cK cO cQ cD pT pK pR pW pU pI pC uO uF uE uN wK jM jN jZ jB ++ R) sz) (fun _ _ _ => False) 1 6 (va_A (WC ca ad bq nF nO nL nA nC nV nU nP nE bF bO bL bA bC bV bU bP bE cT cK cO cQ cD pT pK pR pW pU pI pC uO uF uE uN wK jM jN jZ jB ++ R) sz) := by
  refine vx_ofWH (cc := cL_call) (maxL := 6) (ret := (some .int)) (hh := HH) (by decide) rfl ?_
  intro p e s m args below meth c s₁ B hml hv
  obtain ⟨rfl, rfl, hP, hE, hD0, hZ, hNC⟩ := hv
  have hx := B.exec
  have hb := B.bytes
  have hr := B.returns
  have hts0 := atoms_spec (ws := wmW yL_call cL_call 6 (some .int) HH) B.pre
  have hts := wmW_ww hts0
  have htab := vx_table (x := yL_call) B (hts0 _ List.mem_cons_self)
  have hown : s.vm.findClass RL = some m.cls := findClass_of_methodNamed B.named
  have hlocks := B.notSynchronized
  have hK := hE.1
  have hD := hD0.self (sz := s.heap.size)
  generalize hAe : va_A (WC ca ad bq nF nO nL nA nC nV nU nP nE bF bO bL bA bC bV bU bP bE cT cK cO cQ cD pT pK pR pW pU pI pC uO uF uE uN wK jM jN jZ jB ++ R) s.heap.size = A at hD hZ ⊢
  have hA : ∀ q : Nat, s.heap.size ≤ q → A q := fun q h => by rw [← hAe]; exact Or.inr h
  have hS : va_S A s.heap s.heap [] := va_S.rf
  have hl := lv_entry ([.ref (ad 0), .int 2, .int p2, .int p3, .int p4]) (n := 6) (Nat.le_of_ble_eq_true rfl)
  rw [lg_entry_eq]
  generalize (lg_sl ([.ref (ad 0), .int 2, .int p2, .int p3, .int p4]) ++ List.replicate (6 - (lg_sl ([.ref (ad 0), .int 2, .int p2, .int p3, .int p4])).length) Slot.unset).toArray = ls at hl ⊢
  have hl : lv_has ls 6 [(0, .ref (ad 0)), (1, .int 2), (2, .int p2), (3, .int p3), (4, .int p4)] := hl
  change W p l e ({ frames := 8, cells := 1, slots := 6, locals := 132 } : Room) s m _ below meth c s.heap [] 0 0 _ _
  generalize hQm : vx_MQ below (QI ro D (WC ca ad bq nF nO nL nA nC nV nU nP nE bF bO bL bA bC bV bU bP bE cT cK cO cQ cD pT pK pR pW pU pI pC uO uF uE uN wK jM jN jZ jB ++ R) (WC ca ad bq nF nO nL nA nC nV nU nP nE bF bO bL bA bC bV bU bP bE cT cK cO cQ cD pT pK pR pW pU pI pC uO uF uE uN wK jM jN jZ jB ++ R) s.heap.size) (fun _ _ _ => False) _ s 1 6 A = Qm
  have hP : va_P D vwCl (WC ca ad bq nF nO nL nA nC nV nU nP nE bF bO bL bA bC bV bU bP bE cT cK cO cQ cD pT pK pR pW pU pI pC uO uF uE uN wK jM jN jZ jB ++ R) s.heap := hP
  generalize hae : ([.ref (ad 0), .int 2, .int p2, .int p3, .int p4] : List Value).toArray = args at hts hQm ⊢
  refine lv_iload_n hx hb dL_call_0 rfl (lv_at hl 1 rfl) ?_
  refine lv_tableIn (off := 163) (tgt := 164) hx hb dL_call_1 (by decide) (by decide) rfl (by decide) ?_
  refine lv_aload_n hx hb dL_call_164 rfl (lv_at hl 0 rfl) ?_
  refine lv_iload_n hx hb dL_call_165 rfl (lv_at hl 2 rfl) ?_
  obtain ⟨x1, h2, hf⟩ := bnd hf
  rcases x1 with n3 | r4
  · have hf : (if n3 = 3 then some (-1001) else if n3 = 1 then some (-1002) else if n3 = 2 then some (-1003) else if n3 = 4 then some (-1004) else if n3 = 5 then some (-1005) else none) = some ro := hf
    by_cases c5 : n3 = 3
    · subst c5
      have hf := br_pos rfl hf
      refine cw_vi_err (rest := []) (m_C_doesExist l hst ca ad bq nF nO nL nA nC nV nU nP nE bF bO bL bA bC bV bU bP bE cT cK cO cQ cD pT pK pR pW pU pI pC uO uF uE uN wK jM jN jZ jB R _ p2 (.error 3) h2) ⟨hx, hb, hml, hown, hts⟩ (cwV 1 hts (gV q416 q417 q418 q24 q419) rfl rfl rfl (by decide +kernel) ⟨Nat.le_of_ble_eq_true rfl, Nat.le_of_ble_eq_true rfl⟩) (va_recv hK hP (ci := 7) (q0 := 0) rfl rfl) hE hP hD hS hA hZ rfl hl.1 rfl (lv_room (Nat.le_of_ble_eq_true rfl)) dL_call_166 ⟨Nat.le_of_ble_eq_true rfl, Nat.le_of_ble_eq_true rfl⟩ (fun H locs q9 ce hP hD hS hce hv9 hcl => ?_)
      refine vx_catch (E := "java/lang/IndexOutOfBoundsException") hown ((tableOf HH).take 2) ⟨164, 177, 393, 122⟩ ((tableOf HH).drop (2 + 1)) (htab.trans (sp_at (n := 2) hh2)) (hp_of [] (by decide +kernel) (fun _ h => absurd h List.not_mem_nil)) (by decide) (by decide) (hts _ q254) (va_Nw.use rfl (hE.2.1 _ n392)) hce hv9 hcl ?_
      refine lv_astore (lv' := [(5, .ref q9), (0, .ref (ad 0)), (1, .int 2), (2, .int p2), (3, .int p3), (4, .int p4)]) hx hb dL_call_393 hl (by decide) rfl (fun ls hl => ?_)
      refine lv_sipush (v := (-1001)) hx hb dL_call_395 (by decide) ?_
      cases hf
      exact endw_i hAe hQm hx hb hr hlocks rfl hP hD hS dL_call_398 (Nat.le_of_ble_eq_true rfl) (Nat.le_of_ble_eq_true rfl)
    have hf := br_neg c5 hf
    by_cases c6 : n3 = 1
    · subst c6
      have hf := br_pos rfl hf
      refine cw_vi_err (rest := []) (m_C_doesExist l hst ca ad bq nF nO nL nA nC nV nU nP nE bF bO bL bA bC bV bU bP bE cT cK cO cQ cD pT pK pR pW pU pI pC uO uF uE uN wK jM jN jZ jB R _ p2 (.error 1) h2) ⟨hx, hb, hml, hown, hts⟩ (cwV 1 hts (gV q416 q417 q418 q24 q419) rfl rfl rfl (by decide +kernel) ⟨Nat.le_of_ble_eq_true rfl, Nat.le_of_ble_eq_true rfl⟩) (va_recv hK hP (ci := 7) (q0 := 0) rfl rfl) hE hP hD hS hA hZ rfl hl.1 rfl (lv_room (Nat.le_of_ble_eq_true rfl)) dL_call_166 ⟨Nat.le_of_ble_eq_true rfl, Nat.le_of_ble_eq_true rfl⟩ (fun H locs q9 ce hP hD hS hce hv9 hcl => ?_)
      refine vx_catch (E := "java/lang/IllegalArgumentException") hown ((tableOf HH).take 37) ⟨164, 177, 399, 124⟩ ((tableOf HH).drop (37 + 1)) (htab.trans (sp_at (n := 37) hh37)) (hp_of [(122, "java/lang/IndexOutOfBoundsException")] (by decide +kernel) (List.forall_mem_cons.mpr ⟨⟨hts _ q254, hNC _ nc_1_3⟩, fun _ h => absurd h List.not_mem_nil⟩)) (by decide) (by decide) (hts _ q333) (va_Nw.use rfl (hE.2.1 _ n347)) hce hv9 hcl ?_
      refine lv_astore (lv' := [(5, .ref q9), (0, .ref (ad 0)), (1, .int 2), (2, .int p2), (3, .int p3), (4, .int p4)]) hx hb dL_call_399 hl (by decide) rfl (fun ls hl => ?_)
      refine lv_sipush (v := (-1002)) hx hb dL_call_401 (by decide) ?_
      cases hf
      exact endw_i hAe hQm hx hb hr hlocks rfl hP hD hS dL_call_404 (Nat.le_of_ble_eq_true rfl) (Nat.le_of_ble_eq_true rfl)
    have hf := br_neg c6 hf
    by_cases c7 : n3 = 2
    · subst c7
      have hf := br_pos rfl hf
      refine cw_vi_err (rest := []) (m_C_doesExist l hst ca ad bq nF nO nL nA nC nV nU nP nE bF bO bL bA bC bV bU bP bE cT cK cO cQ cD pT pK pR pW pU pI pC uO uF uE uN wK jM jN jZ jB R _ p2 (.error 2) h2) ⟨hx, hb, hml, hown, hts⟩ (cwV 1 hts (gV q416 q417 q418 q24 q419) rfl rfl rfl (by decide +kernel) ⟨Nat.le_of_ble_eq_true rfl, Nat.le_of_ble_eq_true rfl⟩) (va_recv hK hP (ci := 7) (q0 := 0) rfl rfl) hE hP hD hS hA hZ rfl hl.1 rfl (lv_room (Nat.le_of_ble_eq_true rfl)) dL_call_166 ⟨Nat.le_of_ble_eq_true rfl, Nat.le_of_ble_eq_true rfl⟩ (fun H locs q9 ce hP hD hS hce hv9 hcl => ?_)
      refine vx_catch (E := "java/lang/IllegalStateException") hown ((tableOf HH).take 72) ⟨164, 177, 405, 126⟩ ((tableOf HH).drop (72 + 1)) (htab.trans (sp_at (n := 72) hh72)) (hp_of [(122, "java/lang/IndexOutOfBoundsException"), (124, "java/lang/IllegalArgumentException")] (by decide +kernel) (List.forall_mem_cons.mpr ⟨⟨hts _ q254, hNC _ nc_2_3⟩, List.forall_mem_cons.mpr ⟨⟨hts _ q333, hNC _ nc_2_1⟩, fun _ h => absurd h List.not_mem_nil⟩⟩)) (by decide) (by decide) (hts _ q334) (va_Nw.use rfl (hE.2.1 _ n367)) hce hv9 hcl ?_
      refine lv_astore (lv' := [(5, .ref q9), (0, .ref (ad 0)), (1, .int 2), (2, .int p2), (3, .int p3), (4, .int p4)]) hx hb dL_call_405 hl (by decide) rfl (fun ls hl => ?_)
      refine lv_sipush (v := (-1003)) hx hb dL_call_407 (by decide) ?_
      cases hf
      exact endw_i hAe hQm hx hb hr hlocks rfl hP hD hS dL_call_410 (Nat.le_of_ble_eq_true rfl) (Nat.le_of_ble_eq_true rfl)
    have hf := br_neg c7 hf
    by_cases c8 : n3 = 4
    · subst c8
      have hf := br_pos rfl hf
      refine cw_vi_err (rest := []) (m_C_doesExist l hst ca ad bq nF nO nL nA nC nV nU nP nE bF bO bL bA bC bV bU bP bE cT cK cO cQ cD pT pK pR pW pU pI pC uO uF uE uN wK jM jN jZ jB R _ p2 (.error 4) h2) ⟨hx, hb, hml, hown, hts⟩ (cwV 1 hts (gV q416 q417 q418 q24 q419) rfl rfl rfl (by decide +kernel) ⟨Nat.le_of_ble_eq_true rfl, Nat.le_of_ble_eq_true rfl⟩) (va_recv hK hP (ci := 7) (q0 := 0) rfl rfl) hE hP hD hS hA hZ rfl hl.1 rfl (lv_room (Nat.le_of_ble_eq_true rfl)) dL_call_166 ⟨Nat.le_of_ble_eq_true rfl, Nat.le_of_ble_eq_true rfl⟩ (fun H locs q9 ce hP hD hS hce hv9 hcl => ?_)
      refine vx_catch (E := "java/lang/UnsupportedOperationException") hown ((tableOf HH).take 107) ⟨164, 177, 411, 128⟩ ((tableOf HH).drop (107 + 1)) (htab.trans (sp_at (n := 107) hh107)) (hp_of [(122, "java/lang/IndexOutOfBoundsException"), (124, "java/lang/IllegalArgumentException"), (126, "java/lang/IllegalStateException")] (by decide +kernel) (List.forall_mem_cons.mpr ⟨⟨hts _ q254, hNC _ nc_4_3⟩, List.forall_mem_cons.mpr ⟨⟨hts _ q333, hNC _ nc_4_1⟩, List.forall_mem_cons.mpr ⟨⟨hts _ q334, hNC _ nc_4_2⟩, fun _ h => absurd h List.not_mem_nil⟩⟩⟩)) (by decide) (by decide) (hts _ q335) (va_Nw.use rfl (hE.2.1 _ n547)) hce hv9 hcl ?_
      refine lv_astore (lv' := [(5, .ref q9), (0, .ref (ad 0)), (1, .int 2), (2, .int p2), (3, .int p3), (4, .int p4)]) hx hb dL_call_411 hl (by decide) rfl (fun ls hl => ?_)
      refine lv_sipush (v := (-1004)) hx hb dL_call_413 (by decide) ?_
      cases hf
      exact endw_i hAe hQm hx hb hr hlocks rfl hP hD hS dL_call_416 (Nat.le_of_ble_eq_true rfl) (Nat.le_of_ble_eq_true rfl)
    have hf := br_neg c8 hf
    by_cases c9 : n3 = 5
    · subst c9
      have hf := br_pos rfl hf
      refine cw_vi_err (rest := []) (m_C_doesExist l hst ca ad bq nF nO nL nA nC nV nU nP nE bF bO bL bA bC bV bU bP bE cT cK cO cQ cD pT pK pR pW pU pI pC uO uF uE uN wK jM jN jZ jB R _ p2 (.error 5) h2) ⟨hx, hb, hml, hown, hts⟩ (cwV 1 hts (gV q416 q417 q418 q24 q419) rfl rfl rfl (by decide +kernel) ⟨Nat.le_of_ble_eq_true rfl, Nat.le_of_ble_eq_true rfl⟩) (va_recv hK hP (ci := 7) (q0 := 0) rfl rfl) hE hP hD hS hA hZ rfl hl.1 rfl (lv_room (Nat.le_of_ble_eq_true rfl)) dL_call_166 ⟨Nat.le_of_ble_eq_true rfl, Nat.le_of_ble_eq_true rfl⟩ (fun H locs q9 ce hP hD hS hce hv9 hcl => ?_)
      refine vx_catch (E := "java/util/NoSuchElementException") hown ((tableOf HH).take 142) ⟨164, 177, 417, 130⟩ ((tableOf HH).drop (142 + 1)) (htab.trans (sp_at (n := 142) hh142)) (hp_of [(122, "java/lang/IndexOutOfBoundsException"), (124, "java/lang/IllegalArgumentException"), (126, "java/lang/IllegalStateException"), (128, "java/lang/UnsupportedOperationException")] (by decide +kernel) (List.forall_mem_cons.mpr ⟨⟨hts _ q254, hNC _ nc_5_3⟩, List.forall_mem_cons.mpr ⟨⟨hts _ q333, hNC _ nc_5_1⟩, List.forall_mem_cons.mpr ⟨⟨hts _ q334, hNC _ nc_5_2⟩, List.forall_mem_cons.mpr ⟨⟨hts _ q335, hNC _ nc_5_4⟩, fun _ h => absurd h List.not_mem_nil⟩⟩⟩⟩)) (by decide) (by decide) (hts _ q336) (va_Nw.use rfl (hE.2.1 _ n606)) hce hv9 hcl ?_
      refine lv_astore (lv' := [(5, .ref q9), (0, .ref (ad 0)), (1, .int 2), (2, .int p2), (3, .int p3), (4, .int p4)]) hx hb dL_call_417 hl (by decide) rfl (fun ls hl => ?_)
      refine lv_sipush (v := (-1005)) hx hb dL_call_419 (by decide) ?_
      cases hf
      exact endw_i hAe hQm hx hb hr hlocks rfl hP hD hS dL_call_422 (Nat.le_of_ble_eq_true rfl) (Nat.le_of_ble_eq_true rfl)
    have hf := br_neg c9 hf
    cases hf
  refine cw_vi_ok (rest := []) (m_C_doesExist l hst ca ad bq nF nO nL nA nC nV nU nP nE bF bO bL bA bC bV bU bP bE cT cK cO cQ cD pT pK pR pW pU pI pC uO uF uE uN wK jM jN jZ jB R _ p2 (.ok r4) h2) ⟨hx, hb, hml, hown, hts⟩ (cwV 1 hts (gV q416 q417 q418 q24 q419) rfl rfl rfl (by decide +kernel) ⟨Nat.le_of_ble_eq_true rfl, Nat.le_of_ble_eq_true rfl⟩) (va_recv hK hP (ci := 7) (q0 := 0) rfl rfl) hE hP hD hS hA hZ rfl hl.1 rfl (lv_room (Nat.le_of_ble_eq_true rfl)) dL_call_166 ⟨Nat.le_of_ble_eq_true rfl, Nat.le_of_ble_eq_true rfl⟩ (fun H locs hP hD hS => ?_)
  refine lv_if_eq (tgt := 176) hx hb dL_call_169 (by decide) (fun c10 => ?_) (fun c10 => ?_)
  · have hf := br_pos c10 hf
    refine lv_iconst (v := 0) hx hb dL_call_176 (by decide) ?_
    cases hf
    exact endw_i hAe hQm hx hb hr hlocks rfl hP hD hS dL_call_177 (Nat.le_of_ble_eq_true rfl) (Nat.le_of_ble_eq_true rfl)
  · have hf := br_neg c10 hf
    refine lv_iconst (v := 1) hx hb dL_call_172 (by decide) ?_
    refine lv_goto (tgt := 177) hx hb dL_call_173 (by decide) ?_
    cases hf
    exact endw_i hAe hQm hx hb hr hlocks rfl hP hD hS dL_call_177 (Nat.le_of_ble_eq_true rfl) (Nat.le_of_ble_eq_true rfl)
def f_K3 (p2 : Int32) (nF : Int32) (nL : Nat → Int32) : Option (Int32) :=
  (f_C_linksOf p2 nF nL).bind fun x1 =>
  match x1 with
  | .error n3 => if n3 = 3 then some (-1001) else if n3 = 1 then some (-1002) else if n3 = 2 then some (-1003) else if n3 = 4 then some (-1004) else if n3 = 5 then some (-1005) else none
  | .ok r4 =>
  some r4
set_option maxHeartbeats 4000000 in
set_option maxRecDepth 100000 in
theorem m_K3 (l : Launch) (hst : l.stackTraces = false) {D : va_G} (ca : Nat → ClassId) (ad : Nat → Nat) (bq : Nat) (nF : Int32) (nO : Nat → Int32) (nL : Nat → Int32) (nA : Nat → Int32) (nC : Nat → Int32) (nV : Nat → Int32) (nU : Nat → Int32) (nP : Nat → Int32) (nE : Int32) (bF : Int32) (bO : Nat → Int32) (bL : Nat → Int32) (bA : Nat → Int32) (bC : Nat → Int32) (bV : Nat → Int32) (bU : Nat → Int32) (bP : Nat → Int32) (bE : Int32) (cT : Int32) (cK : Nat → Int32) (cO : Int32) (cQ : Nat → Int32) (cD : Int32) (pT : Int32) (pK : Int32) (pR : Nat → Int32) (pW : Nat → Int32) (pU : Nat → Int32) (pI : Nat → Int32) (pC : Nat → Nat → Int32) (uO : Int32) (uF : Nat → Int32) (uE : Nat → Int32) (uN : Nat → Int32) (wK : Nat → Int32) (jM : Int32) (jN : Int32) (jZ : Nat) (jB : Nat → Int32) (R : va_W) (sz : Nat) (p2 : Int32) (p3 : Int32) (p4 : Int32) (ro : Int32) (hf : f_K3 p2 nF nL = some ro) : vx_Met l yL_call (wmW yL_call cL_call 6 (some .int) HH) ({ frames := 8, cells := 1, slots := 6, locals := 132 } : Room) (PREL [.ref (ad 0), .int 3, .int p2, .int p3, .int p4] D ca SL0 (WC ca ad bq nF nO nL nA nC nV nU nP nE bF bO bL bA bC bV bU bP bE cT cK cO cQ cD pT pK pR pW pU pI pC uO uF uE uN wK jM jN jZ jB ++ R) sz) (QI ro D (WC ca ad bq nF nO nL nA nC nV nU nP nE bF bO bL bA bC bV bU bP bE cT cK cO cQ cD pT pK pR pW pU pI pC uO uF uE uN wK jM jN jZ jB ++ R) (WC ca ad bq nF nO nL nA nC nV nU nP nE bF bO bL bA bC bV bU bP bE cT cK cO cQ cD pT pK pR pW pU pI pC uO uF uE uN wK jM jN jZ jB ++ R) sz) (fun _ _ _ => False) 1 6 (va_A (WC ca ad bq nF nO nL nA nC nV nU nP nE bF bO bL bA bC bV bU bP bE cT cK cO cQ cD pT pK pR pW pU pI pC uO uF uE uN wK jM jN jZ jB ++ R) sz) := by
  refine vx_ofWH (cc := cL_call) (maxL := 6) (ret := (some .int)) (hh := HH) (by decide) rfl ?_
  intro p e s m args below meth c s₁ B hml hv
  obtain ⟨rfl, rfl, hP, hE, hD0, hZ, hNC⟩ := hv
  have hx := B.exec
  have hb := B.bytes
  have hr := B.returns
  have hts0 := atoms_spec (ws := wmW yL_call cL_call 6 (some .int) HH) B.pre
  have hts := wmW_ww hts0
  have htab := vx_table (x := yL_call) B (hts0 _ List.mem_cons_self)
  have hown : s.vm.findClass RL = some m.cls := findClass_of_methodNamed B.named
  have hlocks := B.notSynchronized
  have hK := hE.1
  have hD := hD0.self (sz := s.heap.size)
  generalize hAe : va_A (WC ca ad bq nF nO nL nA nC nV nU nP nE bF bO bL bA bC bV bU bP bE cT cK cO cQ cD pT pK pR pW pU pI pC uO uF uE uN wK jM jN jZ jB ++ R) s.heap.size = A at hD hZ ⊢
  have hA : ∀ q : Nat, s.heap.size ≤ q → A q := fun q h => by rw [← hAe]; exact Or.inr h
  have hS : va_S A s.heap s.heap [] := va_S.rf
  have hl := lv_entry ([.ref (ad 0), .int 3, .int p2, .int p3, .int p4]) (n := 6) (Nat.le_of_ble_eq_true rfl)
  rw [lg_entry_eq]
  generalize (lg_sl ([.ref (ad 0), .int 3, .int p2, .int p3, .int p4]) ++ List.replicate (6 - (lg_sl ([.ref (ad 0), .int 3, .int p2, .int p3, .int p4])).length) Slot.unset).toArray = ls at hl ⊢
  have hl : lv_has ls 6 [(0, .ref (ad 0)), (1, .int 3), (2, .int p2), (3, .int p3), (4, .int p4)] := hl
  change W p l e ({ frames := 8, cells := 1, slots := 6, locals := 132 } : Room) s m _ below meth c s.heap [] 0 0 _ _
  generalize hQm : vx_MQ below (QI ro D (WC ca ad bq nF nO nL nA nC nV nU nP nE bF bO bL bA bC bV bU bP bE cT cK cO cQ cD pT pK pR pW pU pI pC uO uF uE uN wK jM jN jZ jB ++ R) (WC ca ad bq nF nO nL nA nC nV nU nP nE bF bO bL bA bC bV bU bP bE cT cK cO cQ cD pT pK pR pW pU pI pC uO uF uE uN wK jM jN jZ jB ++ R) s.heap.size) (fun _ _ _ => False) _ s 1 6 A = Qm
  have hP : va_P D vwCl (WC ca ad bq nF nO nL nA nC nV nU nP nE bF bO bL bA bC bV bU bP bE cT cK cO cQ cD pT pK pR pW pU pI pC uO uF uE uN wK jM jN jZ jB ++ R) s.heap := hP
  generalize hae : ([.ref (ad 0), .int 3, .int p2, .int p3, .int p4] : List Value).toArray = args at hts hQm ⊢
  refine lv_iload_n hx hb dL_call_0 rfl (lv_at hl 1 rfl) ?_
  refine lv_tableIn (off := 177) (tgt := 178) hx hb dL_call_1 (by decide) (by decide) rfl (by decide) ?_
  refine lv_aload_n hx hb dL_call_178 rfl (lv_at hl 0 rfl) ?_
  refine lv_iload_n hx hb dL_call_179 rfl (lv_at hl 2 rfl) ?_
  obtain ⟨x1, h2, hf⟩ := bnd hf
  rcases x1 with n3 | r4
  · have hf : (if n3 = 3 then some (-1001) else if n3 = 1 then some (-1002) else if n3 = 2 then some (-1003) else if n3 = 4 then some (-1004) else if n3 = 5 then some (-1005) else none) = some ro := hf
    by_cases c5 : n3 = 3
    · subst c5
      have hf := br_pos rfl hf
      refine cw_vi_err (rest := []) (m_C_linksOf l hst ca ad bq nF nO nL nA nC nV nU nP nE bF bO bL bA bC bV bU bP bE cT cK cO cQ cD pT pK pR pW pU pI pC uO uF uE uN wK jM jN jZ jB R _ p2 (.error 3) h2) ⟨hx, hb, hml, hown, hts⟩ (cwV 1 hts (gV q434 q435 q436 q24 q437) rfl rfl rfl (by decide +kernel) ⟨Nat.le_of_ble_eq_true rfl, Nat.le_of_ble_eq_true rfl⟩) (va_recv hK hP (ci := 7) (q0 := 0) rfl rfl) hE hP hD hS hA hZ rfl hl.1 rfl (lv_room (Nat.le_of_ble_eq_true rfl)) dL_call_180 ⟨Nat.le_of_ble_eq_true rfl, Nat.le_of_ble_eq_true rfl⟩ (fun H locs q9 ce hP hD hS hce hv9 hcl => ?_)
      refine vx_catch (E := "java/lang/IndexOutOfBoundsException") hown ((tableOf HH).take 3) ⟨178, 183, 393, 122⟩ ((tableOf HH).drop (3 + 1)) (htab.trans (sp_at (n := 3) hh3)) (hp_of [] (by decide +kernel) (fun _ h => absurd h List.not_mem_nil)) (by decide) (by decide) (hts _ q254) (va_Nw.use rfl (hE.2.1 _ n392)) hce hv9 hcl ?_
      refine lv_astore (lv' := [(5, .ref q9), (0, .ref (ad 0)), (1, .int 3), (2, .int p2), (3, .int p3), (4, .int p4)]) hx hb dL_call_393 hl (by decide) rfl (fun ls hl => ?_)
      refine lv_sipush (v := (-1001)) hx hb dL_call_395 (by decide) ?_
      cases hf
      exact endw_i hAe hQm hx hb hr hlocks rfl hP hD hS dL_call_398 (Nat.le_of_ble_eq_true rfl) (Nat.le_of_ble_eq_true rfl)
    have hf := br_neg c5 hf
    by_cases c6 : n3 = 1
    · subst c6
      have hf := br_pos rfl hf
      refine cw_vi_err (rest := []) (m_C_linksOf l hst ca ad bq nF nO nL nA nC nV nU nP nE bF bO bL bA bC bV bU bP bE cT cK cO cQ cD pT pK pR pW pU pI pC uO uF uE uN wK jM jN jZ jB R _ p2 (.error 1) h2) ⟨hx, hb, hml, hown, hts⟩ (cwV 1 hts (gV q434 q435 q436 q24 q437) rfl rfl rfl (by decide +kernel) ⟨Nat.le_of_ble_eq_true rfl, Nat.le_of_ble_eq_true rfl⟩) (va_recv hK hP (ci := 7) (q0 := 0) rfl rfl) hE hP hD hS hA hZ rfl hl.1 rfl (lv_room (Nat.le_of_ble_eq_true rfl)) dL_call_180 ⟨Nat.le_of_ble_eq_true rfl, Nat.le_of_ble_eq_true rfl⟩ (fun H locs q9 ce hP hD hS hce hv9 hcl => ?_)
      refine vx_catch (E := "java/lang/IllegalArgumentException") hown ((tableOf HH).take 38) ⟨178, 183, 399, 124⟩ ((tableOf HH).drop (38 + 1)) (htab.trans (sp_at (n := 38) hh38)) (hp_of [(122, "java/lang/IndexOutOfBoundsException")] (by decide +kernel) (List.forall_mem_cons.mpr ⟨⟨hts _ q254, hNC _ nc_1_3⟩, fun _ h => absurd h List.not_mem_nil⟩)) (by decide) (by decide) (hts _ q333) (va_Nw.use rfl (hE.2.1 _ n347)) hce hv9 hcl ?_
      refine lv_astore (lv' := [(5, .ref q9), (0, .ref (ad 0)), (1, .int 3), (2, .int p2), (3, .int p3), (4, .int p4)]) hx hb dL_call_399 hl (by decide) rfl (fun ls hl => ?_)
      refine lv_sipush (v := (-1002)) hx hb dL_call_401 (by decide) ?_
      cases hf
      exact endw_i hAe hQm hx hb hr hlocks rfl hP hD hS dL_call_404 (Nat.le_of_ble_eq_true rfl) (Nat.le_of_ble_eq_true rfl)
    have hf := br_neg c6 hf
    by_cases c7 : n3 = 2
    · subst c7
      have hf := br_pos rfl hf
      refine cw_vi_err (rest := []) (m_C_linksOf l hst ca ad bq nF nO nL nA nC nV nU nP nE bF bO bL bA bC bV bU bP bE cT cK cO cQ cD pT pK pR pW pU pI pC uO uF uE uN wK jM jN jZ jB R _ p2 (.error 2) h2) ⟨hx, hb, hml, hown, hts⟩ (cwV 1 hts (gV q434 q435 q436 q24 q437) rfl rfl rfl (by decide +kernel) ⟨Nat.le_of_ble_eq_true rfl, Nat.le_of_ble_eq_true rfl⟩) (va_recv hK hP (ci := 7) (q0 := 0) rfl rfl) hE hP hD hS hA hZ rfl hl.1 rfl (lv_room (Nat.le_of_ble_eq_true rfl)) dL_call_180 ⟨Nat.le_of_ble_eq_true rfl, Nat.le_of_ble_eq_true rfl⟩ (fun H locs q9 ce hP hD hS hce hv9 hcl => ?_)
      refine vx_catch (E := "java/lang/IllegalStateException") hown ((tableOf HH).take 73) ⟨178, 183, 405, 126⟩ ((tableOf HH).drop (73 + 1)) (htab.trans (sp_at (n := 73) hh73)) (hp_of [(122, "java/lang/IndexOutOfBoundsException"), (124, "java/lang/IllegalArgumentException")] (by decide +kernel) (List.forall_mem_cons.mpr ⟨⟨hts _ q254, hNC _ nc_2_3⟩, List.forall_mem_cons.mpr ⟨⟨hts _ q333, hNC _ nc_2_1⟩, fun _ h => absurd h List.not_mem_nil⟩⟩)) (by decide) (by decide) (hts _ q334) (va_Nw.use rfl (hE.2.1 _ n367)) hce hv9 hcl ?_
      refine lv_astore (lv' := [(5, .ref q9), (0, .ref (ad 0)), (1, .int 3), (2, .int p2), (3, .int p3), (4, .int p4)]) hx hb dL_call_405 hl (by decide) rfl (fun ls hl => ?_)
      refine lv_sipush (v := (-1003)) hx hb dL_call_407 (by decide) ?_
      cases hf
      exact endw_i hAe hQm hx hb hr hlocks rfl hP hD hS dL_call_410 (Nat.le_of_ble_eq_true rfl) (Nat.le_of_ble_eq_true rfl)
    have hf := br_neg c7 hf
    by_cases c8 : n3 = 4
    · subst c8
      have hf := br_pos rfl hf
      refine cw_vi_err (rest := []) (m_C_linksOf l hst ca ad bq nF nO nL nA nC nV nU nP nE bF bO bL bA bC bV bU bP bE cT cK cO cQ cD pT pK pR pW pU pI pC uO uF uE uN wK jM jN jZ jB R _ p2 (.error 4) h2) ⟨hx, hb, hml, hown, hts⟩ (cwV 1 hts (gV q434 q435 q436 q24 q437) rfl rfl rfl (by decide +kernel) ⟨Nat.le_of_ble_eq_true rfl, Nat.le_of_ble_eq_true rfl⟩) (va_recv hK hP (ci := 7) (q0 := 0) rfl rfl) hE hP hD hS hA hZ rfl hl.1 rfl (lv_room (Nat.le_of_ble_eq_true rfl)) dL_call_180 ⟨Nat.le_of_ble_eq_true rfl, Nat.le_of_ble_eq_true rfl⟩ (fun H locs q9 ce hP hD hS hce hv9 hcl => ?_)
      refine vx_catch (E := "java/lang/UnsupportedOperationException") hown ((tableOf HH).take 108) ⟨178, 183, 411, 128⟩ ((tableOf HH).drop (108 + 1)) (htab.trans (sp_at (n := 108) hh108)) (hp_of [(122, "java/lang/IndexOutOfBoundsException"), (124, "java/lang/IllegalArgumentException"), (126, "java/lang/IllegalStateException")] (by decide +kernel) (List.forall_mem_cons.mpr ⟨⟨hts _ q254, hNC _ nc_4_3⟩, List.forall_mem_cons.mpr ⟨⟨hts _ q333, hNC _ nc_4_1⟩, List.forall_mem_cons.mpr ⟨⟨hts _ q334, hNC _ nc_4_2⟩, fun _ h => absurd h List.not_mem_nil⟩⟩⟩)) (by decide) (by decide) (hts _ q335) (va_Nw.use rfl (hE.2.1 _ n547)) hce hv9 hcl ?_
      refine lv_astore (lv' := [(5, .ref q9), (0, .ref (ad 0)), (1, .int 3), (2, .int p2), (3, .int p3), (4, .int p4)]) hx hb dL_call_411 hl (by decide) rfl (fun ls hl => ?_)
      refine lv_sipush (v := (-1004)) hx hb dL_call_413 (by decide) ?_
      cases hf
      exact endw_i hAe hQm hx hb hr hlocks rfl hP hD hS dL_call_416 (Nat.le_of_ble_eq_true rfl) (Nat.le_of_ble_eq_true rfl)
    have hf := br_neg c8 hf
    by_cases c9 : n3 = 5
    · subst c9
      have hf := br_pos rfl hf
      refine cw_vi_err (rest := []) (m_C_linksOf l hst ca ad bq nF nO nL nA nC nV nU nP nE bF bO bL bA bC bV bU bP bE cT cK cO cQ cD pT pK pR pW pU pI pC uO uF uE uN wK jM jN jZ jB R _ p2 (.error 5) h2) ⟨hx, hb, hml, hown, hts⟩ (cwV 1 hts (gV q434 q435 q436 q24 q437) rfl rfl rfl (by decide +kernel) ⟨Nat.le_of_ble_eq_true rfl, Nat.le_of_ble_eq_true rfl⟩) (va_recv hK hP (ci := 7) (q0 := 0) rfl rfl) hE hP hD hS hA hZ rfl hl.1 rfl (lv_room (Nat.le_of_ble_eq_true rfl)) dL_call_180 ⟨Nat.le_of_ble_eq_true rfl, Nat.le_of_ble_eq_true rfl⟩ (fun H locs q9 ce hP hD hS hce hv9 hcl => ?_)
      refine vx_catch (E := "java/util/NoSuchElementException") hown ((tableOf HH).take 143) ⟨178, 183, 417, 130⟩ ((tableOf HH).drop (143 + 1)) (htab.trans (sp_at (n := 143) hh143)) (hp_of [(122, "java/lang/IndexOutOfBoundsException"), (124, "java/lang/IllegalArgumentException"), (126, "java/lang/IllegalStateException"), (128, "java/lang/UnsupportedOperationException")] (by decide +kernel) (List.forall_mem_cons.mpr ⟨⟨hts _ q254, hNC _ nc_5_3⟩, List.forall_mem_cons.mpr ⟨⟨hts _ q333, hNC _ nc_5_1⟩, List.forall_mem_cons.mpr ⟨⟨hts _ q334, hNC _ nc_5_2⟩, List.forall_mem_cons.mpr ⟨⟨hts _ q335, hNC _ nc_5_4⟩, fun _ h => absurd h List.not_mem_nil⟩⟩⟩⟩)) (by decide) (by decide) (hts _ q336) (va_Nw.use rfl (hE.2.1 _ n606)) hce hv9 hcl ?_
      refine lv_astore (lv' := [(5, .ref q9), (0, .ref (ad 0)), (1, .int 3), (2, .int p2), (3, .int p3), (4, .int p4)]) hx hb dL_call_417 hl (by decide) rfl (fun ls hl => ?_)
      refine lv_sipush (v := (-1005)) hx hb dL_call_419 (by decide) ?_
      cases hf
      exact endw_i hAe hQm hx hb hr hlocks rfl hP hD hS dL_call_422 (Nat.le_of_ble_eq_true rfl) (Nat.le_of_ble_eq_true rfl)
    have hf := br_neg c9 hf
    cases hf
  refine cw_vi_ok (rest := []) (m_C_linksOf l hst ca ad bq nF nO nL nA nC nV nU nP nE bF bO bL bA bC bV bU bP bE cT cK cO cQ cD pT pK pR pW pU pI pC uO uF uE uN wK jM jN jZ jB R _ p2 (.ok r4) h2) ⟨hx, hb, hml, hown, hts⟩ (cwV 1 hts (gV q434 q435 q436 q24 q437) rfl rfl rfl (by decide +kernel) ⟨Nat.le_of_ble_eq_true rfl, Nat.le_of_ble_eq_true rfl⟩) (va_recv hK hP (ci := 7) (q0 := 0) rfl rfl) hE hP hD hS hA hZ rfl hl.1 rfl (lv_room (Nat.le_of_ble_eq_true rfl)) dL_call_180 ⟨Nat.le_of_ble_eq_true rfl, Nat.le_of_ble_eq_true rfl⟩ (fun H locs hP hD hS => ?_)
  cases hf
  exact endw_i hAe hQm hx hb hr hlocks rfl hP hD hS dL_call_183 (Nat.le_of_ble_eq_true rfl) (Nat.le_of_ble_eq_true rfl)
def f_K4 (p2 : Int32) (nF : Int32) (nL : Nat → Int32) (nE : Int32) (cK : Nat → Int32) : Option (Int32 × (Nat → Int32) × Int32 × (Nat → Int32)) :=
  (f_C_link p2 nF nL nE cK).bind fun (x1, nL_2, nE_3, cK_4) =>
  match x1 with
  | .error n6 => if n6 = 3 then some ((-1001), nL_2, nE_3, cK_4) else if n6 = 1 then some ((-1002), nL_2, nE_3, cK_4) else if n6 = 2 then some ((-1003), nL_2, nE_3, cK_4) else if n6 = 4 then some ((-1004), nL_2, nE_3, cK_4) else if n6 = 5 then some ((-1005), nL_2, nE_3, cK_4) else none
  | .ok r7 =>
  some (r7, nL_2, nE_3, cK_4)
set_option maxHeartbeats 4000000 in
set_option maxRecDepth 100000 in
theorem m_K4 (l : Launch) (hst : l.stackTraces = false) {D : va_G} (ca : Nat → ClassId) (ad : Nat → Nat) (bq : Nat) (nF : Int32) (nO : Nat → Int32) (nL : Nat → Int32) (nA : Nat → Int32) (nC : Nat → Int32) (nV : Nat → Int32) (nU : Nat → Int32) (nP : Nat → Int32) (nE : Int32) (bF : Int32) (bO : Nat → Int32) (bL : Nat → Int32) (bA : Nat → Int32) (bC : Nat → Int32) (bV : Nat → Int32) (bU : Nat → Int32) (bP : Nat → Int32) (bE : Int32) (cT : Int32) (cK : Nat → Int32) (cO : Int32) (cQ : Nat → Int32) (cD : Int32) (pT : Int32) (pK : Int32) (pR : Nat → Int32) (pW : Nat → Int32) (pU : Nat → Int32) (pI : Nat → Int32) (pC : Nat → Nat → Int32) (uO : Int32) (uF : Nat → Int32) (uE : Nat → Int32) (uN : Nat → Int32) (wK : Nat → Int32) (jM : Int32) (jN : Int32) (jZ : Nat) (jB : Nat → Int32) (R : va_W) (sz : Nat) (p2 : Int32) (p3 : Int32) (p4 : Int32) (ro : Int32) (onL : Nat → Int32) (onE : Int32) (ocK : Nat → Int32) (hf : f_K4 p2 nF nL nE cK = some (ro, onL, onE, ocK)) : vx_Met l yL_call (wmW yL_call cL_call 6 (some .int) HH) ({ frames := 8, cells := 3, slots := 18, locals := 133 } : Room) (PREL [.ref (ad 0), .int 4, .int p2, .int p3, .int p4] D ca SL0 (WC ca ad bq nF nO nL nA nC nV nU nP nE bF bO bL bA bC bV bU bP bE cT cK cO cQ cD pT pK pR pW pU pI pC uO uF uE uN wK jM jN jZ jB ++ R) sz) (QI ro D (WC ca ad bq nF nO onL nA nC nV nU nP onE bF bO bL bA bC bV bU bP bE cT ocK cO cQ cD pT pK pR pW pU pI pC uO uF uE uN wK jM jN jZ jB ++ R) (WC ca ad bq nF nO nL nA nC nV nU nP nE bF bO bL bA bC bV bU bP bE cT cK cO cQ cD pT pK pR pW pU pI pC uO uF uE uN wK jM jN jZ jB ++ R) sz) (fun _ _ _ => False) 3 18 (va_A (WC ca ad bq nF nO nL nA nC nV nU nP nE bF bO bL bA bC bV bU bP bE cT cK cO cQ cD pT pK pR pW pU pI pC uO uF uE uN wK jM jN jZ jB ++ R) sz) := by
  refine vx_ofWH (cc := cL_call) (maxL := 6) (ret := (some .int)) (hh := HH) (by decide) rfl ?_
  intro p e s m args below meth c s₁ B hml hv
  obtain ⟨rfl, rfl, hP, hE, hD0, hZ, hNC⟩ := hv
  have hx := B.exec
  have hb := B.bytes
  have hr := B.returns
  have hts0 := atoms_spec (ws := wmW yL_call cL_call 6 (some .int) HH) B.pre
  have hts := wmW_ww hts0
  have htab := vx_table (x := yL_call) B (hts0 _ List.mem_cons_self)
  have hown : s.vm.findClass RL = some m.cls := findClass_of_methodNamed B.named
  have hlocks := B.notSynchronized
  have hK := hE.1
  have hD := hD0.self (sz := s.heap.size)
  generalize hAe : va_A (WC ca ad bq nF nO nL nA nC nV nU nP nE bF bO bL bA bC bV bU bP bE cT cK cO cQ cD pT pK pR pW pU pI pC uO uF uE uN wK jM jN jZ jB ++ R) s.heap.size = A at hD hZ ⊢
  have hA : ∀ q : Nat, s.heap.size ≤ q → A q := fun q h => by rw [← hAe]; exact Or.inr h
  have hS : va_S A s.heap s.heap [] := va_S.rf
  have hl := lv_entry ([.ref (ad 0), .int 4, .int p2, .int p3, .int p4]) (n := 6) (Nat.le_of_ble_eq_true rfl)
  rw [lg_entry_eq]
  generalize (lg_sl ([.ref (ad 0), .int 4, .int p2, .int p3, .int p4]) ++ List.replicate (6 - (lg_sl ([.ref (ad 0), .int 4, .int p2, .int p3, .int p4])).length) Slot.unset).toArray = ls at hl ⊢
  have hl : lv_has ls 6 [(0, .ref (ad 0)), (1, .int 4), (2, .int p2), (3, .int p3), (4, .int p4)] := hl
  change W p l e ({ frames := 8, cells := 3, slots := 18, locals := 133 } : Room) s m _ below meth c s.heap [] 0 0 _ _
  generalize hQm : vx_MQ below (QI ro D (WC ca ad bq nF nO onL nA nC nV nU nP onE bF bO bL bA bC bV bU bP bE cT ocK cO cQ cD pT pK pR pW pU pI pC uO uF uE uN wK jM jN jZ jB ++ R) (WC ca ad bq nF nO nL nA nC nV nU nP nE bF bO bL bA bC bV bU bP bE cT cK cO cQ cD pT pK pR pW pU pI pC uO uF uE uN wK jM jN jZ jB ++ R) s.heap.size) (fun _ _ _ => False) _ s 3 18 A = Qm
  have hP : va_P D vwCl (WC ca ad bq nF nO nL nA nC nV nU nP nE bF bO bL bA bC bV bU bP bE cT cK cO cQ cD pT pK pR pW pU pI pC uO uF uE uN wK jM jN jZ jB ++ R) s.heap := hP
  generalize hae : ([.ref (ad 0), .int 4, .int p2, .int p3, .int p4] : List Value).toArray = args at hts hQm ⊢
  refine lv_iload_n hx hb dL_call_0 rfl (lv_at hl 1 rfl) ?_
  refine lv_tableIn (off := 183) (tgt := 184) hx hb dL_call_1 (by decide) (by decide) rfl (by decide) ?_
  refine lv_aload_n hx hb dL_call_184 rfl (lv_at hl 0 rfl) ?_
  refine lv_iload_n hx hb dL_call_185 rfl (lv_at hl 2 rfl) ?_
  obtain ⟨⟨x1, nL_2, nE_3, cK_4⟩, h5, hf⟩ := bnd hf
  rcases x1 with n6 | r7
  · have hf : (if n6 = 3 then some ((-1001), nL_2, nE_3, cK_4) else if n6 = 1 then some ((-1002), nL_2, nE_3, cK_4) else if n6 = 2 then some ((-1003), nL_2, nE_3, cK_4) else if n6 = 4 then some ((-1004), nL_2, nE_3, cK_4) else if n6 = 5 then some ((-1005), nL_2, nE_3, cK_4) else none) = some (ro, onL, onE, ocK) := hf
    by_cases c8 : n6 = 3
    · subst c8
      have hf := br_pos rfl hf
      refine cw_vi_err (rest := []) (m_C_link l hst ca ad bq nF nO nL nA nC nV nU nP nE bF bO bL bA bC bV bU bP bE cT cK cO cQ cD pT pK pR pW pU pI pC uO uF uE uN wK jM jN jZ jB R _ p2 (.error 3) nL_2 nE_3 cK_4 h5) ⟨hx, hb, hml, hown, hts⟩ (cwV 1 hts (gV q442 q443 q444 q24 q445) rfl rfl rfl (by decide +kernel) ⟨Nat.le_of_ble_eq_true rfl, Nat.le_of_ble_eq_true rfl⟩) (va_recv hK hP (ci := 7) (q0 := 0) rfl rfl) hE hP hD hS hA hZ rfl hl.1 rfl (lv_room (Nat.le_of_ble_eq_true rfl)) dL_call_186 ⟨Nat.le_of_ble_eq_true rfl, Nat.le_of_ble_eq_true rfl⟩ (fun H locs q9 ce hP hD hS hce hv9 hcl => ?_)
      refine vx_catch (E := "java/lang/IndexOutOfBoundsException") hown ((tableOf HH).take 4) ⟨184, 189, 393, 122⟩ ((tableOf HH).drop (4 + 1)) (htab.trans (sp_at (n := 4) hh4)) (hp_of [] (by decide +kernel) (fun _ h => absurd h List.not_mem_nil)) (by decide) (by decide) (hts _ q254) (va_Nw.use rfl (hE.2.1 _ n392)) hce hv9 hcl ?_
      refine lv_astore (lv' := [(5, .ref q9), (0, .ref (ad 0)), (1, .int 4), (2, .int p2), (3, .int p3), (4, .int p4)]) hx hb dL_call_393 hl (by decide) rfl (fun ls hl => ?_)
      refine lv_sipush (v := (-1001)) hx hb dL_call_395 (by decide) ?_
      cases hf
      exact endw_i hAe hQm hx hb hr hlocks rfl hP hD hS dL_call_398 (Nat.le_of_ble_eq_true rfl) (Nat.le_of_ble_eq_true rfl)
    have hf := br_neg c8 hf
    by_cases c9 : n6 = 1
    · subst c9
      have hf := br_pos rfl hf
      refine cw_vi_err (rest := []) (m_C_link l hst ca ad bq nF nO nL nA nC nV nU nP nE bF bO bL bA bC bV bU bP bE cT cK cO cQ cD pT pK pR pW pU pI pC uO uF uE uN wK jM jN jZ jB R _ p2 (.error 1) nL_2 nE_3 cK_4 h5) ⟨hx, hb, hml, hown, hts⟩ (cwV 1 hts (gV q442 q443 q444 q24 q445) rfl rfl rfl (by decide +kernel) ⟨Nat.le_of_ble_eq_true rfl, Nat.le_of_ble_eq_true rfl⟩) (va_recv hK hP (ci := 7) (q0 := 0) rfl rfl) hE hP hD hS hA hZ rfl hl.1 rfl (lv_room (Nat.le_of_ble_eq_true rfl)) dL_call_186 ⟨Nat.le_of_ble_eq_true rfl, Nat.le_of_ble_eq_true rfl⟩ (fun H locs q9 ce hP hD hS hce hv9 hcl => ?_)
      refine vx_catch (E := "java/lang/IllegalArgumentException") hown ((tableOf HH).take 39) ⟨184, 189, 399, 124⟩ ((tableOf HH).drop (39 + 1)) (htab.trans (sp_at (n := 39) hh39)) (hp_of [(122, "java/lang/IndexOutOfBoundsException")] (by decide +kernel) (List.forall_mem_cons.mpr ⟨⟨hts _ q254, hNC _ nc_1_3⟩, fun _ h => absurd h List.not_mem_nil⟩)) (by decide) (by decide) (hts _ q333) (va_Nw.use rfl (hE.2.1 _ n347)) hce hv9 hcl ?_
      refine lv_astore (lv' := [(5, .ref q9), (0, .ref (ad 0)), (1, .int 4), (2, .int p2), (3, .int p3), (4, .int p4)]) hx hb dL_call_399 hl (by decide) rfl (fun ls hl => ?_)
      refine lv_sipush (v := (-1002)) hx hb dL_call_401 (by decide) ?_
      cases hf
      exact endw_i hAe hQm hx hb hr hlocks rfl hP hD hS dL_call_404 (Nat.le_of_ble_eq_true rfl) (Nat.le_of_ble_eq_true rfl)
    have hf := br_neg c9 hf
    by_cases c10 : n6 = 2
    · subst c10
      have hf := br_pos rfl hf
      refine cw_vi_err (rest := []) (m_C_link l hst ca ad bq nF nO nL nA nC nV nU nP nE bF bO bL bA bC bV bU bP bE cT cK cO cQ cD pT pK pR pW pU pI pC uO uF uE uN wK jM jN jZ jB R _ p2 (.error 2) nL_2 nE_3 cK_4 h5) ⟨hx, hb, hml, hown, hts⟩ (cwV 1 hts (gV q442 q443 q444 q24 q445) rfl rfl rfl (by decide +kernel) ⟨Nat.le_of_ble_eq_true rfl, Nat.le_of_ble_eq_true rfl⟩) (va_recv hK hP (ci := 7) (q0 := 0) rfl rfl) hE hP hD hS hA hZ rfl hl.1 rfl (lv_room (Nat.le_of_ble_eq_true rfl)) dL_call_186 ⟨Nat.le_of_ble_eq_true rfl, Nat.le_of_ble_eq_true rfl⟩ (fun H locs q9 ce hP hD hS hce hv9 hcl => ?_)
      refine vx_catch (E := "java/lang/IllegalStateException") hown ((tableOf HH).take 74) ⟨184, 189, 405, 126⟩ ((tableOf HH).drop (74 + 1)) (htab.trans (sp_at (n := 74) hh74)) (hp_of [(122, "java/lang/IndexOutOfBoundsException"), (124, "java/lang/IllegalArgumentException")] (by decide +kernel) (List.forall_mem_cons.mpr ⟨⟨hts _ q254, hNC _ nc_2_3⟩, List.forall_mem_cons.mpr ⟨⟨hts _ q333, hNC _ nc_2_1⟩, fun _ h => absurd h List.not_mem_nil⟩⟩)) (by decide) (by decide) (hts _ q334) (va_Nw.use rfl (hE.2.1 _ n367)) hce hv9 hcl ?_
      refine lv_astore (lv' := [(5, .ref q9), (0, .ref (ad 0)), (1, .int 4), (2, .int p2), (3, .int p3), (4, .int p4)]) hx hb dL_call_405 hl (by decide) rfl (fun ls hl => ?_)
      refine lv_sipush (v := (-1003)) hx hb dL_call_407 (by decide) ?_
      cases hf
      exact endw_i hAe hQm hx hb hr hlocks rfl hP hD hS dL_call_410 (Nat.le_of_ble_eq_true rfl) (Nat.le_of_ble_eq_true rfl)
    have hf := br_neg c10 hf
    by_cases c11 : n6 = 4
    · subst c11
      have hf := br_pos rfl hf
      refine cw_vi_err (rest := []) (m_C_link l hst ca ad bq nF nO nL nA nC nV nU nP nE bF bO bL bA bC bV bU bP bE cT cK cO cQ cD pT pK pR pW pU pI pC uO uF uE uN wK jM jN jZ jB R _ p2 (.error 4) nL_2 nE_3 cK_4 h5) ⟨hx, hb, hml, hown, hts⟩ (cwV 1 hts (gV q442 q443 q444 q24 q445) rfl rfl rfl (by decide +kernel) ⟨Nat.le_of_ble_eq_true rfl, Nat.le_of_ble_eq_true rfl⟩) (va_recv hK hP (ci := 7) (q0 := 0) rfl rfl) hE hP hD hS hA hZ rfl hl.1 rfl (lv_room (Nat.le_of_ble_eq_true rfl)) dL_call_186 ⟨Nat.le_of_ble_eq_true rfl, Nat.le_of_ble_eq_true rfl⟩ (fun H locs q9 ce hP hD hS hce hv9 hcl => ?_)
      refine vx_catch (E := "java/lang/UnsupportedOperationException") hown ((tableOf HH).take 109) ⟨184, 189, 411, 128⟩ ((tableOf HH).drop (109 + 1)) (htab.trans (sp_at (n := 109) hh109)) (hp_of [(122, "java/lang/IndexOutOfBoundsException"), (124, "java/lang/IllegalArgumentException"), (126, "java/lang/IllegalStateException")] (by decide +kernel) (List.forall_mem_cons.mpr ⟨⟨hts _ q254, hNC _ nc_4_3⟩, List.forall_mem_cons.mpr ⟨⟨hts _ q333, hNC _ nc_4_1⟩, List.forall_mem_cons.mpr ⟨⟨hts _ q334, hNC _ nc_4_2⟩, fun _ h => absurd h List.not_mem_nil⟩⟩⟩)) (by decide) (by decide) (hts _ q335) (va_Nw.use rfl (hE.2.1 _ n547)) hce hv9 hcl ?_
      refine lv_astore (lv' := [(5, .ref q9), (0, .ref (ad 0)), (1, .int 4), (2, .int p2), (3, .int p3), (4, .int p4)]) hx hb dL_call_411 hl (by decide) rfl (fun ls hl => ?_)
      refine lv_sipush (v := (-1004)) hx hb dL_call_413 (by decide) ?_
      cases hf
      exact endw_i hAe hQm hx hb hr hlocks rfl hP hD hS dL_call_416 (Nat.le_of_ble_eq_true rfl) (Nat.le_of_ble_eq_true rfl)
    have hf := br_neg c11 hf
    by_cases c12 : n6 = 5
    · subst c12
      have hf := br_pos rfl hf
      refine cw_vi_err (rest := []) (m_C_link l hst ca ad bq nF nO nL nA nC nV nU nP nE bF bO bL bA bC bV bU bP bE cT cK cO cQ cD pT pK pR pW pU pI pC uO uF uE uN wK jM jN jZ jB R _ p2 (.error 5) nL_2 nE_3 cK_4 h5) ⟨hx, hb, hml, hown, hts⟩ (cwV 1 hts (gV q442 q443 q444 q24 q445) rfl rfl rfl (by decide +kernel) ⟨Nat.le_of_ble_eq_true rfl, Nat.le_of_ble_eq_true rfl⟩) (va_recv hK hP (ci := 7) (q0 := 0) rfl rfl) hE hP hD hS hA hZ rfl hl.1 rfl (lv_room (Nat.le_of_ble_eq_true rfl)) dL_call_186 ⟨Nat.le_of_ble_eq_true rfl, Nat.le_of_ble_eq_true rfl⟩ (fun H locs q9 ce hP hD hS hce hv9 hcl => ?_)
      refine vx_catch (E := "java/util/NoSuchElementException") hown ((tableOf HH).take 144) ⟨184, 189, 417, 130⟩ ((tableOf HH).drop (144 + 1)) (htab.trans (sp_at (n := 144) hh144)) (hp_of [(122, "java/lang/IndexOutOfBoundsException"), (124, "java/lang/IllegalArgumentException"), (126, "java/lang/IllegalStateException"), (128, "java/lang/UnsupportedOperationException")] (by decide +kernel) (List.forall_mem_cons.mpr ⟨⟨hts _ q254, hNC _ nc_5_3⟩, List.forall_mem_cons.mpr ⟨⟨hts _ q333, hNC _ nc_5_1⟩, List.forall_mem_cons.mpr ⟨⟨hts _ q334, hNC _ nc_5_2⟩, List.forall_mem_cons.mpr ⟨⟨hts _ q335, hNC _ nc_5_4⟩, fun _ h => absurd h List.not_mem_nil⟩⟩⟩⟩)) (by decide) (by decide) (hts _ q336) (va_Nw.use rfl (hE.2.1 _ n606)) hce hv9 hcl ?_
      refine lv_astore (lv' := [(5, .ref q9), (0, .ref (ad 0)), (1, .int 4), (2, .int p2), (3, .int p3), (4, .int p4)]) hx hb dL_call_417 hl (by decide) rfl (fun ls hl => ?_)
      refine lv_sipush (v := (-1005)) hx hb dL_call_419 (by decide) ?_
      cases hf
      exact endw_i hAe hQm hx hb hr hlocks rfl hP hD hS dL_call_422 (Nat.le_of_ble_eq_true rfl) (Nat.le_of_ble_eq_true rfl)
    have hf := br_neg c12 hf
    cases hf
  refine cw_vi_ok (rest := []) (m_C_link l hst ca ad bq nF nO nL nA nC nV nU nP nE bF bO bL bA bC bV bU bP bE cT cK cO cQ cD pT pK pR pW pU pI pC uO uF uE uN wK jM jN jZ jB R _ p2 (.ok r7) nL_2 nE_3 cK_4 h5) ⟨hx, hb, hml, hown, hts⟩ (cwV 1 hts (gV q442 q443 q444 q24 q445) rfl rfl rfl (by decide +kernel) ⟨Nat.le_of_ble_eq_true rfl, Nat.le_of_ble_eq_true rfl⟩) (va_recv hK hP (ci := 7) (q0 := 0) rfl rfl) hE hP hD hS hA hZ rfl hl.1 rfl (lv_room (Nat.le_of_ble_eq_true rfl)) dL_call_186 ⟨Nat.le_of_ble_eq_true rfl, Nat.le_of_ble_eq_true rfl⟩ (fun H locs hP hD hS => ?_)
  cases hf
  exact endw_i hAe hQm hx hb hr hlocks rfl hP hD hS dL_call_189 (Nat.le_of_ble_eq_true rfl) (Nat.le_of_ble_eq_true rfl)
def f_K5 (p2 : Int32) (nF : Int32) (nL : Nat → Int32) (nA : Nat → Int32) (nC : Nat → Int32) (nU : Nat → Int32) (nE : Int32) (cK : Nat → Int32) (uO : Int32) (uF : Nat → Int32) (uN : Nat → Int32) : Option (Int32 × (Nat → Int32) × (Nat → Int32) × (Nat → Int32) × (Nat → Int32) × Int32 × (Nat → Int32)) :=
  (f_C_unlink p2 nF nL nA nC nU nE cK uO uF uN).bind fun (x1, nL_2, nA_3, nC_4, nU_5, nE_6, cK_7) =>
  match x1 with
  | .error n9 => if n9 = 3 then some ((-1001), nL_2, nA_3, nC_4, nU_5, nE_6, cK_7) else if n9 = 1 then some ((-1002), nL_2, nA_3, nC_4, nU_5, nE_6, cK_7) else if n9 = 2 then some ((-1003), nL_2, nA_3, nC_4, nU_5, nE_6, cK_7) else if n9 = 4 then some ((-1004), nL_2, nA_3, nC_4, nU_5, nE_6, cK_7) else if n9 = 5 then some ((-1005), nL_2, nA_3, nC_4, nU_5, nE_6, cK_7) else none
  | .ok r10 =>
  some (r10, nL_2, nA_3, nC_4, nU_5, nE_6, cK_7)
set_option maxHeartbeats 4000000 in
set_option maxRecDepth 100000 in
theorem m_K5 (l : Launch) (hst : l.stackTraces = false) {D : va_G} (ca : Nat → ClassId) (ad : Nat → Nat) (bq : Nat) (nF : Int32) (nO : Nat → Int32) (nL : Nat → Int32) (nA : Nat → Int32) (nC : Nat → Int32) (nV : Nat → Int32) (nU : Nat → Int32) (nP : Nat → Int32) (nE : Int32) (bF : Int32) (bO : Nat → Int32) (bL : Nat → Int32) (bA : Nat → Int32) (bC : Nat → Int32) (bV : Nat → Int32) (bU : Nat → Int32) (bP : Nat → Int32) (bE : Int32) (cT : Int32) (cK : Nat → Int32) (cO : Int32) (cQ : Nat → Int32) (cD : Int32) (pT : Int32) (pK : Int32) (pR : Nat → Int32) (pW : Nat → Int32) (pU : Nat → Int32) (pI : Nat → Int32) (pC : Nat → Nat → Int32) (uO : Int32) (uF : Nat → Int32) (uE : Nat → Int32) (uN : Nat → Int32) (wK : Nat → Int32) (jM : Int32) (jN : Int32) (jZ : Nat) (jB : Nat → Int32) (R : va_W) (sz : Nat) (p2 : Int32) (p3 : Int32) (p4 : Int32) (ro : Int32) (onL : Nat → Int32) (onA : Nat → Int32) (onC : Nat → Int32) (onU : Nat → Int32) (onE : Int32) (ocK : Nat → Int32) (hf : f_K5 p2 nF nL nA nC nU nE cK uO uF uN = some (ro, onL, onA, onC, onU, onE, ocK)) : vx_Met l yL_call (wmW yL_call cL_call 6 (some .int) HH) ({ frames := 8, cells := 2, slots := 12, locals := 133 } : Room) (PREL [.ref (ad 0), .int 5, .int p2, .int p3, .int p4] D ca SL0 (WC ca ad bq nF nO nL nA nC nV nU nP nE bF bO bL bA bC bV bU bP bE cT cK cO cQ cD pT pK pR pW pU pI pC uO uF uE uN wK jM jN jZ jB ++ R) sz) (QI ro D (WC ca ad bq nF nO onL onA onC nV onU nP onE bF bO bL bA bC bV bU bP bE cT ocK cO cQ cD pT pK pR pW pU pI pC uO uF uE uN wK jM jN jZ jB ++ R) (WC ca ad bq nF nO nL nA nC nV nU nP nE bF bO bL bA bC bV bU bP bE cT cK cO cQ cD pT pK pR pW pU pI pC uO uF uE uN wK jM jN jZ jB ++ R) sz) (fun _ _ _ => False) 2 12 (va_A (WC ca ad bq nF nO nL nA nC nV nU nP nE bF bO bL bA bC bV bU bP bE cT cK cO cQ cD pT pK pR pW pU pI pC uO uF uE uN wK jM jN jZ jB ++ R) sz) := by
  refine vx_ofWH (cc := cL_call) (maxL := 6) (ret := (some .int)) (hh := HH) (by decide) rfl ?_
  intro p e s m args below meth c s₁ B hml hv
  obtain ⟨rfl, rfl, hP, hE, hD0, hZ, hNC⟩ := hv
  have hx := B.exec
  have hb := B.bytes
  have hr := B.returns
  have hts0 := atoms_spec (ws := wmW yL_call cL_call 6 (some .int) HH) B.pre
  have hts := wmW_ww hts0
  have htab := vx_table (x := yL_call) B (hts0 _ List.mem_cons_self)
  have hown : s.vm.findClass RL = some m.cls := findClass_of_methodNamed B.named
  have hlocks := B.notSynchronized
  have hK := hE.1
  have hD := hD0.self (sz := s.heap.size)
  generalize hAe : va_A (WC ca ad bq nF nO nL nA nC nV nU nP nE bF bO bL bA bC bV bU bP bE cT cK cO cQ cD pT pK pR pW pU pI pC uO uF uE uN wK jM jN jZ jB ++ R) s.heap.size = A at hD hZ ⊢
  have hA : ∀ q : Nat, s.heap.size ≤ q → A q := fun q h => by rw [← hAe]; exact Or.inr h
  have hS : va_S A s.heap s.heap [] := va_S.rf
  have hl := lv_entry ([.ref (ad 0), .int 5, .int p2, .int p3, .int p4]) (n := 6) (Nat.le_of_ble_eq_true rfl)
  rw [lg_entry_eq]
  generalize (lg_sl ([.ref (ad 0), .int 5, .int p2, .int p3, .int p4]) ++ List.replicate (6 - (lg_sl ([.ref (ad 0), .int 5, .int p2, .int p3, .int p4])).length) Slot.unset).toArray = ls at hl ⊢
  have hl : lv_has ls 6 [(0, .ref (ad 0)), (1, .int 5), (2, .int p2), (3, .int p3), (4, .int p4)] := hl
  change W p l e ({ frames := 8, cells := 2, slots := 12, locals := 133 } : Room) s m _ below meth c s.heap [] 0 0 _ _
  generalize hQm : vx_MQ below (QI ro D (WC ca ad bq nF nO onL onA onC nV onU nP onE bF bO bL bA bC bV bU bP bE cT ocK cO cQ cD pT pK pR pW pU pI pC uO uF uE uN wK jM jN jZ jB ++ R) (WC ca ad bq nF nO nL nA nC nV nU nP nE bF bO bL bA bC bV bU bP bE cT cK cO cQ cD pT pK pR pW pU pI pC uO uF uE uN wK jM jN jZ jB ++ R) s.heap.size) (fun _ _ _ => False) _ s 2 12 A = Qm
  have hP : va_P D vwCl (WC ca ad bq nF nO nL nA nC nV nU nP nE bF bO bL bA bC bV bU bP bE cT cK cO cQ cD pT pK pR pW pU pI pC uO uF uE uN wK jM jN jZ jB ++ R) s.heap := hP
  generalize hae : ([.ref (ad 0), .int 5, .int p2, .int p3, .int p4] : List Value).toArray = args at hts hQm ⊢
  refine lv_iload_n hx hb dL_call_0 rfl (lv_at hl 1 rfl) ?_
  refine lv_tableIn (off := 189) (tgt := 190) hx hb dL_call_1 (by decide) (by decide) rfl (by decide) ?_
  refine lv_aload_n hx hb dL_call_190 rfl (lv_at hl 0 rfl) ?_
  refine lv_iload_n hx hb dL_call_191 rfl (lv_at hl 2 rfl) ?_
  obtain ⟨⟨x1, nL_2, nA_3, nC_4, nU_5, nE_6, cK_7⟩, h8, hf⟩ := bnd hf
  rcases x1 with n9 | r10
  · have hf : (if n9 = 3 then some ((-1001), nL_2, nA_3, nC_4, nU_5, nE_6, cK_7) else if n9 = 1 then some ((-1002), nL_2, nA_3, nC_4, nU_5, nE_6, cK_7) else if n9 = 2 then some ((-1003), nL_2, nA_3, nC_4, nU_5, nE_6, cK_7) else if n9 = 4 then some ((-1004), nL_2, nA_3, nC_4, nU_5, nE_6, cK_7) else if n9 = 5 then some ((-1005), nL_2, nA_3, nC_4, nU_5, nE_6, cK_7) else none) = some (ro, onL, onA, onC, onU, onE, ocK) := hf
    by_cases c11 : n9 = 3
    · subst c11
      have hf := br_pos rfl hf
      refine cw_vi_err (rest := []) (m_C_unlink l hst ca ad bq nF nO nL nA nC nV nU nP nE bF bO bL bA bC bV bU bP bE cT cK cO cQ cD pT pK pR pW pU pI pC uO uF uE uN wK jM jN jZ jB R _ p2 (.error 3) nL_2 nA_3 nC_4 nU_5 nE_6 cK_7 h8) ⟨hx, hb, hml, hown, hts⟩ (cwV 1 hts (gV q456 q457 q458 q24 q459) rfl rfl rfl (by decide +kernel) ⟨Nat.le_of_ble_eq_true rfl, Nat.le_of_ble_eq_true rfl⟩) (va_recv hK hP (ci := 7) (q0 := 0) rfl rfl) hE hP hD hS hA hZ rfl hl.1 rfl (lv_room (Nat.le_of_ble_eq_true rfl)) dL_call_192 ⟨Nat.le_of_ble_eq_true rfl, Nat.le_of_ble_eq_true rfl⟩ (fun H locs q9 ce hP hD hS hce hv9 hcl => ?_)
      refine vx_catch (E := "java/lang/IndexOutOfBoundsException") hown ((tableOf HH).take 5) ⟨190, 195, 393, 122⟩ ((tableOf HH).drop (5 + 1)) (htab.trans (sp_at (n := 5) hh5)) (hp_of [] (by decide +kernel) (fun _ h => absurd h List.not_mem_nil)) (by decide) (by decide) (hts _ q254) (va_Nw.use rfl (hE.2.1 _ n392)) hce hv9 hcl ?_
      refine lv_astore (lv' := [(5, .ref q9), (0, .ref (ad 0)), (1, .int 5), (2, .int p2), (3, .int p3), (4, .int p4)]) hx hb dL_call_393 hl (by decide) rfl (fun ls hl => ?_)
      refine lv_sipush (v := (-1001)) hx hb dL_call_395 (by decide) ?_
      cases hf
      exact endw_i hAe hQm hx hb hr hlocks rfl hP hD hS dL_call_398 (Nat.le_of_ble_eq_true rfl) (Nat.le_of_ble_eq_true rfl)
    have hf := br_neg c11 hf
    by_cases c12 : n9 = 1
    · subst c12
      have hf := br_pos rfl hf
      refine cw_vi_err (rest := []) (m_C_unlink l hst ca ad bq nF nO nL nA nC nV nU nP nE bF bO bL bA bC bV bU bP bE cT cK cO cQ cD pT pK pR pW pU pI pC uO uF uE uN wK jM jN jZ jB R _ p2 (.error 1) nL_2 nA_3 nC_4 nU_5 nE_6 cK_7 h8) ⟨hx, hb, hml, hown, hts⟩ (cwV 1 hts (gV q456 q457 q458 q24 q459) rfl rfl rfl (by decide +kernel) ⟨Nat.le_of_ble_eq_true rfl, Nat.le_of_ble_eq_true rfl⟩) (va_recv hK hP (ci := 7) (q0 := 0) rfl rfl) hE hP hD hS hA hZ rfl hl.1 rfl (lv_room (Nat.le_of_ble_eq_true rfl)) dL_call_192 ⟨Nat.le_of_ble_eq_true rfl, Nat.le_of_ble_eq_true rfl⟩ (fun H locs q9 ce hP hD hS hce hv9 hcl => ?_)
      refine vx_catch (E := "java/lang/IllegalArgumentException") hown ((tableOf HH).take 40) ⟨190, 195, 399, 124⟩ ((tableOf HH).drop (40 + 1)) (htab.trans (sp_at (n := 40) hh40)) (hp_of [(122, "java/lang/IndexOutOfBoundsException")] (by decide +kernel) (List.forall_mem_cons.mpr ⟨⟨hts _ q254, hNC _ nc_1_3⟩, fun _ h => absurd h List.not_mem_nil⟩)) (by decide) (by decide) (hts _ q333) (va_Nw.use rfl (hE.2.1 _ n347)) hce hv9 hcl ?_
      refine lv_astore (lv' := [(5, .ref q9), (0, .ref (ad 0)), (1, .int 5), (2, .int p2), (3, .int p3), (4, .int p4)]) hx hb dL_call_399 hl (by decide) rfl (fun ls hl => ?_)
      refine lv_sipush (v := (-1002)) hx hb dL_call_401 (by decide) ?_
      cases hf
      exact endw_i hAe hQm hx hb hr hlocks rfl hP hD hS dL_call_404 (Nat.le_of_ble_eq_true rfl) (Nat.le_of_ble_eq_true rfl)
    have hf := br_neg c12 hf
    by_cases c13 : n9 = 2
    · subst c13
      have hf := br_pos rfl hf
      refine cw_vi_err (rest := []) (m_C_unlink l hst ca ad bq nF nO nL nA nC nV nU nP nE bF bO bL bA bC bV bU bP bE cT cK cO cQ cD pT pK pR pW pU pI pC uO uF uE uN wK jM jN jZ jB R _ p2 (.error 2) nL_2 nA_3 nC_4 nU_5 nE_6 cK_7 h8) ⟨hx, hb, hml, hown, hts⟩ (cwV 1 hts (gV q456 q457 q458 q24 q459) rfl rfl rfl (by decide +kernel) ⟨Nat.le_of_ble_eq_true rfl, Nat.le_of_ble_eq_true rfl⟩) (va_recv hK hP (ci := 7) (q0 := 0) rfl rfl) hE hP hD hS hA hZ rfl hl.1 rfl (lv_room (Nat.le_of_ble_eq_true rfl)) dL_call_192 ⟨Nat.le_of_ble_eq_true rfl, Nat.le_of_ble_eq_true rfl⟩ (fun H locs q9 ce hP hD hS hce hv9 hcl => ?_)
      refine vx_catch (E := "java/lang/IllegalStateException") hown ((tableOf HH).take 75) ⟨190, 195, 405, 126⟩ ((tableOf HH).drop (75 + 1)) (htab.trans (sp_at (n := 75) hh75)) (hp_of [(122, "java/lang/IndexOutOfBoundsException"), (124, "java/lang/IllegalArgumentException")] (by decide +kernel) (List.forall_mem_cons.mpr ⟨⟨hts _ q254, hNC _ nc_2_3⟩, List.forall_mem_cons.mpr ⟨⟨hts _ q333, hNC _ nc_2_1⟩, fun _ h => absurd h List.not_mem_nil⟩⟩)) (by decide) (by decide) (hts _ q334) (va_Nw.use rfl (hE.2.1 _ n367)) hce hv9 hcl ?_
      refine lv_astore (lv' := [(5, .ref q9), (0, .ref (ad 0)), (1, .int 5), (2, .int p2), (3, .int p3), (4, .int p4)]) hx hb dL_call_405 hl (by decide) rfl (fun ls hl => ?_)
      refine lv_sipush (v := (-1003)) hx hb dL_call_407 (by decide) ?_
      cases hf
      exact endw_i hAe hQm hx hb hr hlocks rfl hP hD hS dL_call_410 (Nat.le_of_ble_eq_true rfl) (Nat.le_of_ble_eq_true rfl)
    have hf := br_neg c13 hf
    by_cases c14 : n9 = 4
    · subst c14
      have hf := br_pos rfl hf
      refine cw_vi_err (rest := []) (m_C_unlink l hst ca ad bq nF nO nL nA nC nV nU nP nE bF bO bL bA bC bV bU bP bE cT cK cO cQ cD pT pK pR pW pU pI pC uO uF uE uN wK jM jN jZ jB R _ p2 (.error 4) nL_2 nA_3 nC_4 nU_5 nE_6 cK_7 h8) ⟨hx, hb, hml, hown, hts⟩ (cwV 1 hts (gV q456 q457 q458 q24 q459) rfl rfl rfl (by decide +kernel) ⟨Nat.le_of_ble_eq_true rfl, Nat.le_of_ble_eq_true rfl⟩) (va_recv hK hP (ci := 7) (q0 := 0) rfl rfl) hE hP hD hS hA hZ rfl hl.1 rfl (lv_room (Nat.le_of_ble_eq_true rfl)) dL_call_192 ⟨Nat.le_of_ble_eq_true rfl, Nat.le_of_ble_eq_true rfl⟩ (fun H locs q9 ce hP hD hS hce hv9 hcl => ?_)
      refine vx_catch (E := "java/lang/UnsupportedOperationException") hown ((tableOf HH).take 110) ⟨190, 195, 411, 128⟩ ((tableOf HH).drop (110 + 1)) (htab.trans (sp_at (n := 110) hh110)) (hp_of [(122, "java/lang/IndexOutOfBoundsException"), (124, "java/lang/IllegalArgumentException"), (126, "java/lang/IllegalStateException")] (by decide +kernel) (List.forall_mem_cons.mpr ⟨⟨hts _ q254, hNC _ nc_4_3⟩, List.forall_mem_cons.mpr ⟨⟨hts _ q333, hNC _ nc_4_1⟩, List.forall_mem_cons.mpr ⟨⟨hts _ q334, hNC _ nc_4_2⟩, fun _ h => absurd h List.not_mem_nil⟩⟩⟩)) (by decide) (by decide) (hts _ q335) (va_Nw.use rfl (hE.2.1 _ n547)) hce hv9 hcl ?_
      refine lv_astore (lv' := [(5, .ref q9), (0, .ref (ad 0)), (1, .int 5), (2, .int p2), (3, .int p3), (4, .int p4)]) hx hb dL_call_411 hl (by decide) rfl (fun ls hl => ?_)
      refine lv_sipush (v := (-1004)) hx hb dL_call_413 (by decide) ?_
      cases hf
      exact endw_i hAe hQm hx hb hr hlocks rfl hP hD hS dL_call_416 (Nat.le_of_ble_eq_true rfl) (Nat.le_of_ble_eq_true rfl)
    have hf := br_neg c14 hf
    by_cases c15 : n9 = 5
    · subst c15
      have hf := br_pos rfl hf
      refine cw_vi_err (rest := []) (m_C_unlink l hst ca ad bq nF nO nL nA nC nV nU nP nE bF bO bL bA bC bV bU bP bE cT cK cO cQ cD pT pK pR pW pU pI pC uO uF uE uN wK jM jN jZ jB R _ p2 (.error 5) nL_2 nA_3 nC_4 nU_5 nE_6 cK_7 h8) ⟨hx, hb, hml, hown, hts⟩ (cwV 1 hts (gV q456 q457 q458 q24 q459) rfl rfl rfl (by decide +kernel) ⟨Nat.le_of_ble_eq_true rfl, Nat.le_of_ble_eq_true rfl⟩) (va_recv hK hP (ci := 7) (q0 := 0) rfl rfl) hE hP hD hS hA hZ rfl hl.1 rfl (lv_room (Nat.le_of_ble_eq_true rfl)) dL_call_192 ⟨Nat.le_of_ble_eq_true rfl, Nat.le_of_ble_eq_true rfl⟩ (fun H locs q9 ce hP hD hS hce hv9 hcl => ?_)
      refine vx_catch (E := "java/util/NoSuchElementException") hown ((tableOf HH).take 145) ⟨190, 195, 417, 130⟩ ((tableOf HH).drop (145 + 1)) (htab.trans (sp_at (n := 145) hh145)) (hp_of [(122, "java/lang/IndexOutOfBoundsException"), (124, "java/lang/IllegalArgumentException"), (126, "java/lang/IllegalStateException"), (128, "java/lang/UnsupportedOperationException")] (by decide +kernel) (List.forall_mem_cons.mpr ⟨⟨hts _ q254, hNC _ nc_5_3⟩, List.forall_mem_cons.mpr ⟨⟨hts _ q333, hNC _ nc_5_1⟩, List.forall_mem_cons.mpr ⟨⟨hts _ q334, hNC _ nc_5_2⟩, List.forall_mem_cons.mpr ⟨⟨hts _ q335, hNC _ nc_5_4⟩, fun _ h => absurd h List.not_mem_nil⟩⟩⟩⟩)) (by decide) (by decide) (hts _ q336) (va_Nw.use rfl (hE.2.1 _ n606)) hce hv9 hcl ?_
      refine lv_astore (lv' := [(5, .ref q9), (0, .ref (ad 0)), (1, .int 5), (2, .int p2), (3, .int p3), (4, .int p4)]) hx hb dL_call_417 hl (by decide) rfl (fun ls hl => ?_)
      refine lv_sipush (v := (-1005)) hx hb dL_call_419 (by decide) ?_
      cases hf
      exact endw_i hAe hQm hx hb hr hlocks rfl hP hD hS dL_call_422 (Nat.le_of_ble_eq_true rfl) (Nat.le_of_ble_eq_true rfl)
    have hf := br_neg c15 hf
    cases hf
  refine cw_vi_ok (rest := []) (m_C_unlink l hst ca ad bq nF nO nL nA nC nV nU nP nE bF bO bL bA bC bV bU bP bE cT cK cO cQ cD pT pK pR pW pU pI pC uO uF uE uN wK jM jN jZ jB R _ p2 (.ok r10) nL_2 nA_3 nC_4 nU_5 nE_6 cK_7 h8) ⟨hx, hb, hml, hown, hts⟩ (cwV 1 hts (gV q456 q457 q458 q24 q459) rfl rfl rfl (by decide +kernel) ⟨Nat.le_of_ble_eq_true rfl, Nat.le_of_ble_eq_true rfl⟩) (va_recv hK hP (ci := 7) (q0 := 0) rfl rfl) hE hP hD hS hA hZ rfl hl.1 rfl (lv_room (Nat.le_of_ble_eq_true rfl)) dL_call_192 ⟨Nat.le_of_ble_eq_true rfl, Nat.le_of_ble_eq_true rfl⟩ (fun H locs hP hD hS => ?_)
  cases hf
  exact endw_i hAe hQm hx hb hr hlocks rfl hP hD hS dL_call_195 (Nat.le_of_ble_eq_true rfl) (Nat.le_of_ble_eq_true rfl)
def f_K6 (p2 : Int32) (p3 : Int32) (p4 : Int32) (nF : Int32) (nO : Nat → Int32) (nL : Nat → Int32) (nC : Nat → Int32) (nV : Nat → Int32) (nU : Nat → Int32) (nP : Nat → Int32) (nE : Int32) (cK : Nat → Int32) (cO : Int32) (cQ : Nat → Int32) : Option (Int32 × (Nat → Int32) × (Nat → Int32) × (Nat → Int32) × (Nat → Int32) × Int32 × (Nat → Int32)) :=
  (f_C_write p2 p3 p4 nF nO nL nC nV nU nP nE cK cO cQ).bind fun (x1, nC_2, nV_3, nU_4, nP_5, nE_6, cK_7) =>
  match x1 with
  | .error n9 => if n9 = 3 then some ((-1001), nC_2, nV_3, nU_4, nP_5, nE_6, cK_7) else if n9 = 1 then some ((-1002), nC_2, nV_3, nU_4, nP_5, nE_6, cK_7) else if n9 = 2 then some ((-1003), nC_2, nV_3, nU_4, nP_5, nE_6, cK_7) else if n9 = 4 then some ((-1004), nC_2, nV_3, nU_4, nP_5, nE_6, cK_7) else if n9 = 5 then some ((-1005), nC_2, nV_3, nU_4, nP_5, nE_6, cK_7) else none
  | .ok r10 =>
  some (r10, nC_2, nV_3, nU_4, nP_5, nE_6, cK_7)
set_option maxHeartbeats 4000000 in
set_option maxRecDepth 100000 in
theorem m_K6 (l : Launch) (hst : l.stackTraces = false) {D : va_G} (ca : Nat → ClassId) (ad : Nat → Nat) (bq : Nat) (nF : Int32) (nO : Nat → Int32) (nL : Nat → Int32) (nA : Nat → Int32) (nC : Nat → Int32) (nV : Nat → Int32) (nU : Nat → Int32) (nP : Nat → Int32) (nE : Int32) (bF : Int32) (bO : Nat → Int32) (bL : Nat → Int32) (bA : Nat → Int32) (bC : Nat → Int32) (bV : Nat → Int32) (bU : Nat → Int32) (bP : Nat → Int32) (bE : Int32) (cT : Int32) (cK : Nat → Int32) (cO : Int32) (cQ : Nat → Int32) (cD : Int32) (pT : Int32) (pK : Int32) (pR : Nat → Int32) (pW : Nat → Int32) (pU : Nat → Int32) (pI : Nat → Int32) (pC : Nat → Nat → Int32) (uO : Int32) (uF : Nat → Int32) (uE : Nat → Int32) (uN : Nat → Int32) (wK : Nat → Int32) (jM : Int32) (jN : Int32) (jZ : Nat) (jB : Nat → Int32) (R : va_W) (sz : Nat) (p2 : Int32) (p3 : Int32) (p4 : Int32) (ro : Int32) (onC : Nat → Int32) (onV : Nat → Int32) (onU : Nat → Int32) (onP : Nat → Int32) (onE : Int32) (ocK : Nat → Int32) (hf : f_K6 p2 p3 p4 nF nO nL nC nV nU nP nE cK cO cQ = some (ro, onC, onV, onU, onP, onE, ocK)) : vx_Met l yL_call (wmW yL_call cL_call 6 (some .int) HH) ({ frames := 8, cells := 5, slots := 30, locals := 144 } : Room) (PREL [.ref (ad 0), .int 6, .int p2, .int p3, .int p4] D ca SL0 (WC ca ad bq nF nO nL nA nC nV nU nP nE bF bO bL bA bC bV bU bP bE cT cK cO cQ cD pT pK pR pW pU pI pC uO uF uE uN wK jM jN jZ jB ++ R) sz) (QI ro D (WC ca ad bq nF nO nL nA onC onV onU onP onE bF bO bL bA bC bV bU bP bE cT ocK cO cQ cD pT pK pR pW pU pI pC uO uF uE uN wK jM jN jZ jB ++ R) (WC ca ad bq nF nO nL nA nC nV nU nP nE bF bO bL bA bC bV bU bP bE cT cK cO cQ cD pT pK pR pW pU pI pC uO uF uE uN wK jM jN jZ jB ++ R) sz) (fun _ _ _ => False) 5 30 (va_A (WC ca ad bq nF nO nL nA nC nV nU nP nE bF bO bL bA bC bV bU bP bE cT cK cO cQ cD pT pK pR pW pU pI pC uO uF uE uN wK jM jN jZ jB ++ R) sz) := by
  refine vx_ofWH (cc := cL_call) (maxL := 6) (ret := (some .int)) (hh := HH) (by decide) rfl ?_
  intro p e s m args below meth c s₁ B hml hv
  obtain ⟨rfl, rfl, hP, hE, hD0, hZ, hNC⟩ := hv
  have hx := B.exec
  have hb := B.bytes
  have hr := B.returns
  have hts0 := atoms_spec (ws := wmW yL_call cL_call 6 (some .int) HH) B.pre
  have hts := wmW_ww hts0
  have htab := vx_table (x := yL_call) B (hts0 _ List.mem_cons_self)
  have hown : s.vm.findClass RL = some m.cls := findClass_of_methodNamed B.named
  have hlocks := B.notSynchronized
  have hK := hE.1
  have hD := hD0.self (sz := s.heap.size)
  generalize hAe : va_A (WC ca ad bq nF nO nL nA nC nV nU nP nE bF bO bL bA bC bV bU bP bE cT cK cO cQ cD pT pK pR pW pU pI pC uO uF uE uN wK jM jN jZ jB ++ R) s.heap.size = A at hD hZ ⊢
  have hA : ∀ q : Nat, s.heap.size ≤ q → A q := fun q h => by rw [← hAe]; exact Or.inr h
  have hS : va_S A s.heap s.heap [] := va_S.rf
  have hl := lv_entry ([.ref (ad 0), .int 6, .int p2, .int p3, .int p4]) (n := 6) (Nat.le_of_ble_eq_true rfl)
  rw [lg_entry_eq]
  generalize (lg_sl ([.ref (ad 0), .int 6, .int p2, .int p3, .int p4]) ++ List.replicate (6 - (lg_sl ([.ref (ad 0), .int 6, .int p2, .int p3, .int p4])).length) Slot.unset).toArray = ls at hl ⊢
  have hl : lv_has ls 6 [(0, .ref (ad 0)), (1, .int 6), (2, .int p2), (3, .int p3), (4, .int p4)] := hl
  change W p l e ({ frames := 8, cells := 5, slots := 30, locals := 144 } : Room) s m _ below meth c s.heap [] 0 0 _ _
  generalize hQm : vx_MQ below (QI ro D (WC ca ad bq nF nO nL nA onC onV onU onP onE bF bO bL bA bC bV bU bP bE cT ocK cO cQ cD pT pK pR pW pU pI pC uO uF uE uN wK jM jN jZ jB ++ R) (WC ca ad bq nF nO nL nA nC nV nU nP nE bF bO bL bA bC bV bU bP bE cT cK cO cQ cD pT pK pR pW pU pI pC uO uF uE uN wK jM jN jZ jB ++ R) s.heap.size) (fun _ _ _ => False) _ s 5 30 A = Qm
  have hP : va_P D vwCl (WC ca ad bq nF nO nL nA nC nV nU nP nE bF bO bL bA bC bV bU bP bE cT cK cO cQ cD pT pK pR pW pU pI pC uO uF uE uN wK jM jN jZ jB ++ R) s.heap := hP
  generalize hae : ([.ref (ad 0), .int 6, .int p2, .int p3, .int p4] : List Value).toArray = args at hts hQm ⊢
  refine lv_iload_n hx hb dL_call_0 rfl (lv_at hl 1 rfl) ?_
  refine lv_tableIn (off := 195) (tgt := 196) hx hb dL_call_1 (by decide) (by decide) rfl (by decide) ?_
  refine lv_aload_n hx hb dL_call_196 rfl (lv_at hl 0 rfl) ?_
  refine lv_iload_n hx hb dL_call_197 rfl (lv_at hl 2 rfl) ?_
  refine lv_iload_n hx hb dL_call_198 rfl (lv_at hl 3 rfl) ?_
  refine lv_iload hx hb dL_call_199 (lv_at hl 4 rfl) ?_
  obtain ⟨⟨x1, nC_2, nV_3, nU_4, nP_5, nE_6, cK_7⟩, h8, hf⟩ := bnd hf
  rcases x1 with n9 | r10
  · have hf : (if n9 = 3 then some ((-1001), nC_2, nV_3, nU_4, nP_5, nE_6, cK_7) else if n9 = 1 then some ((-1002), nC_2, nV_3, nU_4, nP_5, nE_6, cK_7) else if n9 = 2 then some ((-1003), nC_2, nV_3, nU_4, nP_5, nE_6, cK_7) else if n9 = 4 then some ((-1004), nC_2, nV_3, nU_4, nP_5, nE_6, cK_7) else if n9 = 5 then some ((-1005), nC_2, nV_3, nU_4, nP_5, nE_6, cK_7) else none) = some (ro, onC, onV, onU, onP, onE, ocK) := hf
    by_cases c11 : n9 = 3
    · subst c11
      have hf := br_pos rfl hf
      refine cw_vi_err (rest := []) (m_C_write l hst ca ad bq nF nO nL nA nC nV nU nP nE bF bO bL bA bC bV bU bP bE cT cK cO cQ cD pT pK pR pW pU pI pC uO uF uE uN wK jM jN jZ jB R _ p2 p3 p4 (.error 3) nC_2 nV_3 nU_4 nP_5 nE_6 cK_7 h8) ⟨hx, hb, hml, hown, hts⟩ (cwV 3 hts (gV q498 q499 q500 q24 q501) rfl rfl rfl (by decide +kernel) ⟨Nat.le_of_ble_eq_true rfl, Nat.le_of_ble_eq_true rfl⟩) (va_recv hK hP (ci := 7) (q0 := 0) rfl rfl) hE hP hD hS hA hZ rfl hl.1 rfl (lv_room (Nat.le_of_ble_eq_true rfl)) dL_call_201 ⟨Nat.le_of_ble_eq_true rfl, Nat.le_of_ble_eq_true rfl⟩ (fun H locs q9 ce hP hD hS hce hv9 hcl => ?_)
      refine vx_catch (E := "java/lang/IndexOutOfBoundsException") hown ((tableOf HH).take 6) ⟨196, 204, 393, 122⟩ ((tableOf HH).drop (6 + 1)) (htab.trans (sp_at (n := 6) hh6)) (hp_of [] (by decide +kernel) (fun _ h => absurd h List.not_mem_nil)) (by decide) (by decide) (hts _ q254) (va_Nw.use rfl (hE.2.1 _ n392)) hce hv9 hcl ?_
      refine lv_astore (lv' := [(5, .ref q9), (0, .ref (ad 0)), (1, .int 6), (2, .int p2), (3, .int p3), (4, .int p4)]) hx hb dL_call_393 hl (by decide) rfl (fun ls hl => ?_)
      refine lv_sipush (v := (-1001)) hx hb dL_call_395 (by decide) ?_
      cases hf
      exact endw_i hAe hQm hx hb hr hlocks rfl hP hD hS dL_call_398 (Nat.le_of_ble_eq_true rfl) (Nat.le_of_ble_eq_true rfl)
    have hf := br_neg c11 hf
    by_cases c12 : n9 = 1
    · subst c12
      have hf := br_pos rfl hf
      refine cw_vi_err (rest := []) (m_C_write l hst ca ad bq nF nO nL nA nC nV nU nP nE bF bO bL bA bC bV bU bP bE cT cK cO cQ cD pT pK pR pW pU pI pC uO uF uE uN wK jM jN jZ jB R _ p2 p3 p4 (.error 1) nC_2 nV_3 nU_4 nP_5 nE_6 cK_7 h8) ⟨hx, hb, hml, hown, hts⟩ (cwV 3 hts (gV q498 q499 q500 q24 q501) rfl rfl rfl (by decide +kernel) ⟨Nat.le_of_ble_eq_true rfl, Nat.le_of_ble_eq_true rfl⟩) (va_recv hK hP (ci := 7) (q0 := 0) rfl rfl) hE hP hD hS hA hZ rfl hl.1 rfl (lv_room (Nat.le_of_ble_eq_true rfl)) dL_call_201 ⟨Nat.le_of_ble_eq_true rfl, Nat.le_of_ble_eq_true rfl⟩ (fun H locs q9 ce hP hD hS hce hv9 hcl => ?_)
      refine vx_catch (E := "java/lang/IllegalArgumentException") hown ((tableOf HH).take 41) ⟨196, 204, 399, 124⟩ ((tableOf HH).drop (41 + 1)) (htab.trans (sp_at (n := 41) hh41)) (hp_of [(122, "java/lang/IndexOutOfBoundsException")] (by decide +kernel) (List.forall_mem_cons.mpr ⟨⟨hts _ q254, hNC _ nc_1_3⟩, fun _ h => absurd h List.not_mem_nil⟩)) (by decide) (by decide) (hts _ q333) (va_Nw.use rfl (hE.2.1 _ n347)) hce hv9 hcl ?_
      refine lv_astore (lv' := [(5, .ref q9), (0, .ref (ad 0)), (1, .int 6), (2, .int p2), (3, .int p3), (4, .int p4)]) hx hb dL_call_399 hl (by decide) rfl (fun ls hl => ?_)
      refine lv_sipush (v := (-1002)) hx hb dL_call_401 (by decide) ?_
      cases hf
      exact endw_i hAe hQm hx hb hr hlocks rfl hP hD hS dL_call_404 (Nat.le_of_ble_eq_true rfl) (Nat.le_of_ble_eq_true rfl)
    have hf := br_neg c12 hf
    by_cases c13 : n9 = 2
    · subst c13
      have hf := br_pos rfl hf
      refine cw_vi_err (rest := []) (m_C_write l hst ca ad bq nF nO nL nA nC nV nU nP nE bF bO bL bA bC bV bU bP bE cT cK cO cQ cD pT pK pR pW pU pI pC uO uF uE uN wK jM jN jZ jB R _ p2 p3 p4 (.error 2) nC_2 nV_3 nU_4 nP_5 nE_6 cK_7 h8) ⟨hx, hb, hml, hown, hts⟩ (cwV 3 hts (gV q498 q499 q500 q24 q501) rfl rfl rfl (by decide +kernel) ⟨Nat.le_of_ble_eq_true rfl, Nat.le_of_ble_eq_true rfl⟩) (va_recv hK hP (ci := 7) (q0 := 0) rfl rfl) hE hP hD hS hA hZ rfl hl.1 rfl (lv_room (Nat.le_of_ble_eq_true rfl)) dL_call_201 ⟨Nat.le_of_ble_eq_true rfl, Nat.le_of_ble_eq_true rfl⟩ (fun H locs q9 ce hP hD hS hce hv9 hcl => ?_)
      refine vx_catch (E := "java/lang/IllegalStateException") hown ((tableOf HH).take 76) ⟨196, 204, 405, 126⟩ ((tableOf HH).drop (76 + 1)) (htab.trans (sp_at (n := 76) hh76)) (hp_of [(122, "java/lang/IndexOutOfBoundsException"), (124, "java/lang/IllegalArgumentException")] (by decide +kernel) (List.forall_mem_cons.mpr ⟨⟨hts _ q254, hNC _ nc_2_3⟩, List.forall_mem_cons.mpr ⟨⟨hts _ q333, hNC _ nc_2_1⟩, fun _ h => absurd h List.not_mem_nil⟩⟩)) (by decide) (by decide) (hts _ q334) (va_Nw.use rfl (hE.2.1 _ n367)) hce hv9 hcl ?_
      refine lv_astore (lv' := [(5, .ref q9), (0, .ref (ad 0)), (1, .int 6), (2, .int p2), (3, .int p3), (4, .int p4)]) hx hb dL_call_405 hl (by decide) rfl (fun ls hl => ?_)
      refine lv_sipush (v := (-1003)) hx hb dL_call_407 (by decide) ?_
      cases hf
      exact endw_i hAe hQm hx hb hr hlocks rfl hP hD hS dL_call_410 (Nat.le_of_ble_eq_true rfl) (Nat.le_of_ble_eq_true rfl)
    have hf := br_neg c13 hf
    by_cases c14 : n9 = 4
    · subst c14
      have hf := br_pos rfl hf
      refine cw_vi_err (rest := []) (m_C_write l hst ca ad bq nF nO nL nA nC nV nU nP nE bF bO bL bA bC bV bU bP bE cT cK cO cQ cD pT pK pR pW pU pI pC uO uF uE uN wK jM jN jZ jB R _ p2 p3 p4 (.error 4) nC_2 nV_3 nU_4 nP_5 nE_6 cK_7 h8) ⟨hx, hb, hml, hown, hts⟩ (cwV 3 hts (gV q498 q499 q500 q24 q501) rfl rfl rfl (by decide +kernel) ⟨Nat.le_of_ble_eq_true rfl, Nat.le_of_ble_eq_true rfl⟩) (va_recv hK hP (ci := 7) (q0 := 0) rfl rfl) hE hP hD hS hA hZ rfl hl.1 rfl (lv_room (Nat.le_of_ble_eq_true rfl)) dL_call_201 ⟨Nat.le_of_ble_eq_true rfl, Nat.le_of_ble_eq_true rfl⟩ (fun H locs q9 ce hP hD hS hce hv9 hcl => ?_)
      refine vx_catch (E := "java/lang/UnsupportedOperationException") hown ((tableOf HH).take 111) ⟨196, 204, 411, 128⟩ ((tableOf HH).drop (111 + 1)) (htab.trans (sp_at (n := 111) hh111)) (hp_of [(122, "java/lang/IndexOutOfBoundsException"), (124, "java/lang/IllegalArgumentException"), (126, "java/lang/IllegalStateException")] (by decide +kernel) (List.forall_mem_cons.mpr ⟨⟨hts _ q254, hNC _ nc_4_3⟩, List.forall_mem_cons.mpr ⟨⟨hts _ q333, hNC _ nc_4_1⟩, List.forall_mem_cons.mpr ⟨⟨hts _ q334, hNC _ nc_4_2⟩, fun _ h => absurd h List.not_mem_nil⟩⟩⟩)) (by decide) (by decide) (hts _ q335) (va_Nw.use rfl (hE.2.1 _ n547)) hce hv9 hcl ?_
      refine lv_astore (lv' := [(5, .ref q9), (0, .ref (ad 0)), (1, .int 6), (2, .int p2), (3, .int p3), (4, .int p4)]) hx hb dL_call_411 hl (by decide) rfl (fun ls hl => ?_)
      refine lv_sipush (v := (-1004)) hx hb dL_call_413 (by decide) ?_
      cases hf
      exact endw_i hAe hQm hx hb hr hlocks rfl hP hD hS dL_call_416 (Nat.le_of_ble_eq_true rfl) (Nat.le_of_ble_eq_true rfl)
    have hf := br_neg c14 hf
    by_cases c15 : n9 = 5
    · subst c15
      have hf := br_pos rfl hf
      refine cw_vi_err (rest := []) (m_C_write l hst ca ad bq nF nO nL nA nC nV nU nP nE bF bO bL bA bC bV bU bP bE cT cK cO cQ cD pT pK pR pW pU pI pC uO uF uE uN wK jM jN jZ jB R _ p2 p3 p4 (.error 5) nC_2 nV_3 nU_4 nP_5 nE_6 cK_7 h8) ⟨hx, hb, hml, hown, hts⟩ (cwV 3 hts (gV q498 q499 q500 q24 q501) rfl rfl rfl (by decide +kernel) ⟨Nat.le_of_ble_eq_true rfl, Nat.le_of_ble_eq_true rfl⟩) (va_recv hK hP (ci := 7) (q0 := 0) rfl rfl) hE hP hD hS hA hZ rfl hl.1 rfl (lv_room (Nat.le_of_ble_eq_true rfl)) dL_call_201 ⟨Nat.le_of_ble_eq_true rfl, Nat.le_of_ble_eq_true rfl⟩ (fun H locs q9 ce hP hD hS hce hv9 hcl => ?_)
      refine vx_catch (E := "java/util/NoSuchElementException") hown ((tableOf HH).take 146) ⟨196, 204, 417, 130⟩ ((tableOf HH).drop (146 + 1)) (htab.trans (sp_at (n := 146) hh146)) (hp_of [(122, "java/lang/IndexOutOfBoundsException"), (124, "java/lang/IllegalArgumentException"), (126, "java/lang/IllegalStateException"), (128, "java/lang/UnsupportedOperationException")] (by decide +kernel) (List.forall_mem_cons.mpr ⟨⟨hts _ q254, hNC _ nc_5_3⟩, List.forall_mem_cons.mpr ⟨⟨hts _ q333, hNC _ nc_5_1⟩, List.forall_mem_cons.mpr ⟨⟨hts _ q334, hNC _ nc_5_2⟩, List.forall_mem_cons.mpr ⟨⟨hts _ q335, hNC _ nc_5_4⟩, fun _ h => absurd h List.not_mem_nil⟩⟩⟩⟩)) (by decide) (by decide) (hts _ q336) (va_Nw.use rfl (hE.2.1 _ n606)) hce hv9 hcl ?_
      refine lv_astore (lv' := [(5, .ref q9), (0, .ref (ad 0)), (1, .int 6), (2, .int p2), (3, .int p3), (4, .int p4)]) hx hb dL_call_417 hl (by decide) rfl (fun ls hl => ?_)
      refine lv_sipush (v := (-1005)) hx hb dL_call_419 (by decide) ?_
      cases hf
      exact endw_i hAe hQm hx hb hr hlocks rfl hP hD hS dL_call_422 (Nat.le_of_ble_eq_true rfl) (Nat.le_of_ble_eq_true rfl)
    have hf := br_neg c15 hf
    cases hf
  refine cw_vi_ok (rest := []) (m_C_write l hst ca ad bq nF nO nL nA nC nV nU nP nE bF bO bL bA bC bV bU bP bE cT cK cO cQ cD pT pK pR pW pU pI pC uO uF uE uN wK jM jN jZ jB R _ p2 p3 p4 (.ok r10) nC_2 nV_3 nU_4 nP_5 nE_6 cK_7 h8) ⟨hx, hb, hml, hown, hts⟩ (cwV 3 hts (gV q498 q499 q500 q24 q501) rfl rfl rfl (by decide +kernel) ⟨Nat.le_of_ble_eq_true rfl, Nat.le_of_ble_eq_true rfl⟩) (va_recv hK hP (ci := 7) (q0 := 0) rfl rfl) hE hP hD hS hA hZ rfl hl.1 rfl (lv_room (Nat.le_of_ble_eq_true rfl)) dL_call_201 ⟨Nat.le_of_ble_eq_true rfl, Nat.le_of_ble_eq_true rfl⟩ (fun H locs hP hD hS => ?_)
  cases hf
  exact endw_i hAe hQm hx hb hr hlocks rfl hP hD hS dL_call_204 (Nat.le_of_ble_eq_true rfl) (Nat.le_of_ble_eq_true rfl)
def f_K7 (p2 : Int32) (p3 : Int32) (nF : Int32) (nL : Nat → Int32) (nC : Nat → Int32) (nU : Nat → Int32) (nE : Int32) (cK : Nat → Int32) : Option (Int32 × (Nat → Int32) × (Nat → Int32) × Int32 × (Nat → Int32)) :=
  (f_C_punch p2 p3 nF nL nC nU nE cK).bind fun (x1, nC_2, nU_3, nE_4, cK_5) =>
  match x1 with
  | .error n7 => if n7 = 3 then some ((-1001), nC_2, nU_3, nE_4, cK_5) else if n7 = 1 then some ((-1002), nC_2, nU_3, nE_4, cK_5) else if n7 = 2 then some ((-1003), nC_2, nU_3, nE_4, cK_5) else if n7 = 4 then some ((-1004), nC_2, nU_3, nE_4, cK_5) else if n7 = 5 then some ((-1005), nC_2, nU_3, nE_4, cK_5) else none
  | .ok r8 =>
  some (r8, nC_2, nU_3, nE_4, cK_5)
set_option maxHeartbeats 4000000 in
set_option maxRecDepth 100000 in
theorem m_K7 (l : Launch) (hst : l.stackTraces = false) {D : va_G} (ca : Nat → ClassId) (ad : Nat → Nat) (bq : Nat) (nF : Int32) (nO : Nat → Int32) (nL : Nat → Int32) (nA : Nat → Int32) (nC : Nat → Int32) (nV : Nat → Int32) (nU : Nat → Int32) (nP : Nat → Int32) (nE : Int32) (bF : Int32) (bO : Nat → Int32) (bL : Nat → Int32) (bA : Nat → Int32) (bC : Nat → Int32) (bV : Nat → Int32) (bU : Nat → Int32) (bP : Nat → Int32) (bE : Int32) (cT : Int32) (cK : Nat → Int32) (cO : Int32) (cQ : Nat → Int32) (cD : Int32) (pT : Int32) (pK : Int32) (pR : Nat → Int32) (pW : Nat → Int32) (pU : Nat → Int32) (pI : Nat → Int32) (pC : Nat → Nat → Int32) (uO : Int32) (uF : Nat → Int32) (uE : Nat → Int32) (uN : Nat → Int32) (wK : Nat → Int32) (jM : Int32) (jN : Int32) (jZ : Nat) (jB : Nat → Int32) (R : va_W) (sz : Nat) (p2 : Int32) (p3 : Int32) (p4 : Int32) (ro : Int32) (onC : Nat → Int32) (onU : Nat → Int32) (onE : Int32) (ocK : Nat → Int32) (hf : f_K7 p2 p3 nF nL nC nU nE cK = some (ro, onC, onU, onE, ocK)) : vx_Met l yL_call (wmW yL_call cL_call 6 (some .int) HH) ({ frames := 8, cells := 4, slots := 24, locals := 134 } : Room) (PREL [.ref (ad 0), .int 7, .int p2, .int p3, .int p4] D ca SL0 (WC ca ad bq nF nO nL nA nC nV nU nP nE bF bO bL bA bC bV bU bP bE cT cK cO cQ cD pT pK pR pW pU pI pC uO uF uE uN wK jM jN jZ jB ++ R) sz) (QI ro D (WC ca ad bq nF nO nL nA onC nV onU nP onE bF bO bL bA bC bV bU bP bE cT ocK cO cQ cD pT pK pR pW pU pI pC uO uF uE uN wK jM jN jZ jB ++ R) (WC ca ad bq nF nO nL nA nC nV nU nP nE bF bO bL bA bC bV bU bP bE cT cK cO cQ cD pT pK pR pW pU pI pC uO uF uE uN wK jM jN jZ jB ++ R) sz) (fun _ _ _ => False) 4 24 (va_A (WC ca ad bq nF nO nL nA nC nV nU nP nE bF bO bL bA bC bV bU bP bE cT cK cO cQ cD pT pK pR pW pU pI pC uO uF uE uN wK jM jN jZ jB ++ R) sz) := by
  refine vx_ofWH (cc := cL_call) (maxL := 6) (ret := (some .int)) (hh := HH) (by decide) rfl ?_
  intro p e s m args below meth c s₁ B hml hv
  obtain ⟨rfl, rfl, hP, hE, hD0, hZ, hNC⟩ := hv
  have hx := B.exec
  have hb := B.bytes
  have hr := B.returns
  have hts0 := atoms_spec (ws := wmW yL_call cL_call 6 (some .int) HH) B.pre
  have hts := wmW_ww hts0
  have htab := vx_table (x := yL_call) B (hts0 _ List.mem_cons_self)
  have hown : s.vm.findClass RL = some m.cls := findClass_of_methodNamed B.named
  have hlocks := B.notSynchronized
  have hK := hE.1
  have hD := hD0.self (sz := s.heap.size)
  generalize hAe : va_A (WC ca ad bq nF nO nL nA nC nV nU nP nE bF bO bL bA bC bV bU bP bE cT cK cO cQ cD pT pK pR pW pU pI pC uO uF uE uN wK jM jN jZ jB ++ R) s.heap.size = A at hD hZ ⊢
  have hA : ∀ q : Nat, s.heap.size ≤ q → A q := fun q h => by rw [← hAe]; exact Or.inr h
  have hS : va_S A s.heap s.heap [] := va_S.rf
  have hl := lv_entry ([.ref (ad 0), .int 7, .int p2, .int p3, .int p4]) (n := 6) (Nat.le_of_ble_eq_true rfl)
  rw [lg_entry_eq]
  generalize (lg_sl ([.ref (ad 0), .int 7, .int p2, .int p3, .int p4]) ++ List.replicate (6 - (lg_sl ([.ref (ad 0), .int 7, .int p2, .int p3, .int p4])).length) Slot.unset).toArray = ls at hl ⊢
  have hl : lv_has ls 6 [(0, .ref (ad 0)), (1, .int 7), (2, .int p2), (3, .int p3), (4, .int p4)] := hl
  change W p l e ({ frames := 8, cells := 4, slots := 24, locals := 134 } : Room) s m _ below meth c s.heap [] 0 0 _ _
  generalize hQm : vx_MQ below (QI ro D (WC ca ad bq nF nO nL nA onC nV onU nP onE bF bO bL bA bC bV bU bP bE cT ocK cO cQ cD pT pK pR pW pU pI pC uO uF uE uN wK jM jN jZ jB ++ R) (WC ca ad bq nF nO nL nA nC nV nU nP nE bF bO bL bA bC bV bU bP bE cT cK cO cQ cD pT pK pR pW pU pI pC uO uF uE uN wK jM jN jZ jB ++ R) s.heap.size) (fun _ _ _ => False) _ s 4 24 A = Qm
  have hP : va_P D vwCl (WC ca ad bq nF nO nL nA nC nV nU nP nE bF bO bL bA bC bV bU bP bE cT cK cO cQ cD pT pK pR pW pU pI pC uO uF uE uN wK jM jN jZ jB ++ R) s.heap := hP
  generalize hae : ([.ref (ad 0), .int 7, .int p2, .int p3, .int p4] : List Value).toArray = args at hts hQm ⊢
  refine lv_iload_n hx hb dL_call_0 rfl (lv_at hl 1 rfl) ?_
  refine lv_tableIn (off := 204) (tgt := 205) hx hb dL_call_1 (by decide) (by decide) rfl (by decide) ?_
  refine lv_aload_n hx hb dL_call_205 rfl (lv_at hl 0 rfl) ?_
  refine lv_iload_n hx hb dL_call_206 rfl (lv_at hl 2 rfl) ?_
  refine lv_iload_n hx hb dL_call_207 rfl (lv_at hl 3 rfl) ?_
  obtain ⟨⟨x1, nC_2, nU_3, nE_4, cK_5⟩, h6, hf⟩ := bnd hf
  rcases x1 with n7 | r8
  · have hf : (if n7 = 3 then some ((-1001), nC_2, nU_3, nE_4, cK_5) else if n7 = 1 then some ((-1002), nC_2, nU_3, nE_4, cK_5) else if n7 = 2 then some ((-1003), nC_2, nU_3, nE_4, cK_5) else if n7 = 4 then some ((-1004), nC_2, nU_3, nE_4, cK_5) else if n7 = 5 then some ((-1005), nC_2, nU_3, nE_4, cK_5) else none) = some (ro, onC, onU, onE, ocK) := hf
    by_cases c9 : n7 = 3
    · subst c9
      have hf := br_pos rfl hf
      refine cw_vi_err (rest := []) (m_C_punch l hst ca ad bq nF nO nL nA nC nV nU nP nE bF bO bL bA bC bV bU bP bE cT cK cO cQ cD pT pK pR pW pU pI pC uO uF uE uN wK jM jN jZ jB R _ p2 p3 (.error 3) nC_2 nU_3 nE_4 cK_5 h6) ⟨hx, hb, hml, hown, hts⟩ (cwV 2 hts (gV q591 q592 q593 q24 q594) rfl rfl rfl (by decide +kernel) ⟨Nat.le_of_ble_eq_true rfl, Nat.le_of_ble_eq_true rfl⟩) (va_recv hK hP (ci := 7) (q0 := 0) rfl rfl) hE hP hD hS hA hZ rfl hl.1 rfl (lv_room (Nat.le_of_ble_eq_true rfl)) dL_call_208 ⟨Nat.le_of_ble_eq_true rfl, Nat.le_of_ble_eq_true rfl⟩ (fun H locs q9 ce hP hD hS hce hv9 hcl => ?_)
      refine vx_catch (E := "java/lang/IndexOutOfBoundsException") hown ((tableOf HH).take 7) ⟨205, 211, 393, 122⟩ ((tableOf HH).drop (7 + 1)) (htab.trans (sp_at (n := 7) hh7)) (hp_of [] (by decide +kernel) (fun _ h => absurd h List.not_mem_nil)) (by decide) (by decide) (hts _ q254) (va_Nw.use rfl (hE.2.1 _ n392)) hce hv9 hcl ?_
      refine lv_astore (lv' := [(5, .ref q9), (0, .ref (ad 0)), (1, .int 7), (2, .int p2), (3, .int p3), (4, .int p4)]) hx hb dL_call_393 hl (by decide) rfl (fun ls hl => ?_)
      refine lv_sipush (v := (-1001)) hx hb dL_call_395 (by decide) ?_
      cases hf
      exact endw_i hAe hQm hx hb hr hlocks rfl hP hD hS dL_call_398 (Nat.le_of_ble_eq_true rfl) (Nat.le_of_ble_eq_true rfl)
    have hf := br_neg c9 hf
    by_cases c10 : n7 = 1
    · subst c10
      have hf := br_pos rfl hf
      refine cw_vi_err (rest := []) (m_C_punch l hst ca ad bq nF nO nL nA nC nV nU nP nE bF bO bL bA bC bV bU bP bE cT cK cO cQ cD pT pK pR pW pU pI pC uO uF uE uN wK jM jN jZ jB R _ p2 p3 (.error 1) nC_2 nU_3 nE_4 cK_5 h6) ⟨hx, hb, hml, hown, hts⟩ (cwV 2 hts (gV q591 q592 q593 q24 q594) rfl rfl rfl (by decide +kernel) ⟨Nat.le_of_ble_eq_true rfl, Nat.le_of_ble_eq_true rfl⟩) (va_recv hK hP (ci := 7) (q0 := 0) rfl rfl) hE hP hD hS hA hZ rfl hl.1 rfl (lv_room (Nat.le_of_ble_eq_true rfl)) dL_call_208 ⟨Nat.le_of_ble_eq_true rfl, Nat.le_of_ble_eq_true rfl⟩ (fun H locs q9 ce hP hD hS hce hv9 hcl => ?_)
      refine vx_catch (E := "java/lang/IllegalArgumentException") hown ((tableOf HH).take 42) ⟨205, 211, 399, 124⟩ ((tableOf HH).drop (42 + 1)) (htab.trans (sp_at (n := 42) hh42)) (hp_of [(122, "java/lang/IndexOutOfBoundsException")] (by decide +kernel) (List.forall_mem_cons.mpr ⟨⟨hts _ q254, hNC _ nc_1_3⟩, fun _ h => absurd h List.not_mem_nil⟩)) (by decide) (by decide) (hts _ q333) (va_Nw.use rfl (hE.2.1 _ n347)) hce hv9 hcl ?_
      refine lv_astore (lv' := [(5, .ref q9), (0, .ref (ad 0)), (1, .int 7), (2, .int p2), (3, .int p3), (4, .int p4)]) hx hb dL_call_399 hl (by decide) rfl (fun ls hl => ?_)
      refine lv_sipush (v := (-1002)) hx hb dL_call_401 (by decide) ?_
      cases hf
      exact endw_i hAe hQm hx hb hr hlocks rfl hP hD hS dL_call_404 (Nat.le_of_ble_eq_true rfl) (Nat.le_of_ble_eq_true rfl)
    have hf := br_neg c10 hf
    by_cases c11 : n7 = 2
    · subst c11
      have hf := br_pos rfl hf
      refine cw_vi_err (rest := []) (m_C_punch l hst ca ad bq nF nO nL nA nC nV nU nP nE bF bO bL bA bC bV bU bP bE cT cK cO cQ cD pT pK pR pW pU pI pC uO uF uE uN wK jM jN jZ jB R _ p2 p3 (.error 2) nC_2 nU_3 nE_4 cK_5 h6) ⟨hx, hb, hml, hown, hts⟩ (cwV 2 hts (gV q591 q592 q593 q24 q594) rfl rfl rfl (by decide +kernel) ⟨Nat.le_of_ble_eq_true rfl, Nat.le_of_ble_eq_true rfl⟩) (va_recv hK hP (ci := 7) (q0 := 0) rfl rfl) hE hP hD hS hA hZ rfl hl.1 rfl (lv_room (Nat.le_of_ble_eq_true rfl)) dL_call_208 ⟨Nat.le_of_ble_eq_true rfl, Nat.le_of_ble_eq_true rfl⟩ (fun H locs q9 ce hP hD hS hce hv9 hcl => ?_)
      refine vx_catch (E := "java/lang/IllegalStateException") hown ((tableOf HH).take 77) ⟨205, 211, 405, 126⟩ ((tableOf HH).drop (77 + 1)) (htab.trans (sp_at (n := 77) hh77)) (hp_of [(122, "java/lang/IndexOutOfBoundsException"), (124, "java/lang/IllegalArgumentException")] (by decide +kernel) (List.forall_mem_cons.mpr ⟨⟨hts _ q254, hNC _ nc_2_3⟩, List.forall_mem_cons.mpr ⟨⟨hts _ q333, hNC _ nc_2_1⟩, fun _ h => absurd h List.not_mem_nil⟩⟩)) (by decide) (by decide) (hts _ q334) (va_Nw.use rfl (hE.2.1 _ n367)) hce hv9 hcl ?_
      refine lv_astore (lv' := [(5, .ref q9), (0, .ref (ad 0)), (1, .int 7), (2, .int p2), (3, .int p3), (4, .int p4)]) hx hb dL_call_405 hl (by decide) rfl (fun ls hl => ?_)
      refine lv_sipush (v := (-1003)) hx hb dL_call_407 (by decide) ?_
      cases hf
      exact endw_i hAe hQm hx hb hr hlocks rfl hP hD hS dL_call_410 (Nat.le_of_ble_eq_true rfl) (Nat.le_of_ble_eq_true rfl)
    have hf := br_neg c11 hf
    by_cases c12 : n7 = 4
    · subst c12
      have hf := br_pos rfl hf
      refine cw_vi_err (rest := []) (m_C_punch l hst ca ad bq nF nO nL nA nC nV nU nP nE bF bO bL bA bC bV bU bP bE cT cK cO cQ cD pT pK pR pW pU pI pC uO uF uE uN wK jM jN jZ jB R _ p2 p3 (.error 4) nC_2 nU_3 nE_4 cK_5 h6) ⟨hx, hb, hml, hown, hts⟩ (cwV 2 hts (gV q591 q592 q593 q24 q594) rfl rfl rfl (by decide +kernel) ⟨Nat.le_of_ble_eq_true rfl, Nat.le_of_ble_eq_true rfl⟩) (va_recv hK hP (ci := 7) (q0 := 0) rfl rfl) hE hP hD hS hA hZ rfl hl.1 rfl (lv_room (Nat.le_of_ble_eq_true rfl)) dL_call_208 ⟨Nat.le_of_ble_eq_true rfl, Nat.le_of_ble_eq_true rfl⟩ (fun H locs q9 ce hP hD hS hce hv9 hcl => ?_)
      refine vx_catch (E := "java/lang/UnsupportedOperationException") hown ((tableOf HH).take 112) ⟨205, 211, 411, 128⟩ ((tableOf HH).drop (112 + 1)) (htab.trans (sp_at (n := 112) hh112)) (hp_of [(122, "java/lang/IndexOutOfBoundsException"), (124, "java/lang/IllegalArgumentException"), (126, "java/lang/IllegalStateException")] (by decide +kernel) (List.forall_mem_cons.mpr ⟨⟨hts _ q254, hNC _ nc_4_3⟩, List.forall_mem_cons.mpr ⟨⟨hts _ q333, hNC _ nc_4_1⟩, List.forall_mem_cons.mpr ⟨⟨hts _ q334, hNC _ nc_4_2⟩, fun _ h => absurd h List.not_mem_nil⟩⟩⟩)) (by decide) (by decide) (hts _ q335) (va_Nw.use rfl (hE.2.1 _ n547)) hce hv9 hcl ?_
      refine lv_astore (lv' := [(5, .ref q9), (0, .ref (ad 0)), (1, .int 7), (2, .int p2), (3, .int p3), (4, .int p4)]) hx hb dL_call_411 hl (by decide) rfl (fun ls hl => ?_)
      refine lv_sipush (v := (-1004)) hx hb dL_call_413 (by decide) ?_
      cases hf
      exact endw_i hAe hQm hx hb hr hlocks rfl hP hD hS dL_call_416 (Nat.le_of_ble_eq_true rfl) (Nat.le_of_ble_eq_true rfl)
    have hf := br_neg c12 hf
    by_cases c13 : n7 = 5
    · subst c13
      have hf := br_pos rfl hf
      refine cw_vi_err (rest := []) (m_C_punch l hst ca ad bq nF nO nL nA nC nV nU nP nE bF bO bL bA bC bV bU bP bE cT cK cO cQ cD pT pK pR pW pU pI pC uO uF uE uN wK jM jN jZ jB R _ p2 p3 (.error 5) nC_2 nU_3 nE_4 cK_5 h6) ⟨hx, hb, hml, hown, hts⟩ (cwV 2 hts (gV q591 q592 q593 q24 q594) rfl rfl rfl (by decide +kernel) ⟨Nat.le_of_ble_eq_true rfl, Nat.le_of_ble_eq_true rfl⟩) (va_recv hK hP (ci := 7) (q0 := 0) rfl rfl) hE hP hD hS hA hZ rfl hl.1 rfl (lv_room (Nat.le_of_ble_eq_true rfl)) dL_call_208 ⟨Nat.le_of_ble_eq_true rfl, Nat.le_of_ble_eq_true rfl⟩ (fun H locs q9 ce hP hD hS hce hv9 hcl => ?_)
      refine vx_catch (E := "java/util/NoSuchElementException") hown ((tableOf HH).take 147) ⟨205, 211, 417, 130⟩ ((tableOf HH).drop (147 + 1)) (htab.trans (sp_at (n := 147) hh147)) (hp_of [(122, "java/lang/IndexOutOfBoundsException"), (124, "java/lang/IllegalArgumentException"), (126, "java/lang/IllegalStateException"), (128, "java/lang/UnsupportedOperationException")] (by decide +kernel) (List.forall_mem_cons.mpr ⟨⟨hts _ q254, hNC _ nc_5_3⟩, List.forall_mem_cons.mpr ⟨⟨hts _ q333, hNC _ nc_5_1⟩, List.forall_mem_cons.mpr ⟨⟨hts _ q334, hNC _ nc_5_2⟩, List.forall_mem_cons.mpr ⟨⟨hts _ q335, hNC _ nc_5_4⟩, fun _ h => absurd h List.not_mem_nil⟩⟩⟩⟩)) (by decide) (by decide) (hts _ q336) (va_Nw.use rfl (hE.2.1 _ n606)) hce hv9 hcl ?_
      refine lv_astore (lv' := [(5, .ref q9), (0, .ref (ad 0)), (1, .int 7), (2, .int p2), (3, .int p3), (4, .int p4)]) hx hb dL_call_417 hl (by decide) rfl (fun ls hl => ?_)
      refine lv_sipush (v := (-1005)) hx hb dL_call_419 (by decide) ?_
      cases hf
      exact endw_i hAe hQm hx hb hr hlocks rfl hP hD hS dL_call_422 (Nat.le_of_ble_eq_true rfl) (Nat.le_of_ble_eq_true rfl)
    have hf := br_neg c13 hf
    cases hf
  refine cw_vi_ok (rest := []) (m_C_punch l hst ca ad bq nF nO nL nA nC nV nU nP nE bF bO bL bA bC bV bU bP bE cT cK cO cQ cD pT pK pR pW pU pI pC uO uF uE uN wK jM jN jZ jB R _ p2 p3 (.ok r8) nC_2 nU_3 nE_4 cK_5 h6) ⟨hx, hb, hml, hown, hts⟩ (cwV 2 hts (gV q591 q592 q593 q24 q594) rfl rfl rfl (by decide +kernel) ⟨Nat.le_of_ble_eq_true rfl, Nat.le_of_ble_eq_true rfl⟩) (va_recv hK hP (ci := 7) (q0 := 0) rfl rfl) hE hP hD hS hA hZ rfl hl.1 rfl (lv_room (Nat.le_of_ble_eq_true rfl)) dL_call_208 ⟨Nat.le_of_ble_eq_true rfl, Nat.le_of_ble_eq_true rfl⟩ (fun H locs hP hD hS => ?_)
  cases hf
  exact endw_i hAe hQm hx hb hr hlocks rfl hP hD hS dL_call_211 (Nat.le_of_ble_eq_true rfl) (Nat.le_of_ble_eq_true rfl)
def f_K8 (p2 : Int32) (p3 : Int32) (nF : Int32) (nC : Nat → Int32) (nV : Nat → Int32) : Option (Int32) :=
  (f_C_read p2 p3 nF nC nV).bind fun x1 =>
  match x1 with
  | .error n3 => if n3 = 3 then some (-1001) else if n3 = 1 then some (-1002) else if n3 = 2 then some (-1003) else if n3 = 4 then some (-1004) else if n3 = 5 then some (-1005) else none
  | .ok r4 =>
  some r4
set_option maxHeartbeats 4000000 in
set_option maxRecDepth 100000 in
theorem m_K8 (l : Launch) (hst : l.stackTraces = false) {D : va_G} (ca : Nat → ClassId) (ad : Nat → Nat) (bq : Nat) (nF : Int32) (nO : Nat → Int32) (nL : Nat → Int32) (nA : Nat → Int32) (nC : Nat → Int32) (nV : Nat → Int32) (nU : Nat → Int32) (nP : Nat → Int32) (nE : Int32) (bF : Int32) (bO : Nat → Int32) (bL : Nat → Int32) (bA : Nat → Int32) (bC : Nat → Int32) (bV : Nat → Int32) (bU : Nat → Int32) (bP : Nat → Int32) (bE : Int32) (cT : Int32) (cK : Nat → Int32) (cO : Int32) (cQ : Nat → Int32) (cD : Int32) (pT : Int32) (pK : Int32) (pR : Nat → Int32) (pW : Nat → Int32) (pU : Nat → Int32) (pI : Nat → Int32) (pC : Nat → Nat → Int32) (uO : Int32) (uF : Nat → Int32) (uE : Nat → Int32) (uN : Nat → Int32) (wK : Nat → Int32) (jM : Int32) (jN : Int32) (jZ : Nat) (jB : Nat → Int32) (R : va_W) (sz : Nat) (p2 : Int32) (p3 : Int32) (p4 : Int32) (ro : Int32) (hf : f_K8 p2 p3 nF nC nV = some ro) : vx_Met l yL_call (wmW yL_call cL_call 6 (some .int) HH) ({ frames := 9, cells := 3, slots := 18, locals := 156 } : Room) (PREL [.ref (ad 0), .int 8, .int p2, .int p3, .int p4] D ca SL0 (WC ca ad bq nF nO nL nA nC nV nU nP nE bF bO bL bA bC bV bU bP bE cT cK cO cQ cD pT pK pR pW pU pI pC uO uF uE uN wK jM jN jZ jB ++ R) sz) (QI ro D (WC ca ad bq nF nO nL nA nC nV nU nP nE bF bO bL bA bC bV bU bP bE cT cK cO cQ cD pT pK pR pW pU pI pC uO uF uE uN wK jM jN jZ jB ++ R) (WC ca ad bq nF nO nL nA nC nV nU nP nE bF bO bL bA bC bV bU bP bE cT cK cO cQ cD pT pK pR pW pU pI pC uO uF uE uN wK jM jN jZ jB ++ R) sz) (fun _ _ _ => False) 3 18 (va_A (WC ca ad bq nF nO nL nA nC nV nU nP nE bF bO bL bA bC bV bU bP bE cT cK cO cQ cD pT pK pR pW pU pI pC uO uF uE uN wK jM jN jZ jB ++ R) sz) := by
  refine vx_ofWH (cc := cL_call) (maxL := 6) (ret := (some .int)) (hh := HH) (by decide) rfl ?_
  intro p e s m args below meth c s₁ B hml hv
  obtain ⟨rfl, rfl, hP, hE, hD0, hZ, hNC⟩ := hv
  have hx := B.exec
  have hb := B.bytes
  have hr := B.returns
  have hts0 := atoms_spec (ws := wmW yL_call cL_call 6 (some .int) HH) B.pre
  have hts := wmW_ww hts0
  have htab := vx_table (x := yL_call) B (hts0 _ List.mem_cons_self)
  have hown : s.vm.findClass RL = some m.cls := findClass_of_methodNamed B.named
  have hlocks := B.notSynchronized
  have hK := hE.1
  have hD := hD0.self (sz := s.heap.size)
  generalize hAe : va_A (WC ca ad bq nF nO nL nA nC nV nU nP nE bF bO bL bA bC bV bU bP bE cT cK cO cQ cD pT pK pR pW pU pI pC uO uF uE uN wK jM jN jZ jB ++ R) s.heap.size = A at hD hZ ⊢
  have hA : ∀ q : Nat, s.heap.size ≤ q → A q := fun q h => by rw [← hAe]; exact Or.inr h
  have hS : va_S A s.heap s.heap [] := va_S.rf
  have hl := lv_entry ([.ref (ad 0), .int 8, .int p2, .int p3, .int p4]) (n := 6) (Nat.le_of_ble_eq_true rfl)
  rw [lg_entry_eq]
  generalize (lg_sl ([.ref (ad 0), .int 8, .int p2, .int p3, .int p4]) ++ List.replicate (6 - (lg_sl ([.ref (ad 0), .int 8, .int p2, .int p3, .int p4])).length) Slot.unset).toArray = ls at hl ⊢
  have hl : lv_has ls 6 [(0, .ref (ad 0)), (1, .int 8), (2, .int p2), (3, .int p3), (4, .int p4)] := hl
  change W p l e ({ frames := 9, cells := 3, slots := 18, locals := 156 } : Room) s m _ below meth c s.heap [] 0 0 _ _
  generalize hQm : vx_MQ below (QI ro D (WC ca ad bq nF nO nL nA nC nV nU nP nE bF bO bL bA bC bV bU bP bE cT cK cO cQ cD pT pK pR pW pU pI pC uO uF uE uN wK jM jN jZ jB ++ R) (WC ca ad bq nF nO nL nA nC nV nU nP nE bF bO bL bA bC bV bU bP bE cT cK cO cQ cD pT pK pR pW pU pI pC uO uF uE uN wK jM jN jZ jB ++ R) s.heap.size) (fun _ _ _ => False) _ s 3 18 A = Qm
  have hP : va_P D vwCl (WC ca ad bq nF nO nL nA nC nV nU nP nE bF bO bL bA bC bV bU bP bE cT cK cO cQ cD pT pK pR pW pU pI pC uO uF uE uN wK jM jN jZ jB ++ R) s.heap := hP
  generalize hae : ([.ref (ad 0), .int 8, .int p2, .int p3, .int p4] : List Value).toArray = args at hts hQm ⊢
  refine lv_iload_n hx hb dL_call_0 rfl (lv_at hl 1 rfl) ?_
  refine lv_tableIn (off := 211) (tgt := 212) hx hb dL_call_1 (by decide) (by decide) rfl (by decide) ?_
  refine lv_aload_n hx hb dL_call_212 rfl (lv_at hl 0 rfl) ?_
  refine lv_iload_n hx hb dL_call_213 rfl (lv_at hl 2 rfl) ?_
  refine lv_iload_n hx hb dL_call_214 rfl (lv_at hl 3 rfl) ?_
  obtain ⟨x1, h2, hf⟩ := bnd hf
  rcases x1 with n3 | r4
  · have hf : (if n3 = 3 then some (-1001) else if n3 = 1 then some (-1002) else if n3 = 2 then some (-1003) else if n3 = 4 then some (-1004) else if n3 = 5 then some (-1005) else none) = some ro := hf
    by_cases c5 : n3 = 3
    · subst c5
      have hf := br_pos rfl hf
      refine cw_vi_err (rest := []) (m_C_read l hst ca ad bq nF nO nL nA nC nV nU nP nE bF bO bL bA bC bV bU bP bE cT cK cO cQ cD pT pK pR pW pU pI pC uO uF uE uN wK jM jN jZ jB R _ p2 p3 (.error 3) h2) ⟨hx, hb, hml, hown, hts⟩ (cwV 2 hts (gV q596 q597 q598 q24 q599) rfl rfl rfl (by decide +kernel) ⟨Nat.le_of_ble_eq_true rfl, Nat.le_of_ble_eq_true rfl⟩) (va_recv hK hP (ci := 7) (q0 := 0) rfl rfl) hE hP hD hS hA hZ rfl hl.1 rfl (lv_room (Nat.le_of_ble_eq_true rfl)) dL_call_215 ⟨Nat.le_of_ble_eq_true rfl, Nat.le_of_ble_eq_true rfl⟩ (fun H locs q9 ce hP hD hS hce hv9 hcl => ?_)
      refine vx_catch (E := "java/lang/IndexOutOfBoundsException") hown ((tableOf HH).take 8) ⟨212, 218, 393, 122⟩ ((tableOf HH).drop (8 + 1)) (htab.trans (sp_at (n := 8) hh8)) (hp_of [] (by decide +kernel) (fun _ h => absurd h List.not_mem_nil)) (by decide) (by decide) (hts _ q254) (va_Nw.use rfl (hE.2.1 _ n392)) hce hv9 hcl ?_
      refine lv_astore (lv' := [(5, .ref q9), (0, .ref (ad 0)), (1, .int 8), (2, .int p2), (3, .int p3), (4, .int p4)]) hx hb dL_call_393 hl (by decide) rfl (fun ls hl => ?_)
      refine lv_sipush (v := (-1001)) hx hb dL_call_395 (by decide) ?_
      cases hf
      exact endw_i hAe hQm hx hb hr hlocks rfl hP hD hS dL_call_398 (Nat.le_of_ble_eq_true rfl) (Nat.le_of_ble_eq_true rfl)
    have hf := br_neg c5 hf
    by_cases c6 : n3 = 1
    · subst c6
      have hf := br_pos rfl hf
      refine cw_vi_err (rest := []) (m_C_read l hst ca ad bq nF nO nL nA nC nV nU nP nE bF bO bL bA bC bV bU bP bE cT cK cO cQ cD pT pK pR pW pU pI pC uO uF uE uN wK jM jN jZ jB R _ p2 p3 (.error 1) h2) ⟨hx, hb, hml, hown, hts⟩ (cwV 2 hts (gV q596 q597 q598 q24 q599) rfl rfl rfl (by decide +kernel) ⟨Nat.le_of_ble_eq_true rfl, Nat.le_of_ble_eq_true rfl⟩) (va_recv hK hP (ci := 7) (q0 := 0) rfl rfl) hE hP hD hS hA hZ rfl hl.1 rfl (lv_room (Nat.le_of_ble_eq_true rfl)) dL_call_215 ⟨Nat.le_of_ble_eq_true rfl, Nat.le_of_ble_eq_true rfl⟩ (fun H locs q9 ce hP hD hS hce hv9 hcl => ?_)
      refine vx_catch (E := "java/lang/IllegalArgumentException") hown ((tableOf HH).take 43) ⟨212, 218, 399, 124⟩ ((tableOf HH).drop (43 + 1)) (htab.trans (sp_at (n := 43) hh43)) (hp_of [(122, "java/lang/IndexOutOfBoundsException")] (by decide +kernel) (List.forall_mem_cons.mpr ⟨⟨hts _ q254, hNC _ nc_1_3⟩, fun _ h => absurd h List.not_mem_nil⟩)) (by decide) (by decide) (hts _ q333) (va_Nw.use rfl (hE.2.1 _ n347)) hce hv9 hcl ?_
      refine lv_astore (lv' := [(5, .ref q9), (0, .ref (ad 0)), (1, .int 8), (2, .int p2), (3, .int p3), (4, .int p4)]) hx hb dL_call_399 hl (by decide) rfl (fun ls hl => ?_)
      refine lv_sipush (v := (-1002)) hx hb dL_call_401 (by decide) ?_
      cases hf
      exact endw_i hAe hQm hx hb hr hlocks rfl hP hD hS dL_call_404 (Nat.le_of_ble_eq_true rfl) (Nat.le_of_ble_eq_true rfl)
    have hf := br_neg c6 hf
    by_cases c7 : n3 = 2
    · subst c7
      have hf := br_pos rfl hf
      refine cw_vi_err (rest := []) (m_C_read l hst ca ad bq nF nO nL nA nC nV nU nP nE bF bO bL bA bC bV bU bP bE cT cK cO cQ cD pT pK pR pW pU pI pC uO uF uE uN wK jM jN jZ jB R _ p2 p3 (.error 2) h2) ⟨hx, hb, hml, hown, hts⟩ (cwV 2 hts (gV q596 q597 q598 q24 q599) rfl rfl rfl (by decide +kernel) ⟨Nat.le_of_ble_eq_true rfl, Nat.le_of_ble_eq_true rfl⟩) (va_recv hK hP (ci := 7) (q0 := 0) rfl rfl) hE hP hD hS hA hZ rfl hl.1 rfl (lv_room (Nat.le_of_ble_eq_true rfl)) dL_call_215 ⟨Nat.le_of_ble_eq_true rfl, Nat.le_of_ble_eq_true rfl⟩ (fun H locs q9 ce hP hD hS hce hv9 hcl => ?_)
      refine vx_catch (E := "java/lang/IllegalStateException") hown ((tableOf HH).take 78) ⟨212, 218, 405, 126⟩ ((tableOf HH).drop (78 + 1)) (htab.trans (sp_at (n := 78) hh78)) (hp_of [(122, "java/lang/IndexOutOfBoundsException"), (124, "java/lang/IllegalArgumentException")] (by decide +kernel) (List.forall_mem_cons.mpr ⟨⟨hts _ q254, hNC _ nc_2_3⟩, List.forall_mem_cons.mpr ⟨⟨hts _ q333, hNC _ nc_2_1⟩, fun _ h => absurd h List.not_mem_nil⟩⟩)) (by decide) (by decide) (hts _ q334) (va_Nw.use rfl (hE.2.1 _ n367)) hce hv9 hcl ?_
      refine lv_astore (lv' := [(5, .ref q9), (0, .ref (ad 0)), (1, .int 8), (2, .int p2), (3, .int p3), (4, .int p4)]) hx hb dL_call_405 hl (by decide) rfl (fun ls hl => ?_)
      refine lv_sipush (v := (-1003)) hx hb dL_call_407 (by decide) ?_
      cases hf
      exact endw_i hAe hQm hx hb hr hlocks rfl hP hD hS dL_call_410 (Nat.le_of_ble_eq_true rfl) (Nat.le_of_ble_eq_true rfl)
    have hf := br_neg c7 hf
    by_cases c8 : n3 = 4
    · subst c8
      have hf := br_pos rfl hf
      refine cw_vi_err (rest := []) (m_C_read l hst ca ad bq nF nO nL nA nC nV nU nP nE bF bO bL bA bC bV bU bP bE cT cK cO cQ cD pT pK pR pW pU pI pC uO uF uE uN wK jM jN jZ jB R _ p2 p3 (.error 4) h2) ⟨hx, hb, hml, hown, hts⟩ (cwV 2 hts (gV q596 q597 q598 q24 q599) rfl rfl rfl (by decide +kernel) ⟨Nat.le_of_ble_eq_true rfl, Nat.le_of_ble_eq_true rfl⟩) (va_recv hK hP (ci := 7) (q0 := 0) rfl rfl) hE hP hD hS hA hZ rfl hl.1 rfl (lv_room (Nat.le_of_ble_eq_true rfl)) dL_call_215 ⟨Nat.le_of_ble_eq_true rfl, Nat.le_of_ble_eq_true rfl⟩ (fun H locs q9 ce hP hD hS hce hv9 hcl => ?_)
      refine vx_catch (E := "java/lang/UnsupportedOperationException") hown ((tableOf HH).take 113) ⟨212, 218, 411, 128⟩ ((tableOf HH).drop (113 + 1)) (htab.trans (sp_at (n := 113) hh113)) (hp_of [(122, "java/lang/IndexOutOfBoundsException"), (124, "java/lang/IllegalArgumentException"), (126, "java/lang/IllegalStateException")] (by decide +kernel) (List.forall_mem_cons.mpr ⟨⟨hts _ q254, hNC _ nc_4_3⟩, List.forall_mem_cons.mpr ⟨⟨hts _ q333, hNC _ nc_4_1⟩, List.forall_mem_cons.mpr ⟨⟨hts _ q334, hNC _ nc_4_2⟩, fun _ h => absurd h List.not_mem_nil⟩⟩⟩)) (by decide) (by decide) (hts _ q335) (va_Nw.use rfl (hE.2.1 _ n547)) hce hv9 hcl ?_
      refine lv_astore (lv' := [(5, .ref q9), (0, .ref (ad 0)), (1, .int 8), (2, .int p2), (3, .int p3), (4, .int p4)]) hx hb dL_call_411 hl (by decide) rfl (fun ls hl => ?_)
      refine lv_sipush (v := (-1004)) hx hb dL_call_413 (by decide) ?_
      cases hf
      exact endw_i hAe hQm hx hb hr hlocks rfl hP hD hS dL_call_416 (Nat.le_of_ble_eq_true rfl) (Nat.le_of_ble_eq_true rfl)
    have hf := br_neg c8 hf
    by_cases c9 : n3 = 5
    · subst c9
      have hf := br_pos rfl hf
      refine cw_vi_err (rest := []) (m_C_read l hst ca ad bq nF nO nL nA nC nV nU nP nE bF bO bL bA bC bV bU bP bE cT cK cO cQ cD pT pK pR pW pU pI pC uO uF uE uN wK jM jN jZ jB R _ p2 p3 (.error 5) h2) ⟨hx, hb, hml, hown, hts⟩ (cwV 2 hts (gV q596 q597 q598 q24 q599) rfl rfl rfl (by decide +kernel) ⟨Nat.le_of_ble_eq_true rfl, Nat.le_of_ble_eq_true rfl⟩) (va_recv hK hP (ci := 7) (q0 := 0) rfl rfl) hE hP hD hS hA hZ rfl hl.1 rfl (lv_room (Nat.le_of_ble_eq_true rfl)) dL_call_215 ⟨Nat.le_of_ble_eq_true rfl, Nat.le_of_ble_eq_true rfl⟩ (fun H locs q9 ce hP hD hS hce hv9 hcl => ?_)
      refine vx_catch (E := "java/util/NoSuchElementException") hown ((tableOf HH).take 148) ⟨212, 218, 417, 130⟩ ((tableOf HH).drop (148 + 1)) (htab.trans (sp_at (n := 148) hh148)) (hp_of [(122, "java/lang/IndexOutOfBoundsException"), (124, "java/lang/IllegalArgumentException"), (126, "java/lang/IllegalStateException"), (128, "java/lang/UnsupportedOperationException")] (by decide +kernel) (List.forall_mem_cons.mpr ⟨⟨hts _ q254, hNC _ nc_5_3⟩, List.forall_mem_cons.mpr ⟨⟨hts _ q333, hNC _ nc_5_1⟩, List.forall_mem_cons.mpr ⟨⟨hts _ q334, hNC _ nc_5_2⟩, List.forall_mem_cons.mpr ⟨⟨hts _ q335, hNC _ nc_5_4⟩, fun _ h => absurd h List.not_mem_nil⟩⟩⟩⟩)) (by decide) (by decide) (hts _ q336) (va_Nw.use rfl (hE.2.1 _ n606)) hce hv9 hcl ?_
      refine lv_astore (lv' := [(5, .ref q9), (0, .ref (ad 0)), (1, .int 8), (2, .int p2), (3, .int p3), (4, .int p4)]) hx hb dL_call_417 hl (by decide) rfl (fun ls hl => ?_)
      refine lv_sipush (v := (-1005)) hx hb dL_call_419 (by decide) ?_
      cases hf
      exact endw_i hAe hQm hx hb hr hlocks rfl hP hD hS dL_call_422 (Nat.le_of_ble_eq_true rfl) (Nat.le_of_ble_eq_true rfl)
    have hf := br_neg c9 hf
    cases hf
  refine cw_vi_ok (rest := []) (m_C_read l hst ca ad bq nF nO nL nA nC nV nU nP nE bF bO bL bA bC bV bU bP bE cT cK cO cQ cD pT pK pR pW pU pI pC uO uF uE uN wK jM jN jZ jB R _ p2 p3 (.ok r4) h2) ⟨hx, hb, hml, hown, hts⟩ (cwV 2 hts (gV q596 q597 q598 q24 q599) rfl rfl rfl (by decide +kernel) ⟨Nat.le_of_ble_eq_true rfl, Nat.le_of_ble_eq_true rfl⟩) (va_recv hK hP (ci := 7) (q0 := 0) rfl rfl) hE hP hD hS hA hZ rfl hl.1 rfl (lv_room (Nat.le_of_ble_eq_true rfl)) dL_call_215 ⟨Nat.le_of_ble_eq_true rfl, Nat.le_of_ble_eq_true rfl⟩ (fun H locs hP hD hS => ?_)
  cases hf
  exact endw_i hAe hQm hx hb hr hlocks rfl hP hD hS dL_call_218 (Nat.le_of_ble_eq_true rfl) (Nat.le_of_ble_eq_true rfl)
def f_K9 (p2 : Int32) (p3 : Int32) (nF : Int32) (nC : Nat → Int32) : Option (Int32) :=
  (f_C_blockAt p2 p3 nF nC).bind fun x1 =>
  match x1 with
  | .error n3 => if n3 = 3 then some (-1001) else if n3 = 1 then some (-1002) else if n3 = 2 then some (-1003) else if n3 = 4 then some (-1004) else if n3 = 5 then some (-1005) else none
  | .ok r4 =>
  some r4
set_option maxHeartbeats 4000000 in
set_option maxRecDepth 100000 in
theorem m_K9 (l : Launch) (hst : l.stackTraces = false) {D : va_G} (ca : Nat → ClassId) (ad : Nat → Nat) (bq : Nat) (nF : Int32) (nO : Nat → Int32) (nL : Nat → Int32) (nA : Nat → Int32) (nC : Nat → Int32) (nV : Nat → Int32) (nU : Nat → Int32) (nP : Nat → Int32) (nE : Int32) (bF : Int32) (bO : Nat → Int32) (bL : Nat → Int32) (bA : Nat → Int32) (bC : Nat → Int32) (bV : Nat → Int32) (bU : Nat → Int32) (bP : Nat → Int32) (bE : Int32) (cT : Int32) (cK : Nat → Int32) (cO : Int32) (cQ : Nat → Int32) (cD : Int32) (pT : Int32) (pK : Int32) (pR : Nat → Int32) (pW : Nat → Int32) (pU : Nat → Int32) (pI : Nat → Int32) (pC : Nat → Nat → Int32) (uO : Int32) (uF : Nat → Int32) (uE : Nat → Int32) (uN : Nat → Int32) (wK : Nat → Int32) (jM : Int32) (jN : Int32) (jZ : Nat) (jB : Nat → Int32) (R : va_W) (sz : Nat) (p2 : Int32) (p3 : Int32) (p4 : Int32) (ro : Int32) (hf : f_K9 p2 p3 nF nC = some ro) : vx_Met l yL_call (wmW yL_call cL_call 6 (some .int) HH) ({ frames := 9, cells := 3, slots := 18, locals := 156 } : Room) (PREL [.ref (ad 0), .int 9, .int p2, .int p3, .int p4] D ca SL0 (WC ca ad bq nF nO nL nA nC nV nU nP nE bF bO bL bA bC bV bU bP bE cT cK cO cQ cD pT pK pR pW pU pI pC uO uF uE uN wK jM jN jZ jB ++ R) sz) (QI ro D (WC ca ad bq nF nO nL nA nC nV nU nP nE bF bO bL bA bC bV bU bP bE cT cK cO cQ cD pT pK pR pW pU pI pC uO uF uE uN wK jM jN jZ jB ++ R) (WC ca ad bq nF nO nL nA nC nV nU nP nE bF bO bL bA bC bV bU bP bE cT cK cO cQ cD pT pK pR pW pU pI pC uO uF uE uN wK jM jN jZ jB ++ R) sz) (fun _ _ _ => False) 3 18 (va_A (WC ca ad bq nF nO nL nA nC nV nU nP nE bF bO bL bA bC bV bU bP bE cT cK cO cQ cD pT pK pR pW pU pI pC uO uF uE uN wK jM jN jZ jB ++ R) sz) := by
  refine vx_ofWH (cc := cL_call) (maxL := 6) (ret := (some .int)) (hh := HH) (by decide) rfl ?_
  intro p e s m args below meth c s₁ B hml hv
  obtain ⟨rfl, rfl, hP, hE, hD0, hZ, hNC⟩ := hv
  have hx := B.exec
  have hb := B.bytes
  have hr := B.returns
  have hts0 := atoms_spec (ws := wmW yL_call cL_call 6 (some .int) HH) B.pre
  have hts := wmW_ww hts0
  have htab := vx_table (x := yL_call) B (hts0 _ List.mem_cons_self)
  have hown : s.vm.findClass RL = some m.cls := findClass_of_methodNamed B.named
  have hlocks := B.notSynchronized
  have hK := hE.1
  have hD := hD0.self (sz := s.heap.size)
  generalize hAe : va_A (WC ca ad bq nF nO nL nA nC nV nU nP nE bF bO bL bA bC bV bU bP bE cT cK cO cQ cD pT pK pR pW pU pI pC uO uF uE uN wK jM jN jZ jB ++ R) s.heap.size = A at hD hZ ⊢
  have hA : ∀ q : Nat, s.heap.size ≤ q → A q := fun q h => by rw [← hAe]; exact Or.inr h
  have hS : va_S A s.heap s.heap [] := va_S.rf
  have hl := lv_entry ([.ref (ad 0), .int 9, .int p2, .int p3, .int p4]) (n := 6) (Nat.le_of_ble_eq_true rfl)
  rw [lg_entry_eq]
  generalize (lg_sl ([.ref (ad 0), .int 9, .int p2, .int p3, .int p4]) ++ List.replicate (6 - (lg_sl ([.ref (ad 0), .int 9, .int p2, .int p3, .int p4])).length) Slot.unset).toArray = ls at hl ⊢
  have hl : lv_has ls 6 [(0, .ref (ad 0)), (1, .int 9), (2, .int p2), (3, .int p3), (4, .int p4)] := hl
  change W p l e ({ frames := 9, cells := 3, slots := 18, locals := 156 } : Room) s m _ below meth c s.heap [] 0 0 _ _
  generalize hQm : vx_MQ below (QI ro D (WC ca ad bq nF nO nL nA nC nV nU nP nE bF bO bL bA bC bV bU bP bE cT cK cO cQ cD pT pK pR pW pU pI pC uO uF uE uN wK jM jN jZ jB ++ R) (WC ca ad bq nF nO nL nA nC nV nU nP nE bF bO bL bA bC bV bU bP bE cT cK cO cQ cD pT pK pR pW pU pI pC uO uF uE uN wK jM jN jZ jB ++ R) s.heap.size) (fun _ _ _ => False) _ s 3 18 A = Qm
  have hP : va_P D vwCl (WC ca ad bq nF nO nL nA nC nV nU nP nE bF bO bL bA bC bV bU bP bE cT cK cO cQ cD pT pK pR pW pU pI pC uO uF uE uN wK jM jN jZ jB ++ R) s.heap := hP
  generalize hae : ([.ref (ad 0), .int 9, .int p2, .int p3, .int p4] : List Value).toArray = args at hts hQm ⊢
  refine lv_iload_n hx hb dL_call_0 rfl (lv_at hl 1 rfl) ?_
  refine lv_tableIn (off := 218) (tgt := 219) hx hb dL_call_1 (by decide) (by decide) rfl (by decide) ?_
  refine lv_aload_n hx hb dL_call_219 rfl (lv_at hl 0 rfl) ?_
  refine lv_iload_n hx hb dL_call_220 rfl (lv_at hl 2 rfl) ?_
  refine lv_iload_n hx hb dL_call_221 rfl (lv_at hl 3 rfl) ?_
  obtain ⟨x1, h2, hf⟩ := bnd hf
  rcases x1 with n3 | r4
  · have hf : (if n3 = 3 then some (-1001) else if n3 = 1 then some (-1002) else if n3 = 2 then some (-1003) else if n3 = 4 then some (-1004) else if n3 = 5 then some (-1005) else none) = some ro := hf
    by_cases c5 : n3 = 3
    · subst c5
      have hf := br_pos rfl hf
      refine cw_vi_err (rest := []) (m_C_blockAt l hst ca ad bq nF nO nL nA nC nV nU nP nE bF bO bL bA bC bV bU bP bE cT cK cO cQ cD pT pK pR pW pU pI pC uO uF uE uN wK jM jN jZ jB R _ p2 p3 (.error 3) h2) ⟨hx, hb, hml, hown, hts⟩ (cwV 2 hts (gV q624 q625 q626 q24 q627) rfl rfl rfl (by decide +kernel) ⟨Nat.le_of_ble_eq_true rfl, Nat.le_of_ble_eq_true rfl⟩) (va_recv hK hP (ci := 7) (q0 := 0) rfl rfl) hE hP hD hS hA hZ rfl hl.1 rfl (lv_room (Nat.le_of_ble_eq_true rfl)) dL_call_222 ⟨Nat.le_of_ble_eq_true rfl, Nat.le_of_ble_eq_true rfl⟩ (fun H locs q9 ce hP hD hS hce hv9 hcl => ?_)
      refine vx_catch (E := "java/lang/IndexOutOfBoundsException") hown ((tableOf HH).take 9) ⟨219, 225, 393, 122⟩ ((tableOf HH).drop (9 + 1)) (htab.trans (sp_at (n := 9) hh9)) (hp_of [] (by decide +kernel) (fun _ h => absurd h List.not_mem_nil)) (by decide) (by decide) (hts _ q254) (va_Nw.use rfl (hE.2.1 _ n392)) hce hv9 hcl ?_
      refine lv_astore (lv' := [(5, .ref q9), (0, .ref (ad 0)), (1, .int 9), (2, .int p2), (3, .int p3), (4, .int p4)]) hx hb dL_call_393 hl (by decide) rfl (fun ls hl => ?_)
      refine lv_sipush (v := (-1001)) hx hb dL_call_395 (by decide) ?_
      cases hf
      exact endw_i hAe hQm hx hb hr hlocks rfl hP hD hS dL_call_398 (Nat.le_of_ble_eq_true rfl) (Nat.le_of_ble_eq_true rfl)
    have hf := br_neg c5 hf
    by_cases c6 : n3 = 1
    · subst c6
      have hf := br_pos rfl hf
      refine cw_vi_err (rest := []) (m_C_blockAt l hst ca ad bq nF nO nL nA nC nV nU nP nE bF bO bL bA bC bV bU bP bE cT cK cO cQ cD pT pK pR pW pU pI pC uO uF uE uN wK jM jN jZ jB R _ p2 p3 (.error 1) h2) ⟨hx, hb, hml, hown, hts⟩ (cwV 2 hts (gV q624 q625 q626 q24 q627) rfl rfl rfl (by decide +kernel) ⟨Nat.le_of_ble_eq_true rfl, Nat.le_of_ble_eq_true rfl⟩) (va_recv hK hP (ci := 7) (q0 := 0) rfl rfl) hE hP hD hS hA hZ rfl hl.1 rfl (lv_room (Nat.le_of_ble_eq_true rfl)) dL_call_222 ⟨Nat.le_of_ble_eq_true rfl, Nat.le_of_ble_eq_true rfl⟩ (fun H locs q9 ce hP hD hS hce hv9 hcl => ?_)
      refine vx_catch (E := "java/lang/IllegalArgumentException") hown ((tableOf HH).take 44) ⟨219, 225, 399, 124⟩ ((tableOf HH).drop (44 + 1)) (htab.trans (sp_at (n := 44) hh44)) (hp_of [(122, "java/lang/IndexOutOfBoundsException")] (by decide +kernel) (List.forall_mem_cons.mpr ⟨⟨hts _ q254, hNC _ nc_1_3⟩, fun _ h => absurd h List.not_mem_nil⟩)) (by decide) (by decide) (hts _ q333) (va_Nw.use rfl (hE.2.1 _ n347)) hce hv9 hcl ?_
      refine lv_astore (lv' := [(5, .ref q9), (0, .ref (ad 0)), (1, .int 9), (2, .int p2), (3, .int p3), (4, .int p4)]) hx hb dL_call_399 hl (by decide) rfl (fun ls hl => ?_)
      refine lv_sipush (v := (-1002)) hx hb dL_call_401 (by decide) ?_
      cases hf
      exact endw_i hAe hQm hx hb hr hlocks rfl hP hD hS dL_call_404 (Nat.le_of_ble_eq_true rfl) (Nat.le_of_ble_eq_true rfl)
    have hf := br_neg c6 hf
    by_cases c7 : n3 = 2
    · subst c7
      have hf := br_pos rfl hf
      refine cw_vi_err (rest := []) (m_C_blockAt l hst ca ad bq nF nO nL nA nC nV nU nP nE bF bO bL bA bC bV bU bP bE cT cK cO cQ cD pT pK pR pW pU pI pC uO uF uE uN wK jM jN jZ jB R _ p2 p3 (.error 2) h2) ⟨hx, hb, hml, hown, hts⟩ (cwV 2 hts (gV q624 q625 q626 q24 q627) rfl rfl rfl (by decide +kernel) ⟨Nat.le_of_ble_eq_true rfl, Nat.le_of_ble_eq_true rfl⟩) (va_recv hK hP (ci := 7) (q0 := 0) rfl rfl) hE hP hD hS hA hZ rfl hl.1 rfl (lv_room (Nat.le_of_ble_eq_true rfl)) dL_call_222 ⟨Nat.le_of_ble_eq_true rfl, Nat.le_of_ble_eq_true rfl⟩ (fun H locs q9 ce hP hD hS hce hv9 hcl => ?_)
      refine vx_catch (E := "java/lang/IllegalStateException") hown ((tableOf HH).take 79) ⟨219, 225, 405, 126⟩ ((tableOf HH).drop (79 + 1)) (htab.trans (sp_at (n := 79) hh79)) (hp_of [(122, "java/lang/IndexOutOfBoundsException"), (124, "java/lang/IllegalArgumentException")] (by decide +kernel) (List.forall_mem_cons.mpr ⟨⟨hts _ q254, hNC _ nc_2_3⟩, List.forall_mem_cons.mpr ⟨⟨hts _ q333, hNC _ nc_2_1⟩, fun _ h => absurd h List.not_mem_nil⟩⟩)) (by decide) (by decide) (hts _ q334) (va_Nw.use rfl (hE.2.1 _ n367)) hce hv9 hcl ?_
      refine lv_astore (lv' := [(5, .ref q9), (0, .ref (ad 0)), (1, .int 9), (2, .int p2), (3, .int p3), (4, .int p4)]) hx hb dL_call_405 hl (by decide) rfl (fun ls hl => ?_)
      refine lv_sipush (v := (-1003)) hx hb dL_call_407 (by decide) ?_
      cases hf
      exact endw_i hAe hQm hx hb hr hlocks rfl hP hD hS dL_call_410 (Nat.le_of_ble_eq_true rfl) (Nat.le_of_ble_eq_true rfl)
    have hf := br_neg c7 hf
    by_cases c8 : n3 = 4
    · subst c8
      have hf := br_pos rfl hf
      refine cw_vi_err (rest := []) (m_C_blockAt l hst ca ad bq nF nO nL nA nC nV nU nP nE bF bO bL bA bC bV bU bP bE cT cK cO cQ cD pT pK pR pW pU pI pC uO uF uE uN wK jM jN jZ jB R _ p2 p3 (.error 4) h2) ⟨hx, hb, hml, hown, hts⟩ (cwV 2 hts (gV q624 q625 q626 q24 q627) rfl rfl rfl (by decide +kernel) ⟨Nat.le_of_ble_eq_true rfl, Nat.le_of_ble_eq_true rfl⟩) (va_recv hK hP (ci := 7) (q0 := 0) rfl rfl) hE hP hD hS hA hZ rfl hl.1 rfl (lv_room (Nat.le_of_ble_eq_true rfl)) dL_call_222 ⟨Nat.le_of_ble_eq_true rfl, Nat.le_of_ble_eq_true rfl⟩ (fun H locs q9 ce hP hD hS hce hv9 hcl => ?_)
      refine vx_catch (E := "java/lang/UnsupportedOperationException") hown ((tableOf HH).take 114) ⟨219, 225, 411, 128⟩ ((tableOf HH).drop (114 + 1)) (htab.trans (sp_at (n := 114) hh114)) (hp_of [(122, "java/lang/IndexOutOfBoundsException"), (124, "java/lang/IllegalArgumentException"), (126, "java/lang/IllegalStateException")] (by decide +kernel) (List.forall_mem_cons.mpr ⟨⟨hts _ q254, hNC _ nc_4_3⟩, List.forall_mem_cons.mpr ⟨⟨hts _ q333, hNC _ nc_4_1⟩, List.forall_mem_cons.mpr ⟨⟨hts _ q334, hNC _ nc_4_2⟩, fun _ h => absurd h List.not_mem_nil⟩⟩⟩)) (by decide) (by decide) (hts _ q335) (va_Nw.use rfl (hE.2.1 _ n547)) hce hv9 hcl ?_
      refine lv_astore (lv' := [(5, .ref q9), (0, .ref (ad 0)), (1, .int 9), (2, .int p2), (3, .int p3), (4, .int p4)]) hx hb dL_call_411 hl (by decide) rfl (fun ls hl => ?_)
      refine lv_sipush (v := (-1004)) hx hb dL_call_413 (by decide) ?_
      cases hf
      exact endw_i hAe hQm hx hb hr hlocks rfl hP hD hS dL_call_416 (Nat.le_of_ble_eq_true rfl) (Nat.le_of_ble_eq_true rfl)
    have hf := br_neg c8 hf
    by_cases c9 : n3 = 5
    · subst c9
      have hf := br_pos rfl hf
      refine cw_vi_err (rest := []) (m_C_blockAt l hst ca ad bq nF nO nL nA nC nV nU nP nE bF bO bL bA bC bV bU bP bE cT cK cO cQ cD pT pK pR pW pU pI pC uO uF uE uN wK jM jN jZ jB R _ p2 p3 (.error 5) h2) ⟨hx, hb, hml, hown, hts⟩ (cwV 2 hts (gV q624 q625 q626 q24 q627) rfl rfl rfl (by decide +kernel) ⟨Nat.le_of_ble_eq_true rfl, Nat.le_of_ble_eq_true rfl⟩) (va_recv hK hP (ci := 7) (q0 := 0) rfl rfl) hE hP hD hS hA hZ rfl hl.1 rfl (lv_room (Nat.le_of_ble_eq_true rfl)) dL_call_222 ⟨Nat.le_of_ble_eq_true rfl, Nat.le_of_ble_eq_true rfl⟩ (fun H locs q9 ce hP hD hS hce hv9 hcl => ?_)
      refine vx_catch (E := "java/util/NoSuchElementException") hown ((tableOf HH).take 149) ⟨219, 225, 417, 130⟩ ((tableOf HH).drop (149 + 1)) (htab.trans (sp_at (n := 149) hh149)) (hp_of [(122, "java/lang/IndexOutOfBoundsException"), (124, "java/lang/IllegalArgumentException"), (126, "java/lang/IllegalStateException"), (128, "java/lang/UnsupportedOperationException")] (by decide +kernel) (List.forall_mem_cons.mpr ⟨⟨hts _ q254, hNC _ nc_5_3⟩, List.forall_mem_cons.mpr ⟨⟨hts _ q333, hNC _ nc_5_1⟩, List.forall_mem_cons.mpr ⟨⟨hts _ q334, hNC _ nc_5_2⟩, List.forall_mem_cons.mpr ⟨⟨hts _ q335, hNC _ nc_5_4⟩, fun _ h => absurd h List.not_mem_nil⟩⟩⟩⟩)) (by decide) (by decide) (hts _ q336) (va_Nw.use rfl (hE.2.1 _ n606)) hce hv9 hcl ?_
      refine lv_astore (lv' := [(5, .ref q9), (0, .ref (ad 0)), (1, .int 9), (2, .int p2), (3, .int p3), (4, .int p4)]) hx hb dL_call_417 hl (by decide) rfl (fun ls hl => ?_)
      refine lv_sipush (v := (-1005)) hx hb dL_call_419 (by decide) ?_
      cases hf
      exact endw_i hAe hQm hx hb hr hlocks rfl hP hD hS dL_call_422 (Nat.le_of_ble_eq_true rfl) (Nat.le_of_ble_eq_true rfl)
    have hf := br_neg c9 hf
    cases hf
  refine cw_vi_ok (rest := []) (m_C_blockAt l hst ca ad bq nF nO nL nA nC nV nU nP nE bF bO bL bA bC bV bU bP bE cT cK cO cQ cD pT pK pR pW pU pI pC uO uF uE uN wK jM jN jZ jB R _ p2 p3 (.ok r4) h2) ⟨hx, hb, hml, hown, hts⟩ (cwV 2 hts (gV q624 q625 q626 q24 q627) rfl rfl rfl (by decide +kernel) ⟨Nat.le_of_ble_eq_true rfl, Nat.le_of_ble_eq_true rfl⟩) (va_recv hK hP (ci := 7) (q0 := 0) rfl rfl) hE hP hD hS hA hZ rfl hl.1 rfl (lv_room (Nat.le_of_ble_eq_true rfl)) dL_call_222 ⟨Nat.le_of_ble_eq_true rfl, Nat.le_of_ble_eq_true rfl⟩ (fun H locs hP hD hS => ?_)
  cases hf
  exact endw_i hAe hQm hx hb hr hlocks rfl hP hD hS dL_call_225 (Nat.le_of_ble_eq_true rfl) (Nat.le_of_ble_eq_true rfl)
def f_K10 (p2 : Int32) (nF : Int32) (nC : Nat → Int32) : Option (Int32) :=
  (f_C_blocksOf p2 nF nC).bind fun x1 =>
  match x1 with
  | .error n3 => if n3 = 3 then some (-1001) else if n3 = 1 then some (-1002) else if n3 = 2 then some (-1003) else if n3 = 4 then some (-1004) else if n3 = 5 then some (-1005) else none
  | .ok r4 =>
  some r4
set_option maxHeartbeats 4000000 in
set_option maxRecDepth 100000 in
theorem m_K10 (l : Launch) (hst : l.stackTraces = false) {D : va_G} (ca : Nat → ClassId) (ad : Nat → Nat) (bq : Nat) (nF : Int32) (nO : Nat → Int32) (nL : Nat → Int32) (nA : Nat → Int32) (nC : Nat → Int32) (nV : Nat → Int32) (nU : Nat → Int32) (nP : Nat → Int32) (nE : Int32) (bF : Int32) (bO : Nat → Int32) (bL : Nat → Int32) (bA : Nat → Int32) (bC : Nat → Int32) (bV : Nat → Int32) (bU : Nat → Int32) (bP : Nat → Int32) (bE : Int32) (cT : Int32) (cK : Nat → Int32) (cO : Int32) (cQ : Nat → Int32) (cD : Int32) (pT : Int32) (pK : Int32) (pR : Nat → Int32) (pW : Nat → Int32) (pU : Nat → Int32) (pI : Nat → Int32) (pC : Nat → Nat → Int32) (uO : Int32) (uF : Nat → Int32) (uE : Nat → Int32) (uN : Nat → Int32) (wK : Nat → Int32) (jM : Int32) (jN : Int32) (jZ : Nat) (jB : Nat → Int32) (R : va_W) (sz : Nat) (p2 : Int32) (p3 : Int32) (p4 : Int32) (ro : Int32) (hf : f_K10 p2 nF nC = some ro) : vx_Met l yL_call (wmW yL_call cL_call 6 (some .int) HH) ({ frames := 8, cells := 1, slots := 6, locals := 134 } : Room) (PREL [.ref (ad 0), .int 10, .int p2, .int p3, .int p4] D ca SL0 (WC ca ad bq nF nO nL nA nC nV nU nP nE bF bO bL bA bC bV bU bP bE cT cK cO cQ cD pT pK pR pW pU pI pC uO uF uE uN wK jM jN jZ jB ++ R) sz) (QI ro D (WC ca ad bq nF nO nL nA nC nV nU nP nE bF bO bL bA bC bV bU bP bE cT cK cO cQ cD pT pK pR pW pU pI pC uO uF uE uN wK jM jN jZ jB ++ R) (WC ca ad bq nF nO nL nA nC nV nU nP nE bF bO bL bA bC bV bU bP bE cT cK cO cQ cD pT pK pR pW pU pI pC uO uF uE uN wK jM jN jZ jB ++ R) sz) (fun _ _ _ => False) 1 6 (va_A (WC ca ad bq nF nO nL nA nC nV nU nP nE bF bO bL bA bC bV bU bP bE cT cK cO cQ cD pT pK pR pW pU pI pC uO uF uE uN wK jM jN jZ jB ++ R) sz) := by
  refine vx_ofWH (cc := cL_call) (maxL := 6) (ret := (some .int)) (hh := HH) (by decide) rfl ?_
  intro p e s m args below meth c s₁ B hml hv
  obtain ⟨rfl, rfl, hP, hE, hD0, hZ, hNC⟩ := hv
  have hx := B.exec
  have hb := B.bytes
  have hr := B.returns
  have hts0 := atoms_spec (ws := wmW yL_call cL_call 6 (some .int) HH) B.pre
  have hts := wmW_ww hts0
  have htab := vx_table (x := yL_call) B (hts0 _ List.mem_cons_self)
  have hown : s.vm.findClass RL = some m.cls := findClass_of_methodNamed B.named
  have hlocks := B.notSynchronized
  have hK := hE.1
  have hD := hD0.self (sz := s.heap.size)
  generalize hAe : va_A (WC ca ad bq nF nO nL nA nC nV nU nP nE bF bO bL bA bC bV bU bP bE cT cK cO cQ cD pT pK pR pW pU pI pC uO uF uE uN wK jM jN jZ jB ++ R) s.heap.size = A at hD hZ ⊢
  have hA : ∀ q : Nat, s.heap.size ≤ q → A q := fun q h => by rw [← hAe]; exact Or.inr h
  have hS : va_S A s.heap s.heap [] := va_S.rf
  have hl := lv_entry ([.ref (ad 0), .int 10, .int p2, .int p3, .int p4]) (n := 6) (Nat.le_of_ble_eq_true rfl)
  rw [lg_entry_eq]
  generalize (lg_sl ([.ref (ad 0), .int 10, .int p2, .int p3, .int p4]) ++ List.replicate (6 - (lg_sl ([.ref (ad 0), .int 10, .int p2, .int p3, .int p4])).length) Slot.unset).toArray = ls at hl ⊢
  have hl : lv_has ls 6 [(0, .ref (ad 0)), (1, .int 10), (2, .int p2), (3, .int p3), (4, .int p4)] := hl
  change W p l e ({ frames := 8, cells := 1, slots := 6, locals := 134 } : Room) s m _ below meth c s.heap [] 0 0 _ _
  generalize hQm : vx_MQ below (QI ro D (WC ca ad bq nF nO nL nA nC nV nU nP nE bF bO bL bA bC bV bU bP bE cT cK cO cQ cD pT pK pR pW pU pI pC uO uF uE uN wK jM jN jZ jB ++ R) (WC ca ad bq nF nO nL nA nC nV nU nP nE bF bO bL bA bC bV bU bP bE cT cK cO cQ cD pT pK pR pW pU pI pC uO uF uE uN wK jM jN jZ jB ++ R) s.heap.size) (fun _ _ _ => False) _ s 1 6 A = Qm
  have hP : va_P D vwCl (WC ca ad bq nF nO nL nA nC nV nU nP nE bF bO bL bA bC bV bU bP bE cT cK cO cQ cD pT pK pR pW pU pI pC uO uF uE uN wK jM jN jZ jB ++ R) s.heap := hP
  generalize hae : ([.ref (ad 0), .int 10, .int p2, .int p3, .int p4] : List Value).toArray = args at hts hQm ⊢
  refine lv_iload_n hx hb dL_call_0 rfl (lv_at hl 1 rfl) ?_
  refine lv_tableIn (off := 225) (tgt := 226) hx hb dL_call_1 (by decide) (by decide) rfl (by decide) ?_
  refine lv_aload_n hx hb dL_call_226 rfl (lv_at hl 0 rfl) ?_
  refine lv_iload_n hx hb dL_call_227 rfl (lv_at hl 2 rfl) ?_
  obtain ⟨x1, h2, hf⟩ := bnd hf
  rcases x1 with n3 | r4
  · have hf : (if n3 = 3 then some (-1001) else if n3 = 1 then some (-1002) else if n3 = 2 then some (-1003) else if n3 = 4 then some (-1004) else if n3 = 5 then some (-1005) else none) = some ro := hf
    by_cases c5 : n3 = 3
    · subst c5
      have hf := br_pos rfl hf
      refine cw_vi_err (rest := []) (m_C_blocksOf l hst ca ad bq nF nO nL nA nC nV nU nP nE bF bO bL bA bC bV bU bP bE cT cK cO cQ cD pT pK pR pW pU pI pC uO uF uE uN wK jM jN jZ jB R _ p2 (.error 3) h2) ⟨hx, hb, hml, hown, hts⟩ (cwV 1 hts (gV q628 q629 q630 q24 q631) rfl rfl rfl (by decide +kernel) ⟨Nat.le_of_ble_eq_true rfl, Nat.le_of_ble_eq_true rfl⟩) (va_recv hK hP (ci := 7) (q0 := 0) rfl rfl) hE hP hD hS hA hZ rfl hl.1 rfl (lv_room (Nat.le_of_ble_eq_true rfl)) dL_call_228 ⟨Nat.le_of_ble_eq_true rfl, Nat.le_of_ble_eq_true rfl⟩ (fun H locs q9 ce hP hD hS hce hv9 hcl => ?_)
      refine vx_catch (E := "java/lang/IndexOutOfBoundsException") hown ((tableOf HH).take 10) ⟨226, 231, 393, 122⟩ ((tableOf HH).drop (10 + 1)) (htab.trans (sp_at (n := 10) hh10)) (hp_of [] (by decide +kernel) (fun _ h => absurd h List.not_mem_nil)) (by decide) (by decide) (hts _ q254) (va_Nw.use rfl (hE.2.1 _ n392)) hce hv9 hcl ?_
      refine lv_astore (lv' := [(5, .ref q9), (0, .ref (ad 0)), (1, .int 10), (2, .int p2), (3, .int p3), (4, .int p4)]) hx hb dL_call_393 hl (by decide) rfl (fun ls hl => ?_)
      refine lv_sipush (v := (-1001)) hx hb dL_call_395 (by decide) ?_
      cases hf
      exact endw_i hAe hQm hx hb hr hlocks rfl hP hD hS dL_call_398 (Nat.le_of_ble_eq_true rfl) (Nat.le_of_ble_eq_true rfl)
    have hf := br_neg c5 hf
    by_cases c6 : n3 = 1
    · subst c6
      have hf := br_pos rfl hf
      refine cw_vi_err (rest := []) (m_C_blocksOf l hst ca ad bq nF nO nL nA nC nV nU nP nE bF bO bL bA bC bV bU bP bE cT cK cO cQ cD pT pK pR pW pU pI pC uO uF uE uN wK jM jN jZ jB R _ p2 (.error 1) h2) ⟨hx, hb, hml, hown, hts⟩ (cwV 1 hts (gV q628 q629 q630 q24 q631) rfl rfl rfl (by decide +kernel) ⟨Nat.le_of_ble_eq_true rfl, Nat.le_of_ble_eq_true rfl⟩) (va_recv hK hP (ci := 7) (q0 := 0) rfl rfl) hE hP hD hS hA hZ rfl hl.1 rfl (lv_room (Nat.le_of_ble_eq_true rfl)) dL_call_228 ⟨Nat.le_of_ble_eq_true rfl, Nat.le_of_ble_eq_true rfl⟩ (fun H locs q9 ce hP hD hS hce hv9 hcl => ?_)
      refine vx_catch (E := "java/lang/IllegalArgumentException") hown ((tableOf HH).take 45) ⟨226, 231, 399, 124⟩ ((tableOf HH).drop (45 + 1)) (htab.trans (sp_at (n := 45) hh45)) (hp_of [(122, "java/lang/IndexOutOfBoundsException")] (by decide +kernel) (List.forall_mem_cons.mpr ⟨⟨hts _ q254, hNC _ nc_1_3⟩, fun _ h => absurd h List.not_mem_nil⟩)) (by decide) (by decide) (hts _ q333) (va_Nw.use rfl (hE.2.1 _ n347)) hce hv9 hcl ?_
      refine lv_astore (lv' := [(5, .ref q9), (0, .ref (ad 0)), (1, .int 10), (2, .int p2), (3, .int p3), (4, .int p4)]) hx hb dL_call_399 hl (by decide) rfl (fun ls hl => ?_)
      refine lv_sipush (v := (-1002)) hx hb dL_call_401 (by decide) ?_
      cases hf
      exact endw_i hAe hQm hx hb hr hlocks rfl hP hD hS dL_call_404 (Nat.le_of_ble_eq_true rfl) (Nat.le_of_ble_eq_true rfl)
    have hf := br_neg c6 hf
    by_cases c7 : n3 = 2
    · subst c7
      have hf := br_pos rfl hf
      refine cw_vi_err (rest := []) (m_C_blocksOf l hst ca ad bq nF nO nL nA nC nV nU nP nE bF bO bL bA bC bV bU bP bE cT cK cO cQ cD pT pK pR pW pU pI pC uO uF uE uN wK jM jN jZ jB R _ p2 (.error 2) h2) ⟨hx, hb, hml, hown, hts⟩ (cwV 1 hts (gV q628 q629 q630 q24 q631) rfl rfl rfl (by decide +kernel) ⟨Nat.le_of_ble_eq_true rfl, Nat.le_of_ble_eq_true rfl⟩) (va_recv hK hP (ci := 7) (q0 := 0) rfl rfl) hE hP hD hS hA hZ rfl hl.1 rfl (lv_room (Nat.le_of_ble_eq_true rfl)) dL_call_228 ⟨Nat.le_of_ble_eq_true rfl, Nat.le_of_ble_eq_true rfl⟩ (fun H locs q9 ce hP hD hS hce hv9 hcl => ?_)
      refine vx_catch (E := "java/lang/IllegalStateException") hown ((tableOf HH).take 80) ⟨226, 231, 405, 126⟩ ((tableOf HH).drop (80 + 1)) (htab.trans (sp_at (n := 80) hh80)) (hp_of [(122, "java/lang/IndexOutOfBoundsException"), (124, "java/lang/IllegalArgumentException")] (by decide +kernel) (List.forall_mem_cons.mpr ⟨⟨hts _ q254, hNC _ nc_2_3⟩, List.forall_mem_cons.mpr ⟨⟨hts _ q333, hNC _ nc_2_1⟩, fun _ h => absurd h List.not_mem_nil⟩⟩)) (by decide) (by decide) (hts _ q334) (va_Nw.use rfl (hE.2.1 _ n367)) hce hv9 hcl ?_
      refine lv_astore (lv' := [(5, .ref q9), (0, .ref (ad 0)), (1, .int 10), (2, .int p2), (3, .int p3), (4, .int p4)]) hx hb dL_call_405 hl (by decide) rfl (fun ls hl => ?_)
      refine lv_sipush (v := (-1003)) hx hb dL_call_407 (by decide) ?_
      cases hf
      exact endw_i hAe hQm hx hb hr hlocks rfl hP hD hS dL_call_410 (Nat.le_of_ble_eq_true rfl) (Nat.le_of_ble_eq_true rfl)
    have hf := br_neg c7 hf
    by_cases c8 : n3 = 4
    · subst c8
      have hf := br_pos rfl hf
      refine cw_vi_err (rest := []) (m_C_blocksOf l hst ca ad bq nF nO nL nA nC nV nU nP nE bF bO bL bA bC bV bU bP bE cT cK cO cQ cD pT pK pR pW pU pI pC uO uF uE uN wK jM jN jZ jB R _ p2 (.error 4) h2) ⟨hx, hb, hml, hown, hts⟩ (cwV 1 hts (gV q628 q629 q630 q24 q631) rfl rfl rfl (by decide +kernel) ⟨Nat.le_of_ble_eq_true rfl, Nat.le_of_ble_eq_true rfl⟩) (va_recv hK hP (ci := 7) (q0 := 0) rfl rfl) hE hP hD hS hA hZ rfl hl.1 rfl (lv_room (Nat.le_of_ble_eq_true rfl)) dL_call_228 ⟨Nat.le_of_ble_eq_true rfl, Nat.le_of_ble_eq_true rfl⟩ (fun H locs q9 ce hP hD hS hce hv9 hcl => ?_)
      refine vx_catch (E := "java/lang/UnsupportedOperationException") hown ((tableOf HH).take 115) ⟨226, 231, 411, 128⟩ ((tableOf HH).drop (115 + 1)) (htab.trans (sp_at (n := 115) hh115)) (hp_of [(122, "java/lang/IndexOutOfBoundsException"), (124, "java/lang/IllegalArgumentException"), (126, "java/lang/IllegalStateException")] (by decide +kernel) (List.forall_mem_cons.mpr ⟨⟨hts _ q254, hNC _ nc_4_3⟩, List.forall_mem_cons.mpr ⟨⟨hts _ q333, hNC _ nc_4_1⟩, List.forall_mem_cons.mpr ⟨⟨hts _ q334, hNC _ nc_4_2⟩, fun _ h => absurd h List.not_mem_nil⟩⟩⟩)) (by decide) (by decide) (hts _ q335) (va_Nw.use rfl (hE.2.1 _ n547)) hce hv9 hcl ?_
      refine lv_astore (lv' := [(5, .ref q9), (0, .ref (ad 0)), (1, .int 10), (2, .int p2), (3, .int p3), (4, .int p4)]) hx hb dL_call_411 hl (by decide) rfl (fun ls hl => ?_)
      refine lv_sipush (v := (-1004)) hx hb dL_call_413 (by decide) ?_
      cases hf
      exact endw_i hAe hQm hx hb hr hlocks rfl hP hD hS dL_call_416 (Nat.le_of_ble_eq_true rfl) (Nat.le_of_ble_eq_true rfl)
    have hf := br_neg c8 hf
    by_cases c9 : n3 = 5
    · subst c9
      have hf := br_pos rfl hf
      refine cw_vi_err (rest := []) (m_C_blocksOf l hst ca ad bq nF nO nL nA nC nV nU nP nE bF bO bL bA bC bV bU bP bE cT cK cO cQ cD pT pK pR pW pU pI pC uO uF uE uN wK jM jN jZ jB R _ p2 (.error 5) h2) ⟨hx, hb, hml, hown, hts⟩ (cwV 1 hts (gV q628 q629 q630 q24 q631) rfl rfl rfl (by decide +kernel) ⟨Nat.le_of_ble_eq_true rfl, Nat.le_of_ble_eq_true rfl⟩) (va_recv hK hP (ci := 7) (q0 := 0) rfl rfl) hE hP hD hS hA hZ rfl hl.1 rfl (lv_room (Nat.le_of_ble_eq_true rfl)) dL_call_228 ⟨Nat.le_of_ble_eq_true rfl, Nat.le_of_ble_eq_true rfl⟩ (fun H locs q9 ce hP hD hS hce hv9 hcl => ?_)
      refine vx_catch (E := "java/util/NoSuchElementException") hown ((tableOf HH).take 150) ⟨226, 231, 417, 130⟩ ((tableOf HH).drop (150 + 1)) (htab.trans (sp_at (n := 150) hh150)) (hp_of [(122, "java/lang/IndexOutOfBoundsException"), (124, "java/lang/IllegalArgumentException"), (126, "java/lang/IllegalStateException"), (128, "java/lang/UnsupportedOperationException")] (by decide +kernel) (List.forall_mem_cons.mpr ⟨⟨hts _ q254, hNC _ nc_5_3⟩, List.forall_mem_cons.mpr ⟨⟨hts _ q333, hNC _ nc_5_1⟩, List.forall_mem_cons.mpr ⟨⟨hts _ q334, hNC _ nc_5_2⟩, List.forall_mem_cons.mpr ⟨⟨hts _ q335, hNC _ nc_5_4⟩, fun _ h => absurd h List.not_mem_nil⟩⟩⟩⟩)) (by decide) (by decide) (hts _ q336) (va_Nw.use rfl (hE.2.1 _ n606)) hce hv9 hcl ?_
      refine lv_astore (lv' := [(5, .ref q9), (0, .ref (ad 0)), (1, .int 10), (2, .int p2), (3, .int p3), (4, .int p4)]) hx hb dL_call_417 hl (by decide) rfl (fun ls hl => ?_)
      refine lv_sipush (v := (-1005)) hx hb dL_call_419 (by decide) ?_
      cases hf
      exact endw_i hAe hQm hx hb hr hlocks rfl hP hD hS dL_call_422 (Nat.le_of_ble_eq_true rfl) (Nat.le_of_ble_eq_true rfl)
    have hf := br_neg c9 hf
    cases hf
  refine cw_vi_ok (rest := []) (m_C_blocksOf l hst ca ad bq nF nO nL nA nC nV nU nP nE bF bO bL bA bC bV bU bP bE cT cK cO cQ cD pT pK pR pW pU pI pC uO uF uE uN wK jM jN jZ jB R _ p2 (.ok r4) h2) ⟨hx, hb, hml, hown, hts⟩ (cwV 1 hts (gV q628 q629 q630 q24 q631) rfl rfl rfl (by decide +kernel) ⟨Nat.le_of_ble_eq_true rfl, Nat.le_of_ble_eq_true rfl⟩) (va_recv hK hP (ci := 7) (q0 := 0) rfl rfl) hE hP hD hS hA hZ rfl hl.1 rfl (lv_room (Nat.le_of_ble_eq_true rfl)) dL_call_228 ⟨Nat.le_of_ble_eq_true rfl, Nat.le_of_ble_eq_true rfl⟩ (fun H locs hP hD hS => ?_)
  cases hf
  exact endw_i hAe hQm hx hb hr hlocks rfl hP hD hS dL_call_231 (Nat.le_of_ble_eq_true rfl) (Nat.le_of_ble_eq_true rfl)
def f_K11 (p2 : Int32) (nF : Int32) (nO : Nat → Int32) (nC : Nat → Int32) (cO : Int32) : Option (Int32) :=
  (f_C_usedBy p2 nF nO nC cO).bind fun x1 =>
  match x1 with
  | .error n3 => if n3 = 3 then some (-1001) else if n3 = 1 then some (-1002) else if n3 = 2 then some (-1003) else if n3 = 4 then some (-1004) else if n3 = 5 then some (-1005) else none
  | .ok r4 =>
  some r4
set_option maxHeartbeats 4000000 in
set_option maxRecDepth 100000 in
theorem m_K11 (l : Launch) (hst : l.stackTraces = false) {D : va_G} (ca : Nat → ClassId) (ad : Nat → Nat) (bq : Nat) (nF : Int32) (nO : Nat → Int32) (nL : Nat → Int32) (nA : Nat → Int32) (nC : Nat → Int32) (nV : Nat → Int32) (nU : Nat → Int32) (nP : Nat → Int32) (nE : Int32) (bF : Int32) (bO : Nat → Int32) (bL : Nat → Int32) (bA : Nat → Int32) (bC : Nat → Int32) (bV : Nat → Int32) (bU : Nat → Int32) (bP : Nat → Int32) (bE : Int32) (cT : Int32) (cK : Nat → Int32) (cO : Int32) (cQ : Nat → Int32) (cD : Int32) (pT : Int32) (pK : Int32) (pR : Nat → Int32) (pW : Nat → Int32) (pU : Nat → Int32) (pI : Nat → Int32) (pC : Nat → Nat → Int32) (uO : Int32) (uF : Nat → Int32) (uE : Nat → Int32) (uN : Nat → Int32) (wK : Nat → Int32) (jM : Int32) (jN : Int32) (jZ : Nat) (jB : Nat → Int32) (R : va_W) (sz : Nat) (p2 : Int32) (p3 : Int32) (p4 : Int32) (ro : Int32) (hf : f_K11 p2 nF nO nC cO = some ro) : vx_Met l yL_call (wmW yL_call cL_call 6 (some .int) HH) ({ frames := 8, cells := 1, slots := 6, locals := 132 } : Room) (PREL [.ref (ad 0), .int 11, .int p2, .int p3, .int p4] D ca SL0 (WC ca ad bq nF nO nL nA nC nV nU nP nE bF bO bL bA bC bV bU bP bE cT cK cO cQ cD pT pK pR pW pU pI pC uO uF uE uN wK jM jN jZ jB ++ R) sz) (QI ro D (WC ca ad bq nF nO nL nA nC nV nU nP nE bF bO bL bA bC bV bU bP bE cT cK cO cQ cD pT pK pR pW pU pI pC uO uF uE uN wK jM jN jZ jB ++ R) (WC ca ad bq nF nO nL nA nC nV nU nP nE bF bO bL bA bC bV bU bP bE cT cK cO cQ cD pT pK pR pW pU pI pC uO uF uE uN wK jM jN jZ jB ++ R) sz) (fun _ _ _ => False) 1 6 (va_A (WC ca ad bq nF nO nL nA nC nV nU nP nE bF bO bL bA bC bV bU bP bE cT cK cO cQ cD pT pK pR pW pU pI pC uO uF uE uN wK jM jN jZ jB ++ R) sz) := by
  refine vx_ofWH (cc := cL_call) (maxL := 6) (ret := (some .int)) (hh := HH) (by decide) rfl ?_
  intro p e s m args below meth c s₁ B hml hv
  obtain ⟨rfl, rfl, hP, hE, hD0, hZ, hNC⟩ := hv
  have hx := B.exec
  have hb := B.bytes
  have hr := B.returns
  have hts0 := atoms_spec (ws := wmW yL_call cL_call 6 (some .int) HH) B.pre
  have hts := wmW_ww hts0
  have htab := vx_table (x := yL_call) B (hts0 _ List.mem_cons_self)
  have hown : s.vm.findClass RL = some m.cls := findClass_of_methodNamed B.named
  have hlocks := B.notSynchronized
  have hK := hE.1
  have hD := hD0.self (sz := s.heap.size)
  generalize hAe : va_A (WC ca ad bq nF nO nL nA nC nV nU nP nE bF bO bL bA bC bV bU bP bE cT cK cO cQ cD pT pK pR pW pU pI pC uO uF uE uN wK jM jN jZ jB ++ R) s.heap.size = A at hD hZ ⊢
  have hA : ∀ q : Nat, s.heap.size ≤ q → A q := fun q h => by rw [← hAe]; exact Or.inr h
  have hS : va_S A s.heap s.heap [] := va_S.rf
  have hl := lv_entry ([.ref (ad 0), .int 11, .int p2, .int p3, .int p4]) (n := 6) (Nat.le_of_ble_eq_true rfl)
  rw [lg_entry_eq]
  generalize (lg_sl ([.ref (ad 0), .int 11, .int p2, .int p3, .int p4]) ++ List.replicate (6 - (lg_sl ([.ref (ad 0), .int 11, .int p2, .int p3, .int p4])).length) Slot.unset).toArray = ls at hl ⊢
  have hl : lv_has ls 6 [(0, .ref (ad 0)), (1, .int 11), (2, .int p2), (3, .int p3), (4, .int p4)] := hl
  change W p l e ({ frames := 8, cells := 1, slots := 6, locals := 132 } : Room) s m _ below meth c s.heap [] 0 0 _ _
  generalize hQm : vx_MQ below (QI ro D (WC ca ad bq nF nO nL nA nC nV nU nP nE bF bO bL bA bC bV bU bP bE cT cK cO cQ cD pT pK pR pW pU pI pC uO uF uE uN wK jM jN jZ jB ++ R) (WC ca ad bq nF nO nL nA nC nV nU nP nE bF bO bL bA bC bV bU bP bE cT cK cO cQ cD pT pK pR pW pU pI pC uO uF uE uN wK jM jN jZ jB ++ R) s.heap.size) (fun _ _ _ => False) _ s 1 6 A = Qm
  have hP : va_P D vwCl (WC ca ad bq nF nO nL nA nC nV nU nP nE bF bO bL bA bC bV bU bP bE cT cK cO cQ cD pT pK pR pW pU pI pC uO uF uE uN wK jM jN jZ jB ++ R) s.heap := hP
  generalize hae : ([.ref (ad 0), .int 11, .int p2, .int p3, .int p4] : List Value).toArray = args at hts hQm ⊢
  refine lv_iload_n hx hb dL_call_0 rfl (lv_at hl 1 rfl) ?_
  refine lv_tableIn (off := 231) (tgt := 232) hx hb dL_call_1 (by decide) (by decide) rfl (by decide) ?_
  refine lv_aload_n hx hb dL_call_232 rfl (lv_at hl 0 rfl) ?_
  refine lv_iload_n hx hb dL_call_233 rfl (lv_at hl 2 rfl) ?_
  obtain ⟨x1, h2, hf⟩ := bnd hf
  rcases x1 with n3 | r4
  · have hf : (if n3 = 3 then some (-1001) else if n3 = 1 then some (-1002) else if n3 = 2 then some (-1003) else if n3 = 4 then some (-1004) else if n3 = 5 then some (-1005) else none) = some ro := hf
    by_cases c5 : n3 = 3
    · subst c5
      have hf := br_pos rfl hf
      refine cw_vi_err (rest := []) (m_C_usedBy l hst ca ad bq nF nO nL nA nC nV nU nP nE bF bO bL bA bC bV bU bP bE cT cK cO cQ cD pT pK pR pW pU pI pC uO uF uE uN wK jM jN jZ jB R _ p2 (.error 3) h2) ⟨hx, hb, hml, hown, hts⟩ (cwV 1 hts (gV q632 q633 q634 q24 q635) rfl rfl rfl (by decide +kernel) ⟨Nat.le_of_ble_eq_true rfl, Nat.le_of_ble_eq_true rfl⟩) (va_recv hK hP (ci := 7) (q0 := 0) rfl rfl) hE hP hD hS hA hZ rfl hl.1 rfl (lv_room (Nat.le_of_ble_eq_true rfl)) dL_call_234 ⟨Nat.le_of_ble_eq_true rfl, Nat.le_of_ble_eq_true rfl⟩ (fun H locs q9 ce hP hD hS hce hv9 hcl => ?_)
      refine vx_catch (E := "java/lang/IndexOutOfBoundsException") hown ((tableOf HH).take 11) ⟨232, 237, 393, 122⟩ ((tableOf HH).drop (11 + 1)) (htab.trans (sp_at (n := 11) hh11)) (hp_of [] (by decide +kernel) (fun _ h => absurd h List.not_mem_nil)) (by decide) (by decide) (hts _ q254) (va_Nw.use rfl (hE.2.1 _ n392)) hce hv9 hcl ?_
      refine lv_astore (lv' := [(5, .ref q9), (0, .ref (ad 0)), (1, .int 11), (2, .int p2), (3, .int p3), (4, .int p4)]) hx hb dL_call_393 hl (by decide) rfl (fun ls hl => ?_)
      refine lv_sipush (v := (-1001)) hx hb dL_call_395 (by decide) ?_
      cases hf
      exact endw_i hAe hQm hx hb hr hlocks rfl hP hD hS dL_call_398 (Nat.le_of_ble_eq_true rfl) (Nat.le_of_ble_eq_true rfl)
    have hf := br_neg c5 hf
    by_cases c6 : n3 = 1
    · subst c6
      have hf := br_pos rfl hf
      refine cw_vi_err (rest := []) (m_C_usedBy l hst ca ad bq nF nO nL nA nC nV nU nP nE bF bO bL bA bC bV bU bP bE cT cK cO cQ cD pT pK pR pW pU pI pC uO uF uE uN wK jM jN jZ jB R _ p2 (.error 1) h2) ⟨hx, hb, hml, hown, hts⟩ (cwV 1 hts (gV q632 q633 q634 q24 q635) rfl rfl rfl (by decide +kernel) ⟨Nat.le_of_ble_eq_true rfl, Nat.le_of_ble_eq_true rfl⟩) (va_recv hK hP (ci := 7) (q0 := 0) rfl rfl) hE hP hD hS hA hZ rfl hl.1 rfl (lv_room (Nat.le_of_ble_eq_true rfl)) dL_call_234 ⟨Nat.le_of_ble_eq_true rfl, Nat.le_of_ble_eq_true rfl⟩ (fun H locs q9 ce hP hD hS hce hv9 hcl => ?_)
      refine vx_catch (E := "java/lang/IllegalArgumentException") hown ((tableOf HH).take 46) ⟨232, 237, 399, 124⟩ ((tableOf HH).drop (46 + 1)) (htab.trans (sp_at (n := 46) hh46)) (hp_of [(122, "java/lang/IndexOutOfBoundsException")] (by decide +kernel) (List.forall_mem_cons.mpr ⟨⟨hts _ q254, hNC _ nc_1_3⟩, fun _ h => absurd h List.not_mem_nil⟩)) (by decide) (by decide) (hts _ q333) (va_Nw.use rfl (hE.2.1 _ n347)) hce hv9 hcl ?_
      refine lv_astore (lv' := [(5, .ref q9), (0, .ref (ad 0)), (1, .int 11), (2, .int p2), (3, .int p3), (4, .int p4)]) hx hb dL_call_399 hl (by decide) rfl (fun ls hl => ?_)
      refine lv_sipush (v := (-1002)) hx hb dL_call_401 (by decide) ?_
      cases hf
      exact endw_i hAe hQm hx hb hr hlocks rfl hP hD hS dL_call_404 (Nat.le_of_ble_eq_true rfl) (Nat.le_of_ble_eq_true rfl)
    have hf := br_neg c6 hf
    by_cases c7 : n3 = 2
    · subst c7
      have hf := br_pos rfl hf
      refine cw_vi_err (rest := []) (m_C_usedBy l hst ca ad bq nF nO nL nA nC nV nU nP nE bF bO bL bA bC bV bU bP bE cT cK cO cQ cD pT pK pR pW pU pI pC uO uF uE uN wK jM jN jZ jB R _ p2 (.error 2) h2) ⟨hx, hb, hml, hown, hts⟩ (cwV 1 hts (gV q632 q633 q634 q24 q635) rfl rfl rfl (by decide +kernel) ⟨Nat.le_of_ble_eq_true rfl, Nat.le_of_ble_eq_true rfl⟩) (va_recv hK hP (ci := 7) (q0 := 0) rfl rfl) hE hP hD hS hA hZ rfl hl.1 rfl (lv_room (Nat.le_of_ble_eq_true rfl)) dL_call_234 ⟨Nat.le_of_ble_eq_true rfl, Nat.le_of_ble_eq_true rfl⟩ (fun H locs q9 ce hP hD hS hce hv9 hcl => ?_)
      refine vx_catch (E := "java/lang/IllegalStateException") hown ((tableOf HH).take 81) ⟨232, 237, 405, 126⟩ ((tableOf HH).drop (81 + 1)) (htab.trans (sp_at (n := 81) hh81)) (hp_of [(122, "java/lang/IndexOutOfBoundsException"), (124, "java/lang/IllegalArgumentException")] (by decide +kernel) (List.forall_mem_cons.mpr ⟨⟨hts _ q254, hNC _ nc_2_3⟩, List.forall_mem_cons.mpr ⟨⟨hts _ q333, hNC _ nc_2_1⟩, fun _ h => absurd h List.not_mem_nil⟩⟩)) (by decide) (by decide) (hts _ q334) (va_Nw.use rfl (hE.2.1 _ n367)) hce hv9 hcl ?_
      refine lv_astore (lv' := [(5, .ref q9), (0, .ref (ad 0)), (1, .int 11), (2, .int p2), (3, .int p3), (4, .int p4)]) hx hb dL_call_405 hl (by decide) rfl (fun ls hl => ?_)
      refine lv_sipush (v := (-1003)) hx hb dL_call_407 (by decide) ?_
      cases hf
      exact endw_i hAe hQm hx hb hr hlocks rfl hP hD hS dL_call_410 (Nat.le_of_ble_eq_true rfl) (Nat.le_of_ble_eq_true rfl)
    have hf := br_neg c7 hf
    by_cases c8 : n3 = 4
    · subst c8
      have hf := br_pos rfl hf
      refine cw_vi_err (rest := []) (m_C_usedBy l hst ca ad bq nF nO nL nA nC nV nU nP nE bF bO bL bA bC bV bU bP bE cT cK cO cQ cD pT pK pR pW pU pI pC uO uF uE uN wK jM jN jZ jB R _ p2 (.error 4) h2) ⟨hx, hb, hml, hown, hts⟩ (cwV 1 hts (gV q632 q633 q634 q24 q635) rfl rfl rfl (by decide +kernel) ⟨Nat.le_of_ble_eq_true rfl, Nat.le_of_ble_eq_true rfl⟩) (va_recv hK hP (ci := 7) (q0 := 0) rfl rfl) hE hP hD hS hA hZ rfl hl.1 rfl (lv_room (Nat.le_of_ble_eq_true rfl)) dL_call_234 ⟨Nat.le_of_ble_eq_true rfl, Nat.le_of_ble_eq_true rfl⟩ (fun H locs q9 ce hP hD hS hce hv9 hcl => ?_)
      refine vx_catch (E := "java/lang/UnsupportedOperationException") hown ((tableOf HH).take 116) ⟨232, 237, 411, 128⟩ ((tableOf HH).drop (116 + 1)) (htab.trans (sp_at (n := 116) hh116)) (hp_of [(122, "java/lang/IndexOutOfBoundsException"), (124, "java/lang/IllegalArgumentException"), (126, "java/lang/IllegalStateException")] (by decide +kernel) (List.forall_mem_cons.mpr ⟨⟨hts _ q254, hNC _ nc_4_3⟩, List.forall_mem_cons.mpr ⟨⟨hts _ q333, hNC _ nc_4_1⟩, List.forall_mem_cons.mpr ⟨⟨hts _ q334, hNC _ nc_4_2⟩, fun _ h => absurd h List.not_mem_nil⟩⟩⟩)) (by decide) (by decide) (hts _ q335) (va_Nw.use rfl (hE.2.1 _ n547)) hce hv9 hcl ?_
      refine lv_astore (lv' := [(5, .ref q9), (0, .ref (ad 0)), (1, .int 11), (2, .int p2), (3, .int p3), (4, .int p4)]) hx hb dL_call_411 hl (by decide) rfl (fun ls hl => ?_)
      refine lv_sipush (v := (-1004)) hx hb dL_call_413 (by decide) ?_
      cases hf
      exact endw_i hAe hQm hx hb hr hlocks rfl hP hD hS dL_call_416 (Nat.le_of_ble_eq_true rfl) (Nat.le_of_ble_eq_true rfl)
    have hf := br_neg c8 hf
    by_cases c9 : n3 = 5
    · subst c9
      have hf := br_pos rfl hf
      refine cw_vi_err (rest := []) (m_C_usedBy l hst ca ad bq nF nO nL nA nC nV nU nP nE bF bO bL bA bC bV bU bP bE cT cK cO cQ cD pT pK pR pW pU pI pC uO uF uE uN wK jM jN jZ jB R _ p2 (.error 5) h2) ⟨hx, hb, hml, hown, hts⟩ (cwV 1 hts (gV q632 q633 q634 q24 q635) rfl rfl rfl (by decide +kernel) ⟨Nat.le_of_ble_eq_true rfl, Nat.le_of_ble_eq_true rfl⟩) (va_recv hK hP (ci := 7) (q0 := 0) rfl rfl) hE hP hD hS hA hZ rfl hl.1 rfl (lv_room (Nat.le_of_ble_eq_true rfl)) dL_call_234 ⟨Nat.le_of_ble_eq_true rfl, Nat.le_of_ble_eq_true rfl⟩ (fun H locs q9 ce hP hD hS hce hv9 hcl => ?_)
      refine vx_catch (E := "java/util/NoSuchElementException") hown ((tableOf HH).take 151) ⟨232, 237, 417, 130⟩ ((tableOf HH).drop (151 + 1)) (htab.trans (sp_at (n := 151) hh151)) (hp_of [(122, "java/lang/IndexOutOfBoundsException"), (124, "java/lang/IllegalArgumentException"), (126, "java/lang/IllegalStateException"), (128, "java/lang/UnsupportedOperationException")] (by decide +kernel) (List.forall_mem_cons.mpr ⟨⟨hts _ q254, hNC _ nc_5_3⟩, List.forall_mem_cons.mpr ⟨⟨hts _ q333, hNC _ nc_5_1⟩, List.forall_mem_cons.mpr ⟨⟨hts _ q334, hNC _ nc_5_2⟩, List.forall_mem_cons.mpr ⟨⟨hts _ q335, hNC _ nc_5_4⟩, fun _ h => absurd h List.not_mem_nil⟩⟩⟩⟩)) (by decide) (by decide) (hts _ q336) (va_Nw.use rfl (hE.2.1 _ n606)) hce hv9 hcl ?_
      refine lv_astore (lv' := [(5, .ref q9), (0, .ref (ad 0)), (1, .int 11), (2, .int p2), (3, .int p3), (4, .int p4)]) hx hb dL_call_417 hl (by decide) rfl (fun ls hl => ?_)
      refine lv_sipush (v := (-1005)) hx hb dL_call_419 (by decide) ?_
      cases hf
      exact endw_i hAe hQm hx hb hr hlocks rfl hP hD hS dL_call_422 (Nat.le_of_ble_eq_true rfl) (Nat.le_of_ble_eq_true rfl)
    have hf := br_neg c9 hf
    cases hf
  refine cw_vi_ok (rest := []) (m_C_usedBy l hst ca ad bq nF nO nL nA nC nV nU nP nE bF bO bL bA bC bV bU bP bE cT cK cO cQ cD pT pK pR pW pU pI pC uO uF uE uN wK jM jN jZ jB R _ p2 (.ok r4) h2) ⟨hx, hb, hml, hown, hts⟩ (cwV 1 hts (gV q632 q633 q634 q24 q635) rfl rfl rfl (by decide +kernel) ⟨Nat.le_of_ble_eq_true rfl, Nat.le_of_ble_eq_true rfl⟩) (va_recv hK hP (ci := 7) (q0 := 0) rfl rfl) hE hP hD hS hA hZ rfl hl.1 rfl (lv_room (Nat.le_of_ble_eq_true rfl)) dL_call_234 ⟨Nat.le_of_ble_eq_true rfl, Nat.le_of_ble_eq_true rfl⟩ (fun H locs hP hD hS => ?_)
  cases hf
  exact endw_i hAe hQm hx hb hr hlocks rfl hP hD hS dL_call_237 (Nat.le_of_ble_eq_true rfl) (Nat.le_of_ble_eq_true rfl)
def f_K12 (p2 : Int32) (nU : Nat → Int32) : Option (Int32) :=
  (f_C_usersOf p2 nU).bind fun x1 =>
  match x1 with
  | .error n3 => if n3 = 3 then some (-1001) else if n3 = 1 then some (-1002) else if n3 = 2 then some (-1003) else if n3 = 4 then some (-1004) else if n3 = 5 then some (-1005) else none
  | .ok r4 =>
  some r4
set_option maxHeartbeats 4000000 in
set_option maxRecDepth 100000 in
theorem m_K12 (l : Launch) (hst : l.stackTraces = false) {D : va_G} (ca : Nat → ClassId) (ad : Nat → Nat) (bq : Nat) (nF : Int32) (nO : Nat → Int32) (nL : Nat → Int32) (nA : Nat → Int32) (nC : Nat → Int32) (nV : Nat → Int32) (nU : Nat → Int32) (nP : Nat → Int32) (nE : Int32) (bF : Int32) (bO : Nat → Int32) (bL : Nat → Int32) (bA : Nat → Int32) (bC : Nat → Int32) (bV : Nat → Int32) (bU : Nat → Int32) (bP : Nat → Int32) (bE : Int32) (cT : Int32) (cK : Nat → Int32) (cO : Int32) (cQ : Nat → Int32) (cD : Int32) (pT : Int32) (pK : Int32) (pR : Nat → Int32) (pW : Nat → Int32) (pU : Nat → Int32) (pI : Nat → Int32) (pC : Nat → Nat → Int32) (uO : Int32) (uF : Nat → Int32) (uE : Nat → Int32) (uN : Nat → Int32) (wK : Nat → Int32) (jM : Int32) (jN : Int32) (jZ : Nat) (jB : Nat → Int32) (R : va_W) (sz : Nat) (p2 : Int32) (p3 : Int32) (p4 : Int32) (ro : Int32) (hf : f_K12 p2 nU = some ro) : vx_Met l yL_call (wmW yL_call cL_call 6 (some .int) HH) ({ frames := 8, cells := 1, slots := 6, locals := 132 } : Room) (PREL [.ref (ad 0), .int 12, .int p2, .int p3, .int p4] D ca SL0 (WC ca ad bq nF nO nL nA nC nV nU nP nE bF bO bL bA bC bV bU bP bE cT cK cO cQ cD pT pK pR pW pU pI pC uO uF uE uN wK jM jN jZ jB ++ R) sz) (QI ro D (WC ca ad bq nF nO nL nA nC nV nU nP nE bF bO bL bA bC bV bU bP bE cT cK cO cQ cD pT pK pR pW pU pI pC uO uF uE uN wK jM jN jZ jB ++ R) (WC ca ad bq nF nO nL nA nC nV nU nP nE bF bO bL bA bC bV bU bP bE cT cK cO cQ cD pT pK pR pW pU pI pC uO uF uE uN wK jM jN jZ jB ++ R) sz) (fun _ _ _ => False) 1 6 (va_A (WC ca ad bq nF nO nL nA nC nV nU nP nE bF bO bL bA bC bV bU bP bE cT cK cO cQ cD pT pK pR pW pU pI pC uO uF uE uN wK jM jN jZ jB ++ R) sz) := by
  refine vx_ofWH (cc := cL_call) (maxL := 6) (ret := (some .int)) (hh := HH) (by decide) rfl ?_
  intro p e s m args below meth c s₁ B hml hv
  obtain ⟨rfl, rfl, hP, hE, hD0, hZ, hNC⟩ := hv
  have hx := B.exec
  have hb := B.bytes
  have hr := B.returns
  have hts0 := atoms_spec (ws := wmW yL_call cL_call 6 (some .int) HH) B.pre
  have hts := wmW_ww hts0
  have htab := vx_table (x := yL_call) B (hts0 _ List.mem_cons_self)
  have hown : s.vm.findClass RL = some m.cls := findClass_of_methodNamed B.named
  have hlocks := B.notSynchronized
  have hK := hE.1
  have hD := hD0.self (sz := s.heap.size)
  generalize hAe : va_A (WC ca ad bq nF nO nL nA nC nV nU nP nE bF bO bL bA bC bV bU bP bE cT cK cO cQ cD pT pK pR pW pU pI pC uO uF uE uN wK jM jN jZ jB ++ R) s.heap.size = A at hD hZ ⊢
  have hA : ∀ q : Nat, s.heap.size ≤ q → A q := fun q h => by rw [← hAe]; exact Or.inr h
  have hS : va_S A s.heap s.heap [] := va_S.rf
  have hl := lv_entry ([.ref (ad 0), .int 12, .int p2, .int p3, .int p4]) (n := 6) (Nat.le_of_ble_eq_true rfl)
  rw [lg_entry_eq]
  generalize (lg_sl ([.ref (ad 0), .int 12, .int p2, .int p3, .int p4]) ++ List.replicate (6 - (lg_sl ([.ref (ad 0), .int 12, .int p2, .int p3, .int p4])).length) Slot.unset).toArray = ls at hl ⊢
  have hl : lv_has ls 6 [(0, .ref (ad 0)), (1, .int 12), (2, .int p2), (3, .int p3), (4, .int p4)] := hl
  change W p l e ({ frames := 8, cells := 1, slots := 6, locals := 132 } : Room) s m _ below meth c s.heap [] 0 0 _ _
  generalize hQm : vx_MQ below (QI ro D (WC ca ad bq nF nO nL nA nC nV nU nP nE bF bO bL bA bC bV bU bP bE cT cK cO cQ cD pT pK pR pW pU pI pC uO uF uE uN wK jM jN jZ jB ++ R) (WC ca ad bq nF nO nL nA nC nV nU nP nE bF bO bL bA bC bV bU bP bE cT cK cO cQ cD pT pK pR pW pU pI pC uO uF uE uN wK jM jN jZ jB ++ R) s.heap.size) (fun _ _ _ => False) _ s 1 6 A = Qm
  have hP : va_P D vwCl (WC ca ad bq nF nO nL nA nC nV nU nP nE bF bO bL bA bC bV bU bP bE cT cK cO cQ cD pT pK pR pW pU pI pC uO uF uE uN wK jM jN jZ jB ++ R) s.heap := hP
  generalize hae : ([.ref (ad 0), .int 12, .int p2, .int p3, .int p4] : List Value).toArray = args at hts hQm ⊢
  refine lv_iload_n hx hb dL_call_0 rfl (lv_at hl 1 rfl) ?_
  refine lv_tableIn (off := 237) (tgt := 238) hx hb dL_call_1 (by decide) (by decide) rfl (by decide) ?_
  refine lv_aload_n hx hb dL_call_238 rfl (lv_at hl 0 rfl) ?_
  refine lv_iload_n hx hb dL_call_239 rfl (lv_at hl 2 rfl) ?_
  obtain ⟨x1, h2, hf⟩ := bnd hf
  rcases x1 with n3 | r4
  · have hf : (if n3 = 3 then some (-1001) else if n3 = 1 then some (-1002) else if n3 = 2 then some (-1003) else if n3 = 4 then some (-1004) else if n3 = 5 then some (-1005) else none) = some ro := hf
    by_cases c5 : n3 = 3
    · subst c5
      have hf := br_pos rfl hf
      refine cw_vi_err (rest := []) (m_C_usersOf l hst ca ad bq nF nO nL nA nC nV nU nP nE bF bO bL bA bC bV bU bP bE cT cK cO cQ cD pT pK pR pW pU pI pC uO uF uE uN wK jM jN jZ jB R _ p2 (.error 3) h2) ⟨hx, hb, hml, hown, hts⟩ (cwV 1 hts (gV q636 q637 q638 q24 q639) rfl rfl rfl (by decide +kernel) ⟨Nat.le_of_ble_eq_true rfl, Nat.le_of_ble_eq_true rfl⟩) (va_recv hK hP (ci := 7) (q0 := 0) rfl rfl) hE hP hD hS hA hZ rfl hl.1 rfl (lv_room (Nat.le_of_ble_eq_true rfl)) dL_call_240 ⟨Nat.le_of_ble_eq_true rfl, Nat.le_of_ble_eq_true rfl⟩ (fun H locs q9 ce hP hD hS hce hv9 hcl => ?_)
      refine vx_catch (E := "java/lang/IndexOutOfBoundsException") hown ((tableOf HH).take 12) ⟨238, 243, 393, 122⟩ ((tableOf HH).drop (12 + 1)) (htab.trans (sp_at (n := 12) hh12)) (hp_of [] (by decide +kernel) (fun _ h => absurd h List.not_mem_nil)) (by decide) (by decide) (hts _ q254) (va_Nw.use rfl (hE.2.1 _ n392)) hce hv9 hcl ?_
      refine lv_astore (lv' := [(5, .ref q9), (0, .ref (ad 0)), (1, .int 12), (2, .int p2), (3, .int p3), (4, .int p4)]) hx hb dL_call_393 hl (by decide) rfl (fun ls hl => ?_)
      refine lv_sipush (v := (-1001)) hx hb dL_call_395 (by decide) ?_
      cases hf
      exact endw_i hAe hQm hx hb hr hlocks rfl hP hD hS dL_call_398 (Nat.le_of_ble_eq_true rfl) (Nat.le_of_ble_eq_true rfl)
    have hf := br_neg c5 hf
    by_cases c6 : n3 = 1
    · subst c6
      have hf := br_pos rfl hf
      refine cw_vi_err (rest := []) (m_C_usersOf l hst ca ad bq nF nO nL nA nC nV nU nP nE bF bO bL bA bC bV bU bP bE cT cK cO cQ cD pT pK pR pW pU pI pC uO uF uE uN wK jM jN jZ jB R _ p2 (.error 1) h2) ⟨hx, hb, hml, hown, hts⟩ (cwV 1 hts (gV q636 q637 q638 q24 q639) rfl rfl rfl (by decide +kernel) ⟨Nat.le_of_ble_eq_true rfl, Nat.le_of_ble_eq_true rfl⟩) (va_recv hK hP (ci := 7) (q0 := 0) rfl rfl) hE hP hD hS hA hZ rfl hl.1 rfl (lv_room (Nat.le_of_ble_eq_true rfl)) dL_call_240 ⟨Nat.le_of_ble_eq_true rfl, Nat.le_of_ble_eq_true rfl⟩ (fun H locs q9 ce hP hD hS hce hv9 hcl => ?_)
      refine vx_catch (E := "java/lang/IllegalArgumentException") hown ((tableOf HH).take 47) ⟨238, 243, 399, 124⟩ ((tableOf HH).drop (47 + 1)) (htab.trans (sp_at (n := 47) hh47)) (hp_of [(122, "java/lang/IndexOutOfBoundsException")] (by decide +kernel) (List.forall_mem_cons.mpr ⟨⟨hts _ q254, hNC _ nc_1_3⟩, fun _ h => absurd h List.not_mem_nil⟩)) (by decide) (by decide) (hts _ q333) (va_Nw.use rfl (hE.2.1 _ n347)) hce hv9 hcl ?_
      refine lv_astore (lv' := [(5, .ref q9), (0, .ref (ad 0)), (1, .int 12), (2, .int p2), (3, .int p3), (4, .int p4)]) hx hb dL_call_399 hl (by decide) rfl (fun ls hl => ?_)
      refine lv_sipush (v := (-1002)) hx hb dL_call_401 (by decide) ?_
      cases hf
      exact endw_i hAe hQm hx hb hr hlocks rfl hP hD hS dL_call_404 (Nat.le_of_ble_eq_true rfl) (Nat.le_of_ble_eq_true rfl)
    have hf := br_neg c6 hf
    by_cases c7 : n3 = 2
    · subst c7
      have hf := br_pos rfl hf
      refine cw_vi_err (rest := []) (m_C_usersOf l hst ca ad bq nF nO nL nA nC nV nU nP nE bF bO bL bA bC bV bU bP bE cT cK cO cQ cD pT pK pR pW pU pI pC uO uF uE uN wK jM jN jZ jB R _ p2 (.error 2) h2) ⟨hx, hb, hml, hown, hts⟩ (cwV 1 hts (gV q636 q637 q638 q24 q639) rfl rfl rfl (by decide +kernel) ⟨Nat.le_of_ble_eq_true rfl, Nat.le_of_ble_eq_true rfl⟩) (va_recv hK hP (ci := 7) (q0 := 0) rfl rfl) hE hP hD hS hA hZ rfl hl.1 rfl (lv_room (Nat.le_of_ble_eq_true rfl)) dL_call_240 ⟨Nat.le_of_ble_eq_true rfl, Nat.le_of_ble_eq_true rfl⟩ (fun H locs q9 ce hP hD hS hce hv9 hcl => ?_)
      refine vx_catch (E := "java/lang/IllegalStateException") hown ((tableOf HH).take 82) ⟨238, 243, 405, 126⟩ ((tableOf HH).drop (82 + 1)) (htab.trans (sp_at (n := 82) hh82)) (hp_of [(122, "java/lang/IndexOutOfBoundsException"), (124, "java/lang/IllegalArgumentException")] (by decide +kernel) (List.forall_mem_cons.mpr ⟨⟨hts _ q254, hNC _ nc_2_3⟩, List.forall_mem_cons.mpr ⟨⟨hts _ q333, hNC _ nc_2_1⟩, fun _ h => absurd h List.not_mem_nil⟩⟩)) (by decide) (by decide) (hts _ q334) (va_Nw.use rfl (hE.2.1 _ n367)) hce hv9 hcl ?_
      refine lv_astore (lv' := [(5, .ref q9), (0, .ref (ad 0)), (1, .int 12), (2, .int p2), (3, .int p3), (4, .int p4)]) hx hb dL_call_405 hl (by decide) rfl (fun ls hl => ?_)
      refine lv_sipush (v := (-1003)) hx hb dL_call_407 (by decide) ?_
      cases hf
      exact endw_i hAe hQm hx hb hr hlocks rfl hP hD hS dL_call_410 (Nat.le_of_ble_eq_true rfl) (Nat.le_of_ble_eq_true rfl)
    have hf := br_neg c7 hf
    by_cases c8 : n3 = 4
    · subst c8
      have hf := br_pos rfl hf
      refine cw_vi_err (rest := []) (m_C_usersOf l hst ca ad bq nF nO nL nA nC nV nU nP nE bF bO bL bA bC bV bU bP bE cT cK cO cQ cD pT pK pR pW pU pI pC uO uF uE uN wK jM jN jZ jB R _ p2 (.error 4) h2) ⟨hx, hb, hml, hown, hts⟩ (cwV 1 hts (gV q636 q637 q638 q24 q639) rfl rfl rfl (by decide +kernel) ⟨Nat.le_of_ble_eq_true rfl, Nat.le_of_ble_eq_true rfl⟩) (va_recv hK hP (ci := 7) (q0 := 0) rfl rfl) hE hP hD hS hA hZ rfl hl.1 rfl (lv_room (Nat.le_of_ble_eq_true rfl)) dL_call_240 ⟨Nat.le_of_ble_eq_true rfl, Nat.le_of_ble_eq_true rfl⟩ (fun H locs q9 ce hP hD hS hce hv9 hcl => ?_)
      refine vx_catch (E := "java/lang/UnsupportedOperationException") hown ((tableOf HH).take 117) ⟨238, 243, 411, 128⟩ ((tableOf HH).drop (117 + 1)) (htab.trans (sp_at (n := 117) hh117)) (hp_of [(122, "java/lang/IndexOutOfBoundsException"), (124, "java/lang/IllegalArgumentException"), (126, "java/lang/IllegalStateException")] (by decide +kernel) (List.forall_mem_cons.mpr ⟨⟨hts _ q254, hNC _ nc_4_3⟩, List.forall_mem_cons.mpr ⟨⟨hts _ q333, hNC _ nc_4_1⟩, List.forall_mem_cons.mpr ⟨⟨hts _ q334, hNC _ nc_4_2⟩, fun _ h => absurd h List.not_mem_nil⟩⟩⟩)) (by decide) (by decide) (hts _ q335) (va_Nw.use rfl (hE.2.1 _ n547)) hce hv9 hcl ?_
      refine lv_astore (lv' := [(5, .ref q9), (0, .ref (ad 0)), (1, .int 12), (2, .int p2), (3, .int p3), (4, .int p4)]) hx hb dL_call_411 hl (by decide) rfl (fun ls hl => ?_)
      refine lv_sipush (v := (-1004)) hx hb dL_call_413 (by decide) ?_
      cases hf
      exact endw_i hAe hQm hx hb hr hlocks rfl hP hD hS dL_call_416 (Nat.le_of_ble_eq_true rfl) (Nat.le_of_ble_eq_true rfl)
    have hf := br_neg c8 hf
    by_cases c9 : n3 = 5
    · subst c9
      have hf := br_pos rfl hf
      refine cw_vi_err (rest := []) (m_C_usersOf l hst ca ad bq nF nO nL nA nC nV nU nP nE bF bO bL bA bC bV bU bP bE cT cK cO cQ cD pT pK pR pW pU pI pC uO uF uE uN wK jM jN jZ jB R _ p2 (.error 5) h2) ⟨hx, hb, hml, hown, hts⟩ (cwV 1 hts (gV q636 q637 q638 q24 q639) rfl rfl rfl (by decide +kernel) ⟨Nat.le_of_ble_eq_true rfl, Nat.le_of_ble_eq_true rfl⟩) (va_recv hK hP (ci := 7) (q0 := 0) rfl rfl) hE hP hD hS hA hZ rfl hl.1 rfl (lv_room (Nat.le_of_ble_eq_true rfl)) dL_call_240 ⟨Nat.le_of_ble_eq_true rfl, Nat.le_of_ble_eq_true rfl⟩ (fun H locs q9 ce hP hD hS hce hv9 hcl => ?_)
      refine vx_catch (E := "java/util/NoSuchElementException") hown ((tableOf HH).take 152) ⟨238, 243, 417, 130⟩ ((tableOf HH).drop (152 + 1)) (htab.trans (sp_at (n := 152) hh152)) (hp_of [(122, "java/lang/IndexOutOfBoundsException"), (124, "java/lang/IllegalArgumentException"), (126, "java/lang/IllegalStateException"), (128, "java/lang/UnsupportedOperationException")] (by decide +kernel) (List.forall_mem_cons.mpr ⟨⟨hts _ q254, hNC _ nc_5_3⟩, List.forall_mem_cons.mpr ⟨⟨hts _ q333, hNC _ nc_5_1⟩, List.forall_mem_cons.mpr ⟨⟨hts _ q334, hNC _ nc_5_2⟩, List.forall_mem_cons.mpr ⟨⟨hts _ q335, hNC _ nc_5_4⟩, fun _ h => absurd h List.not_mem_nil⟩⟩⟩⟩)) (by decide) (by decide) (hts _ q336) (va_Nw.use rfl (hE.2.1 _ n606)) hce hv9 hcl ?_
      refine lv_astore (lv' := [(5, .ref q9), (0, .ref (ad 0)), (1, .int 12), (2, .int p2), (3, .int p3), (4, .int p4)]) hx hb dL_call_417 hl (by decide) rfl (fun ls hl => ?_)
      refine lv_sipush (v := (-1005)) hx hb dL_call_419 (by decide) ?_
      cases hf
      exact endw_i hAe hQm hx hb hr hlocks rfl hP hD hS dL_call_422 (Nat.le_of_ble_eq_true rfl) (Nat.le_of_ble_eq_true rfl)
    have hf := br_neg c9 hf
    cases hf
  refine cw_vi_ok (rest := []) (m_C_usersOf l hst ca ad bq nF nO nL nA nC nV nU nP nE bF bO bL bA bC bV bU bP bE cT cK cO cQ cD pT pK pR pW pU pI pC uO uF uE uN wK jM jN jZ jB R _ p2 (.ok r4) h2) ⟨hx, hb, hml, hown, hts⟩ (cwV 1 hts (gV q636 q637 q638 q24 q639) rfl rfl rfl (by decide +kernel) ⟨Nat.le_of_ble_eq_true rfl, Nat.le_of_ble_eq_true rfl⟩) (va_recv hK hP (ci := 7) (q0 := 0) rfl rfl) hE hP hD hS hA hZ rfl hl.1 rfl (lv_room (Nat.le_of_ble_eq_true rfl)) dL_call_240 ⟨Nat.le_of_ble_eq_true rfl, Nat.le_of_ble_eq_true rfl⟩ (fun H locs hP hD hS => ?_)
  cases hf
  exact endw_i hAe hQm hx hb hr hlocks rfl hP hD hS dL_call_243 (Nat.le_of_ble_eq_true rfl) (Nat.le_of_ble_eq_true rfl)
def f_K13 (p2 : Int32) (nF : Int32) (nC : Nat → Int32) (pU : Nat → Int32) (pI : Nat → Int32) (pC : Nat → Nat → Int32) (wK : Nat → Int32) : Option (Int32 × (Nat → Int32)) :=
  (f_C_usersByWalk p2 nF nC pU pI pC wK).bind fun (x1, wK_2) =>
  match x1 with
  | .error n4 => if n4 = 3 then some ((-1001), wK_2) else if n4 = 1 then some ((-1002), wK_2) else if n4 = 2 then some ((-1003), wK_2) else if n4 = 4 then some ((-1004), wK_2) else if n4 = 5 then some ((-1005), wK_2) else none
  | .ok r5 =>
  some (r5, wK_2)
set_option maxHeartbeats 4000000 in
set_option maxRecDepth 100000 in
theorem m_K13 (l : Launch) (hst : l.stackTraces = false) {D : va_G} (ca : Nat → ClassId) (ad : Nat → Nat) (bq : Nat) (nF : Int32) (nO : Nat → Int32) (nL : Nat → Int32) (nA : Nat → Int32) (nC : Nat → Int32) (nV : Nat → Int32) (nU : Nat → Int32) (nP : Nat → Int32) (nE : Int32) (bF : Int32) (bO : Nat → Int32) (bL : Nat → Int32) (bA : Nat → Int32) (bC : Nat → Int32) (bV : Nat → Int32) (bU : Nat → Int32) (bP : Nat → Int32) (bE : Int32) (cT : Int32) (cK : Nat → Int32) (cO : Int32) (cQ : Nat → Int32) (cD : Int32) (pT : Int32) (pK : Int32) (pR : Nat → Int32) (pW : Nat → Int32) (pU : Nat → Int32) (pI : Nat → Int32) (pC : Nat → Nat → Int32) (uO : Int32) (uF : Nat → Int32) (uE : Nat → Int32) (uN : Nat → Int32) (wK : Nat → Int32) (jM : Int32) (jN : Int32) (jZ : Nat) (jB : Nat → Int32) (R : va_W) (sz : Nat) (p2 : Int32) (p3 : Int32) (p4 : Int32) (ro : Int32) (owK : Nat → Int32) (hf : f_K13 p2 nF nC pU pI pC wK = some (ro, owK)) : vx_Met l yL_call (wmW yL_call cL_call 6 (some .int) HH) ({ frames := 8, cells := 1, slots := 6, locals := 132 } : Room) (PREL [.ref (ad 0), .int 13, .int p2, .int p3, .int p4] D ca SL0 (WC ca ad bq nF nO nL nA nC nV nU nP nE bF bO bL bA bC bV bU bP bE cT cK cO cQ cD pT pK pR pW pU pI pC uO uF uE uN wK jM jN jZ jB ++ R) sz) (QI ro D (WC ca ad bq nF nO nL nA nC nV nU nP nE bF bO bL bA bC bV bU bP bE cT cK cO cQ cD pT pK pR pW pU pI pC uO uF uE uN owK jM jN jZ jB ++ R) (WC ca ad bq nF nO nL nA nC nV nU nP nE bF bO bL bA bC bV bU bP bE cT cK cO cQ cD pT pK pR pW pU pI pC uO uF uE uN wK jM jN jZ jB ++ R) sz) (fun _ _ _ => False) 1 6 (va_A (WC ca ad bq nF nO nL nA nC nV nU nP nE bF bO bL bA bC bV bU bP bE cT cK cO cQ cD pT pK pR pW pU pI pC uO uF uE uN wK jM jN jZ jB ++ R) sz) := by
  refine vx_ofWH (cc := cL_call) (maxL := 6) (ret := (some .int)) (hh := HH) (by decide) rfl ?_
  intro p e s m args below meth c s₁ B hml hv
  obtain ⟨rfl, rfl, hP, hE, hD0, hZ, hNC⟩ := hv
  have hx := B.exec
  have hb := B.bytes
  have hr := B.returns
  have hts0 := atoms_spec (ws := wmW yL_call cL_call 6 (some .int) HH) B.pre
  have hts := wmW_ww hts0
  have htab := vx_table (x := yL_call) B (hts0 _ List.mem_cons_self)
  have hown : s.vm.findClass RL = some m.cls := findClass_of_methodNamed B.named
  have hlocks := B.notSynchronized
  have hK := hE.1
  have hD := hD0.self (sz := s.heap.size)
  generalize hAe : va_A (WC ca ad bq nF nO nL nA nC nV nU nP nE bF bO bL bA bC bV bU bP bE cT cK cO cQ cD pT pK pR pW pU pI pC uO uF uE uN wK jM jN jZ jB ++ R) s.heap.size = A at hD hZ ⊢
  have hA : ∀ q : Nat, s.heap.size ≤ q → A q := fun q h => by rw [← hAe]; exact Or.inr h
  have hS : va_S A s.heap s.heap [] := va_S.rf
  have hl := lv_entry ([.ref (ad 0), .int 13, .int p2, .int p3, .int p4]) (n := 6) (Nat.le_of_ble_eq_true rfl)
  rw [lg_entry_eq]
  generalize (lg_sl ([.ref (ad 0), .int 13, .int p2, .int p3, .int p4]) ++ List.replicate (6 - (lg_sl ([.ref (ad 0), .int 13, .int p2, .int p3, .int p4])).length) Slot.unset).toArray = ls at hl ⊢
  have hl : lv_has ls 6 [(0, .ref (ad 0)), (1, .int 13), (2, .int p2), (3, .int p3), (4, .int p4)] := hl
  change W p l e ({ frames := 8, cells := 1, slots := 6, locals := 132 } : Room) s m _ below meth c s.heap [] 0 0 _ _
  generalize hQm : vx_MQ below (QI ro D (WC ca ad bq nF nO nL nA nC nV nU nP nE bF bO bL bA bC bV bU bP bE cT cK cO cQ cD pT pK pR pW pU pI pC uO uF uE uN owK jM jN jZ jB ++ R) (WC ca ad bq nF nO nL nA nC nV nU nP nE bF bO bL bA bC bV bU bP bE cT cK cO cQ cD pT pK pR pW pU pI pC uO uF uE uN wK jM jN jZ jB ++ R) s.heap.size) (fun _ _ _ => False) _ s 1 6 A = Qm
  have hP : va_P D vwCl (WC ca ad bq nF nO nL nA nC nV nU nP nE bF bO bL bA bC bV bU bP bE cT cK cO cQ cD pT pK pR pW pU pI pC uO uF uE uN wK jM jN jZ jB ++ R) s.heap := hP
  generalize hae : ([.ref (ad 0), .int 13, .int p2, .int p3, .int p4] : List Value).toArray = args at hts hQm ⊢
  refine lv_iload_n hx hb dL_call_0 rfl (lv_at hl 1 rfl) ?_
  refine lv_tableIn (off := 243) (tgt := 244) hx hb dL_call_1 (by decide) (by decide) rfl (by decide) ?_
  refine lv_aload_n hx hb dL_call_244 rfl (lv_at hl 0 rfl) ?_
  refine lv_iload_n hx hb dL_call_245 rfl (lv_at hl 2 rfl) ?_
  obtain ⟨⟨x1, wK_2⟩, h3, hf⟩ := bnd hf
  rcases x1 with n4 | r5
  · have hf : (if n4 = 3 then some ((-1001), wK_2) else if n4 = 1 then some ((-1002), wK_2) else if n4 = 2 then some ((-1003), wK_2) else if n4 = 4 then some ((-1004), wK_2) else if n4 = 5 then some ((-1005), wK_2) else none) = some (ro, owK) := hf
    by_cases c6 : n4 = 3
    · subst c6
      have hf := br_pos rfl hf
      refine cw_vi_err (rest := []) (m_C_usersByWalk l hst ca ad bq nF nO nL nA nC nV nU nP nE bF bO bL bA bC bV bU bP bE cT cK cO cQ cD pT pK pR pW pU pI pC uO uF uE uN wK jM jN jZ jB R _ p2 (.error 3) wK_2 h3) ⟨hx, hb, hml, hown, hts⟩ (cwV 1 hts (gV q646 q647 q648 q24 q649) rfl rfl rfl (by decide +kernel) ⟨Nat.le_of_ble_eq_true rfl, Nat.le_of_ble_eq_true rfl⟩) (va_recv hK hP (ci := 7) (q0 := 0) rfl rfl) hE hP hD hS hA hZ rfl hl.1 rfl (lv_room (Nat.le_of_ble_eq_true rfl)) dL_call_246 ⟨Nat.le_of_ble_eq_true rfl, Nat.le_of_ble_eq_true rfl⟩ (fun H locs q9 ce hP hD hS hce hv9 hcl => ?_)
      refine vx_catch (E := "java/lang/IndexOutOfBoundsException") hown ((tableOf HH).take 13) ⟨244, 249, 393, 122⟩ ((tableOf HH).drop (13 + 1)) (htab.trans (sp_at (n := 13) hh13)) (hp_of [] (by decide +kernel) (fun _ h => absurd h List.not_mem_nil)) (by decide) (by decide) (hts _ q254) (va_Nw.use rfl (hE.2.1 _ n392)) hce hv9 hcl ?_
      refine lv_astore (lv' := [(5, .ref q9), (0, .ref (ad 0)), (1, .int 13), (2, .int p2), (3, .int p3), (4, .int p4)]) hx hb dL_call_393 hl (by decide) rfl (fun ls hl => ?_)
      refine lv_sipush (v := (-1001)) hx hb dL_call_395 (by decide) ?_
      cases hf
      exact endw_i hAe hQm hx hb hr hlocks rfl hP hD hS dL_call_398 (Nat.le_of_ble_eq_true rfl) (Nat.le_of_ble_eq_true rfl)
    have hf := br_neg c6 hf
    by_cases c7 : n4 = 1
    · subst c7
      have hf := br_pos rfl hf
      refine cw_vi_err (rest := []) (m_C_usersByWalk l hst ca ad bq nF nO nL nA nC nV nU nP nE bF bO bL bA bC bV bU bP bE cT cK cO cQ cD pT pK pR pW pU pI pC uO uF uE uN wK jM jN jZ jB R _ p2 (.error 1) wK_2 h3) ⟨hx, hb, hml, hown, hts⟩ (cwV 1 hts (gV q646 q647 q648 q24 q649) rfl rfl rfl (by decide +kernel) ⟨Nat.le_of_ble_eq_true rfl, Nat.le_of_ble_eq_true rfl⟩) (va_recv hK hP (ci := 7) (q0 := 0) rfl rfl) hE hP hD hS hA hZ rfl hl.1 rfl (lv_room (Nat.le_of_ble_eq_true rfl)) dL_call_246 ⟨Nat.le_of_ble_eq_true rfl, Nat.le_of_ble_eq_true rfl⟩ (fun H locs q9 ce hP hD hS hce hv9 hcl => ?_)
      refine vx_catch (E := "java/lang/IllegalArgumentException") hown ((tableOf HH).take 48) ⟨244, 249, 399, 124⟩ ((tableOf HH).drop (48 + 1)) (htab.trans (sp_at (n := 48) hh48)) (hp_of [(122, "java/lang/IndexOutOfBoundsException")] (by decide +kernel) (List.forall_mem_cons.mpr ⟨⟨hts _ q254, hNC _ nc_1_3⟩, fun _ h => absurd h List.not_mem_nil⟩)) (by decide) (by decide) (hts _ q333) (va_Nw.use rfl (hE.2.1 _ n347)) hce hv9 hcl ?_
      refine lv_astore (lv' := [(5, .ref q9), (0, .ref (ad 0)), (1, .int 13), (2, .int p2), (3, .int p3), (4, .int p4)]) hx hb dL_call_399 hl (by decide) rfl (fun ls hl => ?_)
      refine lv_sipush (v := (-1002)) hx hb dL_call_401 (by decide) ?_
      cases hf
      exact endw_i hAe hQm hx hb hr hlocks rfl hP hD hS dL_call_404 (Nat.le_of_ble_eq_true rfl) (Nat.le_of_ble_eq_true rfl)
    have hf := br_neg c7 hf
    by_cases c8 : n4 = 2
    · subst c8
      have hf := br_pos rfl hf
      refine cw_vi_err (rest := []) (m_C_usersByWalk l hst ca ad bq nF nO nL nA nC nV nU nP nE bF bO bL bA bC bV bU bP bE cT cK cO cQ cD pT pK pR pW pU pI pC uO uF uE uN wK jM jN jZ jB R _ p2 (.error 2) wK_2 h3) ⟨hx, hb, hml, hown, hts⟩ (cwV 1 hts (gV q646 q647 q648 q24 q649) rfl rfl rfl (by decide +kernel) ⟨Nat.le_of_ble_eq_true rfl, Nat.le_of_ble_eq_true rfl⟩) (va_recv hK hP (ci := 7) (q0 := 0) rfl rfl) hE hP hD hS hA hZ rfl hl.1 rfl (lv_room (Nat.le_of_ble_eq_true rfl)) dL_call_246 ⟨Nat.le_of_ble_eq_true rfl, Nat.le_of_ble_eq_true rfl⟩ (fun H locs q9 ce hP hD hS hce hv9 hcl => ?_)
      refine vx_catch (E := "java/lang/IllegalStateException") hown ((tableOf HH).take 83) ⟨244, 249, 405, 126⟩ ((tableOf HH).drop (83 + 1)) (htab.trans (sp_at (n := 83) hh83)) (hp_of [(122, "java/lang/IndexOutOfBoundsException"), (124, "java/lang/IllegalArgumentException")] (by decide +kernel) (List.forall_mem_cons.mpr ⟨⟨hts _ q254, hNC _ nc_2_3⟩, List.forall_mem_cons.mpr ⟨⟨hts _ q333, hNC _ nc_2_1⟩, fun _ h => absurd h List.not_mem_nil⟩⟩)) (by decide) (by decide) (hts _ q334) (va_Nw.use rfl (hE.2.1 _ n367)) hce hv9 hcl ?_
      refine lv_astore (lv' := [(5, .ref q9), (0, .ref (ad 0)), (1, .int 13), (2, .int p2), (3, .int p3), (4, .int p4)]) hx hb dL_call_405 hl (by decide) rfl (fun ls hl => ?_)
      refine lv_sipush (v := (-1003)) hx hb dL_call_407 (by decide) ?_
      cases hf
      exact endw_i hAe hQm hx hb hr hlocks rfl hP hD hS dL_call_410 (Nat.le_of_ble_eq_true rfl) (Nat.le_of_ble_eq_true rfl)
    have hf := br_neg c8 hf
    by_cases c9 : n4 = 4
    · subst c9
      have hf := br_pos rfl hf
      refine cw_vi_err (rest := []) (m_C_usersByWalk l hst ca ad bq nF nO nL nA nC nV nU nP nE bF bO bL bA bC bV bU bP bE cT cK cO cQ cD pT pK pR pW pU pI pC uO uF uE uN wK jM jN jZ jB R _ p2 (.error 4) wK_2 h3) ⟨hx, hb, hml, hown, hts⟩ (cwV 1 hts (gV q646 q647 q648 q24 q649) rfl rfl rfl (by decide +kernel) ⟨Nat.le_of_ble_eq_true rfl, Nat.le_of_ble_eq_true rfl⟩) (va_recv hK hP (ci := 7) (q0 := 0) rfl rfl) hE hP hD hS hA hZ rfl hl.1 rfl (lv_room (Nat.le_of_ble_eq_true rfl)) dL_call_246 ⟨Nat.le_of_ble_eq_true rfl, Nat.le_of_ble_eq_true rfl⟩ (fun H locs q9 ce hP hD hS hce hv9 hcl => ?_)
      refine vx_catch (E := "java/lang/UnsupportedOperationException") hown ((tableOf HH).take 118) ⟨244, 249, 411, 128⟩ ((tableOf HH).drop (118 + 1)) (htab.trans (sp_at (n := 118) hh118)) (hp_of [(122, "java/lang/IndexOutOfBoundsException"), (124, "java/lang/IllegalArgumentException"), (126, "java/lang/IllegalStateException")] (by decide +kernel) (List.forall_mem_cons.mpr ⟨⟨hts _ q254, hNC _ nc_4_3⟩, List.forall_mem_cons.mpr ⟨⟨hts _ q333, hNC _ nc_4_1⟩, List.forall_mem_cons.mpr ⟨⟨hts _ q334, hNC _ nc_4_2⟩, fun _ h => absurd h List.not_mem_nil⟩⟩⟩)) (by decide) (by decide) (hts _ q335) (va_Nw.use rfl (hE.2.1 _ n547)) hce hv9 hcl ?_
      refine lv_astore (lv' := [(5, .ref q9), (0, .ref (ad 0)), (1, .int 13), (2, .int p2), (3, .int p3), (4, .int p4)]) hx hb dL_call_411 hl (by decide) rfl (fun ls hl => ?_)
      refine lv_sipush (v := (-1004)) hx hb dL_call_413 (by decide) ?_
      cases hf
      exact endw_i hAe hQm hx hb hr hlocks rfl hP hD hS dL_call_416 (Nat.le_of_ble_eq_true rfl) (Nat.le_of_ble_eq_true rfl)
    have hf := br_neg c9 hf
    by_cases c10 : n4 = 5
    · subst c10
      have hf := br_pos rfl hf
      refine cw_vi_err (rest := []) (m_C_usersByWalk l hst ca ad bq nF nO nL nA nC nV nU nP nE bF bO bL bA bC bV bU bP bE cT cK cO cQ cD pT pK pR pW pU pI pC uO uF uE uN wK jM jN jZ jB R _ p2 (.error 5) wK_2 h3) ⟨hx, hb, hml, hown, hts⟩ (cwV 1 hts (gV q646 q647 q648 q24 q649) rfl rfl rfl (by decide +kernel) ⟨Nat.le_of_ble_eq_true rfl, Nat.le_of_ble_eq_true rfl⟩) (va_recv hK hP (ci := 7) (q0 := 0) rfl rfl) hE hP hD hS hA hZ rfl hl.1 rfl (lv_room (Nat.le_of_ble_eq_true rfl)) dL_call_246 ⟨Nat.le_of_ble_eq_true rfl, Nat.le_of_ble_eq_true rfl⟩ (fun H locs q9 ce hP hD hS hce hv9 hcl => ?_)
      refine vx_catch (E := "java/util/NoSuchElementException") hown ((tableOf HH).take 153) ⟨244, 249, 417, 130⟩ ((tableOf HH).drop (153 + 1)) (htab.trans (sp_at (n := 153) hh153)) (hp_of [(122, "java/lang/IndexOutOfBoundsException"), (124, "java/lang/IllegalArgumentException"), (126, "java/lang/IllegalStateException"), (128, "java/lang/UnsupportedOperationException")] (by decide +kernel) (List.forall_mem_cons.mpr ⟨⟨hts _ q254, hNC _ nc_5_3⟩, List.forall_mem_cons.mpr ⟨⟨hts _ q333, hNC _ nc_5_1⟩, List.forall_mem_cons.mpr ⟨⟨hts _ q334, hNC _ nc_5_2⟩, List.forall_mem_cons.mpr ⟨⟨hts _ q335, hNC _ nc_5_4⟩, fun _ h => absurd h List.not_mem_nil⟩⟩⟩⟩)) (by decide) (by decide) (hts _ q336) (va_Nw.use rfl (hE.2.1 _ n606)) hce hv9 hcl ?_
      refine lv_astore (lv' := [(5, .ref q9), (0, .ref (ad 0)), (1, .int 13), (2, .int p2), (3, .int p3), (4, .int p4)]) hx hb dL_call_417 hl (by decide) rfl (fun ls hl => ?_)
      refine lv_sipush (v := (-1005)) hx hb dL_call_419 (by decide) ?_
      cases hf
      exact endw_i hAe hQm hx hb hr hlocks rfl hP hD hS dL_call_422 (Nat.le_of_ble_eq_true rfl) (Nat.le_of_ble_eq_true rfl)
    have hf := br_neg c10 hf
    cases hf
  refine cw_vi_ok (rest := []) (m_C_usersByWalk l hst ca ad bq nF nO nL nA nC nV nU nP nE bF bO bL bA bC bV bU bP bE cT cK cO cQ cD pT pK pR pW pU pI pC uO uF uE uN wK jM jN jZ jB R _ p2 (.ok r5) wK_2 h3) ⟨hx, hb, hml, hown, hts⟩ (cwV 1 hts (gV q646 q647 q648 q24 q649) rfl rfl rfl (by decide +kernel) ⟨Nat.le_of_ble_eq_true rfl, Nat.le_of_ble_eq_true rfl⟩) (va_recv hK hP (ci := 7) (q0 := 0) rfl rfl) hE hP hD hS hA hZ rfl hl.1 rfl (lv_room (Nat.le_of_ble_eq_true rfl)) dL_call_246 ⟨Nat.le_of_ble_eq_true rfl, Nat.le_of_ble_eq_true rfl⟩ (fun H locs hP hD hS => ?_)
  cases hf
  exact endw_i hAe hQm hx hb hr hlocks rfl hP hD hS dL_call_249 (Nat.le_of_ble_eq_true rfl) (Nat.le_of_ble_eq_true rfl)
def f_K14 (p2 : Int32) (p3 : Int32) (nU : Nat → Int32) (nP : Nat → Int32) (nE : Int32) (cK : Nat → Int32) (cO : Int32) : Option (Int32 × (Nat → Int32) × Int32 × (Nat → Int32)) :=
  (f_C_promise p2 p3 nU nP nE cK cO).bind fun (x1, nP_2, nE_3, cK_4) =>
  match x1 with
  | .error n6 => if n6 = 3 then some ((-1001), nP_2, nE_3, cK_4) else if n6 = 1 then some ((-1002), nP_2, nE_3, cK_4) else if n6 = 2 then some ((-1003), nP_2, nE_3, cK_4) else if n6 = 4 then some ((-1004), nP_2, nE_3, cK_4) else if n6 = 5 then some ((-1005), nP_2, nE_3, cK_4) else none
  | .ok r7 =>
  some (r7, nP_2, nE_3, cK_4)
set_option maxHeartbeats 4000000 in
set_option maxRecDepth 100000 in
theorem m_K14 (l : Launch) (hst : l.stackTraces = false) {D : va_G} (ca : Nat → ClassId) (ad : Nat → Nat) (bq : Nat) (nF : Int32) (nO : Nat → Int32) (nL : Nat → Int32) (nA : Nat → Int32) (nC : Nat → Int32) (nV : Nat → Int32) (nU : Nat → Int32) (nP : Nat → Int32) (nE : Int32) (bF : Int32) (bO : Nat → Int32) (bL : Nat → Int32) (bA : Nat → Int32) (bC : Nat → Int32) (bV : Nat → Int32) (bU : Nat → Int32) (bP : Nat → Int32) (bE : Int32) (cT : Int32) (cK : Nat → Int32) (cO : Int32) (cQ : Nat → Int32) (cD : Int32) (pT : Int32) (pK : Int32) (pR : Nat → Int32) (pW : Nat → Int32) (pU : Nat → Int32) (pI : Nat → Int32) (pC : Nat → Nat → Int32) (uO : Int32) (uF : Nat → Int32) (uE : Nat → Int32) (uN : Nat → Int32) (wK : Nat → Int32) (jM : Int32) (jN : Int32) (jZ : Nat) (jB : Nat → Int32) (R : va_W) (sz : Nat) (p2 : Int32) (p3 : Int32) (p4 : Int32) (ro : Int32) (onP : Nat → Int32) (onE : Int32) (ocK : Nat → Int32) (hf : f_K14 p2 p3 nU nP nE cK cO = some (ro, onP, onE, ocK)) : vx_Met l yL_call (wmW yL_call cL_call 6 (some .int) HH) ({ frames := 8, cells := 3, slots := 18, locals := 136 } : Room) (PREL [.ref (ad 0), .int 14, .int p2, .int p3, .int p4] D ca SL0 (WC ca ad bq nF nO nL nA nC nV nU nP nE bF bO bL bA bC bV bU bP bE cT cK cO cQ cD pT pK pR pW pU pI pC uO uF uE uN wK jM jN jZ jB ++ R) sz) (QI ro D (WC ca ad bq nF nO nL nA nC nV nU onP onE bF bO bL bA bC bV bU bP bE cT ocK cO cQ cD pT pK pR pW pU pI pC uO uF uE uN wK jM jN jZ jB ++ R) (WC ca ad bq nF nO nL nA nC nV nU nP nE bF bO bL bA bC bV bU bP bE cT cK cO cQ cD pT pK pR pW pU pI pC uO uF uE uN wK jM jN jZ jB ++ R) sz) (fun _ _ _ => False) 3 18 (va_A (WC ca ad bq nF nO nL nA nC nV nU nP nE bF bO bL bA bC bV bU bP bE cT cK cO cQ cD pT pK pR pW pU pI pC uO uF uE uN wK jM jN jZ jB ++ R) sz) := by
  refine vx_ofWH (cc := cL_call) (maxL := 6) (ret := (some .int)) (hh := HH) (by decide) rfl ?_
  intro p e s m args below meth c s₁ B hml hv
  obtain ⟨rfl, rfl, hP, hE, hD0, hZ, hNC⟩ := hv
  have hx := B.exec
  have hb := B.bytes
  have hr := B.returns
  have hts0 := atoms_spec (ws := wmW yL_call cL_call 6 (some .int) HH) B.pre
  have hts := wmW_ww hts0
  have htab := vx_table (x := yL_call) B (hts0 _ List.mem_cons_self)
  have hown : s.vm.findClass RL = some m.cls := findClass_of_methodNamed B.named
  have hlocks := B.notSynchronized
  have hK := hE.1
  have hD := hD0.self (sz := s.heap.size)
  generalize hAe : va_A (WC ca ad bq nF nO nL nA nC nV nU nP nE bF bO bL bA bC bV bU bP bE cT cK cO cQ cD pT pK pR pW pU pI pC uO uF uE uN wK jM jN jZ jB ++ R) s.heap.size = A at hD hZ ⊢
  have hA : ∀ q : Nat, s.heap.size ≤ q → A q := fun q h => by rw [← hAe]; exact Or.inr h
  have hS : va_S A s.heap s.heap [] := va_S.rf
  have hl := lv_entry ([.ref (ad 0), .int 14, .int p2, .int p3, .int p4]) (n := 6) (Nat.le_of_ble_eq_true rfl)
  rw [lg_entry_eq]
  generalize (lg_sl ([.ref (ad 0), .int 14, .int p2, .int p3, .int p4]) ++ List.replicate (6 - (lg_sl ([.ref (ad 0), .int 14, .int p2, .int p3, .int p4])).length) Slot.unset).toArray = ls at hl ⊢
  have hl : lv_has ls 6 [(0, .ref (ad 0)), (1, .int 14), (2, .int p2), (3, .int p3), (4, .int p4)] := hl
  change W p l e ({ frames := 8, cells := 3, slots := 18, locals := 136 } : Room) s m _ below meth c s.heap [] 0 0 _ _
  generalize hQm : vx_MQ below (QI ro D (WC ca ad bq nF nO nL nA nC nV nU onP onE bF bO bL bA bC bV bU bP bE cT ocK cO cQ cD pT pK pR pW pU pI pC uO uF uE uN wK jM jN jZ jB ++ R) (WC ca ad bq nF nO nL nA nC nV nU nP nE bF bO bL bA bC bV bU bP bE cT cK cO cQ cD pT pK pR pW pU pI pC uO uF uE uN wK jM jN jZ jB ++ R) s.heap.size) (fun _ _ _ => False) _ s 3 18 A = Qm
  have hP : va_P D vwCl (WC ca ad bq nF nO nL nA nC nV nU nP nE bF bO bL bA bC bV bU bP bE cT cK cO cQ cD pT pK pR pW pU pI pC uO uF uE uN wK jM jN jZ jB ++ R) s.heap := hP
  generalize hae : ([.ref (ad 0), .int 14, .int p2, .int p3, .int p4] : List Value).toArray = args at hts hQm ⊢
  refine lv_iload_n hx hb dL_call_0 rfl (lv_at hl 1 rfl) ?_
  refine lv_tableIn (off := 249) (tgt := 250) hx hb dL_call_1 (by decide) (by decide) rfl (by decide) ?_
  refine lv_aload_n hx hb dL_call_250 rfl (lv_at hl 0 rfl) ?_
  refine lv_iload_n hx hb dL_call_251 rfl (lv_at hl 2 rfl) ?_
  refine lv_iload_n hx hb dL_call_252 rfl (lv_at hl 3 rfl) ?_
  obtain ⟨⟨x1, nP_2, nE_3, cK_4⟩, h5, hf⟩ := bnd hf
  rcases x1 with n6 | r7
  · have hf : (if n6 = 3 then some ((-1001), nP_2, nE_3, cK_4) else if n6 = 1 then some ((-1002), nP_2, nE_3, cK_4) else if n6 = 2 then some ((-1003), nP_2, nE_3, cK_4) else if n6 = 4 then some ((-1004), nP_2, nE_3, cK_4) else if n6 = 5 then some ((-1005), nP_2, nE_3, cK_4) else none) = some (ro, onP, onE, ocK) := hf
    by_cases c8 : n6 = 3
    · subst c8
      have hf := br_pos rfl hf
      refine cw_vi_err (rest := []) (m_C_promise l hst ca ad bq nF nO nL nA nC nV nU nP nE bF bO bL bA bC bV bU bP bE cT cK cO cQ cD pT pK pR pW pU pI pC uO uF uE uN wK jM jN jZ jB R _ p2 p3 (.error 3) nP_2 nE_3 cK_4 h5) ⟨hx, hb, hml, hown, hts⟩ (cwV 2 hts (gV q674 q675 q676 q24 q677) rfl rfl rfl (by decide +kernel) ⟨Nat.le_of_ble_eq_true rfl, Nat.le_of_ble_eq_true rfl⟩) (va_recv hK hP (ci := 7) (q0 := 0) rfl rfl) hE hP hD hS hA hZ rfl hl.1 rfl (lv_room (Nat.le_of_ble_eq_true rfl)) dL_call_253 ⟨Nat.le_of_ble_eq_true rfl, Nat.le_of_ble_eq_true rfl⟩ (fun H locs q9 ce hP hD hS hce hv9 hcl => ?_)
      refine vx_catch (E := "java/lang/IndexOutOfBoundsException") hown ((tableOf HH).take 14) ⟨250, 256, 393, 122⟩ ((tableOf HH).drop (14 + 1)) (htab.trans (sp_at (n := 14) hh14)) (hp_of [] (by decide +kernel) (fun _ h => absurd h List.not_mem_nil)) (by decide) (by decide) (hts _ q254) (va_Nw.use rfl (hE.2.1 _ n392)) hce hv9 hcl ?_
      refine lv_astore (lv' := [(5, .ref q9), (0, .ref (ad 0)), (1, .int 14), (2, .int p2), (3, .int p3), (4, .int p4)]) hx hb dL_call_393 hl (by decide) rfl (fun ls hl => ?_)
      refine lv_sipush (v := (-1001)) hx hb dL_call_395 (by decide) ?_
      cases hf
      exact endw_i hAe hQm hx hb hr hlocks rfl hP hD hS dL_call_398 (Nat.le_of_ble_eq_true rfl) (Nat.le_of_ble_eq_true rfl)
    have hf := br_neg c8 hf
    by_cases c9 : n6 = 1
    · subst c9
      have hf := br_pos rfl hf
      refine cw_vi_err (rest := []) (m_C_promise l hst ca ad bq nF nO nL nA nC nV nU nP nE bF bO bL bA bC bV bU bP bE cT cK cO cQ cD pT pK pR pW pU pI pC uO uF uE uN wK jM jN jZ jB R _ p2 p3 (.error 1) nP_2 nE_3 cK_4 h5) ⟨hx, hb, hml, hown, hts⟩ (cwV 2 hts (gV q674 q675 q676 q24 q677) rfl rfl rfl (by decide +kernel) ⟨Nat.le_of_ble_eq_true rfl, Nat.le_of_ble_eq_true rfl⟩) (va_recv hK hP (ci := 7) (q0 := 0) rfl rfl) hE hP hD hS hA hZ rfl hl.1 rfl (lv_room (Nat.le_of_ble_eq_true rfl)) dL_call_253 ⟨Nat.le_of_ble_eq_true rfl, Nat.le_of_ble_eq_true rfl⟩ (fun H locs q9 ce hP hD hS hce hv9 hcl => ?_)
      refine vx_catch (E := "java/lang/IllegalArgumentException") hown ((tableOf HH).take 49) ⟨250, 256, 399, 124⟩ ((tableOf HH).drop (49 + 1)) (htab.trans (sp_at (n := 49) hh49)) (hp_of [(122, "java/lang/IndexOutOfBoundsException")] (by decide +kernel) (List.forall_mem_cons.mpr ⟨⟨hts _ q254, hNC _ nc_1_3⟩, fun _ h => absurd h List.not_mem_nil⟩)) (by decide) (by decide) (hts _ q333) (va_Nw.use rfl (hE.2.1 _ n347)) hce hv9 hcl ?_
      refine lv_astore (lv' := [(5, .ref q9), (0, .ref (ad 0)), (1, .int 14), (2, .int p2), (3, .int p3), (4, .int p4)]) hx hb dL_call_399 hl (by decide) rfl (fun ls hl => ?_)
      refine lv_sipush (v := (-1002)) hx hb dL_call_401 (by decide) ?_
      cases hf
      exact endw_i hAe hQm hx hb hr hlocks rfl hP hD hS dL_call_404 (Nat.le_of_ble_eq_true rfl) (Nat.le_of_ble_eq_true rfl)
    have hf := br_neg c9 hf
    by_cases c10 : n6 = 2
    · subst c10
      have hf := br_pos rfl hf
      refine cw_vi_err (rest := []) (m_C_promise l hst ca ad bq nF nO nL nA nC nV nU nP nE bF bO bL bA bC bV bU bP bE cT cK cO cQ cD pT pK pR pW pU pI pC uO uF uE uN wK jM jN jZ jB R _ p2 p3 (.error 2) nP_2 nE_3 cK_4 h5) ⟨hx, hb, hml, hown, hts⟩ (cwV 2 hts (gV q674 q675 q676 q24 q677) rfl rfl rfl (by decide +kernel) ⟨Nat.le_of_ble_eq_true rfl, Nat.le_of_ble_eq_true rfl⟩) (va_recv hK hP (ci := 7) (q0 := 0) rfl rfl) hE hP hD hS hA hZ rfl hl.1 rfl (lv_room (Nat.le_of_ble_eq_true rfl)) dL_call_253 ⟨Nat.le_of_ble_eq_true rfl, Nat.le_of_ble_eq_true rfl⟩ (fun H locs q9 ce hP hD hS hce hv9 hcl => ?_)
      refine vx_catch (E := "java/lang/IllegalStateException") hown ((tableOf HH).take 84) ⟨250, 256, 405, 126⟩ ((tableOf HH).drop (84 + 1)) (htab.trans (sp_at (n := 84) hh84)) (hp_of [(122, "java/lang/IndexOutOfBoundsException"), (124, "java/lang/IllegalArgumentException")] (by decide +kernel) (List.forall_mem_cons.mpr ⟨⟨hts _ q254, hNC _ nc_2_3⟩, List.forall_mem_cons.mpr ⟨⟨hts _ q333, hNC _ nc_2_1⟩, fun _ h => absurd h List.not_mem_nil⟩⟩)) (by decide) (by decide) (hts _ q334) (va_Nw.use rfl (hE.2.1 _ n367)) hce hv9 hcl ?_
      refine lv_astore (lv' := [(5, .ref q9), (0, .ref (ad 0)), (1, .int 14), (2, .int p2), (3, .int p3), (4, .int p4)]) hx hb dL_call_405 hl (by decide) rfl (fun ls hl => ?_)
      refine lv_sipush (v := (-1003)) hx hb dL_call_407 (by decide) ?_
      cases hf
      exact endw_i hAe hQm hx hb hr hlocks rfl hP hD hS dL_call_410 (Nat.le_of_ble_eq_true rfl) (Nat.le_of_ble_eq_true rfl)
    have hf := br_neg c10 hf
    by_cases c11 : n6 = 4
    · subst c11
      have hf := br_pos rfl hf
      refine cw_vi_err (rest := []) (m_C_promise l hst ca ad bq nF nO nL nA nC nV nU nP nE bF bO bL bA bC bV bU bP bE cT cK cO cQ cD pT pK pR pW pU pI pC uO uF uE uN wK jM jN jZ jB R _ p2 p3 (.error 4) nP_2 nE_3 cK_4 h5) ⟨hx, hb, hml, hown, hts⟩ (cwV 2 hts (gV q674 q675 q676 q24 q677) rfl rfl rfl (by decide +kernel) ⟨Nat.le_of_ble_eq_true rfl, Nat.le_of_ble_eq_true rfl⟩) (va_recv hK hP (ci := 7) (q0 := 0) rfl rfl) hE hP hD hS hA hZ rfl hl.1 rfl (lv_room (Nat.le_of_ble_eq_true rfl)) dL_call_253 ⟨Nat.le_of_ble_eq_true rfl, Nat.le_of_ble_eq_true rfl⟩ (fun H locs q9 ce hP hD hS hce hv9 hcl => ?_)
      refine vx_catch (E := "java/lang/UnsupportedOperationException") hown ((tableOf HH).take 119) ⟨250, 256, 411, 128⟩ ((tableOf HH).drop (119 + 1)) (htab.trans (sp_at (n := 119) hh119)) (hp_of [(122, "java/lang/IndexOutOfBoundsException"), (124, "java/lang/IllegalArgumentException"), (126, "java/lang/IllegalStateException")] (by decide +kernel) (List.forall_mem_cons.mpr ⟨⟨hts _ q254, hNC _ nc_4_3⟩, List.forall_mem_cons.mpr ⟨⟨hts _ q333, hNC _ nc_4_1⟩, List.forall_mem_cons.mpr ⟨⟨hts _ q334, hNC _ nc_4_2⟩, fun _ h => absurd h List.not_mem_nil⟩⟩⟩)) (by decide) (by decide) (hts _ q335) (va_Nw.use rfl (hE.2.1 _ n547)) hce hv9 hcl ?_
      refine lv_astore (lv' := [(5, .ref q9), (0, .ref (ad 0)), (1, .int 14), (2, .int p2), (3, .int p3), (4, .int p4)]) hx hb dL_call_411 hl (by decide) rfl (fun ls hl => ?_)
      refine lv_sipush (v := (-1004)) hx hb dL_call_413 (by decide) ?_
      cases hf
      exact endw_i hAe hQm hx hb hr hlocks rfl hP hD hS dL_call_416 (Nat.le_of_ble_eq_true rfl) (Nat.le_of_ble_eq_true rfl)
    have hf := br_neg c11 hf
    by_cases c12 : n6 = 5
    · subst c12
      have hf := br_pos rfl hf
      refine cw_vi_err (rest := []) (m_C_promise l hst ca ad bq nF nO nL nA nC nV nU nP nE bF bO bL bA bC bV bU bP bE cT cK cO cQ cD pT pK pR pW pU pI pC uO uF uE uN wK jM jN jZ jB R _ p2 p3 (.error 5) nP_2 nE_3 cK_4 h5) ⟨hx, hb, hml, hown, hts⟩ (cwV 2 hts (gV q674 q675 q676 q24 q677) rfl rfl rfl (by decide +kernel) ⟨Nat.le_of_ble_eq_true rfl, Nat.le_of_ble_eq_true rfl⟩) (va_recv hK hP (ci := 7) (q0 := 0) rfl rfl) hE hP hD hS hA hZ rfl hl.1 rfl (lv_room (Nat.le_of_ble_eq_true rfl)) dL_call_253 ⟨Nat.le_of_ble_eq_true rfl, Nat.le_of_ble_eq_true rfl⟩ (fun H locs q9 ce hP hD hS hce hv9 hcl => ?_)
      refine vx_catch (E := "java/util/NoSuchElementException") hown ((tableOf HH).take 154) ⟨250, 256, 417, 130⟩ ((tableOf HH).drop (154 + 1)) (htab.trans (sp_at (n := 154) hh154)) (hp_of [(122, "java/lang/IndexOutOfBoundsException"), (124, "java/lang/IllegalArgumentException"), (126, "java/lang/IllegalStateException"), (128, "java/lang/UnsupportedOperationException")] (by decide +kernel) (List.forall_mem_cons.mpr ⟨⟨hts _ q254, hNC _ nc_5_3⟩, List.forall_mem_cons.mpr ⟨⟨hts _ q333, hNC _ nc_5_1⟩, List.forall_mem_cons.mpr ⟨⟨hts _ q334, hNC _ nc_5_2⟩, List.forall_mem_cons.mpr ⟨⟨hts _ q335, hNC _ nc_5_4⟩, fun _ h => absurd h List.not_mem_nil⟩⟩⟩⟩)) (by decide) (by decide) (hts _ q336) (va_Nw.use rfl (hE.2.1 _ n606)) hce hv9 hcl ?_
      refine lv_astore (lv' := [(5, .ref q9), (0, .ref (ad 0)), (1, .int 14), (2, .int p2), (3, .int p3), (4, .int p4)]) hx hb dL_call_417 hl (by decide) rfl (fun ls hl => ?_)
      refine lv_sipush (v := (-1005)) hx hb dL_call_419 (by decide) ?_
      cases hf
      exact endw_i hAe hQm hx hb hr hlocks rfl hP hD hS dL_call_422 (Nat.le_of_ble_eq_true rfl) (Nat.le_of_ble_eq_true rfl)
    have hf := br_neg c12 hf
    cases hf
  refine cw_vi_ok (rest := []) (m_C_promise l hst ca ad bq nF nO nL nA nC nV nU nP nE bF bO bL bA bC bV bU bP bE cT cK cO cQ cD pT pK pR pW pU pI pC uO uF uE uN wK jM jN jZ jB R _ p2 p3 (.ok r7) nP_2 nE_3 cK_4 h5) ⟨hx, hb, hml, hown, hts⟩ (cwV 2 hts (gV q674 q675 q676 q24 q677) rfl rfl rfl (by decide +kernel) ⟨Nat.le_of_ble_eq_true rfl, Nat.le_of_ble_eq_true rfl⟩) (va_recv hK hP (ci := 7) (q0 := 0) rfl rfl) hE hP hD hS hA hZ rfl hl.1 rfl (lv_room (Nat.le_of_ble_eq_true rfl)) dL_call_253 ⟨Nat.le_of_ble_eq_true rfl, Nat.le_of_ble_eq_true rfl⟩ (fun H locs hP hD hS => ?_)
  cases hf
  exact endw_i hAe hQm hx hb hr hlocks rfl hP hD hS dL_call_256 (Nat.le_of_ble_eq_true rfl) (Nat.le_of_ble_eq_true rfl)
