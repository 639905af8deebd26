def f_K15 (p2 : Int32) (nP : Nat → Int32) (cO : Int32) : Option (Int32) :=
  (f_C_promisedTo p2 nP cO).bind fun x1 =>
  match x1 with
  | .error n3 => if n3 = 3 then some (-1001) else if n3 = 1 then some (-1002) else if n3 = 2 then some (-1003) else if n3 = 4 then some (-1004) else if n3 = 5 then some (-1005) else none
  | .ok r4 =>
  some r4
set_option maxHeartbeats 4000000 in
set_option maxRecDepth 100000 in
theorem m_K15 (l : Launch) (hst : l.stackTraces = false) {D : va_G} (ca : Nat → ClassId) (ad : Nat → Nat) (bq : Nat) (nF : Int32) (nO : Nat → Int32) (nL : Nat → Int32) (nA : Nat → Int32) (nC : Nat → Int32) (nV : Nat → Int32) (nU : Nat → Int32) (nP : Nat → Int32) (nE : Int32) (bF : Int32) (bO : Nat → Int32) (bL : Nat → Int32) (bA : Nat → Int32) (bC : Nat → Int32) (bV : Nat → Int32) (bU : Nat → Int32) (bP : Nat → Int32) (bE : Int32) (cT : Int32) (cK : Nat → Int32) (cO : Int32) (cQ : Nat → Int32) (cD : Int32) (pT : Int32) (pK : Int32) (pR : Nat → Int32) (pW : Nat → Int32) (pU : Nat → Int32) (pI : Nat → Int32) (pC : Nat → Nat → Int32) (uO : Int32) (uF : Nat → Int32) (uE : Nat → Int32) (uN : Nat → Int32) (wK : Nat → Int32) (jM : Int32) (jN : Int32) (jZ : Nat) (jB : Nat → Int32) (R : va_W) (sz : Nat) (p2 : Int32) (p3 : Int32) (p4 : Int32) (ro : Int32) (hf : f_K15 p2 nP cO = some ro) : vx_Met l yL_call (wmW yL_call cL_call 6 (some .int) HH) ({ frames := 8, cells := 1, slots := 6, locals := 132 } : Room) (PREL [.ref (ad 0), .int 15, .int p2, .int p3, .int p4] D ca SL0 (WC ca ad bq nF nO nL nA nC nV nU nP nE bF bO bL bA bC bV bU bP bE cT cK cO cQ cD pT pK pR pW pU pI pC uO uF uE uN wK jM jN jZ jB ++ R) sz) (QI ro D (WC ca ad bq nF nO nL nA nC nV nU nP nE bF bO bL bA bC bV bU bP bE cT cK cO cQ cD pT pK pR pW pU pI pC uO uF uE uN wK jM jN jZ jB ++ R) (WC ca ad bq nF nO nL nA nC nV nU nP nE bF bO bL bA bC bV bU bP bE cT cK cO cQ cD pT pK pR pW pU pI pC uO uF uE uN wK jM jN jZ jB ++ R) sz) (fun _ _ _ => False) 1 6 (va_A (WC ca ad bq nF nO nL nA nC nV nU nP nE bF bO bL bA bC bV bU bP bE cT cK cO cQ cD pT pK pR pW pU pI pC uO uF uE uN wK jM jN jZ jB ++ R) sz) := by
  refine vx_ofWH (cc := cL_call) (maxL := 6) (ret := (some .int)) (hh := HH) (by decide) rfl ?_
  intro p e s m args below meth c s₁ B hml hv
  obtain ⟨rfl, rfl, hP, hE, hD0, hZ, hNC⟩ := hv
  have hx := B.exec
  have hb := B.bytes
  have hr := B.returns
  have hts0 := atoms_spec (ws := wmW yL_call cL_call 6 (some .int) HH) B.pre
  have hts := wmW_ww hts0
  have htab := vx_table (x := yL_call) B (hts0 _ List.mem_cons_self)
  have hown : s.vm.findClass RL = some m.cls := findClass_of_methodNamed B.named
  have hlocks := B.notSynchronized
  have hK := hE.1
  have hD := hD0.self (sz := s.heap.size)
  generalize hAe : va_A (WC ca ad bq nF nO nL nA nC nV nU nP nE bF bO bL bA bC bV bU bP bE cT cK cO cQ cD pT pK pR pW pU pI pC uO uF uE uN wK jM jN jZ jB ++ R) s.heap.size = A at hD hZ ⊢
  have hA : ∀ q : Nat, s.heap.size ≤ q → A q := fun q h => by rw [← hAe]; exact Or.inr h
  have hS : va_S A s.heap s.heap [] := va_S.rf
  have hl := lv_entry ([.ref (ad 0), .int 15, .int p2, .int p3, .int p4]) (n := 6) (Nat.le_of_ble_eq_true rfl)
  rw [lg_entry_eq]
  generalize (lg_sl ([.ref (ad 0), .int 15, .int p2, .int p3, .int p4]) ++ List.replicate (6 - (lg_sl ([.ref (ad 0), .int 15, .int p2, .int p3, .int p4])).length) Slot.unset).toArray = ls at hl ⊢
  have hl : lv_has ls 6 [(0, .ref (ad 0)), (1, .int 15), (2, .int p2), (3, .int p3), (4, .int p4)] := hl
  change W p l e ({ frames := 8, cells := 1, slots := 6, locals := 132 } : Room) s m _ below meth c s.heap [] 0 0 _ _
  generalize hQm : vx_MQ below (QI ro D (WC ca ad bq nF nO nL nA nC nV nU nP nE bF bO bL bA bC bV bU bP bE cT cK cO cQ cD pT pK pR pW pU pI pC uO uF uE uN wK jM jN jZ jB ++ R) (WC ca ad bq nF nO nL nA nC nV nU nP nE bF bO bL bA bC bV bU bP bE cT cK cO cQ cD pT pK pR pW pU pI pC uO uF uE uN wK jM jN jZ jB ++ R) s.heap.size) (fun _ _ _ => False) _ s 1 6 A = Qm
  have hP : va_P D vwCl (WC ca ad bq nF nO nL nA nC nV nU nP nE bF bO bL bA bC bV bU bP bE cT cK cO cQ cD pT pK pR pW pU pI pC uO uF uE uN wK jM jN jZ jB ++ R) s.heap := hP
  generalize hae : ([.ref (ad 0), .int 15, .int p2, .int p3, .int p4] : List Value).toArray = args at hts hQm ⊢
  refine lv_iload_n hx hb dL_call_0 rfl (lv_at hl 1 rfl) ?_
  refine lv_tableIn (off := 256) (tgt := 257) hx hb dL_call_1 (by decide) (by decide) rfl (by decide) ?_
  refine lv_aload_n hx hb dL_call_257 rfl (lv_at hl 0 rfl) ?_
  refine lv_iload_n hx hb dL_call_258 rfl (lv_at hl 2 rfl) ?_
  obtain ⟨x1, h2, hf⟩ := bnd hf
  rcases x1 with n3 | r4
  · have hf : (if n3 = 3 then some (-1001) else if n3 = 1 then some (-1002) else if n3 = 2 then some (-1003) else if n3 = 4 then some (-1004) else if n3 = 5 then some (-1005) else none) = some ro := hf
    by_cases c5 : n3 = 3
    · subst c5
      have hf := br_pos rfl hf
      refine cw_vi_err (rest := []) (m_C_promisedTo l hst ca ad bq nF nO nL nA nC nV nU nP nE bF bO bL bA bC bV bU bP bE cT cK cO cQ cD pT pK pR pW pU pI pC uO uF uE uN wK jM jN jZ jB R _ p2 (.error 3) h2) ⟨hx, hb, hml, hown, hts⟩ (cwV 1 hts (gV q680 q681 q682 q24 q683) rfl rfl rfl (by decide +kernel) ⟨Nat.le_of_ble_eq_true rfl, Nat.le_of_ble_eq_true rfl⟩) (va_recv hK hP (ci := 7) (q0 := 0) rfl rfl) hE hP hD hS hA hZ rfl hl.1 rfl (lv_room (Nat.le_of_ble_eq_true rfl)) dL_call_259 ⟨Nat.le_of_ble_eq_true rfl, Nat.le_of_ble_eq_true rfl⟩ (fun H locs q9 ce hP hD hS hce hv9 hcl => ?_)
      refine vx_catch (E := "java/lang/IndexOutOfBoundsException") hown ((tableOf HH).take 15) ⟨257, 262, 393, 122⟩ ((tableOf HH).drop (15 + 1)) (htab.trans (sp_at (n := 15) hh15)) (hp_of [] (by decide +kernel) (fun _ h => absurd h List.not_mem_nil)) (by decide) (by decide) (hts _ q254) (va_Nw.use rfl (hE.2.1 _ n392)) hce hv9 hcl ?_
      refine lv_astore (lv' := [(5, .ref q9), (0, .ref (ad 0)), (1, .int 15), (2, .int p2), (3, .int p3), (4, .int p4)]) hx hb dL_call_393 hl (by decide) rfl (fun ls hl => ?_)
      refine lv_sipush (v := (-1001)) hx hb dL_call_395 (by decide) ?_
      cases hf
      exact endw_i hAe hQm hx hb hr hlocks rfl hP hD hS dL_call_398 (Nat.le_of_ble_eq_true rfl) (Nat.le_of_ble_eq_true rfl)
    have hf := br_neg c5 hf
    by_cases c6 : n3 = 1
    · subst c6
      have hf := br_pos rfl hf
      refine cw_vi_err (rest := []) (m_C_promisedTo l hst ca ad bq nF nO nL nA nC nV nU nP nE bF bO bL bA bC bV bU bP bE cT cK cO cQ cD pT pK pR pW pU pI pC uO uF uE uN wK jM jN jZ jB R _ p2 (.error 1) h2) ⟨hx, hb, hml, hown, hts⟩ (cwV 1 hts (gV q680 q681 q682 q24 q683) rfl rfl rfl (by decide +kernel) ⟨Nat.le_of_ble_eq_true rfl, Nat.le_of_ble_eq_true rfl⟩) (va_recv hK hP (ci := 7) (q0 := 0) rfl rfl) hE hP hD hS hA hZ rfl hl.1 rfl (lv_room (Nat.le_of_ble_eq_true rfl)) dL_call_259 ⟨Nat.le_of_ble_eq_true rfl, Nat.le_of_ble_eq_true rfl⟩ (fun H locs q9 ce hP hD hS hce hv9 hcl => ?_)
      refine vx_catch (E := "java/lang/IllegalArgumentException") hown ((tableOf HH).take 50) ⟨257, 262, 399, 124⟩ ((tableOf HH).drop (50 + 1)) (htab.trans (sp_at (n := 50) hh50)) (hp_of [(122, "java/lang/IndexOutOfBoundsException")] (by decide +kernel) (List.forall_mem_cons.mpr ⟨⟨hts _ q254, hNC _ nc_1_3⟩, fun _ h => absurd h List.not_mem_nil⟩)) (by decide) (by decide) (hts _ q333) (va_Nw.use rfl (hE.2.1 _ n347)) hce hv9 hcl ?_
      refine lv_astore (lv' := [(5, .ref q9), (0, .ref (ad 0)), (1, .int 15), (2, .int p2), (3, .int p3), (4, .int p4)]) hx hb dL_call_399 hl (by decide) rfl (fun ls hl => ?_)
      refine lv_sipush (v := (-1002)) hx hb dL_call_401 (by decide) ?_
      cases hf
      exact endw_i hAe hQm hx hb hr hlocks rfl hP hD hS dL_call_404 (Nat.le_of_ble_eq_true rfl) (Nat.le_of_ble_eq_true rfl)
    have hf := br_neg c6 hf
    by_cases c7 : n3 = 2
    · subst c7
      have hf := br_pos rfl hf
      refine cw_vi_err (rest := []) (m_C_promisedTo l hst ca ad bq nF nO nL nA nC nV nU nP nE bF bO bL bA bC bV bU bP bE cT cK cO cQ cD pT pK pR pW pU pI pC uO uF uE uN wK jM jN jZ jB R _ p2 (.error 2) h2) ⟨hx, hb, hml, hown, hts⟩ (cwV 1 hts (gV q680 q681 q682 q24 q683) rfl rfl rfl (by decide +kernel) ⟨Nat.le_of_ble_eq_true rfl, Nat.le_of_ble_eq_true rfl⟩) (va_recv hK hP (ci := 7) (q0 := 0) rfl rfl) hE hP hD hS hA hZ rfl hl.1 rfl (lv_room (Nat.le_of_ble_eq_true rfl)) dL_call_259 ⟨Nat.le_of_ble_eq_true rfl, Nat.le_of_ble_eq_true rfl⟩ (fun H locs q9 ce hP hD hS hce hv9 hcl => ?_)
      refine vx_catch (E := "java/lang/IllegalStateException") hown ((tableOf HH).take 85) ⟨257, 262, 405, 126⟩ ((tableOf HH).drop (85 + 1)) (htab.trans (sp_at (n := 85) hh85)) (hp_of [(122, "java/lang/IndexOutOfBoundsException"), (124, "java/lang/IllegalArgumentException")] (by decide +kernel) (List.forall_mem_cons.mpr ⟨⟨hts _ q254, hNC _ nc_2_3⟩, List.forall_mem_cons.mpr ⟨⟨hts _ q333, hNC _ nc_2_1⟩, fun _ h => absurd h List.not_mem_nil⟩⟩)) (by decide) (by decide) (hts _ q334) (va_Nw.use rfl (hE.2.1 _ n367)) hce hv9 hcl ?_
      refine lv_astore (lv' := [(5, .ref q9), (0, .ref (ad 0)), (1, .int 15), (2, .int p2), (3, .int p3), (4, .int p4)]) hx hb dL_call_405 hl (by decide) rfl (fun ls hl => ?_)
      refine lv_sipush (v := (-1003)) hx hb dL_call_407 (by decide) ?_
      cases hf
      exact endw_i hAe hQm hx hb hr hlocks rfl hP hD hS dL_call_410 (Nat.le_of_ble_eq_true rfl) (Nat.le_of_ble_eq_true rfl)
    have hf := br_neg c7 hf
    by_cases c8 : n3 = 4
    · subst c8
      have hf := br_pos rfl hf
      refine cw_vi_err (rest := []) (m_C_promisedTo l hst ca ad bq nF nO nL nA nC nV nU nP nE bF bO bL bA bC bV bU bP bE cT cK cO cQ cD pT pK pR pW pU pI pC uO uF uE uN wK jM jN jZ jB R _ p2 (.error 4) h2) ⟨hx, hb, hml, hown, hts⟩ (cwV 1 hts (gV q680 q681 q682 q24 q683) rfl rfl rfl (by decide +kernel) ⟨Nat.le_of_ble_eq_true rfl, Nat.le_of_ble_eq_true rfl⟩) (va_recv hK hP (ci := 7) (q0 := 0) rfl rfl) hE hP hD hS hA hZ rfl hl.1 rfl (lv_room (Nat.le_of_ble_eq_true rfl)) dL_call_259 ⟨Nat.le_of_ble_eq_true rfl, Nat.le_of_ble_eq_true rfl⟩ (fun H locs q9 ce hP hD hS hce hv9 hcl => ?_)
      refine vx_catch (E := "java/lang/UnsupportedOperationException") hown ((tableOf HH).take 120) ⟨257, 262, 411, 128⟩ ((tableOf HH).drop (120 + 1)) (htab.trans (sp_at (n := 120) hh120)) (hp_of [(122, "java/lang/IndexOutOfBoundsException"), (124, "java/lang/IllegalArgumentException"), (126, "java/lang/IllegalStateException")] (by decide +kernel) (List.forall_mem_cons.mpr ⟨⟨hts _ q254, hNC _ nc_4_3⟩, List.forall_mem_cons.mpr ⟨⟨hts _ q333, hNC _ nc_4_1⟩, List.forall_mem_cons.mpr ⟨⟨hts _ q334, hNC _ nc_4_2⟩, fun _ h => absurd h List.not_mem_nil⟩⟩⟩)) (by decide) (by decide) (hts _ q335) (va_Nw.use rfl (hE.2.1 _ n547)) hce hv9 hcl ?_
      refine lv_astore (lv' := [(5, .ref q9), (0, .ref (ad 0)), (1, .int 15), (2, .int p2), (3, .int p3), (4, .int p4)]) hx hb dL_call_411 hl (by decide) rfl (fun ls hl => ?_)
      refine lv_sipush (v := (-1004)) hx hb dL_call_413 (by decide) ?_
      cases hf
      exact endw_i hAe hQm hx hb hr hlocks rfl hP hD hS dL_call_416 (Nat.le_of_ble_eq_true rfl) (Nat.le_of_ble_eq_true rfl)
    have hf := br_neg c8 hf
    by_cases c9 : n3 = 5
    · subst c9
      have hf := br_pos rfl hf
      refine cw_vi_err (rest := []) (m_C_promisedTo l hst ca ad bq nF nO nL nA nC nV nU nP nE bF bO bL bA bC bV bU bP bE cT cK cO cQ cD pT pK pR pW pU pI pC uO uF uE uN wK jM jN jZ jB R _ p2 (.error 5) h2) ⟨hx, hb, hml, hown, hts⟩ (cwV 1 hts (gV q680 q681 q682 q24 q683) rfl rfl rfl (by decide +kernel) ⟨Nat.le_of_ble_eq_true rfl, Nat.le_of_ble_eq_true rfl⟩) (va_recv hK hP (ci := 7) (q0 := 0) rfl rfl) hE hP hD hS hA hZ rfl hl.1 rfl (lv_room (Nat.le_of_ble_eq_true rfl)) dL_call_259 ⟨Nat.le_of_ble_eq_true rfl, Nat.le_of_ble_eq_true rfl⟩ (fun H locs q9 ce hP hD hS hce hv9 hcl => ?_)
      refine vx_catch (E := "java/util/NoSuchElementException") hown ((tableOf HH).take 155) ⟨257, 262, 417, 130⟩ ((tableOf HH).drop (155 + 1)) (htab.trans (sp_at (n := 155) hh155)) (hp_of [(122, "java/lang/IndexOutOfBoundsException"), (124, "java/lang/IllegalArgumentException"), (126, "java/lang/IllegalStateException"), (128, "java/lang/UnsupportedOperationException")] (by decide +kernel) (List.forall_mem_cons.mpr ⟨⟨hts _ q254, hNC _ nc_5_3⟩, List.forall_mem_cons.mpr ⟨⟨hts _ q333, hNC _ nc_5_1⟩, List.forall_mem_cons.mpr ⟨⟨hts _ q334, hNC _ nc_5_2⟩, List.forall_mem_cons.mpr ⟨⟨hts _ q335, hNC _ nc_5_4⟩, fun _ h => absurd h List.not_mem_nil⟩⟩⟩⟩)) (by decide) (by decide) (hts _ q336) (va_Nw.use rfl (hE.2.1 _ n606)) hce hv9 hcl ?_
      refine lv_astore (lv' := [(5, .ref q9), (0, .ref (ad 0)), (1, .int 15), (2, .int p2), (3, .int p3), (4, .int p4)]) hx hb dL_call_417 hl (by decide) rfl (fun ls hl => ?_)
      refine lv_sipush (v := (-1005)) hx hb dL_call_419 (by decide) ?_
      cases hf
      exact endw_i hAe hQm hx hb hr hlocks rfl hP hD hS dL_call_422 (Nat.le_of_ble_eq_true rfl) (Nat.le_of_ble_eq_true rfl)
    have hf := br_neg c9 hf
    cases hf
  refine cw_vi_ok (rest := []) (m_C_promisedTo l hst ca ad bq nF nO nL nA nC nV nU nP nE bF bO bL bA bC bV bU bP bE cT cK cO cQ cD pT pK pR pW pU pI pC uO uF uE uN wK jM jN jZ jB R _ p2 (.ok r4) h2) ⟨hx, hb, hml, hown, hts⟩ (cwV 1 hts (gV q680 q681 q682 q24 q683) rfl rfl rfl (by decide +kernel) ⟨Nat.le_of_ble_eq_true rfl, Nat.le_of_ble_eq_true rfl⟩) (va_recv hK hP (ci := 7) (q0 := 0) rfl rfl) hE hP hD hS hA hZ rfl hl.1 rfl (lv_room (Nat.le_of_ble_eq_true rfl)) dL_call_259 ⟨Nat.le_of_ble_eq_true rfl, Nat.le_of_ble_eq_true rfl⟩ (fun H locs hP hD hS => ?_)
  cases hf
  exact endw_i hAe hQm hx hb hr hlocks rfl hP hD hS dL_call_262 (Nat.le_of_ble_eq_true rfl) (Nat.le_of_ble_eq_true rfl)
def f_K16 (p2 : Int32) (nP : Nat → Int32) (nE : Int32) (cK : Nat → Int32) (cO : Int32) : Option (Int32 × (Nat → Int32) × Int32 × (Nat → Int32)) :=
  (f_C_giveBack p2 nP nE cK cO).bind fun (x1, nP_2, nE_3, cK_4) =>
  match x1 with
  | .error n6 => if n6 = 3 then some ((-1001), nP_2, nE_3, cK_4) else if n6 = 1 then some ((-1002), nP_2, nE_3, cK_4) else if n6 = 2 then some ((-1003), nP_2, nE_3, cK_4) else if n6 = 4 then some ((-1004), nP_2, nE_3, cK_4) else if n6 = 5 then some ((-1005), nP_2, nE_3, cK_4) else none
  | .ok r7 =>
  some (r7, nP_2, nE_3, cK_4)
set_option maxHeartbeats 4000000 in
set_option maxRecDepth 100000 in
theorem m_K16 (l : Launch) (hst : l.stackTraces = false) {D : va_G} (ca : Nat → ClassId) (ad : Nat → Nat) (bq : Nat) (nF : Int32) (nO : Nat → Int32) (nL : Nat → Int32) (nA : Nat → Int32) (nC : Nat → Int32) (nV : Nat → Int32) (nU : Nat → Int32) (nP : Nat → Int32) (nE : Int32) (bF : Int32) (bO : Nat → Int32) (bL : Nat → Int32) (bA : Nat → Int32) (bC : Nat → Int32) (bV : Nat → Int32) (bU : Nat → Int32) (bP : Nat → Int32) (bE : Int32) (cT : Int32) (cK : Nat → Int32) (cO : Int32) (cQ : Nat → Int32) (cD : Int32) (pT : Int32) (pK : Int32) (pR : Nat → Int32) (pW : Nat → Int32) (pU : Nat → Int32) (pI : Nat → Int32) (pC : Nat → Nat → Int32) (uO : Int32) (uF : Nat → Int32) (uE : Nat → Int32) (uN : Nat → Int32) (wK : Nat → Int32) (jM : Int32) (jN : Int32) (jZ : Nat) (jB : Nat → Int32) (R : va_W) (sz : Nat) (p2 : Int32) (p3 : Int32) (p4 : Int32) (ro : Int32) (onP : Nat → Int32) (onE : Int32) (ocK : Nat → Int32) (hf : f_K16 p2 nP nE cK cO = some (ro, onP, onE, ocK)) : vx_Met l yL_call (wmW yL_call cL_call 6 (some .int) HH) ({ frames := 8, cells := 2, slots := 12, locals := 133 } : Room) (PREL [.ref (ad 0), .int 16, .int p2, .int p3, .int p4] D ca SL0 (WC ca ad bq nF nO nL nA nC nV nU nP nE bF bO bL bA bC bV bU bP bE cT cK cO cQ cD pT pK pR pW pU pI pC uO uF uE uN wK jM jN jZ jB ++ R) sz) (QI ro D (WC ca ad bq nF nO nL nA nC nV nU onP onE bF bO bL bA bC bV bU bP bE cT ocK cO cQ cD pT pK pR pW pU pI pC uO uF uE uN wK jM jN jZ jB ++ R) (WC ca ad bq nF nO nL nA nC nV nU nP nE bF bO bL bA bC bV bU bP bE cT cK cO cQ cD pT pK pR pW pU pI pC uO uF uE uN wK jM jN jZ jB ++ R) sz) (fun _ _ _ => False) 2 12 (va_A (WC ca ad bq nF nO nL nA nC nV nU nP nE bF bO bL bA bC bV bU bP bE cT cK cO cQ cD pT pK pR pW pU pI pC uO uF uE uN wK jM jN jZ jB ++ R) sz) := by
  refine vx_ofWH (cc := cL_call) (maxL := 6) (ret := (some .int)) (hh := HH) (by decide) rfl ?_
  intro p e s m args below meth c s₁ B hml hv
  obtain ⟨rfl, rfl, hP, hE, hD0, hZ, hNC⟩ := hv
  have hx := B.exec
  have hb := B.bytes
  have hr := B.returns
  have hts0 := atoms_spec (ws := wmW yL_call cL_call 6 (some .int) HH) B.pre
  have hts := wmW_ww hts0
  have htab := vx_table (x := yL_call) B (hts0 _ List.mem_cons_self)
  have hown : s.vm.findClass RL = some m.cls := findClass_of_methodNamed B.named
  have hlocks := B.notSynchronized
  have hK := hE.1
  have hD := hD0.self (sz := s.heap.size)
  generalize hAe : va_A (WC ca ad bq nF nO nL nA nC nV nU nP nE bF bO bL bA bC bV bU bP bE cT cK cO cQ cD pT pK pR pW pU pI pC uO uF uE uN wK jM jN jZ jB ++ R) s.heap.size = A at hD hZ ⊢
  have hA : ∀ q : Nat, s.heap.size ≤ q → A q := fun q h => by rw [← hAe]; exact Or.inr h
  have hS : va_S A s.heap s.heap [] := va_S.rf
  have hl := lv_entry ([.ref (ad 0), .int 16, .int p2, .int p3, .int p4]) (n := 6) (Nat.le_of_ble_eq_true rfl)
  rw [lg_entry_eq]
  generalize (lg_sl ([.ref (ad 0), .int 16, .int p2, .int p3, .int p4]) ++ List.replicate (6 - (lg_sl ([.ref (ad 0), .int 16, .int p2, .int p3, .int p4])).length) Slot.unset).toArray = ls at hl ⊢
  have hl : lv_has ls 6 [(0, .ref (ad 0)), (1, .int 16), (2, .int p2), (3, .int p3), (4, .int p4)] := hl
  change W p l e ({ frames := 8, cells := 2, slots := 12, locals := 133 } : Room) s m _ below meth c s.heap [] 0 0 _ _
  generalize hQm : vx_MQ below (QI ro D (WC ca ad bq nF nO nL nA nC nV nU onP onE bF bO bL bA bC bV bU bP bE cT ocK cO cQ cD pT pK pR pW pU pI pC uO uF uE uN wK jM jN jZ jB ++ R) (WC ca ad bq nF nO nL nA nC nV nU nP nE bF bO bL bA bC bV bU bP bE cT cK cO cQ cD pT pK pR pW pU pI pC uO uF uE uN wK jM jN jZ jB ++ R) s.heap.size) (fun _ _ _ => False) _ s 2 12 A = Qm
  have hP : va_P D vwCl (WC ca ad bq nF nO nL nA nC nV nU nP nE bF bO bL bA bC bV bU bP bE cT cK cO cQ cD pT pK pR pW pU pI pC uO uF uE uN wK jM jN jZ jB ++ R) s.heap := hP
  generalize hae : ([.ref (ad 0), .int 16, .int p2, .int p3, .int p4] : List Value).toArray = args at hts hQm ⊢
  refine lv_iload_n hx hb dL_call_0 rfl (lv_at hl 1 rfl) ?_
  refine lv_tableIn (off := 262) (tgt := 263) hx hb dL_call_1 (by decide) (by decide) rfl (by decide) ?_
  refine lv_aload_n hx hb dL_call_263 rfl (lv_at hl 0 rfl) ?_
  refine lv_iload_n hx hb dL_call_264 rfl (lv_at hl 2 rfl) ?_
  obtain ⟨⟨x1, nP_2, nE_3, cK_4⟩, h5, hf⟩ := bnd hf
  rcases x1 with n6 | r7
  · have hf : (if n6 = 3 then some ((-1001), nP_2, nE_3, cK_4) else if n6 = 1 then some ((-1002), nP_2, nE_3, cK_4) else if n6 = 2 then some ((-1003), nP_2, nE_3, cK_4) else if n6 = 4 then some ((-1004), nP_2, nE_3, cK_4) else if n6 = 5 then some ((-1005), nP_2, nE_3, cK_4) else none) = some (ro, onP, onE, ocK) := hf
    by_cases c8 : n6 = 3
    · subst c8
      have hf := br_pos rfl hf
      refine cw_vi_err (rest := []) (m_C_giveBack l hst ca ad bq nF nO nL nA nC nV nU nP nE bF bO bL bA bC bV bU bP bE cT cK cO cQ cD pT pK pR pW pU pI pC uO uF uE uN wK jM jN jZ jB R _ p2 (.error 3) nP_2 nE_3 cK_4 h5) ⟨hx, hb, hml, hown, hts⟩ (cwV 1 hts (gV q684 q685 q686 q24 q687) rfl rfl rfl (by decide +kernel) ⟨Nat.le_of_ble_eq_true rfl, Nat.le_of_ble_eq_true rfl⟩) (va_recv hK hP (ci := 7) (q0 := 0) rfl rfl) hE hP hD hS hA hZ rfl hl.1 rfl (lv_room (Nat.le_of_ble_eq_true rfl)) dL_call_265 ⟨Nat.le_of_ble_eq_true rfl, Nat.le_of_ble_eq_true rfl⟩ (fun H locs q9 ce hP hD hS hce hv9 hcl => ?_)
      refine vx_catch (E := "java/lang/IndexOutOfBoundsException") hown ((tableOf HH).take 16) ⟨263, 268, 393, 122⟩ ((tableOf HH).drop (16 + 1)) (htab.trans (sp_at (n := 16) hh16)) (hp_of [] (by decide +kernel) (fun _ h => absurd h List.not_mem_nil)) (by decide) (by decide) (hts _ q254) (va_Nw.use rfl (hE.2.1 _ n392)) hce hv9 hcl ?_
      refine lv_astore (lv' := [(5, .ref q9), (0, .ref (ad 0)), (1, .int 16), (2, .int p2), (3, .int p3), (4, .int p4)]) hx hb dL_call_393 hl (by decide) rfl (fun ls hl => ?_)
      refine lv_sipush (v := (-1001)) hx hb dL_call_395 (by decide) ?_
      cases hf
      exact endw_i hAe hQm hx hb hr hlocks rfl hP hD hS dL_call_398 (Nat.le_of_ble_eq_true rfl) (Nat.le_of_ble_eq_true rfl)
    have hf := br_neg c8 hf
    by_cases c9 : n6 = 1
    · subst c9
      have hf := br_pos rfl hf
      refine cw_vi_err (rest := []) (m_C_giveBack l hst ca ad bq nF nO nL nA nC nV nU nP nE bF bO bL bA bC bV bU bP bE cT cK cO cQ cD pT pK pR pW pU pI pC uO uF uE uN wK jM jN jZ jB R _ p2 (.error 1) nP_2 nE_3 cK_4 h5) ⟨hx, hb, hml, hown, hts⟩ (cwV 1 hts (gV q684 q685 q686 q24 q687) rfl rfl rfl (by decide +kernel) ⟨Nat.le_of_ble_eq_true rfl, Nat.le_of_ble_eq_true rfl⟩) (va_recv hK hP (ci := 7) (q0 := 0) rfl rfl) hE hP hD hS hA hZ rfl hl.1 rfl (lv_room (Nat.le_of_ble_eq_true rfl)) dL_call_265 ⟨Nat.le_of_ble_eq_true rfl, Nat.le_of_ble_eq_true rfl⟩ (fun H locs q9 ce hP hD hS hce hv9 hcl => ?_)
      refine vx_catch (E := "java/lang/IllegalArgumentException") hown ((tableOf HH).take 51) ⟨263, 268, 399, 124⟩ ((tableOf HH).drop (51 + 1)) (htab.trans (sp_at (n := 51) hh51)) (hp_of [(122, "java/lang/IndexOutOfBoundsException")] (by decide +kernel) (List.forall_mem_cons.mpr ⟨⟨hts _ q254, hNC _ nc_1_3⟩, fun _ h => absurd h List.not_mem_nil⟩)) (by decide) (by decide) (hts _ q333) (va_Nw.use rfl (hE.2.1 _ n347)) hce hv9 hcl ?_
      refine lv_astore (lv' := [(5, .ref q9), (0, .ref (ad 0)), (1, .int 16), (2, .int p2), (3, .int p3), (4, .int p4)]) hx hb dL_call_399 hl (by decide) rfl (fun ls hl => ?_)
      refine lv_sipush (v := (-1002)) hx hb dL_call_401 (by decide) ?_
      cases hf
      exact endw_i hAe hQm hx hb hr hlocks rfl hP hD hS dL_call_404 (Nat.le_of_ble_eq_true rfl) (Nat.le_of_ble_eq_true rfl)
    have hf := br_neg c9 hf
    by_cases c10 : n6 = 2
    · subst c10
      have hf := br_pos rfl hf
      refine cw_vi_err (rest := []) (m_C_giveBack l hst ca ad bq nF nO nL nA nC nV nU nP nE bF bO bL bA bC bV bU bP bE cT cK cO cQ cD pT pK pR pW pU pI pC uO uF uE uN wK jM jN jZ jB R _ p2 (.error 2) nP_2 nE_3 cK_4 h5) ⟨hx, hb, hml, hown, hts⟩ (cwV 1 hts (gV q684 q685 q686 q24 q687) rfl rfl rfl (by decide +kernel) ⟨Nat.le_of_ble_eq_true rfl, Nat.le_of_ble_eq_true rfl⟩) (va_recv hK hP (ci := 7) (q0 := 0) rfl rfl) hE hP hD hS hA hZ rfl hl.1 rfl (lv_room (Nat.le_of_ble_eq_true rfl)) dL_call_265 ⟨Nat.le_of_ble_eq_true rfl, Nat.le_of_ble_eq_true rfl⟩ (fun H locs q9 ce hP hD hS hce hv9 hcl => ?_)
      refine vx_catch (E := "java/lang/IllegalStateException") hown ((tableOf HH).take 86) ⟨263, 268, 405, 126⟩ ((tableOf HH).drop (86 + 1)) (htab.trans (sp_at (n := 86) hh86)) (hp_of [(122, "java/lang/IndexOutOfBoundsException"), (124, "java/lang/IllegalArgumentException")] (by decide +kernel) (List.forall_mem_cons.mpr ⟨⟨hts _ q254, hNC _ nc_2_3⟩, List.forall_mem_cons.mpr ⟨⟨hts _ q333, hNC _ nc_2_1⟩, fun _ h => absurd h List.not_mem_nil⟩⟩)) (by decide) (by decide) (hts _ q334) (va_Nw.use rfl (hE.2.1 _ n367)) hce hv9 hcl ?_
      refine lv_astore (lv' := [(5, .ref q9), (0, .ref (ad 0)), (1, .int 16), (2, .int p2), (3, .int p3), (4, .int p4)]) hx hb dL_call_405 hl (by decide) rfl (fun ls hl => ?_)
      refine lv_sipush (v := (-1003)) hx hb dL_call_407 (by decide) ?_
      cases hf
      exact endw_i hAe hQm hx hb hr hlocks rfl hP hD hS dL_call_410 (Nat.le_of_ble_eq_true rfl) (Nat.le_of_ble_eq_true rfl)
    have hf := br_neg c10 hf
    by_cases c11 : n6 = 4
    · subst c11
      have hf := br_pos rfl hf
      refine cw_vi_err (rest := []) (m_C_giveBack l hst ca ad bq nF nO nL nA nC nV nU nP nE bF bO bL bA bC bV bU bP bE cT cK cO cQ cD pT pK pR pW pU pI pC uO uF uE uN wK jM jN jZ jB R _ p2 (.error 4) nP_2 nE_3 cK_4 h5) ⟨hx, hb, hml, hown, hts⟩ (cwV 1 hts (gV q684 q685 q686 q24 q687) rfl rfl rfl (by decide +kernel) ⟨Nat.le_of_ble_eq_true rfl, Nat.le_of_ble_eq_true rfl⟩) (va_recv hK hP (ci := 7) (q0 := 0) rfl rfl) hE hP hD hS hA hZ rfl hl.1 rfl (lv_room (Nat.le_of_ble_eq_true rfl)) dL_call_265 ⟨Nat.le_of_ble_eq_true rfl, Nat.le_of_ble_eq_true rfl⟩ (fun H locs q9 ce hP hD hS hce hv9 hcl => ?_)
      refine vx_catch (E := "java/lang/UnsupportedOperationException") hown ((tableOf HH).take 121) ⟨263, 268, 411, 128⟩ ((tableOf HH).drop (121 + 1)) (htab.trans (sp_at (n := 121) hh121)) (hp_of [(122, "java/lang/IndexOutOfBoundsException"), (124, "java/lang/IllegalArgumentException"), (126, "java/lang/IllegalStateException")] (by decide +kernel) (List.forall_mem_cons.mpr ⟨⟨hts _ q254, hNC _ nc_4_3⟩, List.forall_mem_cons.mpr ⟨⟨hts _ q333, hNC _ nc_4_1⟩, List.forall_mem_cons.mpr ⟨⟨hts _ q334, hNC _ nc_4_2⟩, fun _ h => absurd h List.not_mem_nil⟩⟩⟩)) (by decide) (by decide) (hts _ q335) (va_Nw.use rfl (hE.2.1 _ n547)) hce hv9 hcl ?_
      refine lv_astore (lv' := [(5, .ref q9), (0, .ref (ad 0)), (1, .int 16), (2, .int p2), (3, .int p3), (4, .int p4)]) hx hb dL_call_411 hl (by decide) rfl (fun ls hl => ?_)
      refine lv_sipush (v := (-1004)) hx hb dL_call_413 (by decide) ?_
      cases hf
      exact endw_i hAe hQm hx hb hr hlocks rfl hP hD hS dL_call_416 (Nat.le_of_ble_eq_true rfl) (Nat.le_of_ble_eq_true rfl)
    have hf := br_neg c11 hf
    by_cases c12 : n6 = 5
    · subst c12
      have hf := br_pos rfl hf
      refine cw_vi_err (rest := []) (m_C_giveBack l hst ca ad bq nF nO nL nA nC nV nU nP nE bF bO bL bA bC bV bU bP bE cT cK cO cQ cD pT pK pR pW pU pI pC uO uF uE uN wK jM jN jZ jB R _ p2 (.error 5) nP_2 nE_3 cK_4 h5) ⟨hx, hb, hml, hown, hts⟩ (cwV 1 hts (gV q684 q685 q686 q24 q687) rfl rfl rfl (by decide +kernel) ⟨Nat.le_of_ble_eq_true rfl, Nat.le_of_ble_eq_true rfl⟩) (va_recv hK hP (ci := 7) (q0 := 0) rfl rfl) hE hP hD hS hA hZ rfl hl.1 rfl (lv_room (Nat.le_of_ble_eq_true rfl)) dL_call_265 ⟨Nat.le_of_ble_eq_true rfl, Nat.le_of_ble_eq_true rfl⟩ (fun H locs q9 ce hP hD hS hce hv9 hcl => ?_)
      refine vx_catch (E := "java/util/NoSuchElementException") hown ((tableOf HH).take 156) ⟨263, 268, 417, 130⟩ ((tableOf HH).drop (156 + 1)) (htab.trans (sp_at (n := 156) hh156)) (hp_of [(122, "java/lang/IndexOutOfBoundsException"), (124, "java/lang/IllegalArgumentException"), (126, "java/lang/IllegalStateException"), (128, "java/lang/UnsupportedOperationException")] (by decide +kernel) (List.forall_mem_cons.mpr ⟨⟨hts _ q254, hNC _ nc_5_3⟩, List.forall_mem_cons.mpr ⟨⟨hts _ q333, hNC _ nc_5_1⟩, List.forall_mem_cons.mpr ⟨⟨hts _ q334, hNC _ nc_5_2⟩, List.forall_mem_cons.mpr ⟨⟨hts _ q335, hNC _ nc_5_4⟩, fun _ h => absurd h List.not_mem_nil⟩⟩⟩⟩)) (by decide) (by decide) (hts _ q336) (va_Nw.use rfl (hE.2.1 _ n606)) hce hv9 hcl ?_
      refine lv_astore (lv' := [(5, .ref q9), (0, .ref (ad 0)), (1, .int 16), (2, .int p2), (3, .int p3), (4, .int p4)]) hx hb dL_call_417 hl (by decide) rfl (fun ls hl => ?_)
      refine lv_sipush (v := (-1005)) hx hb dL_call_419 (by decide) ?_
      cases hf
      exact endw_i hAe hQm hx hb hr hlocks rfl hP hD hS dL_call_422 (Nat.le_of_ble_eq_true rfl) (Nat.le_of_ble_eq_true rfl)
    have hf := br_neg c12 hf
    cases hf
  refine cw_vi_ok (rest := []) (m_C_giveBack l hst ca ad bq nF nO nL nA nC nV nU nP nE bF bO bL bA bC bV bU bP bE cT cK cO cQ cD pT pK pR pW pU pI pC uO uF uE uN wK jM jN jZ jB R _ p2 (.ok r7) nP_2 nE_3 cK_4 h5) ⟨hx, hb, hml, hown, hts⟩ (cwV 1 hts (gV q684 q685 q686 q24 q687) rfl rfl rfl (by decide +kernel) ⟨Nat.le_of_ble_eq_true rfl, Nat.le_of_ble_eq_true rfl⟩) (va_recv hK hP (ci := 7) (q0 := 0) rfl rfl) hE hP hD hS hA hZ rfl hl.1 rfl (lv_room (Nat.le_of_ble_eq_true rfl)) dL_call_265 ⟨Nat.le_of_ble_eq_true rfl, Nat.le_of_ble_eq_true rfl⟩ (fun H locs hP hD hS => ?_)
  cases hf
  exact endw_i hAe hQm hx hb hr hlocks rfl hP hD hS dL_call_268 (Nat.le_of_ble_eq_true rfl) (Nat.le_of_ble_eq_true rfl)
def f_K17 (p2 : Int32) (nF : Int32) (nA : Nat → Int32) (nC : Nat → Int32) (nU : Nat → Int32) (cT : Int32) (pT : Int32) (pK : Int32) (pR : Nat → Int32) (pW : Nat → Int32) (pU : Nat → Int32) (pI : Nat → Int32) (pC : Nat → Nat → Int32) : Option (Int32 × (Nat → Int32) × Int32 × Int32 × (Nat → Int32) × (Nat → Int32) × (Nat → Int32) × (Nat → Int32) × (Nat → Nat → Int32)) :=
  (f_C_takeSnapshot p2 nF nA nC nU cT pT pK pR pW pU pI pC).bind fun (x1, nU_2, pT_3, pK_4, pR_5, pW_6, pU_7, pI_8, pC_9) =>
  match x1 with
  | .error n11 => if n11 = 3 then some ((-1001), nU_2, pT_3, pK_4, pR_5, pW_6, pU_7, pI_8, pC_9) else if n11 = 1 then some ((-1002), nU_2, pT_3, pK_4, pR_5, pW_6, pU_7, pI_8, pC_9) else if n11 = 2 then some ((-1003), nU_2, pT_3, pK_4, pR_5, pW_6, pU_7, pI_8, pC_9) else if n11 = 4 then some ((-1004), nU_2, pT_3, pK_4, pR_5, pW_6, pU_7, pI_8, pC_9) else if n11 = 5 then some ((-1005), nU_2, pT_3, pK_4, pR_5, pW_6, pU_7, pI_8, pC_9) else none
  | .ok r12 =>
  some (r12, nU_2, pT_3, pK_4, pR_5, pW_6, pU_7, pI_8, pC_9)
set_option maxHeartbeats 4000000 in
set_option maxRecDepth 100000 in
theorem m_K17 (l : Launch) (hst : l.stackTraces = false) {D : va_G} (ca : Nat → ClassId) (ad : Nat → Nat) (bq : Nat) (nF : Int32) (nO : Nat → Int32) (nL : Nat → Int32) (nA : Nat → Int32) (nC : Nat → Int32) (nV : Nat → Int32) (nU : Nat → Int32) (nP : Nat → Int32) (nE : Int32) (bF : Int32) (bO : Nat → Int32) (bL : Nat → Int32) (bA : Nat → Int32) (bC : Nat → Int32) (bV : Nat → Int32) (bU : Nat → Int32) (bP : Nat → Int32) (bE : Int32) (cT : Int32) (cK : Nat → Int32) (cO : Int32) (cQ : Nat → Int32) (cD : Int32) (pT : Int32) (pK : Int32) (pR : Nat → Int32) (pW : Nat → Int32) (pU : Nat → Int32) (pI : Nat → Int32) (pC : Nat → Nat → Int32) (uO : Int32) (uF : Nat → Int32) (uE : Nat → Int32) (uN : Nat → Int32) (wK : Nat → Int32) (jM : Int32) (jN : Int32) (jZ : Nat) (jB : Nat → Int32) (R : va_W) (sz : Nat) (p2 : Int32) (p3 : Int32) (p4 : Int32) (ro : Int32) (onU : Nat → Int32) (opT : Int32) (opK : Int32) (opR : Nat → Int32) (opW : Nat → Int32) (opU : Nat → Int32) (opI : Nat → Int32) (opC : Nat → Nat → Int32) (hf : f_K17 p2 nF nA nC nU cT pT pK pR pW pU pI pC = some (ro, onU, opT, opK, opR, opW, opU, opI, opC)) : vx_Met l yL_call (wmW yL_call cL_call 6 (some .int) HH) ({ frames := 8, cells := 3, slots := 18, locals := 134 } : Room) (PREL [.ref (ad 0), .int 17, .int p2, .int p3, .int p4] D ca SL0 (WC ca ad bq nF nO nL nA nC nV nU nP nE bF bO bL bA bC bV bU bP bE cT cK cO cQ cD pT pK pR pW pU pI pC uO uF uE uN wK jM jN jZ jB ++ R) sz) (QI ro D (WC ca ad bq nF nO nL nA nC nV onU nP nE bF bO bL bA bC bV bU bP bE cT cK cO cQ cD opT opK opR opW opU opI opC uO uF uE uN wK jM jN jZ jB ++ R) (WC ca ad bq nF nO nL nA nC nV nU nP nE bF bO bL bA bC bV bU bP bE cT cK cO cQ cD pT pK pR pW pU pI pC uO uF uE uN wK jM jN jZ jB ++ R) sz) (fun _ _ _ => False) 3 18 (va_A (WC ca ad bq nF nO nL nA nC nV nU nP nE bF bO bL bA bC bV bU bP bE cT cK cO cQ cD pT pK pR pW pU pI pC uO uF uE uN wK jM jN jZ jB ++ R) sz) := by
  refine vx_ofWH (cc := cL_call) (maxL := 6) (ret := (some .int)) (hh := HH) (by decide) rfl ?_
  intro p e s m args below meth c s₁ B hml hv
  obtain ⟨rfl, rfl, hP, hE, hD0, hZ, hNC⟩ := hv
  have hx := B.exec
  have hb := B.bytes
  have hr := B.returns
  have hts0 := atoms_spec (ws := wmW yL_call cL_call 6 (some .int) HH) B.pre
  have hts := wmW_ww hts0
  have htab := vx_table (x := yL_call) B (hts0 _ List.mem_cons_self)
  have hown : s.vm.findClass RL = some m.cls := findClass_of_methodNamed B.named
  have hlocks := B.notSynchronized
  have hK := hE.1
  have hD := hD0.self (sz := s.heap.size)
  generalize hAe : va_A (WC ca ad bq nF nO nL nA nC nV nU nP nE bF bO bL bA bC bV bU bP bE cT cK cO cQ cD pT pK pR pW pU pI pC uO uF uE uN wK jM jN jZ jB ++ R) s.heap.size = A at hD hZ ⊢
  have hA : ∀ q : Nat, s.heap.size ≤ q → A q := fun q h => by rw [← hAe]; exact Or.inr h
  have hS : va_S A s.heap s.heap [] := va_S.rf
  have hl := lv_entry ([.ref (ad 0), .int 17, .int p2, .int p3, .int p4]) (n := 6) (Nat.le_of_ble_eq_true rfl)
  rw [lg_entry_eq]
  generalize (lg_sl ([.ref (ad 0), .int 17, .int p2, .int p3, .int p4]) ++ List.replicate (6 - (lg_sl ([.ref (ad 0), .int 17, .int p2, .int p3, .int p4])).length) Slot.unset).toArray = ls at hl ⊢
  have hl : lv_has ls 6 [(0, .ref (ad 0)), (1, .int 17), (2, .int p2), (3, .int p3), (4, .int p4)] := hl
  change W p l e ({ frames := 8, cells := 3, slots := 18, locals := 134 } : Room) s m _ below meth c s.heap [] 0 0 _ _
  generalize hQm : vx_MQ below (QI ro D (WC ca ad bq nF nO nL nA nC nV onU nP nE bF bO bL bA bC bV bU bP bE cT cK cO cQ cD opT opK opR opW opU opI opC uO uF uE uN wK jM jN jZ jB ++ R) (WC ca ad bq nF nO nL nA nC nV nU nP nE bF bO bL bA bC bV bU bP bE cT cK cO cQ cD pT pK pR pW pU pI pC uO uF uE uN wK jM jN jZ jB ++ R) s.heap.size) (fun _ _ _ => False) _ s 3 18 A = Qm
  have hP : va_P D vwCl (WC ca ad bq nF nO nL nA nC nV nU nP nE bF bO bL bA bC bV bU bP bE cT cK cO cQ cD pT pK pR pW pU pI pC uO uF uE uN wK jM jN jZ jB ++ R) s.heap := hP
  generalize hae : ([.ref (ad 0), .int 17, .int p2, .int p3, .int p4] : List Value).toArray = args at hts hQm ⊢
  refine lv_iload_n hx hb dL_call_0 rfl (lv_at hl 1 rfl) ?_
  refine lv_tableIn (off := 268) (tgt := 269) hx hb dL_call_1 (by decide) (by decide) rfl (by decide) ?_
  refine lv_aload_n hx hb dL_call_269 rfl (lv_at hl 0 rfl) ?_
  refine lv_iload_n hx hb dL_call_270 rfl (lv_at hl 2 rfl) ?_
  obtain ⟨⟨x1, nU_2, pT_3, pK_4, pR_5, pW_6, pU_7, pI_8, pC_9⟩, h10, hf⟩ := bnd hf
  rcases x1 with n11 | r12
  · have hf : (if n11 = 3 then some ((-1001), nU_2, pT_3, pK_4, pR_5, pW_6, pU_7, pI_8, pC_9) else if n11 = 1 then some ((-1002), nU_2, pT_3, pK_4, pR_5, pW_6, pU_7, pI_8, pC_9) else if n11 = 2 then some ((-1003), nU_2, pT_3, pK_4, pR_5, pW_6, pU_7, pI_8, pC_9) else if n11 = 4 then some ((-1004), nU_2, pT_3, pK_4, pR_5, pW_6, pU_7, pI_8, pC_9) else if n11 = 5 then some ((-1005), nU_2, pT_3, pK_4, pR_5, pW_6, pU_7, pI_8, pC_9) else none) = some (ro, onU, opT, opK, opR, opW, opU, opI, opC) := hf
    by_cases c13 : n11 = 3
    · subst c13
      have hf := br_pos rfl hf
      refine cw_vi_err (rest := []) (m_C_takeSnapshot l hst ca ad bq nF nO nL nA nC nV nU nP nE bF bO bL bA bC bV bU bP bE cT cK cO cQ cD pT pK pR pW pU pI pC uO uF uE uN wK jM jN jZ jB R _ p2 (.error 3) nU_2 pT_3 pK_4 pR_5 pW_6 pU_7 pI_8 pC_9 h10) ⟨hx, hb, hml, hown, hts⟩ (cwV 1 hts (gV q689 q690 q691 q24 q692) rfl rfl rfl (by decide +kernel) ⟨Nat.le_of_ble_eq_true rfl, Nat.le_of_ble_eq_true rfl⟩) (va_recv hK hP (ci := 7) (q0 := 0) rfl rfl) hE hP hD hS hA hZ rfl hl.1 rfl (lv_room (Nat.le_of_ble_eq_true rfl)) dL_call_271 ⟨Nat.le_of_ble_eq_true rfl, Nat.le_of_ble_eq_true rfl⟩ (fun H locs q9 ce hP hD hS hce hv9 hcl => ?_)
      refine vx_catch (E := "java/lang/IndexOutOfBoundsException") hown ((tableOf HH).take 17) ⟨269, 274, 393, 122⟩ ((tableOf HH).drop (17 + 1)) (htab.trans (sp_at (n := 17) hh17)) (hp_of [] (by decide +kernel) (fun _ h => absurd h List.not_mem_nil)) (by decide) (by decide) (hts _ q254) (va_Nw.use rfl (hE.2.1 _ n392)) hce hv9 hcl ?_
      refine lv_astore (lv' := [(5, .ref q9), (0, .ref (ad 0)), (1, .int 17), (2, .int p2), (3, .int p3), (4, .int p4)]) hx hb dL_call_393 hl (by decide) rfl (fun ls hl => ?_)
      refine lv_sipush (v := (-1001)) hx hb dL_call_395 (by decide) ?_
      cases hf
      exact endw_i hAe hQm hx hb hr hlocks rfl hP hD hS dL_call_398 (Nat.le_of_ble_eq_true rfl) (Nat.le_of_ble_eq_true rfl)
    have hf := br_neg c13 hf
    by_cases c14 : n11 = 1
    · subst c14
      have hf := br_pos rfl hf
      refine cw_vi_err (rest := []) (m_C_takeSnapshot l hst ca ad bq nF nO nL nA nC nV nU nP nE bF bO bL bA bC bV bU bP bE cT cK cO cQ cD pT pK pR pW pU pI pC uO uF uE uN wK jM jN jZ jB R _ p2 (.error 1) nU_2 pT_3 pK_4 pR_5 pW_6 pU_7 pI_8 pC_9 h10) ⟨hx, hb, hml, hown, hts⟩ (cwV 1 hts (gV q689 q690 q691 q24 q692) rfl rfl rfl (by decide +kernel) ⟨Nat.le_of_ble_eq_true rfl, Nat.le_of_ble_eq_true rfl⟩) (va_recv hK hP (ci := 7) (q0 := 0) rfl rfl) hE hP hD hS hA hZ rfl hl.1 rfl (lv_room (Nat.le_of_ble_eq_true rfl)) dL_call_271 ⟨Nat.le_of_ble_eq_true rfl, Nat.le_of_ble_eq_true rfl⟩ (fun H locs q9 ce hP hD hS hce hv9 hcl => ?_)
      refine vx_catch (E := "java/lang/IllegalArgumentException") hown ((tableOf HH).take 52) ⟨269, 274, 399, 124⟩ ((tableOf HH).drop (52 + 1)) (htab.trans (sp_at (n := 52) hh52)) (hp_of [(122, "java/lang/IndexOutOfBoundsException")] (by decide +kernel) (List.forall_mem_cons.mpr ⟨⟨hts _ q254, hNC _ nc_1_3⟩, fun _ h => absurd h List.not_mem_nil⟩)) (by decide) (by decide) (hts _ q333) (va_Nw.use rfl (hE.2.1 _ n347)) hce hv9 hcl ?_
      refine lv_astore (lv' := [(5, .ref q9), (0, .ref (ad 0)), (1, .int 17), (2, .int p2), (3, .int p3), (4, .int p4)]) hx hb dL_call_399 hl (by decide) rfl (fun ls hl => ?_)
      refine lv_sipush (v := (-1002)) hx hb dL_call_401 (by decide) ?_
      cases hf
      exact endw_i hAe hQm hx hb hr hlocks rfl hP hD hS dL_call_404 (Nat.le_of_ble_eq_true rfl) (Nat.le_of_ble_eq_true rfl)
    have hf := br_neg c14 hf
    by_cases c15 : n11 = 2
    · subst c15
      have hf := br_pos rfl hf
      refine cw_vi_err (rest := []) (m_C_takeSnapshot l hst ca ad bq nF nO nL nA nC nV nU nP nE bF bO bL bA bC bV bU bP bE cT cK cO cQ cD pT pK pR pW pU pI pC uO uF uE uN wK jM jN jZ jB R _ p2 (.error 2) nU_2 pT_3 pK_4 pR_5 pW_6 pU_7 pI_8 pC_9 h10) ⟨hx, hb, hml, hown, hts⟩ (cwV 1 hts (gV q689 q690 q691 q24 q692) rfl rfl rfl (by decide +kernel) ⟨Nat.le_of_ble_eq_true rfl, Nat.le_of_ble_eq_true rfl⟩) (va_recv hK hP (ci := 7) (q0 := 0) rfl rfl) hE hP hD hS hA hZ rfl hl.1 rfl (lv_room (Nat.le_of_ble_eq_true rfl)) dL_call_271 ⟨Nat.le_of_ble_eq_true rfl, Nat.le_of_ble_eq_true rfl⟩ (fun H locs q9 ce hP hD hS hce hv9 hcl => ?_)
      refine vx_catch (E := "java/lang/IllegalStateException") hown ((tableOf HH).take 87) ⟨269, 274, 405, 126⟩ ((tableOf HH).drop (87 + 1)) (htab.trans (sp_at (n := 87) hh87)) (hp_of [(122, "java/lang/IndexOutOfBoundsException"), (124, "java/lang/IllegalArgumentException")] (by decide +kernel) (List.forall_mem_cons.mpr ⟨⟨hts _ q254, hNC _ nc_2_3⟩, List.forall_mem_cons.mpr ⟨⟨hts _ q333, hNC _ nc_2_1⟩, fun _ h => absurd h List.not_mem_nil⟩⟩)) (by decide) (by decide) (hts _ q334) (va_Nw.use rfl (hE.2.1 _ n367)) hce hv9 hcl ?_
      refine lv_astore (lv' := [(5, .ref q9), (0, .ref (ad 0)), (1, .int 17), (2, .int p2), (3, .int p3), (4, .int p4)]) hx hb dL_call_405 hl (by decide) rfl (fun ls hl => ?_)
      refine lv_sipush (v := (-1003)) hx hb dL_call_407 (by decide) ?_
      cases hf
      exact endw_i hAe hQm hx hb hr hlocks rfl hP hD hS dL_call_410 (Nat.le_of_ble_eq_true rfl) (Nat.le_of_ble_eq_true rfl)
    have hf := br_neg c15 hf
    by_cases c16 : n11 = 4
    · subst c16
      have hf := br_pos rfl hf
      refine cw_vi_err (rest := []) (m_C_takeSnapshot l hst ca ad bq nF nO nL nA nC nV nU nP nE bF bO bL bA bC bV bU bP bE cT cK cO cQ cD pT pK pR pW pU pI pC uO uF uE uN wK jM jN jZ jB R _ p2 (.error 4) nU_2 pT_3 pK_4 pR_5 pW_6 pU_7 pI_8 pC_9 h10) ⟨hx, hb, hml, hown, hts⟩ (cwV 1 hts (gV q689 q690 q691 q24 q692) rfl rfl rfl (by decide +kernel) ⟨Nat.le_of_ble_eq_true rfl, Nat.le_of_ble_eq_true rfl⟩) (va_recv hK hP (ci := 7) (q0 := 0) rfl rfl) hE hP hD hS hA hZ rfl hl.1 rfl (lv_room (Nat.le_of_ble_eq_true rfl)) dL_call_271 ⟨Nat.le_of_ble_eq_true rfl, Nat.le_of_ble_eq_true rfl⟩ (fun H locs q9 ce hP hD hS hce hv9 hcl => ?_)
      refine vx_catch (E := "java/lang/UnsupportedOperationException") hown ((tableOf HH).take 122) ⟨269, 274, 411, 128⟩ ((tableOf HH).drop (122 + 1)) (htab.trans (sp_at (n := 122) hh122)) (hp_of [(122, "java/lang/IndexOutOfBoundsException"), (124, "java/lang/IllegalArgumentException"), (126, "java/lang/IllegalStateException")] (by decide +kernel) (List.forall_mem_cons.mpr ⟨⟨hts _ q254, hNC _ nc_4_3⟩, List.forall_mem_cons.mpr ⟨⟨hts _ q333, hNC _ nc_4_1⟩, List.forall_mem_cons.mpr ⟨⟨hts _ q334, hNC _ nc_4_2⟩, fun _ h => absurd h List.not_mem_nil⟩⟩⟩)) (by decide) (by decide) (hts _ q335) (va_Nw.use rfl (hE.2.1 _ n547)) hce hv9 hcl ?_
      refine lv_astore (lv' := [(5, .ref q9), (0, .ref (ad 0)), (1, .int 17), (2, .int p2), (3, .int p3), (4, .int p4)]) hx hb dL_call_411 hl (by decide) rfl (fun ls hl => ?_)
      refine lv_sipush (v := (-1004)) hx hb dL_call_413 (by decide) ?_
      cases hf
      exact endw_i hAe hQm hx hb hr hlocks rfl hP hD hS dL_call_416 (Nat.le_of_ble_eq_true rfl) (Nat.le_of_ble_eq_true rfl)
    have hf := br_neg c16 hf
    by_cases c17 : n11 = 5
    · subst c17
      have hf := br_pos rfl hf
      refine cw_vi_err (rest := []) (m_C_takeSnapshot l hst ca ad bq nF nO nL nA nC nV nU nP nE bF bO bL bA bC bV bU bP bE cT cK cO cQ cD pT pK pR pW pU pI pC uO uF uE uN wK jM jN jZ jB R _ p2 (.error 5) nU_2 pT_3 pK_4 pR_5 pW_6 pU_7 pI_8 pC_9 h10) ⟨hx, hb, hml, hown, hts⟩ (cwV 1 hts (gV q689 q690 q691 q24 q692) rfl rfl rfl (by decide +kernel) ⟨Nat.le_of_ble_eq_true rfl, Nat.le_of_ble_eq_true rfl⟩) (va_recv hK hP (ci := 7) (q0 := 0) rfl rfl) hE hP hD hS hA hZ rfl hl.1 rfl (lv_room (Nat.le_of_ble_eq_true rfl)) dL_call_271 ⟨Nat.le_of_ble_eq_true rfl, Nat.le_of_ble_eq_true rfl⟩ (fun H locs q9 ce hP hD hS hce hv9 hcl => ?_)
      refine vx_catch (E := "java/util/NoSuchElementException") hown ((tableOf HH).take 157) ⟨269, 274, 417, 130⟩ ((tableOf HH).drop (157 + 1)) (htab.trans (sp_at (n := 157) hh157)) (hp_of [(122, "java/lang/IndexOutOfBoundsException"), (124, "java/lang/IllegalArgumentException"), (126, "java/lang/IllegalStateException"), (128, "java/lang/UnsupportedOperationException")] (by decide +kernel) (List.forall_mem_cons.mpr ⟨⟨hts _ q254, hNC _ nc_5_3⟩, List.forall_mem_cons.mpr ⟨⟨hts _ q333, hNC _ nc_5_1⟩, List.forall_mem_cons.mpr ⟨⟨hts _ q334, hNC _ nc_5_2⟩, List.forall_mem_cons.mpr ⟨⟨hts _ q335, hNC _ nc_5_4⟩, fun _ h => absurd h List.not_mem_nil⟩⟩⟩⟩)) (by decide) (by decide) (hts _ q336) (va_Nw.use rfl (hE.2.1 _ n606)) hce hv9 hcl ?_
      refine lv_astore (lv' := [(5, .ref q9), (0, .ref (ad 0)), (1, .int 17), (2, .int p2), (3, .int p3), (4, .int p4)]) hx hb dL_call_417 hl (by decide) rfl (fun ls hl => ?_)
      refine lv_sipush (v := (-1005)) hx hb dL_call_419 (by decide) ?_
      cases hf
      exact endw_i hAe hQm hx hb hr hlocks rfl hP hD hS dL_call_422 (Nat.le_of_ble_eq_true rfl) (Nat.le_of_ble_eq_true rfl)
    have hf := br_neg c17 hf
    cases hf
  refine cw_vi_ok (rest := []) (m_C_takeSnapshot l hst ca ad bq nF nO nL nA nC nV nU nP nE bF bO bL bA bC bV bU bP bE cT cK cO cQ cD pT pK pR pW pU pI pC uO uF uE uN wK jM jN jZ jB R _ p2 (.ok r12) nU_2 pT_3 pK_4 pR_5 pW_6 pU_7 pI_8 pC_9 h10) ⟨hx, hb, hml, hown, hts⟩ (cwV 1 hts (gV q689 q690 q691 q24 q692) rfl rfl rfl (by decide +kernel) ⟨Nat.le_of_ble_eq_true rfl, Nat.le_of_ble_eq_true rfl⟩) (va_recv hK hP (ci := 7) (q0 := 0) rfl rfl) hE hP hD hS hA hZ rfl hl.1 rfl (lv_room (Nat.le_of_ble_eq_true rfl)) dL_call_271 ⟨Nat.le_of_ble_eq_true rfl, Nat.le_of_ble_eq_true rfl⟩ (fun H locs hP hD hS => ?_)
  cases hf
  exact endw_i hAe hQm hx hb hr hlocks rfl hP hD hS dL_call_274 (Nat.le_of_ble_eq_true rfl) (Nat.le_of_ble_eq_true rfl)
def f_K18 (p2 : Int32) (pT : Int32) (pW : Nat → Int32) : Option (Int32) :=
  (f_C_isKept p2 pT pW).bind fun x1 =>
  match x1 with
  | .error n3 => if n3 = 3 then some (-1001) else if n3 = 1 then some (-1002) else if n3 = 2 then some (-1003) else if n3 = 4 then some (-1004) else if n3 = 5 then some (-1005) else none
  | .ok r4 =>
  if r4 = 0 then
    some 0
  else
    some 1
set_option maxHeartbeats 4000000 in
set_option maxRecDepth 100000 in
theorem m_K18 (l : Launch) (hst : l.stackTraces = false) {D : va_G} (ca : Nat → ClassId) (ad : Nat → Nat) (bq : Nat) (nF : Int32) (nO : Nat → Int32) (nL : Nat → Int32) (nA : Nat → Int32) (nC : Nat → Int32) (nV : Nat → Int32) (nU : Nat → Int32) (nP : Nat → Int32) (nE : Int32) (bF : Int32) (bO : Nat → Int32) (bL : Nat → Int32) (bA : Nat → Int32) (bC : Nat → Int32) (bV : Nat → Int32) (bU : Nat → Int32) (bP : Nat → Int32) (bE : Int32) (cT : Int32) (cK : Nat → Int32) (cO : Int32) (cQ : Nat → Int32) (cD : Int32) (pT : Int32) (pK : Int32) (pR : Nat → Int32) (pW : Nat → Int32) (pU : Nat → Int32) (pI : Nat → Int32) (pC : Nat → Nat → Int32) (uO : Int32) (uF : Nat → Int32) (uE : Nat → Int32) (uN : Nat → Int32) (wK : Nat → Int32) (jM : Int32) (jN : Int32) (jZ : Nat) (jB : Nat → Int32) (R : va_W) (sz : Nat) (p2 : Int32) (p3 : Int32) (p4 : Int32) (ro : Int32) (hf : f_K18 p2 pT pW = some ro) : vx_Met l yL_call (wmW yL_call cL_call 6 (some .int) HH) ({ frames := 8, cells := 1, slots := 6, locals := 132 } : Room) (PREL [.ref (ad 0), .int 18, .int p2, .int p3, .int p4] D ca SL0 (WC ca ad bq nF nO nL nA nC nV nU nP nE bF bO bL bA bC bV bU bP bE cT cK cO cQ cD pT pK pR pW pU pI pC uO uF uE uN wK jM jN jZ jB ++ R) sz) (QI ro D (WC ca ad bq nF nO nL nA nC nV nU nP nE bF bO bL bA bC bV bU bP bE cT cK cO cQ cD pT pK pR pW pU pI pC uO uF uE uN wK jM jN jZ jB ++ R) (WC ca ad bq nF nO nL nA nC nV nU nP nE bF bO bL bA bC bV bU bP bE cT cK cO cQ cD pT pK pR pW pU pI pC uO uF uE uN wK jM jN jZ jB ++ R) sz) (fun _ _ _ => False) 1 6 (va_A (WC ca ad bq nF nO nL nA nC nV nU nP nE bF bO bL bA bC bV bU bP bE cT cK cO cQ cD pT pK pR pW pU pI pC uO uF uE uN wK jM jN jZ jB ++ R) sz) := by
  refine vx_ofWH (cc := cL_call) (maxL := 6) (ret := (some .int)) (hh := HH) (by decide) rfl ?_
  intro p e s m args below meth c s₁ B hml hv
  obtain ⟨rfl, rfl, hP, hE, hD0, hZ, hNC⟩ := hv
  have hx := B.exec
  have hb := B.bytes
  have hr := B.returns
  have hts0 := atoms_spec (ws := wmW yL_call cL_call 6 (some .int) HH) B.pre
  have hts := wmW_ww hts0
  have htab := vx_table (x := yL_call) B (hts0 _ List.mem_cons_self)
  have hown : s.vm.findClass RL = some m.cls := findClass_of_methodNamed B.named
  have hlocks := B.notSynchronized
  have hK := hE.1
  have hD := hD0.self (sz := s.heap.size)
  generalize hAe : va_A (WC ca ad bq nF nO nL nA nC nV nU nP nE bF bO bL bA bC bV bU bP bE cT cK cO cQ cD pT pK pR pW pU pI pC uO uF uE uN wK jM jN jZ jB ++ R) s.heap.size = A at hD hZ ⊢
  have hA : ∀ q : Nat, s.heap.size ≤ q → A q := fun q h => by rw [← hAe]; exact Or.inr h
  have hS : va_S A s.heap s.heap [] := va_S.rf
  have hl := lv_entry ([.ref (ad 0), .int 18, .int p2, .int p3, .int p4]) (n := 6) (Nat.le_of_ble_eq_true rfl)
  rw [lg_entry_eq]
  generalize (lg_sl ([.ref (ad 0), .int 18, .int p2, .int p3, .int p4]) ++ List.replicate (6 - (lg_sl ([.ref (ad 0), .int 18, .int p2, .int p3, .int p4])).length) Slot.unset).toArray = ls at hl ⊢
  have hl : lv_has ls 6 [(0, .ref (ad 0)), (1, .int 18), (2, .int p2), (3, .int p3), (4, .int p4)] := hl
  change W p l e ({ frames := 8, cells := 1, slots := 6, locals := 132 } : Room) s m _ below meth c s.heap [] 0 0 _ _
  generalize hQm : vx_MQ below (QI ro D (WC ca ad bq nF nO nL nA nC nV nU nP nE bF bO bL bA bC bV bU bP bE cT cK cO cQ cD pT pK pR pW pU pI pC uO uF uE uN wK jM jN jZ jB ++ R) (WC ca ad bq nF nO nL nA nC nV nU nP nE bF bO bL bA bC bV bU bP bE cT cK cO cQ cD pT pK pR pW pU pI pC uO uF uE uN wK jM jN jZ jB ++ R) s.heap.size) (fun _ _ _ => False) _ s 1 6 A = Qm
  have hP : va_P D vwCl (WC ca ad bq nF nO nL nA nC nV nU nP nE bF bO bL bA bC bV bU bP bE cT cK cO cQ cD pT pK pR pW pU pI pC uO uF uE uN wK jM jN jZ jB ++ R) s.heap := hP
  generalize hae : ([.ref (ad 0), .int 18, .int p2, .int p3, .int p4] : List Value).toArray = args at hts hQm ⊢
  refine lv_iload_n hx hb dL_call_0 rfl (lv_at hl 1 rfl) ?_
  refine lv_tableIn (off := 274) (tgt := 275) hx hb dL_call_1 (by decide) (by decide) rfl (by decide) ?_
  refine lv_aload_n hx hb dL_call_275 rfl (lv_at hl 0 rfl) ?_
  refine lv_iload_n hx hb dL_call_276 rfl (lv_at hl 2 rfl) ?_
  obtain ⟨x1, h2, hf⟩ := bnd hf
  rcases x1 with n3 | r4
  · have hf : (if n3 = 3 then some (-1001) else if n3 = 1 then some (-1002) else if n3 = 2 then some (-1003) else if n3 = 4 then some (-1004) else if n3 = 5 then some (-1005) else none) = some ro := hf
    by_cases c5 : n3 = 3
    · subst c5
      have hf := br_pos rfl hf
      refine cw_vi_err (rest := []) (m_C_isKept l hst ca ad bq nF nO nL nA nC nV nU nP nE bF bO bL bA bC bV bU bP bE cT cK cO cQ cD pT pK pR pW pU pI pC uO uF uE uN wK jM jN jZ jB R _ p2 (.error 3) h2) ⟨hx, hb, hml, hown, hts⟩ (cwV 1 hts (gV q718 q719 q720 q24 q721) rfl rfl rfl (by decide +kernel) ⟨Nat.le_of_ble_eq_true rfl, Nat.le_of_ble_eq_true rfl⟩) (va_recv hK hP (ci := 7) (q0 := 0) rfl rfl) hE hP hD hS hA hZ rfl hl.1 rfl (lv_room (Nat.le_of_ble_eq_true rfl)) dL_call_277 ⟨Nat.le_of_ble_eq_true rfl, Nat.le_of_ble_eq_true rfl⟩ (fun H locs q9 ce hP hD hS hce hv9 hcl => ?_)
      refine vx_catch (E := "java/lang/IndexOutOfBoundsException") hown ((tableOf HH).take 18) ⟨275, 288, 393, 122⟩ ((tableOf HH).drop (18 + 1)) (htab.trans (sp_at (n := 18) hh18)) (hp_of [] (by decide +kernel) (fun _ h => absurd h List.not_mem_nil)) (by decide) (by decide) (hts _ q254) (va_Nw.use rfl (hE.2.1 _ n392)) hce hv9 hcl ?_
      refine lv_astore (lv' := [(5, .ref q9), (0, .ref (ad 0)), (1, .int 18), (2, .int p2), (3, .int p3), (4, .int p4)]) hx hb dL_call_393 hl (by decide) rfl (fun ls hl => ?_)
      refine lv_sipush (v := (-1001)) hx hb dL_call_395 (by decide) ?_
      cases hf
      exact endw_i hAe hQm hx hb hr hlocks rfl hP hD hS dL_call_398 (Nat.le_of_ble_eq_true rfl) (Nat.le_of_ble_eq_true rfl)
    have hf := br_neg c5 hf
    by_cases c6 : n3 = 1
    · subst c6
      have hf := br_pos rfl hf
      refine cw_vi_err (rest := []) (m_C_isKept l hst ca ad bq nF nO nL nA nC nV nU nP nE bF bO bL bA bC bV bU bP bE cT cK cO cQ cD pT pK pR pW pU pI pC uO uF uE uN wK jM jN jZ jB R _ p2 (.error 1) h2) ⟨hx, hb, hml, hown, hts⟩ (cwV 1 hts (gV q718 q719 q720 q24 q721) rfl rfl rfl (by decide +kernel) ⟨Nat.le_of_ble_eq_true rfl, Nat.le_of_ble_eq_true rfl⟩) (va_recv hK hP (ci := 7) (q0 := 0) rfl rfl) hE hP hD hS hA hZ rfl hl.1 rfl (lv_room (Nat.le_of_ble_eq_true rfl)) dL_call_277 ⟨Nat.le_of_ble_eq_true rfl, Nat.le_of_ble_eq_true rfl⟩ (fun H locs q9 ce hP hD hS hce hv9 hcl => ?_)
      refine vx_catch (E := "java/lang/IllegalArgumentException") hown ((tableOf HH).take 53) ⟨275, 288, 399, 124⟩ ((tableOf HH).drop (53 + 1)) (htab.trans (sp_at (n := 53) hh53)) (hp_of [(122, "java/lang/IndexOutOfBoundsException")] (by decide +kernel) (List.forall_mem_cons.mpr ⟨⟨hts _ q254, hNC _ nc_1_3⟩, fun _ h => absurd h List.not_mem_nil⟩)) (by decide) (by decide) (hts _ q333) (va_Nw.use rfl (hE.2.1 _ n347)) hce hv9 hcl ?_
      refine lv_astore (lv' := [(5, .ref q9), (0, .ref (ad 0)), (1, .int 18), (2, .int p2), (3, .int p3), (4, .int p4)]) hx hb dL_call_399 hl (by decide) rfl (fun ls hl => ?_)
      refine lv_sipush (v := (-1002)) hx hb dL_call_401 (by decide) ?_
      cases hf
      exact endw_i hAe hQm hx hb hr hlocks rfl hP hD hS dL_call_404 (Nat.le_of_ble_eq_true rfl) (Nat.le_of_ble_eq_true rfl)
    have hf := br_neg c6 hf
    by_cases c7 : n3 = 2
    · subst c7
      have hf := br_pos rfl hf
      refine cw_vi_err (rest := []) (m_C_isKept l hst ca ad bq nF nO nL nA nC nV nU nP nE bF bO bL bA bC bV bU bP bE cT cK cO cQ cD pT pK pR pW pU pI pC uO uF uE uN wK jM jN jZ jB R _ p2 (.error 2) h2) ⟨hx, hb, hml, hown, hts⟩ (cwV 1 hts (gV q718 q719 q720 q24 q721) rfl rfl rfl (by decide +kernel) ⟨Nat.le_of_ble_eq_true rfl, Nat.le_of_ble_eq_true rfl⟩) (va_recv hK hP (ci := 7) (q0 := 0) rfl rfl) hE hP hD hS hA hZ rfl hl.1 rfl (lv_room (Nat.le_of_ble_eq_true rfl)) dL_call_277 ⟨Nat.le_of_ble_eq_true rfl, Nat.le_of_ble_eq_true rfl⟩ (fun H locs q9 ce hP hD hS hce hv9 hcl => ?_)
      refine vx_catch (E := "java/lang/IllegalStateException") hown ((tableOf HH).take 88) ⟨275, 288, 405, 126⟩ ((tableOf HH).drop (88 + 1)) (htab.trans (sp_at (n := 88) hh88)) (hp_of [(122, "java/lang/IndexOutOfBoundsException"), (124, "java/lang/IllegalArgumentException")] (by decide +kernel) (List.forall_mem_cons.mpr ⟨⟨hts _ q254, hNC _ nc_2_3⟩, List.forall_mem_cons.mpr ⟨⟨hts _ q333, hNC _ nc_2_1⟩, fun _ h => absurd h List.not_mem_nil⟩⟩)) (by decide) (by decide) (hts _ q334) (va_Nw.use rfl (hE.2.1 _ n367)) hce hv9 hcl ?_
      refine lv_astore (lv' := [(5, .ref q9), (0, .ref (ad 0)), (1, .int 18), (2, .int p2), (3, .int p3), (4, .int p4)]) hx hb dL_call_405 hl (by decide) rfl (fun ls hl => ?_)
      refine lv_sipush (v := (-1003)) hx hb dL_call_407 (by decide) ?_
      cases hf
      exact endw_i hAe hQm hx hb hr hlocks rfl hP hD hS dL_call_410 (Nat.le_of_ble_eq_true rfl) (Nat.le_of_ble_eq_true rfl)
    have hf := br_neg c7 hf
    by_cases c8 : n3 = 4
    · subst c8
      have hf := br_pos rfl hf
      refine cw_vi_err (rest := []) (m_C_isKept l hst ca ad bq nF nO nL nA nC nV nU nP nE bF bO bL bA bC bV bU bP bE cT cK cO cQ cD pT pK pR pW pU pI pC uO uF uE uN wK jM jN jZ jB R _ p2 (.error 4) h2) ⟨hx, hb, hml, hown, hts⟩ (cwV 1 hts (gV q718 q719 q720 q24 q721) rfl rfl rfl (by decide +kernel) ⟨Nat.le_of_ble_eq_true rfl, Nat.le_of_ble_eq_true rfl⟩) (va_recv hK hP (ci := 7) (q0 := 0) rfl rfl) hE hP hD hS hA hZ rfl hl.1 rfl (lv_room (Nat.le_of_ble_eq_true rfl)) dL_call_277 ⟨Nat.le_of_ble_eq_true rfl, Nat.le_of_ble_eq_true rfl⟩ (fun H locs q9 ce hP hD hS hce hv9 hcl => ?_)
      refine vx_catch (E := "java/lang/UnsupportedOperationException") hown ((tableOf HH).take 123) ⟨275, 288, 411, 128⟩ ((tableOf HH).drop (123 + 1)) (htab.trans (sp_at (n := 123) hh123)) (hp_of [(122, "java/lang/IndexOutOfBoundsException"), (124, "java/lang/IllegalArgumentException"), (126, "java/lang/IllegalStateException")] (by decide +kernel) (List.forall_mem_cons.mpr ⟨⟨hts _ q254, hNC _ nc_4_3⟩, List.forall_mem_cons.mpr ⟨⟨hts _ q333, hNC _ nc_4_1⟩, List.forall_mem_cons.mpr ⟨⟨hts _ q334, hNC _ nc_4_2⟩, fun _ h => absurd h List.not_mem_nil⟩⟩⟩)) (by decide) (by decide) (hts _ q335) (va_Nw.use rfl (hE.2.1 _ n547)) hce hv9 hcl ?_
      refine lv_astore (lv' := [(5, .ref q9), (0, .ref (ad 0)), (1, .int 18), (2, .int p2), (3, .int p3), (4, .int p4)]) hx hb dL_call_411 hl (by decide) rfl (fun ls hl => ?_)
      refine lv_sipush (v := (-1004)) hx hb dL_call_413 (by decide) ?_
      cases hf
      exact endw_i hAe hQm hx hb hr hlocks rfl hP hD hS dL_call_416 (Nat.le_of_ble_eq_true rfl) (Nat.le_of_ble_eq_true rfl)
    have hf := br_neg c8 hf
    by_cases c9 : n3 = 5
    · subst c9
      have hf := br_pos rfl hf
      refine cw_vi_err (rest := []) (m_C_isKept l hst ca ad bq nF nO nL nA nC nV nU nP nE bF bO bL bA bC bV bU bP bE cT cK cO cQ cD pT pK pR pW pU pI pC uO uF uE uN wK jM jN jZ jB R _ p2 (.error 5) h2) ⟨hx, hb, hml, hown, hts⟩ (cwV 1 hts (gV q718 q719 q720 q24 q721) rfl rfl rfl (by decide +kernel) ⟨Nat.le_of_ble_eq_true rfl, Nat.le_of_ble_eq_true rfl⟩) (va_recv hK hP (ci := 7) (q0 := 0) rfl rfl) hE hP hD hS hA hZ rfl hl.1 rfl (lv_room (Nat.le_of_ble_eq_true rfl)) dL_call_277 ⟨Nat.le_of_ble_eq_true rfl, Nat.le_of_ble_eq_true rfl⟩ (fun H locs q9 ce hP hD hS hce hv9 hcl => ?_)
      refine vx_catch (E := "java/util/NoSuchElementException") hown ((tableOf HH).take 158) ⟨275, 288, 417, 130⟩ ((tableOf HH).drop (158 + 1)) (htab.trans (sp_at (n := 158) hh158)) (hp_of [(122, "java/lang/IndexOutOfBoundsException"), (124, "java/lang/IllegalArgumentException"), (126, "java/lang/IllegalStateException"), (128, "java/lang/UnsupportedOperationException")] (by decide +kernel) (List.forall_mem_cons.mpr ⟨⟨hts _ q254, hNC _ nc_5_3⟩, List.forall_mem_cons.mpr ⟨⟨hts _ q333, hNC _ nc_5_1⟩, List.forall_mem_cons.mpr ⟨⟨hts _ q334, hNC _ nc_5_2⟩, List.forall_mem_cons.mpr ⟨⟨hts _ q335, hNC _ nc_5_4⟩, fun _ h => absurd h List.not_mem_nil⟩⟩⟩⟩)) (by decide) (by decide) (hts _ q336) (va_Nw.use rfl (hE.2.1 _ n606)) hce hv9 hcl ?_
      refine lv_astore (lv' := [(5, .ref q9), (0, .ref (ad 0)), (1, .int 18), (2, .int p2), (3, .int p3), (4, .int p4)]) hx hb dL_call_417 hl (by decide) rfl (fun ls hl => ?_)
      refine lv_sipush (v := (-1005)) hx hb dL_call_419 (by decide) ?_
      cases hf
      exact endw_i hAe hQm hx hb hr hlocks rfl hP hD hS dL_call_422 (Nat.le_of_ble_eq_true rfl) (Nat.le_of_ble_eq_true rfl)
    have hf := br_neg c9 hf
    cases hf
  refine cw_vi_ok (rest := []) (m_C_isKept l hst ca ad bq nF nO nL nA nC nV nU nP nE bF bO bL bA bC bV bU bP bE cT cK cO cQ cD pT pK pR pW pU pI pC uO uF uE uN wK jM jN jZ jB R _ p2 (.ok r4) h2) ⟨hx, hb, hml, hown, hts⟩ (cwV 1 hts (gV q718 q719 q720 q24 q721) rfl rfl rfl (by decide +kernel) ⟨Nat.le_of_ble_eq_true rfl, Nat.le_of_ble_eq_true rfl⟩) (va_recv hK hP (ci := 7) (q0 := 0) rfl rfl) hE hP hD hS hA hZ rfl hl.1 rfl (lv_room (Nat.le_of_ble_eq_true rfl)) dL_call_277 ⟨Nat.le_of_ble_eq_true rfl, Nat.le_of_ble_eq_true rfl⟩ (fun H locs hP hD hS => ?_)
  refine lv_if_eq (tgt := 287) hx hb dL_call_280 (by decide) (fun c10 => ?_) (fun c10 => ?_)
  · have hf := br_pos c10 hf
    refine lv_iconst (v := 0) hx hb dL_call_287 (by decide) ?_
    cases hf
    exact endw_i hAe hQm hx hb hr hlocks rfl hP hD hS dL_call_288 (Nat.le_of_ble_eq_true rfl) (Nat.le_of_ble_eq_true rfl)
  · have hf := br_neg c10 hf
    refine lv_iconst (v := 1) hx hb dL_call_283 (by decide) ?_
    refine lv_goto (tgt := 288) hx hb dL_call_284 (by decide) ?_
    cases hf
    exact endw_i hAe hQm hx hb hr hlocks rfl hP hD hS dL_call_288 (Nat.le_of_ble_eq_true rfl) (Nat.le_of_ble_eq_true rfl)
def f_K19 (p2 : Int32) (p3 : Int32) (p4 : Int32) (nF : Int32) (nV : Nat → Int32) (pT : Int32) (pW : Nat → Int32) (pI : Nat → Int32) (pC : Nat → Nat → Int32) : Option (Int32) :=
  (f_C_readFrom p2 p3 p4 nF nV pT pW pI pC).bind fun x1 =>
  match x1 with
  | .error n3 => if n3 = 3 then some (-1001) else if n3 = 1 then some (-1002) else if n3 = 2 then some (-1003) else if n3 = 4 then some (-1004) else if n3 = 5 then some (-1005) else none
  | .ok r4 =>
  some r4
set_option maxHeartbeats 4000000 in
set_option maxRecDepth 100000 in
theorem m_K19 (l : Launch) (hst : l.stackTraces = false) {D : va_G} (ca : Nat → ClassId) (ad : Nat → Nat) (bq : Nat) (nF : Int32) (nO : Nat → Int32) (nL : Nat → Int32) (nA : Nat → Int32) (nC : Nat → Int32) (nV : Nat → Int32) (nU : Nat → Int32) (nP : Nat → Int32) (nE : Int32) (bF : Int32) (bO : Nat → Int32) (bL : Nat → Int32) (bA : Nat → Int32) (bC : Nat → Int32) (bV : Nat → Int32) (bU : Nat → Int32) (bP : Nat → Int32) (bE : Int32) (cT : Int32) (cK : Nat → Int32) (cO : Int32) (cQ : Nat → Int32) (cD : Int32) (pT : Int32) (pK : Int32) (pR : Nat → Int32) (pW : Nat → Int32) (pU : Nat → Int32) (pI : Nat → Int32) (pC : Nat → Nat → Int32) (uO : Int32) (uF : Nat → Int32) (uE : Nat → Int32) (uN : Nat → Int32) (wK : Nat → Int32) (jM : Int32) (jN : Int32) (jZ : Nat) (jB : Nat → Int32) (R : va_W) (sz : Nat) (p2 : Int32) (p3 : Int32) (p4 : Int32) (ro : Int32) (hf : f_K19 p2 p3 p4 nF nV pT pW pI pC = some ro) : vx_Met l yL_call (wmW yL_call cL_call 6 (some .int) HH) ({ frames := 8, cells := 5, slots := 30, locals := 136 } : Room) (PREL [.ref (ad 0), .int 19, .int p2, .int p3, .int p4] D ca SL0 (WC ca ad bq nF nO nL nA nC nV nU nP nE bF bO bL bA bC bV bU bP bE cT cK cO cQ cD pT pK pR pW pU pI pC uO uF uE uN wK jM jN jZ jB ++ R) sz) (QI ro D (WC ca ad bq nF nO nL nA nC nV nU nP nE bF bO bL bA bC bV bU bP bE cT cK cO cQ cD pT pK pR pW pU pI pC uO uF uE uN wK jM jN jZ jB ++ R) (WC ca ad bq nF nO nL nA nC nV nU nP nE bF bO bL bA bC bV bU bP bE cT cK cO cQ cD pT pK pR pW pU pI pC uO uF uE uN wK jM jN jZ jB ++ R) sz) (fun _ _ _ => False) 5 30 (va_A (WC ca ad bq nF nO nL nA nC nV nU nP nE bF bO bL bA bC bV bU bP bE cT cK cO cQ cD pT pK pR pW pU pI pC uO uF uE uN wK jM jN jZ jB ++ R) sz) := by
  refine vx_ofWH (cc := cL_call) (maxL := 6) (ret := (some .int)) (hh := HH) (by decide) rfl ?_
  intro p e s m args below meth c s₁ B hml hv
  obtain ⟨rfl, rfl, hP, hE, hD0, hZ, hNC⟩ := hv
  have hx := B.exec
  have hb := B.bytes
  have hr := B.returns
  have hts0 := atoms_spec (ws := wmW yL_call cL_call 6 (some .int) HH) B.pre
  have hts := wmW_ww hts0
  have htab := vx_table (x := yL_call) B (hts0 _ List.mem_cons_self)
  have hown : s.vm.findClass RL = some m.cls := findClass_of_methodNamed B.named
  have hlocks := B.notSynchronized
  have hK := hE.1
  have hD := hD0.self (sz := s.heap.size)
  generalize hAe : va_A (WC ca ad bq nF nO nL nA nC nV nU nP nE bF bO bL bA bC bV bU bP bE cT cK cO cQ cD pT pK pR pW pU pI pC uO uF uE uN wK jM jN jZ jB ++ R) s.heap.size = A at hD hZ ⊢
  have hA : ∀ q : Nat, s.heap.size ≤ q → A q := fun q h => by rw [← hAe]; exact Or.inr h
  have hS : va_S A s.heap s.heap [] := va_S.rf
  have hl := lv_entry ([.ref (ad 0), .int 19, .int p2, .int p3, .int p4]) (n := 6) (Nat.le_of_ble_eq_true rfl)
  rw [lg_entry_eq]
  generalize (lg_sl ([.ref (ad 0), .int 19, .int p2, .int p3, .int p4]) ++ List.replicate (6 - (lg_sl ([.ref (ad 0), .int 19, .int p2, .int p3, .int p4])).length) Slot.unset).toArray = ls at hl ⊢
  have hl : lv_has ls 6 [(0, .ref (ad 0)), (1, .int 19), (2, .int p2), (3, .int p3), (4, .int p4)] := hl
  change W p l e ({ frames := 8, cells := 5, slots := 30, locals := 136 } : Room) s m _ below meth c s.heap [] 0 0 _ _
  generalize hQm : vx_MQ below (QI ro D (WC ca ad bq nF nO nL nA nC nV nU nP nE bF bO bL bA bC bV bU bP bE cT cK cO cQ cD pT pK pR pW pU pI pC uO uF uE uN wK jM jN jZ jB ++ R) (WC ca ad bq nF nO nL nA nC nV nU nP nE bF bO bL bA bC bV bU bP bE cT cK cO cQ cD pT pK pR pW pU pI pC uO uF uE uN wK jM jN jZ jB ++ R) s.heap.size) (fun _ _ _ => False) _ s 5 30 A = Qm
  have hP : va_P D vwCl (WC ca ad bq nF nO nL nA nC nV nU nP nE bF bO bL bA bC bV bU bP bE cT cK cO cQ cD pT pK pR pW pU pI pC uO uF uE uN wK jM jN jZ jB ++ R) s.heap := hP
  generalize hae : ([.ref (ad 0), .int 19, .int p2, .int p3, .int p4] : List Value).toArray = args at hts hQm ⊢
  refine lv_iload_n hx hb dL_call_0 rfl (lv_at hl 1 rfl) ?_
  refine lv_tableIn (off := 288) (tgt := 289) hx hb dL_call_1 (by decide) (by decide) rfl (by decide) ?_
  refine lv_aload_n hx hb dL_call_289 rfl (lv_at hl 0 rfl) ?_
  refine lv_iload_n hx hb dL_call_290 rfl (lv_at hl 2 rfl) ?_
  refine lv_iload_n hx hb dL_call_291 rfl (lv_at hl 3 rfl) ?_
  refine lv_iload hx hb dL_call_292 (lv_at hl 4 rfl) ?_
  obtain ⟨x1, h2, hf⟩ := bnd hf
  rcases x1 with n3 | r4
  · have hf : (if n3 = 3 then some (-1001) else if n3 = 1 then some (-1002) else if n3 = 2 then some (-1003) else if n3 = 4 then some (-1004) else if n3 = 5 then some (-1005) else none) = some ro := hf
    by_cases c5 : n3 = 3
    · subst c5
      have hf := br_pos rfl hf
      refine cw_vi_err (rest := []) (m_C_readFrom l hst ca ad bq nF nO nL nA nC nV nU nP nE bF bO bL bA bC bV bU bP bE cT cK cO cQ cD pT pK pR pW pU pI pC uO uF uE uN wK jM jN jZ jB R _ p2 p3 p4 (.error 3) h2) ⟨hx, hb, hml, hown, hts⟩ (cwV 3 hts (gV q736 q737 q738 q24 q739) rfl rfl rfl (by decide +kernel) ⟨Nat.le_of_ble_eq_true rfl, Nat.le_of_ble_eq_true rfl⟩) (va_recv hK hP (ci := 7) (q0 := 0) rfl rfl) hE hP hD hS hA hZ rfl hl.1 rfl (lv_room (Nat.le_of_ble_eq_true rfl)) dL_call_294 ⟨Nat.le_of_ble_eq_true rfl, Nat.le_of_ble_eq_true rfl⟩ (fun H locs q9 ce hP hD hS hce hv9 hcl => ?_)
      refine vx_catch (E := "java/lang/IndexOutOfBoundsException") hown ((tableOf HH).take 19) ⟨289, 297, 393, 122⟩ ((tableOf HH).drop (19 + 1)) (htab.trans (sp_at (n := 19) hh19)) (hp_of [] (by decide +kernel) (fun _ h => absurd h List.not_mem_nil)) (by decide) (by decide) (hts _ q254) (va_Nw.use rfl (hE.2.1 _ n392)) hce hv9 hcl ?_
      refine lv_astore (lv' := [(5, .ref q9), (0, .ref (ad 0)), (1, .int 19), (2, .int p2), (3, .int p3), (4, .int p4)]) hx hb dL_call_393 hl (by decide) rfl (fun ls hl => ?_)
      refine lv_sipush (v := (-1001)) hx hb dL_call_395 (by decide) ?_
      cases hf
      exact endw_i hAe hQm hx hb hr hlocks rfl hP hD hS dL_call_398 (Nat.le_of_ble_eq_true rfl) (Nat.le_of_ble_eq_true rfl)
    have hf := br_neg c5 hf
    by_cases c6 : n3 = 1
    · subst c6
      have hf := br_pos rfl hf
      refine cw_vi_err (rest := []) (m_C_readFrom l hst ca ad bq nF nO nL nA nC nV nU nP nE bF bO bL bA bC bV bU bP bE cT cK cO cQ cD pT pK pR pW pU pI pC uO uF uE uN wK jM jN jZ jB R _ p2 p3 p4 (.error 1) h2) ⟨hx, hb, hml, hown, hts⟩ (cwV 3 hts (gV q736 q737 q738 q24 q739) rfl rfl rfl (by decide +kernel) ⟨Nat.le_of_ble_eq_true rfl, Nat.le_of_ble_eq_true rfl⟩) (va_recv hK hP (ci := 7) (q0 := 0) rfl rfl) hE hP hD hS hA hZ rfl hl.1 rfl (lv_room (Nat.le_of_ble_eq_true rfl)) dL_call_294 ⟨Nat.le_of_ble_eq_true rfl, Nat.le_of_ble_eq_true rfl⟩ (fun H locs q9 ce hP hD hS hce hv9 hcl => ?_)
      refine vx_catch (E := "java/lang/IllegalArgumentException") hown ((tableOf HH).take 54) ⟨289, 297, 399, 124⟩ ((tableOf HH).drop (54 + 1)) (htab.trans (sp_at (n := 54) hh54)) (hp_of [(122, "java/lang/IndexOutOfBoundsException")] (by decide +kernel) (List.forall_mem_cons.mpr ⟨⟨hts _ q254, hNC _ nc_1_3⟩, fun _ h => absurd h List.not_mem_nil⟩)) (by decide) (by decide) (hts _ q333) (va_Nw.use rfl (hE.2.1 _ n347)) hce hv9 hcl ?_
      refine lv_astore (lv' := [(5, .ref q9), (0, .ref (ad 0)), (1, .int 19), (2, .int p2), (3, .int p3), (4, .int p4)]) hx hb dL_call_399 hl (by decide) rfl (fun ls hl => ?_)
      refine lv_sipush (v := (-1002)) hx hb dL_call_401 (by decide) ?_
      cases hf
      exact endw_i hAe hQm hx hb hr hlocks rfl hP hD hS dL_call_404 (Nat.le_of_ble_eq_true rfl) (Nat.le_of_ble_eq_true rfl)
    have hf := br_neg c6 hf
    by_cases c7 : n3 = 2
    · subst c7
      have hf := br_pos rfl hf
      refine cw_vi_err (rest := []) (m_C_readFrom l hst ca ad bq nF nO nL nA nC nV nU nP nE bF bO bL bA bC bV bU bP bE cT cK cO cQ cD pT pK pR pW pU pI pC uO uF uE uN wK jM jN jZ jB R _ p2 p3 p4 (.error 2) h2) ⟨hx, hb, hml, hown, hts⟩ (cwV 3 hts (gV q736 q737 q738 q24 q739) rfl rfl rfl (by decide +kernel) ⟨Nat.le_of_ble_eq_true rfl, Nat.le_of_ble_eq_true rfl⟩) (va_recv hK hP (ci := 7) (q0 := 0) rfl rfl) hE hP hD hS hA hZ rfl hl.1 rfl (lv_room (Nat.le_of_ble_eq_true rfl)) dL_call_294 ⟨Nat.le_of_ble_eq_true rfl, Nat.le_of_ble_eq_true rfl⟩ (fun H locs q9 ce hP hD hS hce hv9 hcl => ?_)
      refine vx_catch (E := "java/lang/IllegalStateException") hown ((tableOf HH).take 89) ⟨289, 297, 405, 126⟩ ((tableOf HH).drop (89 + 1)) (htab.trans (sp_at (n := 89) hh89)) (hp_of [(122, "java/lang/IndexOutOfBoundsException"), (124, "java/lang/IllegalArgumentException")] (by decide +kernel) (List.forall_mem_cons.mpr ⟨⟨hts _ q254, hNC _ nc_2_3⟩, List.forall_mem_cons.mpr ⟨⟨hts _ q333, hNC _ nc_2_1⟩, fun _ h => absurd h List.not_mem_nil⟩⟩)) (by decide) (by decide) (hts _ q334) (va_Nw.use rfl (hE.2.1 _ n367)) hce hv9 hcl ?_
      refine lv_astore (lv' := [(5, .ref q9), (0, .ref (ad 0)), (1, .int 19), (2, .int p2), (3, .int p3), (4, .int p4)]) hx hb dL_call_405 hl (by decide) rfl (fun ls hl => ?_)
      refine lv_sipush (v := (-1003)) hx hb dL_call_407 (by decide) ?_
      cases hf
      exact endw_i hAe hQm hx hb hr hlocks rfl hP hD hS dL_call_410 (Nat.le_of_ble_eq_true rfl) (Nat.le_of_ble_eq_true rfl)
    have hf := br_neg c7 hf
    by_cases c8 : n3 = 4
    · subst c8
      have hf := br_pos rfl hf
      refine cw_vi_err (rest := []) (m_C_readFrom l hst ca ad bq nF nO nL nA nC nV nU nP nE bF bO bL bA bC bV bU bP bE cT cK cO cQ cD pT pK pR pW pU pI pC uO uF uE uN wK jM jN jZ jB R _ p2 p3 p4 (.error 4) h2) ⟨hx, hb, hml, hown, hts⟩ (cwV 3 hts (gV q736 q737 q738 q24 q739) rfl rfl rfl (by decide +kernel) ⟨Nat.le_of_ble_eq_true rfl, Nat.le_of_ble_eq_true rfl⟩) (va_recv hK hP (ci := 7) (q0 := 0) rfl rfl) hE hP hD hS hA hZ rfl hl.1 rfl (lv_room (Nat.le_of_ble_eq_true rfl)) dL_call_294 ⟨Nat.le_of_ble_eq_true rfl, Nat.le_of_ble_eq_true rfl⟩ (fun H locs q9 ce hP hD hS hce hv9 hcl => ?_)
      refine vx_catch (E := "java/lang/UnsupportedOperationException") hown ((tableOf HH).take 124) ⟨289, 297, 411, 128⟩ ((tableOf HH).drop (124 + 1)) (htab.trans (sp_at (n := 124) hh124)) (hp_of [(122, "java/lang/IndexOutOfBoundsException"), (124, "java/lang/IllegalArgumentException"), (126, "java/lang/IllegalStateException")] (by decide +kernel) (List.forall_mem_cons.mpr ⟨⟨hts _ q254, hNC _ nc_4_3⟩, List.forall_mem_cons.mpr ⟨⟨hts _ q333, hNC _ nc_4_1⟩, List.forall_mem_cons.mpr ⟨⟨hts _ q334, hNC _ nc_4_2⟩, fun _ h => absurd h List.not_mem_nil⟩⟩⟩)) (by decide) (by decide) (hts _ q335) (va_Nw.use rfl (hE.2.1 _ n547)) hce hv9 hcl ?_
      refine lv_astore (lv' := [(5, .ref q9), (0, .ref (ad 0)), (1, .int 19), (2, .int p2), (3, .int p3), (4, .int p4)]) hx hb dL_call_411 hl (by decide) rfl (fun ls hl => ?_)
      refine lv_sipush (v := (-1004)) hx hb dL_call_413 (by decide) ?_
      cases hf
      exact endw_i hAe hQm hx hb hr hlocks rfl hP hD hS dL_call_416 (Nat.le_of_ble_eq_true rfl) (Nat.le_of_ble_eq_true rfl)
    have hf := br_neg c8 hf
    by_cases c9 : n3 = 5
    · subst c9
      have hf := br_pos rfl hf
      refine cw_vi_err (rest := []) (m_C_readFrom l hst ca ad bq nF nO nL nA nC nV nU nP nE bF bO bL bA bC bV bU bP bE cT cK cO cQ cD pT pK pR pW pU pI pC uO uF uE uN wK jM jN jZ jB R _ p2 p3 p4 (.error 5) h2) ⟨hx, hb, hml, hown, hts⟩ (cwV 3 hts (gV q736 q737 q738 q24 q739) rfl rfl rfl (by decide +kernel) ⟨Nat.le_of_ble_eq_true rfl, Nat.le_of_ble_eq_true rfl⟩) (va_recv hK hP (ci := 7) (q0 := 0) rfl rfl) hE hP hD hS hA hZ rfl hl.1 rfl (lv_room (Nat.le_of_ble_eq_true rfl)) dL_call_294 ⟨Nat.le_of_ble_eq_true rfl, Nat.le_of_ble_eq_true rfl⟩ (fun H locs q9 ce hP hD hS hce hv9 hcl => ?_)
      refine vx_catch (E := "java/util/NoSuchElementException") hown ((tableOf HH).take 159) ⟨289, 297, 417, 130⟩ ((tableOf HH).drop (159 + 1)) (htab.trans (sp_at (n := 159) hh159)) (hp_of [(122, "java/lang/IndexOutOfBoundsException"), (124, "java/lang/IllegalArgumentException"), (126, "java/lang/IllegalStateException"), (128, "java/lang/UnsupportedOperationException")] (by decide +kernel) (List.forall_mem_cons.mpr ⟨⟨hts _ q254, hNC _ nc_5_3⟩, List.forall_mem_cons.mpr ⟨⟨hts _ q333, hNC _ nc_5_1⟩, List.forall_mem_cons.mpr ⟨⟨hts _ q334, hNC _ nc_5_2⟩, List.forall_mem_cons.mpr ⟨⟨hts _ q335, hNC _ nc_5_4⟩, fun _ h => absurd h List.not_mem_nil⟩⟩⟩⟩)) (by decide) (by decide) (hts _ q336) (va_Nw.use rfl (hE.2.1 _ n606)) hce hv9 hcl ?_
      refine lv_astore (lv' := [(5, .ref q9), (0, .ref (ad 0)), (1, .int 19), (2, .int p2), (3, .int p3), (4, .int p4)]) hx hb dL_call_417 hl (by decide) rfl (fun ls hl => ?_)
      refine lv_sipush (v := (-1005)) hx hb dL_call_419 (by decide) ?_
      cases hf
      exact endw_i hAe hQm hx hb hr hlocks rfl hP hD hS dL_call_422 (Nat.le_of_ble_eq_true rfl) (Nat.le_of_ble_eq_true rfl)
    have hf := br_neg c9 hf
    cases hf
  refine cw_vi_ok (rest := []) (m_C_readFrom l hst ca ad bq nF nO nL nA nC nV nU nP nE bF bO bL bA bC bV bU bP bE cT cK cO cQ cD pT pK pR pW pU pI pC uO uF uE uN wK jM jN jZ jB R _ p2 p3 p4 (.ok r4) h2) ⟨hx, hb, hml, hown, hts⟩ (cwV 3 hts (gV q736 q737 q738 q24 q739) rfl rfl rfl (by decide +kernel) ⟨Nat.le_of_ble_eq_true rfl, Nat.le_of_ble_eq_true rfl⟩) (va_recv hK hP (ci := 7) (q0 := 0) rfl rfl) hE hP hD hS hA hZ rfl hl.1 rfl (lv_room (Nat.le_of_ble_eq_true rfl)) dL_call_294 ⟨Nat.le_of_ble_eq_true rfl, Nat.le_of_ble_eq_true rfl⟩ (fun H locs hP hD hS => ?_)
  cases hf
  exact endw_i hAe hQm hx hb hr hlocks rfl hP hD hS dL_call_297 (Nat.le_of_ble_eq_true rfl) (Nat.le_of_ble_eq_true rfl)
def f_K20 (p2 : Int32) (nU : Nat → Int32) (cT : Int32) (pT : Int32) (pK : Int32) (pR : Nat → Int32) (pW : Nat → Int32) (pU : Nat → Int32) (pI : Nat → Int32) (pC : Nat → Nat → Int32) : Option (Int32 × (Nat → Int32) × Int32 × (Nat → Int32) × (Nat → Int32)) :=
  (f_C_thin p2 nU cT pT pK pR pW pU pI pC).bind fun (x1, nU_2, pK_3, pW_4, pU_5) =>
  match x1 with
  | .error n7 => if n7 = 3 then some ((-1001), nU_2, pK_3, pW_4, pU_5) else if n7 = 1 then some ((-1002), nU_2, pK_3, pW_4, pU_5) else if n7 = 2 then some ((-1003), nU_2, pK_3, pW_4, pU_5) else if n7 = 4 then some ((-1004), nU_2, pK_3, pW_4, pU_5) else if n7 = 5 then some ((-1005), nU_2, pK_3, pW_4, pU_5) else none
  | .ok r8 =>
  some (r8, nU_2, pK_3, pW_4, pU_5)
set_option maxHeartbeats 4000000 in
set_option maxRecDepth 100000 in
theorem m_K20 (l : Launch) (hst : l.stackTraces = false) {D : va_G} (ca : Nat → ClassId) (ad : Nat → Nat) (bq : Nat) (nF : Int32) (nO : Nat → Int32) (nL : Nat → Int32) (nA : Nat → Int32) (nC : Nat → Int32) (nV : Nat → Int32) (nU : Nat → Int32) (nP : Nat → Int32) (nE : Int32) (bF : Int32) (bO : Nat → Int32) (bL : Nat → Int32) (bA : Nat → Int32) (bC : Nat → Int32) (bV : Nat → Int32) (bU : Nat → Int32) (bP : Nat → Int32) (bE : Int32) (cT : Int32) (cK : Nat → Int32) (cO : Int32) (cQ : Nat → Int32) (cD : Int32) (pT : Int32) (pK : Int32) (pR : Nat → Int32) (pW : Nat → Int32) (pU : Nat → Int32) (pI : Nat → Int32) (pC : Nat → Nat → Int32) (uO : Int32) (uF : Nat → Int32) (uE : Nat → Int32) (uN : Nat → Int32) (wK : Nat → Int32) (jM : Int32) (jN : Int32) (jZ : Nat) (jB : Nat → Int32) (R : va_W) (sz : Nat) (p2 : Int32) (p3 : Int32) (p4 : Int32) (ro : Int32) (onU : Nat → Int32) (opK : Int32) (opW : Nat → Int32) (opU : Nat → Int32) (hf : f_K20 p2 nU cT pT pK pR pW pU pI pC = some (ro, onU, opK, opW, opU)) : vx_Met l yL_call (wmW yL_call cL_call 6 (some .int) HH) ({ frames := 8, cells := 2, slots := 12, locals := 136 } : Room) (PREL [.ref (ad 0), .int 20, .int p2, .int p3, .int p4] D ca SL0 (WC ca ad bq nF nO nL nA nC nV nU nP nE bF bO bL bA bC bV bU bP bE cT cK cO cQ cD pT pK pR pW pU pI pC uO uF uE uN wK jM jN jZ jB ++ R) sz) (QI ro D (WC ca ad bq nF nO nL nA nC nV onU nP nE bF bO bL bA bC bV bU bP bE cT cK cO cQ cD pT opK pR opW opU pI pC uO uF uE uN wK jM jN jZ jB ++ R) (WC ca ad bq nF nO nL nA nC nV nU nP nE bF bO bL bA bC bV bU bP bE cT cK cO cQ cD pT pK pR pW pU pI pC uO uF uE uN wK jM jN jZ jB ++ R) sz) (fun _ _ _ => False) 2 12 (va_A (WC ca ad bq nF nO nL nA nC nV nU nP nE bF bO bL bA bC bV bU bP bE cT cK cO cQ cD pT pK pR pW pU pI pC uO uF uE uN wK jM jN jZ jB ++ R) sz) := by
  refine vx_ofWH (cc := cL_call) (maxL := 6) (ret := (some .int)) (hh := HH) (by decide) rfl ?_
  intro p e s m args below meth c s₁ B hml hv
  obtain ⟨rfl, rfl, hP, hE, hD0, hZ, hNC⟩ := hv
  have hx := B.exec
  have hb := B.bytes
  have hr := B.returns
  have hts0 := atoms_spec (ws := wmW yL_call cL_call 6 (some .int) HH) B.pre
  have hts := wmW_ww hts0
  have htab := vx_table (x := yL_call) B (hts0 _ List.mem_cons_self)
  have hown : s.vm.findClass RL = some m.cls := findClass_of_methodNamed B.named
  have hlocks := B.notSynchronized
  have hK := hE.1
  have hD := hD0.self (sz := s.heap.size)
  generalize hAe : va_A (WC ca ad bq nF nO nL nA nC nV nU nP nE bF bO bL bA bC bV bU bP bE cT cK cO cQ cD pT pK pR pW pU pI pC uO uF uE uN wK jM jN jZ jB ++ R) s.heap.size = A at hD hZ ⊢
  have hA : ∀ q : Nat, s.heap.size ≤ q → A q := fun q h => by rw [← hAe]; exact Or.inr h
  have hS : va_S A s.heap s.heap [] := va_S.rf
  have hl := lv_entry ([.ref (ad 0), .int 20, .int p2, .int p3, .int p4]) (n := 6) (Nat.le_of_ble_eq_true rfl)
  rw [lg_entry_eq]
  generalize (lg_sl ([.ref (ad 0), .int 20, .int p2, .int p3, .int p4]) ++ List.replicate (6 - (lg_sl ([.ref (ad 0), .int 20, .int p2, .int p3, .int p4])).length) Slot.unset).toArray = ls at hl ⊢
  have hl : lv_has ls 6 [(0, .ref (ad 0)), (1, .int 20), (2, .int p2), (3, .int p3), (4, .int p4)] := hl
  change W p l e ({ frames := 8, cells := 2, slots := 12, locals := 136 } : Room) s m _ below meth c s.heap [] 0 0 _ _
  generalize hQm : vx_MQ below (QI ro D (WC ca ad bq nF nO nL nA nC nV onU nP nE bF bO bL bA bC bV bU bP bE cT cK cO cQ cD pT opK pR opW opU pI pC uO uF uE uN wK jM jN jZ jB ++ R) (WC ca ad bq nF nO nL nA nC nV nU nP nE bF bO bL bA bC bV bU bP bE cT cK cO cQ cD pT pK pR pW pU pI pC uO uF uE uN wK jM jN jZ jB ++ R) s.heap.size) (fun _ _ _ => False) _ s 2 12 A = Qm
  have hP : va_P D vwCl (WC ca ad bq nF nO nL nA nC nV nU nP nE bF bO bL bA bC bV bU bP bE cT cK cO cQ cD pT pK pR pW pU pI pC uO uF uE uN wK jM jN jZ jB ++ R) s.heap := hP
  generalize hae : ([.ref (ad 0), .int 20, .int p2, .int p3, .int p4] : List Value).toArray = args at hts hQm ⊢
  refine lv_iload_n hx hb dL_call_0 rfl (lv_at hl 1 rfl) ?_
  refine lv_tableIn (off := 297) (tgt := 298) hx hb dL_call_1 (by decide) (by decide) rfl (by decide) ?_
  refine lv_aload_n hx hb dL_call_298 rfl (lv_at hl 0 rfl) ?_
  refine lv_iload_n hx hb dL_call_299 rfl (lv_at hl 2 rfl) ?_
  obtain ⟨⟨x1, nU_2, pK_3, pW_4, pU_5⟩, h6, hf⟩ := bnd hf
  rcases x1 with n7 | r8
  · have hf : (if n7 = 3 then some ((-1001), nU_2, pK_3, pW_4, pU_5) else if n7 = 1 then some ((-1002), nU_2, pK_3, pW_4, pU_5) else if n7 = 2 then some ((-1003), nU_2, pK_3, pW_4, pU_5) else if n7 = 4 then some ((-1004), nU_2, pK_3, pW_4, pU_5) else if n7 = 5 then some ((-1005), nU_2, pK_3, pW_4, pU_5) else none) = some (ro, onU, opK, opW, opU) := hf
    by_cases c9 : n7 = 3
    · subst c9
      have hf := br_pos rfl hf
      refine cw_vi_err (rest := []) (m_C_thin l hst ca ad bq nF nO nL nA nC nV nU nP nE bF bO bL bA bC bV bU bP bE cT cK cO cQ cD pT pK pR pW pU pI pC uO uF uE uN wK jM jN jZ jB R _ p2 (.error 3) nU_2 pK_3 pW_4 pU_5 h6) ⟨hx, hb, hml, hown, hts⟩ (cwV 1 hts (gV q756 q757 q758 q24 q759) rfl rfl rfl (by decide +kernel) ⟨Nat.le_of_ble_eq_true rfl, Nat.le_of_ble_eq_true rfl⟩) (va_recv hK hP (ci := 7) (q0 := 0) rfl rfl) hE hP hD hS hA hZ rfl hl.1 rfl (lv_room (Nat.le_of_ble_eq_true rfl)) dL_call_300 ⟨Nat.le_of_ble_eq_true rfl, Nat.le_of_ble_eq_true rfl⟩ (fun H locs q9 ce hP hD hS hce hv9 hcl => ?_)
      refine vx_catch (E := "java/lang/IndexOutOfBoundsException") hown ((tableOf HH).take 20) ⟨298, 303, 393, 122⟩ ((tableOf HH).drop (20 + 1)) (htab.trans (sp_at (n := 20) hh20)) (hp_of [] (by decide +kernel) (fun _ h => absurd h List.not_mem_nil)) (by decide) (by decide) (hts _ q254) (va_Nw.use rfl (hE.2.1 _ n392)) hce hv9 hcl ?_
      refine lv_astore (lv' := [(5, .ref q9), (0, .ref (ad 0)), (1, .int 20), (2, .int p2), (3, .int p3), (4, .int p4)]) hx hb dL_call_393 hl (by decide) rfl (fun ls hl => ?_)
      refine lv_sipush (v := (-1001)) hx hb dL_call_395 (by decide) ?_
      cases hf
      exact endw_i hAe hQm hx hb hr hlocks rfl hP hD hS dL_call_398 (Nat.le_of_ble_eq_true rfl) (Nat.le_of_ble_eq_true rfl)
    have hf := br_neg c9 hf
    by_cases c10 : n7 = 1
    · subst c10
      have hf := br_pos rfl hf
      refine cw_vi_err (rest := []) (m_C_thin l hst ca ad bq nF nO nL nA nC nV nU nP nE bF bO bL bA bC bV bU bP bE cT cK cO cQ cD pT pK pR pW pU pI pC uO uF uE uN wK jM jN jZ jB R _ p2 (.error 1) nU_2 pK_3 pW_4 pU_5 h6) ⟨hx, hb, hml, hown, hts⟩ (cwV 1 hts (gV q756 q757 q758 q24 q759) rfl rfl rfl (by decide +kernel) ⟨Nat.le_of_ble_eq_true rfl, Nat.le_of_ble_eq_true rfl⟩) (va_recv hK hP (ci := 7) (q0 := 0) rfl rfl) hE hP hD hS hA hZ rfl hl.1 rfl (lv_room (Nat.le_of_ble_eq_true rfl)) dL_call_300 ⟨Nat.le_of_ble_eq_true rfl, Nat.le_of_ble_eq_true rfl⟩ (fun H locs q9 ce hP hD hS hce hv9 hcl => ?_)
      refine vx_catch (E := "java/lang/IllegalArgumentException") hown ((tableOf HH).take 55) ⟨298, 303, 399, 124⟩ ((tableOf HH).drop (55 + 1)) (htab.trans (sp_at (n := 55) hh55)) (hp_of [(122, "java/lang/IndexOutOfBoundsException")] (by decide +kernel) (List.forall_mem_cons.mpr ⟨⟨hts _ q254, hNC _ nc_1_3⟩, fun _ h => absurd h List.not_mem_nil⟩)) (by decide) (by decide) (hts _ q333) (va_Nw.use rfl (hE.2.1 _ n347)) hce hv9 hcl ?_
      refine lv_astore (lv' := [(5, .ref q9), (0, .ref (ad 0)), (1, .int 20), (2, .int p2), (3, .int p3), (4, .int p4)]) hx hb dL_call_399 hl (by decide) rfl (fun ls hl => ?_)
      refine lv_sipush (v := (-1002)) hx hb dL_call_401 (by decide) ?_
      cases hf
      exact endw_i hAe hQm hx hb hr hlocks rfl hP hD hS dL_call_404 (Nat.le_of_ble_eq_true rfl) (Nat.le_of_ble_eq_true rfl)
    have hf := br_neg c10 hf
    by_cases c11 : n7 = 2
    · subst c11
      have hf := br_pos rfl hf
      refine cw_vi_err (rest := []) (m_C_thin l hst ca ad bq nF nO nL nA nC nV nU nP nE bF bO bL bA bC bV bU bP bE cT cK cO cQ cD pT pK pR pW pU pI pC uO uF uE uN wK jM jN jZ jB R _ p2 (.error 2) nU_2 pK_3 pW_4 pU_5 h6) ⟨hx, hb, hml, hown, hts⟩ (cwV 1 hts (gV q756 q757 q758 q24 q759) rfl rfl rfl (by decide +kernel) ⟨Nat.le_of_ble_eq_true rfl, Nat.le_of_ble_eq_true rfl⟩) (va_recv hK hP (ci := 7) (q0 := 0) rfl rfl) hE hP hD hS hA hZ rfl hl.1 rfl (lv_room (Nat.le_of_ble_eq_true rfl)) dL_call_300 ⟨Nat.le_of_ble_eq_true rfl, Nat.le_of_ble_eq_true rfl⟩ (fun H locs q9 ce hP hD hS hce hv9 hcl => ?_)
      refine vx_catch (E := "java/lang/IllegalStateException") hown ((tableOf HH).take 90) ⟨298, 303, 405, 126⟩ ((tableOf HH).drop (90 + 1)) (htab.trans (sp_at (n := 90) hh90)) (hp_of [(122, "java/lang/IndexOutOfBoundsException"), (124, "java/lang/IllegalArgumentException")] (by decide +kernel) (List.forall_mem_cons.mpr ⟨⟨hts _ q254, hNC _ nc_2_3⟩, List.forall_mem_cons.mpr ⟨⟨hts _ q333, hNC _ nc_2_1⟩, fun _ h => absurd h List.not_mem_nil⟩⟩)) (by decide) (by decide) (hts _ q334) (va_Nw.use rfl (hE.2.1 _ n367)) hce hv9 hcl ?_
      refine lv_astore (lv' := [(5, .ref q9), (0, .ref (ad 0)), (1, .int 20), (2, .int p2), (3, .int p3), (4, .int p4)]) hx hb dL_call_405 hl (by decide) rfl (fun ls hl => ?_)
      refine lv_sipush (v := (-1003)) hx hb dL_call_407 (by decide) ?_
      cases hf
      exact endw_i hAe hQm hx hb hr hlocks rfl hP hD hS dL_call_410 (Nat.le_of_ble_eq_true rfl) (Nat.le_of_ble_eq_true rfl)
    have hf := br_neg c11 hf
    by_cases c12 : n7 = 4
    · subst c12
      have hf := br_pos rfl hf
      refine cw_vi_err (rest := []) (m_C_thin l hst ca ad bq nF nO nL nA nC nV nU nP nE bF bO bL bA bC bV bU bP bE cT cK cO cQ cD pT pK pR pW pU pI pC uO uF uE uN wK jM jN jZ jB R _ p2 (.error 4) nU_2 pK_3 pW_4 pU_5 h6) ⟨hx, hb, hml, hown, hts⟩ (cwV 1 hts (gV q756 q757 q758 q24 q759) rfl rfl rfl (by decide +kernel) ⟨Nat.le_of_ble_eq_true rfl, Nat.le_of_ble_eq_true rfl⟩) (va_recv hK hP (ci := 7) (q0 := 0) rfl rfl) hE hP hD hS hA hZ rfl hl.1 rfl (lv_room (Nat.le_of_ble_eq_true rfl)) dL_call_300 ⟨Nat.le_of_ble_eq_true rfl, Nat.le_of_ble_eq_true rfl⟩ (fun H locs q9 ce hP hD hS hce hv9 hcl => ?_)
      refine vx_catch (E := "java/lang/UnsupportedOperationException") hown ((tableOf HH).take 125) ⟨298, 303, 411, 128⟩ ((tableOf HH).drop (125 + 1)) (htab.trans (sp_at (n := 125) hh125)) (hp_of [(122, "java/lang/IndexOutOfBoundsException"), (124, "java/lang/IllegalArgumentException"), (126, "java/lang/IllegalStateException")] (by decide +kernel) (List.forall_mem_cons.mpr ⟨⟨hts _ q254, hNC _ nc_4_3⟩, List.forall_mem_cons.mpr ⟨⟨hts _ q333, hNC _ nc_4_1⟩, List.forall_mem_cons.mpr ⟨⟨hts _ q334, hNC _ nc_4_2⟩, fun _ h => absurd h List.not_mem_nil⟩⟩⟩)) (by decide) (by decide) (hts _ q335) (va_Nw.use rfl (hE.2.1 _ n547)) hce hv9 hcl ?_
      refine lv_astore (lv' := [(5, .ref q9), (0, .ref (ad 0)), (1, .int 20), (2, .int p2), (3, .int p3), (4, .int p4)]) hx hb dL_call_411 hl (by decide) rfl (fun ls hl => ?_)
      refine lv_sipush (v := (-1004)) hx hb dL_call_413 (by decide) ?_
      cases hf
      exact endw_i hAe hQm hx hb hr hlocks rfl hP hD hS dL_call_416 (Nat.le_of_ble_eq_true rfl) (Nat.le_of_ble_eq_true rfl)
    have hf := br_neg c12 hf
    by_cases c13 : n7 = 5
    · subst c13
      have hf := br_pos rfl hf
      refine cw_vi_err (rest := []) (m_C_thin l hst ca ad bq nF nO nL nA nC nV nU nP nE bF bO bL bA bC bV bU bP bE cT cK cO cQ cD pT pK pR pW pU pI pC uO uF uE uN wK jM jN jZ jB R _ p2 (.error 5) nU_2 pK_3 pW_4 pU_5 h6) ⟨hx, hb, hml, hown, hts⟩ (cwV 1 hts (gV q756 q757 q758 q24 q759) rfl rfl rfl (by decide +kernel) ⟨Nat.le_of_ble_eq_true rfl, Nat.le_of_ble_eq_true rfl⟩) (va_recv hK hP (ci := 7) (q0 := 0) rfl rfl) hE hP hD hS hA hZ rfl hl.1 rfl (lv_room (Nat.le_of_ble_eq_true rfl)) dL_call_300 ⟨Nat.le_of_ble_eq_true rfl, Nat.le_of_ble_eq_true rfl⟩ (fun H locs q9 ce hP hD hS hce hv9 hcl => ?_)
      refine vx_catch (E := "java/util/NoSuchElementException") hown ((tableOf HH).take 160) ⟨298, 303, 417, 130⟩ ((tableOf HH).drop (160 + 1)) (htab.trans (sp_at (n := 160) hh160)) (hp_of [(122, "java/lang/IndexOutOfBoundsException"), (124, "java/lang/IllegalArgumentException"), (126, "java/lang/IllegalStateException"), (128, "java/lang/UnsupportedOperationException")] (by decide +kernel) (List.forall_mem_cons.mpr ⟨⟨hts _ q254, hNC _ nc_5_3⟩, List.forall_mem_cons.mpr ⟨⟨hts _ q333, hNC _ nc_5_1⟩, List.forall_mem_cons.mpr ⟨⟨hts _ q334, hNC _ nc_5_2⟩, List.forall_mem_cons.mpr ⟨⟨hts _ q335, hNC _ nc_5_4⟩, fun _ h => absurd h List.not_mem_nil⟩⟩⟩⟩)) (by decide) (by decide) (hts _ q336) (va_Nw.use rfl (hE.2.1 _ n606)) hce hv9 hcl ?_
      refine lv_astore (lv' := [(5, .ref q9), (0, .ref (ad 0)), (1, .int 20), (2, .int p2), (3, .int p3), (4, .int p4)]) hx hb dL_call_417 hl (by decide) rfl (fun ls hl => ?_)
      refine lv_sipush (v := (-1005)) hx hb dL_call_419 (by decide) ?_
      cases hf
      exact endw_i hAe hQm hx hb hr hlocks rfl hP hD hS dL_call_422 (Nat.le_of_ble_eq_true rfl) (Nat.le_of_ble_eq_true rfl)
    have hf := br_neg c13 hf
    cases hf
  refine cw_vi_ok (rest := []) (m_C_thin l hst ca ad bq nF nO nL nA nC nV nU nP nE bF bO bL bA bC bV bU bP bE cT cK cO cQ cD pT pK pR pW pU pI pC uO uF uE uN wK jM jN jZ jB R _ p2 (.ok r8) nU_2 pK_3 pW_4 pU_5 h6) ⟨hx, hb, hml, hown, hts⟩ (cwV 1 hts (gV q756 q757 q758 q24 q759) rfl rfl rfl (by decide +kernel) ⟨Nat.le_of_ble_eq_true rfl, Nat.le_of_ble_eq_true rfl⟩) (va_recv hK hP (ci := 7) (q0 := 0) rfl rfl) hE hP hD hS hA hZ rfl hl.1 rfl (lv_room (Nat.le_of_ble_eq_true rfl)) dL_call_300 ⟨Nat.le_of_ble_eq_true rfl, Nat.le_of_ble_eq_true rfl⟩ (fun H locs hP hD hS => ?_)
  cases hf
  exact endw_i hAe hQm hx hb hr hlocks rfl hP hD hS dL_call_303 (Nat.le_of_ble_eq_true rfl) (Nat.le_of_ble_eq_true rfl)
def f_K21 (pR : Nat → Int32) (pW : Nat → Int32) : Option (Int32) :=
  (f_C_nextToDrop pR pW).bind fun x1 =>
  match x1 with
  | .error n3 => if n3 = 3 then some (-1001) else if n3 = 1 then some (-1002) else if n3 = 2 then some (-1003) else if n3 = 4 then some (-1004) else if n3 = 5 then some (-1005) else none
  | .ok r4 =>
  some r4
set_option maxHeartbeats 4000000 in
set_option maxRecDepth 100000 in
theorem m_K21 (l : Launch) (hst : l.stackTraces = false) {D : va_G} (ca : Nat → ClassId) (ad : Nat → Nat) (bq : Nat) (nF : Int32) (nO : Nat → Int32) (nL : Nat → Int32) (nA : Nat → Int32) (nC : Nat → Int32) (nV : Nat → Int32) (nU : Nat → Int32) (nP : Nat → Int32) (nE : Int32) (bF : Int32) (bO : Nat → Int32) (bL : Nat → Int32) (bA : Nat → Int32) (bC : Nat → Int32) (bV : Nat → Int32) (bU : Nat → Int32) (bP : Nat → Int32) (bE : Int32) (cT : Int32) (cK : Nat → Int32) (cO : Int32) (cQ : Nat → Int32) (cD : Int32) (pT : Int32) (pK : Int32) (pR : Nat → Int32) (pW : Nat → Int32) (pU : Nat → Int32) (pI : Nat → Int32) (pC : Nat → Nat → Int32) (uO : Int32) (uF : Nat → Int32) (uE : Nat → Int32) (uN : Nat → Int32) (wK : Nat → Int32) (jM : Int32) (jN : Int32) (jZ : Nat) (jB : Nat → Int32) (R : va_W) (sz : Nat) (p2 : Int32) (p3 : Int32) (p4 : Int32) (ro : Int32) (hf : f_K21 pR pW = some ro) : vx_Met l yL_call (wmW yL_call cL_call 6 (some .int) HH) ({ frames := 7, cells := 1, slots := 6, locals := 111 } : Room) (PREL [.ref (ad 0), .int 21, .int p2, .int p3, .int p4] D ca SL0 (WC ca ad bq nF nO nL nA nC nV nU nP nE bF bO bL bA bC bV bU bP bE cT cK cO cQ cD pT pK pR pW pU pI pC uO uF uE uN wK jM jN jZ jB ++ R) sz) (QI ro D (WC ca ad bq nF nO nL nA nC nV nU nP nE bF bO bL bA bC bV bU bP bE cT cK cO cQ cD pT pK pR pW pU pI pC uO uF uE uN wK jM jN jZ jB ++ R) (WC ca ad bq nF nO nL nA nC nV nU nP nE bF bO bL bA bC bV bU bP bE cT cK cO cQ cD pT pK pR pW pU pI pC uO uF uE uN wK jM jN jZ jB ++ R) sz) (fun _ _ _ => False) 1 6 (va_A (WC ca ad bq nF nO nL nA nC nV nU nP nE bF bO bL bA bC bV bU bP bE cT cK cO cQ cD pT pK pR pW pU pI pC uO uF uE uN wK jM jN jZ jB ++ R) sz) := by
  refine vx_ofWH (cc := cL_call) (maxL := 6) (ret := (some .int)) (hh := HH) (by decide) rfl ?_
  intro p e s m args below meth c s₁ B hml hv
  obtain ⟨rfl, rfl, hP, hE, hD0, hZ, hNC⟩ := hv
  have hx := B.exec
  have hb := B.bytes
  have hr := B.returns
  have hts0 := atoms_spec (ws := wmW yL_call cL_call 6 (some .int) HH) B.pre
  have hts := wmW_ww hts0
  have htab := vx_table (x := yL_call) B (hts0 _ List.mem_cons_self)
  have hown : s.vm.findClass RL = some m.cls := findClass_of_methodNamed B.named
  have hlocks := B.notSynchronized
  have hK := hE.1
  have hD := hD0.self (sz := s.heap.size)
  generalize hAe : va_A (WC ca ad bq nF nO nL nA nC nV nU nP nE bF bO bL bA bC bV bU bP bE cT cK cO cQ cD pT pK pR pW pU pI pC uO uF uE uN wK jM jN jZ jB ++ R) s.heap.size = A at hD hZ ⊢
  have hA : ∀ q : Nat, s.heap.size ≤ q → A q := fun q h => by rw [← hAe]; exact Or.inr h
  have hS : va_S A s.heap s.heap [] := va_S.rf
  have hl := lv_entry ([.ref (ad 0), .int 21, .int p2, .int p3, .int p4]) (n := 6) (Nat.le_of_ble_eq_true rfl)
  rw [lg_entry_eq]
  generalize (lg_sl ([.ref (ad 0), .int 21, .int p2, .int p3, .int p4]) ++ List.replicate (6 - (lg_sl ([.ref (ad 0), .int 21, .int p2, .int p3, .int p4])).length) Slot.unset).toArray = ls at hl ⊢
  have hl : lv_has ls 6 [(0, .ref (ad 0)), (1, .int 21), (2, .int p2), (3, .int p3), (4, .int p4)] := hl
  change W p l e ({ frames := 7, cells := 1, slots := 6, locals := 111 } : Room) s m _ below meth c s.heap [] 0 0 _ _
  generalize hQm : vx_MQ below (QI ro D (WC ca ad bq nF nO nL nA nC nV nU nP nE bF bO bL bA bC bV bU bP bE cT cK cO cQ cD pT pK pR pW pU pI pC uO uF uE uN wK jM jN jZ jB ++ R) (WC ca ad bq nF nO nL nA nC nV nU nP nE bF bO bL bA bC bV bU bP bE cT cK cO cQ cD pT pK pR pW pU pI pC uO uF uE uN wK jM jN jZ jB ++ R) s.heap.size) (fun _ _ _ => False) _ s 1 6 A = Qm
  have hP : va_P D vwCl (WC ca ad bq nF nO nL nA nC nV nU nP nE bF bO bL bA bC bV bU bP bE cT cK cO cQ cD pT pK pR pW pU pI pC uO uF uE uN wK jM jN jZ jB ++ R) s.heap := hP
  generalize hae : ([.ref (ad 0), .int 21, .int p2, .int p3, .int p4] : List Value).toArray = args at hts hQm ⊢
  refine lv_iload_n hx hb dL_call_0 rfl (lv_at hl 1 rfl) ?_
  refine lv_tableIn (off := 303) (tgt := 304) hx hb dL_call_1 (by decide) (by decide) rfl (by decide) ?_
  refine lv_aload_n hx hb dL_call_304 rfl (lv_at hl 0 rfl) ?_
  obtain ⟨x1, h2, hf⟩ := bnd hf
  rcases x1 with n3 | r4
  · have hf : (if n3 = 3 then some (-1001) else if n3 = 1 then some (-1002) else if n3 = 2 then some (-1003) else if n3 = 4 then some (-1004) else if n3 = 5 then some (-1005) else none) = some ro := hf
    by_cases c5 : n3 = 3
    · subst c5
      have hf := br_pos rfl hf
      refine cw_vi_err (rest := []) (m_C_nextToDrop l hst ca ad bq nF nO nL nA nC nV nU nP nE bF bO bL bA bC bV bU bP bE cT cK cO cQ cD pT pK pR pW pU pI pC uO uF uE uN wK jM jN jZ jB R _ (.error 3) h2) ⟨hx, hb, hml, hown, hts⟩ (cwV 0 hts (gV q770 q771 q772 q24 q773) rfl rfl rfl (by decide +kernel) ⟨Nat.le_of_ble_eq_true rfl, Nat.le_of_ble_eq_true rfl⟩) (va_recv hK hP (ci := 7) (q0 := 0) rfl rfl) hE hP hD hS hA hZ rfl hl.1 rfl (lv_room (Nat.le_of_ble_eq_true rfl)) dL_call_305 ⟨Nat.le_of_ble_eq_true rfl, Nat.le_of_ble_eq_true rfl⟩ (fun H locs q9 ce hP hD hS hce hv9 hcl => ?_)
      refine vx_catch (E := "java/lang/IndexOutOfBoundsException") hown ((tableOf HH).take 21) ⟨304, 308, 393, 122⟩ ((tableOf HH).drop (21 + 1)) (htab.trans (sp_at (n := 21) hh21)) (hp_of [] (by decide +kernel) (fun _ h => absurd h List.not_mem_nil)) (by decide) (by decide) (hts _ q254) (va_Nw.use rfl (hE.2.1 _ n392)) hce hv9 hcl ?_
      refine lv_astore (lv' := [(5, .ref q9), (0, .ref (ad 0)), (1, .int 21), (2, .int p2), (3, .int p3), (4, .int p4)]) hx hb dL_call_393 hl (by decide) rfl (fun ls hl => ?_)
      refine lv_sipush (v := (-1001)) hx hb dL_call_395 (by decide) ?_
      cases hf
      exact endw_i hAe hQm hx hb hr hlocks rfl hP hD hS dL_call_398 (Nat.le_of_ble_eq_true rfl) (Nat.le_of_ble_eq_true rfl)
    have hf := br_neg c5 hf
    by_cases c6 : n3 = 1
    · subst c6
      have hf := br_pos rfl hf
      refine cw_vi_err (rest := []) (m_C_nextToDrop l hst ca ad bq nF nO nL nA nC nV nU nP nE bF bO bL bA bC bV bU bP bE cT cK cO cQ cD pT pK pR pW pU pI pC uO uF uE uN wK jM jN jZ jB R _ (.error 1) h2) ⟨hx, hb, hml, hown, hts⟩ (cwV 0 hts (gV q770 q771 q772 q24 q773) rfl rfl rfl (by decide +kernel) ⟨Nat.le_of_ble_eq_true rfl, Nat.le_of_ble_eq_true rfl⟩) (va_recv hK hP (ci := 7) (q0 := 0) rfl rfl) hE hP hD hS hA hZ rfl hl.1 rfl (lv_room (Nat.le_of_ble_eq_true rfl)) dL_call_305 ⟨Nat.le_of_ble_eq_true rfl, Nat.le_of_ble_eq_true rfl⟩ (fun H locs q9 ce hP hD hS hce hv9 hcl => ?_)
      refine vx_catch (E := "java/lang/IllegalArgumentException") hown ((tableOf HH).take 56) ⟨304, 308, 399, 124⟩ ((tableOf HH).drop (56 + 1)) (htab.trans (sp_at (n := 56) hh56)) (hp_of [(122, "java/lang/IndexOutOfBoundsException")] (by decide +kernel) (List.forall_mem_cons.mpr ⟨⟨hts _ q254, hNC _ nc_1_3⟩, fun _ h => absurd h List.not_mem_nil⟩)) (by decide) (by decide) (hts _ q333) (va_Nw.use rfl (hE.2.1 _ n347)) hce hv9 hcl ?_
      refine lv_astore (lv' := [(5, .ref q9), (0, .ref (ad 0)), (1, .int 21), (2, .int p2), (3, .int p3), (4, .int p4)]) hx hb dL_call_399 hl (by decide) rfl (fun ls hl => ?_)
      refine lv_sipush (v := (-1002)) hx hb dL_call_401 (by decide) ?_
      cases hf
      exact endw_i hAe hQm hx hb hr hlocks rfl hP hD hS dL_call_404 (Nat.le_of_ble_eq_true rfl) (Nat.le_of_ble_eq_true rfl)
    have hf := br_neg c6 hf
    by_cases c7 : n3 = 2
    · subst c7
      have hf := br_pos rfl hf
      refine cw_vi_err (rest := []) (m_C_nextToDrop l hst ca ad bq nF nO nL nA nC nV nU nP nE bF bO bL bA bC bV bU bP bE cT cK cO cQ cD pT pK pR pW pU pI pC uO uF uE uN wK jM jN jZ jB R _ (.error 2) h2) ⟨hx, hb, hml, hown, hts⟩ (cwV 0 hts (gV q770 q771 q772 q24 q773) rfl rfl rfl (by decide +kernel) ⟨Nat.le_of_ble_eq_true rfl, Nat.le_of_ble_eq_true rfl⟩) (va_recv hK hP (ci := 7) (q0 := 0) rfl rfl) hE hP hD hS hA hZ rfl hl.1 rfl (lv_room (Nat.le_of_ble_eq_true rfl)) dL_call_305 ⟨Nat.le_of_ble_eq_true rfl, Nat.le_of_ble_eq_true rfl⟩ (fun H locs q9 ce hP hD hS hce hv9 hcl => ?_)
      refine vx_catch (E := "java/lang/IllegalStateException") hown ((tableOf HH).take 91) ⟨304, 308, 405, 126⟩ ((tableOf HH).drop (91 + 1)) (htab.trans (sp_at (n := 91) hh91)) (hp_of [(122, "java/lang/IndexOutOfBoundsException"), (124, "java/lang/IllegalArgumentException")] (by decide +kernel) (List.forall_mem_cons.mpr ⟨⟨hts _ q254, hNC _ nc_2_3⟩, List.forall_mem_cons.mpr ⟨⟨hts _ q333, hNC _ nc_2_1⟩, fun _ h => absurd h List.not_mem_nil⟩⟩)) (by decide) (by decide) (hts _ q334) (va_Nw.use rfl (hE.2.1 _ n367)) hce hv9 hcl ?_
      refine lv_astore (lv' := [(5, .ref q9), (0, .ref (ad 0)), (1, .int 21), (2, .int p2), (3, .int p3), (4, .int p4)]) hx hb dL_call_405 hl (by decide) rfl (fun ls hl => ?_)
      refine lv_sipush (v := (-1003)) hx hb dL_call_407 (by decide) ?_
      cases hf
      exact endw_i hAe hQm hx hb hr hlocks rfl hP hD hS dL_call_410 (Nat.le_of_ble_eq_true rfl) (Nat.le_of_ble_eq_true rfl)
    have hf := br_neg c7 hf
    by_cases c8 : n3 = 4
    · subst c8
      have hf := br_pos rfl hf
      refine cw_vi_err (rest := []) (m_C_nextToDrop l hst ca ad bq nF nO nL nA nC nV nU nP nE bF bO bL bA bC bV bU bP bE cT cK cO cQ cD pT pK pR pW pU pI pC uO uF uE uN wK jM jN jZ jB R _ (.error 4) h2) ⟨hx, hb, hml, hown, hts⟩ (cwV 0 hts (gV q770 q771 q772 q24 q773) rfl rfl rfl (by decide +kernel) ⟨Nat.le_of_ble_eq_true rfl, Nat.le_of_ble_eq_true rfl⟩) (va_recv hK hP (ci := 7) (q0 := 0) rfl rfl) hE hP hD hS hA hZ rfl hl.1 rfl (lv_room (Nat.le_of_ble_eq_true rfl)) dL_call_305 ⟨Nat.le_of_ble_eq_true rfl, Nat.le_of_ble_eq_true rfl⟩ (fun H locs q9 ce hP hD hS hce hv9 hcl => ?_)
      refine vx_catch (E := "java/lang/UnsupportedOperationException") hown ((tableOf HH).take 126) ⟨304, 308, 411, 128⟩ ((tableOf HH).drop (126 + 1)) (htab.trans (sp_at (n := 126) hh126)) (hp_of [(122, "java/lang/IndexOutOfBoundsException"), (124, "java/lang/IllegalArgumentException"), (126, "java/lang/IllegalStateException")] (by decide +kernel) (List.forall_mem_cons.mpr ⟨⟨hts _ q254, hNC _ nc_4_3⟩, List.forall_mem_cons.mpr ⟨⟨hts _ q333, hNC _ nc_4_1⟩, List.forall_mem_cons.mpr ⟨⟨hts _ q334, hNC _ nc_4_2⟩, fun _ h => absurd h List.not_mem_nil⟩⟩⟩)) (by decide) (by decide) (hts _ q335) (va_Nw.use rfl (hE.2.1 _ n547)) hce hv9 hcl ?_
      refine lv_astore (lv' := [(5, .ref q9), (0, .ref (ad 0)), (1, .int 21), (2, .int p2), (3, .int p3), (4, .int p4)]) hx hb dL_call_411 hl (by decide) rfl (fun ls hl => ?_)
      refine lv_sipush (v := (-1004)) hx hb dL_call_413 (by decide) ?_
      cases hf
      exact endw_i hAe hQm hx hb hr hlocks rfl hP hD hS dL_call_416 (Nat.le_of_ble_eq_true rfl) (Nat.le_of_ble_eq_true rfl)
    have hf := br_neg c8 hf
    by_cases c9 : n3 = 5
    · subst c9
      have hf := br_pos rfl hf
      refine cw_vi_err (rest := []) (m_C_nextToDrop l hst ca ad bq nF nO nL nA nC nV nU nP nE bF bO bL bA bC bV bU bP bE cT cK cO cQ cD pT pK pR pW pU pI pC uO uF uE uN wK jM jN jZ jB R _ (.error 5) h2) ⟨hx, hb, hml, hown, hts⟩ (cwV 0 hts (gV q770 q771 q772 q24 q773) rfl rfl rfl (by decide +kernel) ⟨Nat.le_of_ble_eq_true rfl, Nat.le_of_ble_eq_true rfl⟩) (va_recv hK hP (ci := 7) (q0 := 0) rfl rfl) hE hP hD hS hA hZ rfl hl.1 rfl (lv_room (Nat.le_of_ble_eq_true rfl)) dL_call_305 ⟨Nat.le_of_ble_eq_true rfl, Nat.le_of_ble_eq_true rfl⟩ (fun H locs q9 ce hP hD hS hce hv9 hcl => ?_)
      refine vx_catch (E := "java/util/NoSuchElementException") hown ((tableOf HH).take 161) ⟨304, 308, 417, 130⟩ ((tableOf HH).drop (161 + 1)) (htab.trans (sp_at (n := 161) hh161)) (hp_of [(122, "java/lang/IndexOutOfBoundsException"), (124, "java/lang/IllegalArgumentException"), (126, "java/lang/IllegalStateException"), (128, "java/lang/UnsupportedOperationException")] (by decide +kernel) (List.forall_mem_cons.mpr ⟨⟨hts _ q254, hNC _ nc_5_3⟩, List.forall_mem_cons.mpr ⟨⟨hts _ q333, hNC _ nc_5_1⟩, List.forall_mem_cons.mpr ⟨⟨hts _ q334, hNC _ nc_5_2⟩, List.forall_mem_cons.mpr ⟨⟨hts _ q335, hNC _ nc_5_4⟩, fun _ h => absurd h List.not_mem_nil⟩⟩⟩⟩)) (by decide) (by decide) (hts _ q336) (va_Nw.use rfl (hE.2.1 _ n606)) hce hv9 hcl ?_
      refine lv_astore (lv' := [(5, .ref q9), (0, .ref (ad 0)), (1, .int 21), (2, .int p2), (3, .int p3), (4, .int p4)]) hx hb dL_call_417 hl (by decide) rfl (fun ls hl => ?_)
      refine lv_sipush (v := (-1005)) hx hb dL_call_419 (by decide) ?_
      cases hf
      exact endw_i hAe hQm hx hb hr hlocks rfl hP hD hS dL_call_422 (Nat.le_of_ble_eq_true rfl) (Nat.le_of_ble_eq_true rfl)
    have hf := br_neg c9 hf
    cases hf
  refine cw_vi_ok (rest := []) (m_C_nextToDrop l hst ca ad bq nF nO nL nA nC nV nU nP nE bF bO bL bA bC bV bU bP bE cT cK cO cQ cD pT pK pR pW pU pI pC uO uF uE uN wK jM jN jZ jB R _ (.ok r4) h2) ⟨hx, hb, hml, hown, hts⟩ (cwV 0 hts (gV q770 q771 q772 q24 q773) rfl rfl rfl (by decide +kernel) ⟨Nat.le_of_ble_eq_true rfl, Nat.le_of_ble_eq_true rfl⟩) (va_recv hK hP (ci := 7) (q0 := 0) rfl rfl) hE hP hD hS hA hZ rfl hl.1 rfl (lv_room (Nat.le_of_ble_eq_true rfl)) dL_call_305 ⟨Nat.le_of_ble_eq_true rfl, Nat.le_of_ble_eq_true rfl⟩ (fun H locs hP hD hS => ?_)
  cases hf
  exact endw_i hAe hQm hx hb hr hlocks rfl hP hD hS dL_call_308 (Nat.le_of_ble_eq_true rfl) (Nat.le_of_ble_eq_true rfl)
def f_K22 (p2 : Int32) (p3 : Int32) (nF : Int32) (nO : Nat → Int32) (nL : Nat → Int32) (nC : Nat → Int32) (nU : Nat → Int32) (cT : Int32) (cO : Int32) (cQ : Nat → Int32) (pT : Int32) (pW : Nat → Int32) (pI : Nat → Int32) (pC : Nat → Nat → Int32) : Option (Int32 × (Nat → Int32) × (Nat → Int32)) :=
  (f_C_restore p2 p3 nF nO nL nC nU cT cO cQ pT pW pI pC).bind fun (x1, nC_2, nU_3) =>
  match x1 with
  | .error n5 => if n5 = 3 then some ((-1001), nC_2, nU_3) else if n5 = 1 then some ((-1002), nC_2, nU_3) else if n5 = 2 then some ((-1003), nC_2, nU_3) else if n5 = 4 then some ((-1004), nC_2, nU_3) else if n5 = 5 then some ((-1005), nC_2, nU_3) else none
  | .ok r6 =>
  some (r6, nC_2, nU_3)
set_option maxHeartbeats 4000000 in
set_option maxRecDepth 100000 in
theorem m_K22 (l : Launch) (hst : l.stackTraces = false) {D : va_G} (ca : Nat → ClassId) (ad : Nat → Nat) (bq : Nat) (nF : Int32) (nO : Nat → Int32) (nL : Nat → Int32) (nA : Nat → Int32) (nC : Nat → Int32) (nV : Nat → Int32) (nU : Nat → Int32) (nP : Nat → Int32) (nE : Int32) (bF : Int32) (bO : Nat → Int32) (bL : Nat → Int32) (bA : Nat → Int32) (bC : Nat → Int32) (bV : Nat → Int32) (bU : Nat → Int32) (bP : Nat → Int32) (bE : Int32) (cT : Int32) (cK : Nat → Int32) (cO : Int32) (cQ : Nat → Int32) (cD : Int32) (pT : Int32) (pK : Int32) (pR : Nat → Int32) (pW : Nat → Int32) (pU : Nat → Int32) (pI : Nat → Int32) (pC : Nat → Nat → Int32) (uO : Int32) (uF : Nat → Int32) (uE : Nat → Int32) (uN : Nat → Int32) (wK : Nat → Int32) (jM : Int32) (jN : Int32) (jZ : Nat) (jB : Nat → Int32) (R : va_W) (sz : Nat) (p2 : Int32) (p3 : Int32) (p4 : Int32) (ro : Int32) (onC : Nat → Int32) (onU : Nat → Int32) (hf : f_K22 p2 p3 nF nO nL nC nU cT cO cQ pT pW pI pC = some (ro, onC, onU)) : vx_Met l yL_call (wmW yL_call cL_call 6 (some .int) HH) ({ frames := 8, cells := 6, slots := 36, locals := 140 } : Room) (PREL [.ref (ad 0), .int 22, .int p2, .int p3, .int p4] D ca SL0 (WC ca ad bq nF nO nL nA nC nV nU nP nE bF bO bL bA bC bV bU bP bE cT cK cO cQ cD pT pK pR pW pU pI pC uO uF uE uN wK jM jN jZ jB ++ R) sz) (QI ro D (WC ca ad bq nF nO nL nA onC nV onU nP nE bF bO bL bA bC bV bU bP bE cT cK cO cQ cD pT pK pR pW pU pI pC uO uF uE uN wK jM jN jZ jB ++ R) (WC ca ad bq nF nO nL nA nC nV nU nP nE bF bO bL bA bC bV bU bP bE cT cK cO cQ cD pT pK pR pW pU pI pC uO uF uE uN wK jM jN jZ jB ++ R) sz) (fun _ _ _ => False) 6 36 (va_A (WC ca ad bq nF nO nL nA nC nV nU nP nE bF bO bL bA bC bV bU bP bE cT cK cO cQ cD pT pK pR pW pU pI pC uO uF uE uN wK jM jN jZ jB ++ R) sz) := by
  refine vx_ofWH (cc := cL_call) (maxL := 6) (ret := (some .int)) (hh := HH) (by decide) rfl ?_
  intro p e s m args below meth c s₁ B hml hv
  obtain ⟨rfl, rfl, hP, hE, hD0, hZ, hNC⟩ := hv
  have hx := B.exec
  have hb := B.bytes
  have hr := B.returns
  have hts0 := atoms_spec (ws := wmW yL_call cL_call 6 (some .int) HH) B.pre
  have hts := wmW_ww hts0
  have htab := vx_table (x := yL_call) B (hts0 _ List.mem_cons_self)
  have hown : s.vm.findClass RL = some m.cls := findClass_of_methodNamed B.named
  have hlocks := B.notSynchronized
  have hK := hE.1
  have hD := hD0.self (sz := s.heap.size)
  generalize hAe : va_A (WC ca ad bq nF nO nL nA nC nV nU nP nE bF bO bL bA bC bV bU bP bE cT cK cO cQ cD pT pK pR pW pU pI pC uO uF uE uN wK jM jN jZ jB ++ R) s.heap.size = A at hD hZ ⊢
  have hA : ∀ q : Nat, s.heap.size ≤ q → A q := fun q h => by rw [← hAe]; exact Or.inr h
  have hS : va_S A s.heap s.heap [] := va_S.rf
  have hl := lv_entry ([.ref (ad 0), .int 22, .int p2, .int p3, .int p4]) (n := 6) (Nat.le_of_ble_eq_true rfl)
  rw [lg_entry_eq]
  generalize (lg_sl ([.ref (ad 0), .int 22, .int p2, .int p3, .int p4]) ++ List.replicate (6 - (lg_sl ([.ref (ad 0), .int 22, .int p2, .int p3, .int p4])).length) Slot.unset).toArray = ls at hl ⊢
  have hl : lv_has ls 6 [(0, .ref (ad 0)), (1, .int 22), (2, .int p2), (3, .int p3), (4, .int p4)] := hl
  change W p l e ({ frames := 8, cells := 6, slots := 36, locals := 140 } : Room) s m _ below meth c s.heap [] 0 0 _ _
  generalize hQm : vx_MQ below (QI ro D (WC ca ad bq nF nO nL nA onC nV onU nP nE bF bO bL bA bC bV bU bP bE cT cK cO cQ cD pT pK pR pW pU pI pC uO uF uE uN wK jM jN jZ jB ++ R) (WC ca ad bq nF nO nL nA nC nV nU nP nE bF bO bL bA bC bV bU bP bE cT cK cO cQ cD pT pK pR pW pU pI pC uO uF uE uN wK jM jN jZ jB ++ R) s.heap.size) (fun _ _ _ => False) _ s 6 36 A = Qm
  have hP : va_P D vwCl (WC ca ad bq nF nO nL nA nC nV nU nP nE bF bO bL bA bC bV bU bP bE cT cK cO cQ cD pT pK pR pW pU pI pC uO uF uE uN wK jM jN jZ jB ++ R) s.heap := hP
  generalize hae : ([.ref (ad 0), .int 22, .int p2, .int p3, .int p4] : List Value).toArray = args at hts hQm ⊢
  refine lv_iload_n hx hb dL_call_0 rfl (lv_at hl 1 rfl) ?_
  refine lv_tableIn (off := 308) (tgt := 309) hx hb dL_call_1 (by decide) (by decide) rfl (by decide) ?_
  refine lv_aload_n hx hb dL_call_309 rfl (lv_at hl 0 rfl) ?_
  refine lv_iload_n hx hb dL_call_310 rfl (lv_at hl 2 rfl) ?_
  refine lv_iload_n hx hb dL_call_311 rfl (lv_at hl 3 rfl) ?_
  obtain ⟨⟨x1, nC_2, nU_3⟩, h4, hf⟩ := bnd hf
  rcases x1 with n5 | r6
  · have hf : (if n5 = 3 then some ((-1001), nC_2, nU_3) else if n5 = 1 then some ((-1002), nC_2, nU_3) else if n5 = 2 then some ((-1003), nC_2, nU_3) else if n5 = 4 then some ((-1004), nC_2, nU_3) else if n5 = 5 then some ((-1005), nC_2, nU_3) else none) = some (ro, onC, onU) := hf
    by_cases c7 : n5 = 3
    · subst c7
      have hf := br_pos rfl hf
      refine cw_vi_err (rest := []) (m_C_restore l hst ca ad bq nF nO nL nA nC nV nU nP nE bF bO bL bA bC bV bU bP bE cT cK cO cQ cD pT pK pR pW pU pI pC uO uF uE uN wK jM jN jZ jB R _ p2 p3 (.error 3) nC_2 nU_3 h4) ⟨hx, hb, hml, hown, hts⟩ (cwV 2 hts (gV q775 q776 q777 q24 q778) rfl rfl rfl (by decide +kernel) ⟨Nat.le_of_ble_eq_true rfl, Nat.le_of_ble_eq_true rfl⟩) (va_recv hK hP (ci := 7) (q0 := 0) rfl rfl) hE hP hD hS hA hZ rfl hl.1 rfl (lv_room (Nat.le_of_ble_eq_true rfl)) dL_call_312 ⟨Nat.le_of_ble_eq_true rfl, Nat.le_of_ble_eq_true rfl⟩ (fun H locs q9 ce hP hD hS hce hv9 hcl => ?_)
      refine vx_catch (E := "java/lang/IndexOutOfBoundsException") hown ((tableOf HH).take 22) ⟨309, 315, 393, 122⟩ ((tableOf HH).drop (22 + 1)) (htab.trans (sp_at (n := 22) hh22)) (hp_of [] (by decide +kernel) (fun _ h => absurd h List.not_mem_nil)) (by decide) (by decide) (hts _ q254) (va_Nw.use rfl (hE.2.1 _ n392)) hce hv9 hcl ?_
      refine lv_astore (lv' := [(5, .ref q9), (0, .ref (ad 0)), (1, .int 22), (2, .int p2), (3, .int p3), (4, .int p4)]) hx hb dL_call_393 hl (by decide) rfl (fun ls hl => ?_)
      refine lv_sipush (v := (-1001)) hx hb dL_call_395 (by decide) ?_
      cases hf
      exact endw_i hAe hQm hx hb hr hlocks rfl hP hD hS dL_call_398 (Nat.le_of_ble_eq_true rfl) (Nat.le_of_ble_eq_true rfl)
    have hf := br_neg c7 hf
    by_cases c8 : n5 = 1
    · subst c8
      have hf := br_pos rfl hf
      refine cw_vi_err (rest := []) (m_C_restore l hst ca ad bq nF nO nL nA nC nV nU nP nE bF bO bL bA bC bV bU bP bE cT cK cO cQ cD pT pK pR pW pU pI pC uO uF uE uN wK jM jN jZ jB R _ p2 p3 (.error 1) nC_2 nU_3 h4) ⟨hx, hb, hml, hown, hts⟩ (cwV 2 hts (gV q775 q776 q777 q24 q778) rfl rfl rfl (by decide +kernel) ⟨Nat.le_of_ble_eq_true rfl, Nat.le_of_ble_eq_true rfl⟩) (va_recv hK hP (ci := 7) (q0 := 0) rfl rfl) hE hP hD hS hA hZ rfl hl.1 rfl (lv_room (Nat.le_of_ble_eq_true rfl)) dL_call_312 ⟨Nat.le_of_ble_eq_true rfl, Nat.le_of_ble_eq_true rfl⟩ (fun H locs q9 ce hP hD hS hce hv9 hcl => ?_)
      refine vx_catch (E := "java/lang/IllegalArgumentException") hown ((tableOf HH).take 57) ⟨309, 315, 399, 124⟩ ((tableOf HH).drop (57 + 1)) (htab.trans (sp_at (n := 57) hh57)) (hp_of [(122, "java/lang/IndexOutOfBoundsException")] (by decide +kernel) (List.forall_mem_cons.mpr ⟨⟨hts _ q254, hNC _ nc_1_3⟩, fun _ h => absurd h List.not_mem_nil⟩)) (by decide) (by decide) (hts _ q333) (va_Nw.use rfl (hE.2.1 _ n347)) hce hv9 hcl ?_
      refine lv_astore (lv' := [(5, .ref q9), (0, .ref (ad 0)), (1, .int 22), (2, .int p2), (3, .int p3), (4, .int p4)]) hx hb dL_call_399 hl (by decide) rfl (fun ls hl => ?_)
      refine lv_sipush (v := (-1002)) hx hb dL_call_401 (by decide) ?_
      cases hf
      exact endw_i hAe hQm hx hb hr hlocks rfl hP hD hS dL_call_404 (Nat.le_of_ble_eq_true rfl) (Nat.le_of_ble_eq_true rfl)
    have hf := br_neg c8 hf
    by_cases c9 : n5 = 2
    · subst c9
      have hf := br_pos rfl hf
      refine cw_vi_err (rest := []) (m_C_restore l hst ca ad bq nF nO nL nA nC nV nU nP nE bF bO bL bA bC bV bU bP bE cT cK cO cQ cD pT pK pR pW pU pI pC uO uF uE uN wK jM jN jZ jB R _ p2 p3 (.error 2) nC_2 nU_3 h4) ⟨hx, hb, hml, hown, hts⟩ (cwV 2 hts (gV q775 q776 q777 q24 q778) rfl rfl rfl (by decide +kernel) ⟨Nat.le_of_ble_eq_true rfl, Nat.le_of_ble_eq_true rfl⟩) (va_recv hK hP (ci := 7) (q0 := 0) rfl rfl) hE hP hD hS hA hZ rfl hl.1 rfl (lv_room (Nat.le_of_ble_eq_true rfl)) dL_call_312 ⟨Nat.le_of_ble_eq_true rfl, Nat.le_of_ble_eq_true rfl⟩ (fun H locs q9 ce hP hD hS hce hv9 hcl => ?_)
      refine vx_catch (E := "java/lang/IllegalStateException") hown ((tableOf HH).take 92) ⟨309, 315, 405, 126⟩ ((tableOf HH).drop (92 + 1)) (htab.trans (sp_at (n := 92) hh92)) (hp_of [(122, "java/lang/IndexOutOfBoundsException"), (124, "java/lang/IllegalArgumentException")] (by decide +kernel) (List.forall_mem_cons.mpr ⟨⟨hts _ q254, hNC _ nc_2_3⟩, List.forall_mem_cons.mpr ⟨⟨hts _ q333, hNC _ nc_2_1⟩, fun _ h => absurd h List.not_mem_nil⟩⟩)) (by decide) (by decide) (hts _ q334) (va_Nw.use rfl (hE.2.1 _ n367)) hce hv9 hcl ?_
      refine lv_astore (lv' := [(5, .ref q9), (0, .ref (ad 0)), (1, .int 22), (2, .int p2), (3, .int p3), (4, .int p4)]) hx hb dL_call_405 hl (by decide) rfl (fun ls hl => ?_)
      refine lv_sipush (v := (-1003)) hx hb dL_call_407 (by decide) ?_
      cases hf
      exact endw_i hAe hQm hx hb hr hlocks rfl hP hD hS dL_call_410 (Nat.le_of_ble_eq_true rfl) (Nat.le_of_ble_eq_true rfl)
    have hf := br_neg c9 hf
    by_cases c10 : n5 = 4
    · subst c10
      have hf := br_pos rfl hf
      refine cw_vi_err (rest := []) (m_C_restore l hst ca ad bq nF nO nL nA nC nV nU nP nE bF bO bL bA bC bV bU bP bE cT cK cO cQ cD pT pK pR pW pU pI pC uO uF uE uN wK jM jN jZ jB R _ p2 p3 (.error 4) nC_2 nU_3 h4) ⟨hx, hb, hml, hown, hts⟩ (cwV 2 hts (gV q775 q776 q777 q24 q778) rfl rfl rfl (by decide +kernel) ⟨Nat.le_of_ble_eq_true rfl, Nat.le_of_ble_eq_true rfl⟩) (va_recv hK hP (ci := 7) (q0 := 0) rfl rfl) hE hP hD hS hA hZ rfl hl.1 rfl (lv_room (Nat.le_of_ble_eq_true rfl)) dL_call_312 ⟨Nat.le_of_ble_eq_true rfl, Nat.le_of_ble_eq_true rfl⟩ (fun H locs q9 ce hP hD hS hce hv9 hcl => ?_)
      refine vx_catch (E := "java/lang/UnsupportedOperationException") hown ((tableOf HH).take 127) ⟨309, 315, 411, 128⟩ ((tableOf HH).drop (127 + 1)) (htab.trans (sp_at (n := 127) hh127)) (hp_of [(122, "java/lang/IndexOutOfBoundsException"), (124, "java/lang/IllegalArgumentException"), (126, "java/lang/IllegalStateException")] (by decide +kernel) (List.forall_mem_cons.mpr ⟨⟨hts _ q254, hNC _ nc_4_3⟩, List.forall_mem_cons.mpr ⟨⟨hts _ q333, hNC _ nc_4_1⟩, List.forall_mem_cons.mpr ⟨⟨hts _ q334, hNC _ nc_4_2⟩, fun _ h => absurd h List.not_mem_nil⟩⟩⟩)) (by decide) (by decide) (hts _ q335) (va_Nw.use rfl (hE.2.1 _ n547)) hce hv9 hcl ?_
      refine lv_astore (lv' := [(5, .ref q9), (0, .ref (ad 0)), (1, .int 22), (2, .int p2), (3, .int p3), (4, .int p4)]) hx hb dL_call_411 hl (by decide) rfl (fun ls hl => ?_)
      refine lv_sipush (v := (-1004)) hx hb dL_call_413 (by decide) ?_
      cases hf
      exact endw_i hAe hQm hx hb hr hlocks rfl hP hD hS dL_call_416 (Nat.le_of_ble_eq_true rfl) (Nat.le_of_ble_eq_true rfl)
    have hf := br_neg c10 hf
    by_cases c11 : n5 = 5
    · subst c11
      have hf := br_pos rfl hf
      refine cw_vi_err (rest := []) (m_C_restore l hst ca ad bq nF nO nL nA nC nV nU nP nE bF bO bL bA bC bV bU bP bE cT cK cO cQ cD pT pK pR pW pU pI pC uO uF uE uN wK jM jN jZ jB R _ p2 p3 (.error 5) nC_2 nU_3 h4) ⟨hx, hb, hml, hown, hts⟩ (cwV 2 hts (gV q775 q776 q777 q24 q778) rfl rfl rfl (by decide +kernel) ⟨Nat.le_of_ble_eq_true rfl, Nat.le_of_ble_eq_true rfl⟩) (va_recv hK hP (ci := 7) (q0 := 0) rfl rfl) hE hP hD hS hA hZ rfl hl.1 rfl (lv_room (Nat.le_of_ble_eq_true rfl)) dL_call_312 ⟨Nat.le_of_ble_eq_true rfl, Nat.le_of_ble_eq_true rfl⟩ (fun H locs q9 ce hP hD hS hce hv9 hcl => ?_)
      refine vx_catch (E := "java/util/NoSuchElementException") hown ((tableOf HH).take 162) ⟨309, 315, 417, 130⟩ ((tableOf HH).drop (162 + 1)) (htab.trans (sp_at (n := 162) hh162)) (hp_of [(122, "java/lang/IndexOutOfBoundsException"), (124, "java/lang/IllegalArgumentException"), (126, "java/lang/IllegalStateException"), (128, "java/lang/UnsupportedOperationException")] (by decide +kernel) (List.forall_mem_cons.mpr ⟨⟨hts _ q254, hNC _ nc_5_3⟩, List.forall_mem_cons.mpr ⟨⟨hts _ q333, hNC _ nc_5_1⟩, List.forall_mem_cons.mpr ⟨⟨hts _ q334, hNC _ nc_5_2⟩, List.forall_mem_cons.mpr ⟨⟨hts _ q335, hNC _ nc_5_4⟩, fun _ h => absurd h List.not_mem_nil⟩⟩⟩⟩)) (by decide) (by decide) (hts _ q336) (va_Nw.use rfl (hE.2.1 _ n606)) hce hv9 hcl ?_
      refine lv_astore (lv' := [(5, .ref q9), (0, .ref (ad 0)), (1, .int 22), (2, .int p2), (3, .int p3), (4, .int p4)]) hx hb dL_call_417 hl (by decide) rfl (fun ls hl => ?_)
      refine lv_sipush (v := (-1005)) hx hb dL_call_419 (by decide) ?_
      cases hf
      exact endw_i hAe hQm hx hb hr hlocks rfl hP hD hS dL_call_422 (Nat.le_of_ble_eq_true rfl) (Nat.le_of_ble_eq_true rfl)
    have hf := br_neg c11 hf
    cases hf
  refine cw_vi_ok (rest := []) (m_C_restore l hst ca ad bq nF nO nL nA nC nV nU nP nE bF bO bL bA bC bV bU bP bE cT cK cO cQ cD pT pK pR pW pU pI pC uO uF uE uN wK jM jN jZ jB R _ p2 p3 (.ok r6) nC_2 nU_3 h4) ⟨hx, hb, hml, hown, hts⟩ (cwV 2 hts (gV q775 q776 q777 q24 q778) rfl rfl rfl (by decide +kernel) ⟨Nat.le_of_ble_eq_true rfl, Nat.le_of_ble_eq_true rfl⟩) (va_recv hK hP (ci := 7) (q0 := 0) rfl rfl) hE hP hD hS hA hZ rfl hl.1 rfl (lv_room (Nat.le_of_ble_eq_true rfl)) dL_call_312 ⟨Nat.le_of_ble_eq_true rfl, Nat.le_of_ble_eq_true rfl⟩ (fun H locs hP hD hS => ?_)
  cases hf
  exact endw_i hAe hQm hx hb hr hlocks rfl hP hD hS dL_call_315 (Nat.le_of_ble_eq_true rfl) (Nat.le_of_ble_eq_true rfl)
def f_K23 (p2 : Int32) (p3 : Int32) (nF : Int32) (nA : Nat → Int32) (cT : Int32) (cD : Int32) (uO : Int32) (uF : Nat → Int32) (uE : Nat → Int32) (uN : Nat → Int32) : Option (Int32 × Int32 × (Nat → Int32) × (Nat → Int32) × (Nat → Int32)) :=
  (f_C_openHold p2 p3 nF nA cT cD uO uF uE uN).bind fun (x1, uO_2, uF_3, uE_4, uN_5) =>
  match x1 with
  | .error n7 => if n7 = 3 then some ((-1001), uO_2, uF_3, uE_4, uN_5) else if n7 = 1 then some ((-1002), uO_2, uF_3, uE_4, uN_5) else if n7 = 2 then some ((-1003), uO_2, uF_3, uE_4, uN_5) else if n7 = 4 then some ((-1004), uO_2, uF_3, uE_4, uN_5) else if n7 = 5 then some ((-1005), uO_2, uF_3, uE_4, uN_5) else none
  | .ok r8 =>
  some (r8, uO_2, uF_3, uE_4, uN_5)
set_option maxHeartbeats 4000000 in
set_option maxRecDepth 100000 in
theorem m_K23 (l : Launch) (hst : l.stackTraces = false) {D : va_G} (ca : Nat → ClassId) (ad : Nat → Nat) (bq : Nat) (nF : Int32) (nO : Nat → Int32) (nL : Nat → Int32) (nA : Nat → Int32) (nC : Nat → Int32) (nV : Nat → Int32) (nU : Nat → Int32) (nP : Nat → Int32) (nE : Int32) (bF : Int32) (bO : Nat → Int32) (bL : Nat → Int32) (bA : Nat → Int32) (bC : Nat → Int32) (bV : Nat → Int32) (bU : Nat → Int32) (bP : Nat → Int32) (bE : Int32) (cT : Int32) (cK : Nat → Int32) (cO : Int32) (cQ : Nat → Int32) (cD : Int32) (pT : Int32) (pK : Int32) (pR : Nat → Int32) (pW : Nat → Int32) (pU : Nat → Int32) (pI : Nat → Int32) (pC : Nat → Nat → Int32) (uO : Int32) (uF : Nat → Int32) (uE : Nat → Int32) (uN : Nat → Int32) (wK : Nat → Int32) (jM : Int32) (jN : Int32) (jZ : Nat) (jB : Nat → Int32) (R : va_W) (sz : Nat) (p2 : Int32) (p3 : Int32) (p4 : Int32) (ro : Int32) (ouO : Int32) (ouF : Nat → Int32) (ouE : Nat → Int32) (ouN : Nat → Int32) (hf : f_K23 p2 p3 nF nA cT cD uO uF uE uN = some (ro, ouO, ouF, ouE, ouN)) : vx_Met l yL_call (wmW yL_call cL_call 6 (some .int) HH) ({ frames := 8, cells := 4, slots := 24, locals := 135 } : Room) (PREL [.ref (ad 0), .int 23, .int p2, .int p3, .int p4] D ca SL0 (WC ca ad bq nF nO nL nA nC nV nU nP nE bF bO bL bA bC bV bU bP bE cT cK cO cQ cD pT pK pR pW pU pI pC uO uF uE uN wK jM jN jZ jB ++ R) sz) (QI ro D (WC ca ad bq nF nO nL nA nC nV nU nP nE bF bO bL bA bC bV bU bP bE cT cK cO cQ cD pT pK pR pW pU pI pC ouO ouF ouE ouN wK jM jN jZ jB ++ R) (WC ca ad bq nF nO nL nA nC nV nU nP nE bF bO bL bA bC bV bU bP bE cT cK cO cQ cD pT pK pR pW pU pI pC uO uF uE uN wK jM jN jZ jB ++ R) sz) (fun _ _ _ => False) 4 24 (va_A (WC ca ad bq nF nO nL nA nC nV nU nP nE bF bO bL bA bC bV bU bP bE cT cK cO cQ cD pT pK pR pW pU pI pC uO uF uE uN wK jM jN jZ jB ++ R) sz) := by
  refine vx_ofWH (cc := cL_call) (maxL := 6) (ret := (some .int)) (hh := HH) (by decide) rfl ?_
  intro p e s m args below meth c s₁ B hml hv
  obtain ⟨rfl, rfl, hP, hE, hD0, hZ, hNC⟩ := hv
  have hx := B.exec
  have hb := B.bytes
  have hr := B.returns
  have hts0 := atoms_spec (ws := wmW yL_call cL_call 6 (some .int) HH) B.pre
  have hts := wmW_ww hts0
  have htab := vx_table (x := yL_call) B (hts0 _ List.mem_cons_self)
  have hown : s.vm.findClass RL = some m.cls := findClass_of_methodNamed B.named
  have hlocks := B.notSynchronized
  have hK := hE.1
  have hD := hD0.self (sz := s.heap.size)
  generalize hAe : va_A (WC ca ad bq nF nO nL nA nC nV nU nP nE bF bO bL bA bC bV bU bP bE cT cK cO cQ cD pT pK pR pW pU pI pC uO uF uE uN wK jM jN jZ jB ++ R) s.heap.size = A at hD hZ ⊢
  have hA : ∀ q : Nat, s.heap.size ≤ q → A q := fun q h => by rw [← hAe]; exact Or.inr h
  have hS : va_S A s.heap s.heap [] := va_S.rf
  have hl := lv_entry ([.ref (ad 0), .int 23, .int p2, .int p3, .int p4]) (n := 6) (Nat.le_of_ble_eq_true rfl)
  rw [lg_entry_eq]
  generalize (lg_sl ([.ref (ad 0), .int 23, .int p2, .int p3, .int p4]) ++ List.replicate (6 - (lg_sl ([.ref (ad 0), .int 23, .int p2, .int p3, .int p4])).length) Slot.unset).toArray = ls at hl ⊢
  have hl : lv_has ls 6 [(0, .ref (ad 0)), (1, .int 23), (2, .int p2), (3, .int p3), (4, .int p4)] := hl
  change W p l e ({ frames := 8, cells := 4, slots := 24, locals := 135 } : Room) s m _ below meth c s.heap [] 0 0 _ _
  generalize hQm : vx_MQ below (QI ro D (WC ca ad bq nF nO nL nA nC nV nU nP nE bF bO bL bA bC bV bU bP bE cT cK cO cQ cD pT pK pR pW pU pI pC ouO ouF ouE ouN wK jM jN jZ jB ++ R) (WC ca ad bq nF nO nL nA nC nV nU nP nE bF bO bL bA bC bV bU bP bE cT cK cO cQ cD pT pK pR pW pU pI pC uO uF uE uN wK jM jN jZ jB ++ R) s.heap.size) (fun _ _ _ => False) _ s 4 24 A = Qm
  have hP : va_P D vwCl (WC ca ad bq nF nO nL nA nC nV nU nP nE bF bO bL bA bC bV bU bP bE cT cK cO cQ cD pT pK pR pW pU pI pC uO uF uE uN wK jM jN jZ jB ++ R) s.heap := hP
  generalize hae : ([.ref (ad 0), .int 23, .int p2, .int p3, .int p4] : List Value).toArray = args at hts hQm ⊢
  refine lv_iload_n hx hb dL_call_0 rfl (lv_at hl 1 rfl) ?_
  refine lv_tableIn (off := 315) (tgt := 316) hx hb dL_call_1 (by decide) (by decide) rfl (by decide) ?_
  refine lv_aload_n hx hb dL_call_316 rfl (lv_at hl 0 rfl) ?_
  refine lv_iload_n hx hb dL_call_317 rfl (lv_at hl 2 rfl) ?_
  refine lv_iload_n hx hb dL_call_318 rfl (lv_at hl 3 rfl) ?_
  obtain ⟨⟨x1, uO_2, uF_3, uE_4, uN_5⟩, h6, hf⟩ := bnd hf
  rcases x1 with n7 | r8
  · have hf : (if n7 = 3 then some ((-1001), uO_2, uF_3, uE_4, uN_5) else if n7 = 1 then some ((-1002), uO_2, uF_3, uE_4, uN_5) else if n7 = 2 then some ((-1003), uO_2, uF_3, uE_4, uN_5) else if n7 = 4 then some ((-1004), uO_2, uF_3, uE_4, uN_5) else if n7 = 5 then some ((-1005), uO_2, uF_3, uE_4, uN_5) else none) = some (ro, ouO, ouF, ouE, ouN) := hf
    by_cases c9 : n7 = 3
    · subst c9
      have hf := br_pos rfl hf
      refine cw_vi_err (rest := []) (m_C_openHold l hst ca ad bq nF nO nL nA nC nV nU nP nE bF bO bL bA bC bV bU bP bE cT cK cO cQ cD pT pK pR pW pU pI pC uO uF uE uN wK jM jN jZ jB R _ p2 p3 (.error 3) uO_2 uF_3 uE_4 uN_5 h6) ⟨hx, hb, hml, hown, hts⟩ (cwV 2 hts (gV q784 q785 q786 q24 q787) rfl rfl rfl (by decide +kernel) ⟨Nat.le_of_ble_eq_true rfl, Nat.le_of_ble_eq_true rfl⟩) (va_recv hK hP (ci := 7) (q0 := 0) rfl rfl) hE hP hD hS hA hZ rfl hl.1 rfl (lv_room (Nat.le_of_ble_eq_true rfl)) dL_call_319 ⟨Nat.le_of_ble_eq_true rfl, Nat.le_of_ble_eq_true rfl⟩ (fun H locs q9 ce hP hD hS hce hv9 hcl => ?_)
      refine vx_catch (E := "java/lang/IndexOutOfBoundsException") hown ((tableOf HH).take 23) ⟨316, 322, 393, 122⟩ ((tableOf HH).drop (23 + 1)) (htab.trans (sp_at (n := 23) hh23)) (hp_of [] (by decide +kernel) (fun _ h => absurd h List.not_mem_nil)) (by decide) (by decide) (hts _ q254) (va_Nw.use rfl (hE.2.1 _ n392)) hce hv9 hcl ?_
      refine lv_astore (lv' := [(5, .ref q9), (0, .ref (ad 0)), (1, .int 23), (2, .int p2), (3, .int p3), (4, .int p4)]) hx hb dL_call_393 hl (by decide) rfl (fun ls hl => ?_)
      refine lv_sipush (v := (-1001)) hx hb dL_call_395 (by decide) ?_
      cases hf
      exact endw_i hAe hQm hx hb hr hlocks rfl hP hD hS dL_call_398 (Nat.le_of_ble_eq_true rfl) (Nat.le_of_ble_eq_true rfl)
    have hf := br_neg c9 hf
    by_cases c10 : n7 = 1
    · subst c10
      have hf := br_pos rfl hf
      refine cw_vi_err (rest := []) (m_C_openHold l hst ca ad bq nF nO nL nA nC nV nU nP nE bF bO bL bA bC bV bU bP bE cT cK cO cQ cD pT pK pR pW pU pI pC uO uF uE uN wK jM jN jZ jB R _ p2 p3 (.error 1) uO_2 uF_3 uE_4 uN_5 h6) ⟨hx, hb, hml, hown, hts⟩ (cwV 2 hts (gV q784 q785 q786 q24 q787) rfl rfl rfl (by decide +kernel) ⟨Nat.le_of_ble_eq_true rfl, Nat.le_of_ble_eq_true rfl⟩) (va_recv hK hP (ci := 7) (q0 := 0) rfl rfl) hE hP hD hS hA hZ rfl hl.1 rfl (lv_room (Nat.le_of_ble_eq_true rfl)) dL_call_319 ⟨Nat.le_of_ble_eq_true rfl, Nat.le_of_ble_eq_true rfl⟩ (fun H locs q9 ce hP hD hS hce hv9 hcl => ?_)
      refine vx_catch (E := "java/lang/IllegalArgumentException") hown ((tableOf HH).take 58) ⟨316, 322, 399, 124⟩ ((tableOf HH).drop (58 + 1)) (htab.trans (sp_at (n := 58) hh58)) (hp_of [(122, "java/lang/IndexOutOfBoundsException")] (by decide +kernel) (List.forall_mem_cons.mpr ⟨⟨hts _ q254, hNC _ nc_1_3⟩, fun _ h => absurd h List.not_mem_nil⟩)) (by decide) (by decide) (hts _ q333) (va_Nw.use rfl (hE.2.1 _ n347)) hce hv9 hcl ?_
      refine lv_astore (lv' := [(5, .ref q9), (0, .ref (ad 0)), (1, .int 23), (2, .int p2), (3, .int p3), (4, .int p4)]) hx hb dL_call_399 hl (by decide) rfl (fun ls hl => ?_)
      refine lv_sipush (v := (-1002)) hx hb dL_call_401 (by decide) ?_
      cases hf
      exact endw_i hAe hQm hx hb hr hlocks rfl hP hD hS dL_call_404 (Nat.le_of_ble_eq_true rfl) (Nat.le_of_ble_eq_true rfl)
    have hf := br_neg c10 hf
    by_cases c11 : n7 = 2
    · subst c11
      have hf := br_pos rfl hf
      refine cw_vi_err (rest := []) (m_C_openHold l hst ca ad bq nF nO nL nA nC nV nU nP nE bF bO bL bA bC bV bU bP bE cT cK cO cQ cD pT pK pR pW pU pI pC uO uF uE uN wK jM jN jZ jB R _ p2 p3 (.error 2) uO_2 uF_3 uE_4 uN_5 h6) ⟨hx, hb, hml, hown, hts⟩ (cwV 2 hts (gV q784 q785 q786 q24 q787) rfl rfl rfl (by decide +kernel) ⟨Nat.le_of_ble_eq_true rfl, Nat.le_of_ble_eq_true rfl⟩) (va_recv hK hP (ci := 7) (q0 := 0) rfl rfl) hE hP hD hS hA hZ rfl hl.1 rfl (lv_room (Nat.le_of_ble_eq_true rfl)) dL_call_319 ⟨Nat.le_of_ble_eq_true rfl, Nat.le_of_ble_eq_true rfl⟩ (fun H locs q9 ce hP hD hS hce hv9 hcl => ?_)
      refine vx_catch (E := "java/lang/IllegalStateException") hown ((tableOf HH).take 93) ⟨316, 322, 405, 126⟩ ((tableOf HH).drop (93 + 1)) (htab.trans (sp_at (n := 93) hh93)) (hp_of [(122, "java/lang/IndexOutOfBoundsException"), (124, "java/lang/IllegalArgumentException")] (by decide +kernel) (List.forall_mem_cons.mpr ⟨⟨hts _ q254, hNC _ nc_2_3⟩, List.forall_mem_cons.mpr ⟨⟨hts _ q333, hNC _ nc_2_1⟩, fun _ h => absurd h List.not_mem_nil⟩⟩)) (by decide) (by decide) (hts _ q334) (va_Nw.use rfl (hE.2.1 _ n367)) hce hv9 hcl ?_
      refine lv_astore (lv' := [(5, .ref q9), (0, .ref (ad 0)), (1, .int 23), (2, .int p2), (3, .int p3), (4, .int p4)]) hx hb dL_call_405 hl (by decide) rfl (fun ls hl => ?_)
      refine lv_sipush (v := (-1003)) hx hb dL_call_407 (by decide) ?_
      cases hf
      exact endw_i hAe hQm hx hb hr hlocks rfl hP hD hS dL_call_410 (Nat.le_of_ble_eq_true rfl) (Nat.le_of_ble_eq_true rfl)
    have hf := br_neg c11 hf
    by_cases c12 : n7 = 4
    · subst c12
      have hf := br_pos rfl hf
      refine cw_vi_err (rest := []) (m_C_openHold l hst ca ad bq nF nO nL nA nC nV nU nP nE bF bO bL bA bC bV bU bP bE cT cK cO cQ cD pT pK pR pW pU pI pC uO uF uE uN wK jM jN jZ jB R _ p2 p3 (.error 4) uO_2 uF_3 uE_4 uN_5 h6) ⟨hx, hb, hml, hown, hts⟩ (cwV 2 hts (gV q784 q785 q786 q24 q787) rfl rfl rfl (by decide +kernel) ⟨Nat.le_of_ble_eq_true rfl, Nat.le_of_ble_eq_true rfl⟩) (va_recv hK hP (ci := 7) (q0 := 0) rfl rfl) hE hP hD hS hA hZ rfl hl.1 rfl (lv_room (Nat.le_of_ble_eq_true rfl)) dL_call_319 ⟨Nat.le_of_ble_eq_true rfl, Nat.le_of_ble_eq_true rfl⟩ (fun H locs q9 ce hP hD hS hce hv9 hcl => ?_)
      refine vx_catch (E := "java/lang/UnsupportedOperationException") hown ((tableOf HH).take 128) ⟨316, 322, 411, 128⟩ ((tableOf HH).drop (128 + 1)) (htab.trans (sp_at (n := 128) hh128)) (hp_of [(122, "java/lang/IndexOutOfBoundsException"), (124, "java/lang/IllegalArgumentException"), (126, "java/lang/IllegalStateException")] (by decide +kernel) (List.forall_mem_cons.mpr ⟨⟨hts _ q254, hNC _ nc_4_3⟩, List.forall_mem_cons.mpr ⟨⟨hts _ q333, hNC _ nc_4_1⟩, List.forall_mem_cons.mpr ⟨⟨hts _ q334, hNC _ nc_4_2⟩, fun _ h => absurd h List.not_mem_nil⟩⟩⟩)) (by decide) (by decide) (hts _ q335) (va_Nw.use rfl (hE.2.1 _ n547)) hce hv9 hcl ?_
      refine lv_astore (lv' := [(5, .ref q9), (0, .ref (ad 0)), (1, .int 23), (2, .int p2), (3, .int p3), (4, .int p4)]) hx hb dL_call_411 hl (by decide) rfl (fun ls hl => ?_)
      refine lv_sipush (v := (-1004)) hx hb dL_call_413 (by decide) ?_
      cases hf
      exact endw_i hAe hQm hx hb hr hlocks rfl hP hD hS dL_call_416 (Nat.le_of_ble_eq_true rfl) (Nat.le_of_ble_eq_true rfl)
    have hf := br_neg c12 hf
    by_cases c13 : n7 = 5
    · subst c13
      have hf := br_pos rfl hf
      refine cw_vi_err (rest := []) (m_C_openHold l hst ca ad bq nF nO nL nA nC nV nU nP nE bF bO bL bA bC bV bU bP bE cT cK cO cQ cD pT pK pR pW pU pI pC uO uF uE uN wK jM jN jZ jB R _ p2 p3 (.error 5) uO_2 uF_3 uE_4 uN_5 h6) ⟨hx, hb, hml, hown, hts⟩ (cwV 2 hts (gV q784 q785 q786 q24 q787) rfl rfl rfl (by decide +kernel) ⟨Nat.le_of_ble_eq_true rfl, Nat.le_of_ble_eq_true rfl⟩) (va_recv hK hP (ci := 7) (q0 := 0) rfl rfl) hE hP hD hS hA hZ rfl hl.1 rfl (lv_room (Nat.le_of_ble_eq_true rfl)) dL_call_319 ⟨Nat.le_of_ble_eq_true rfl, Nat.le_of_ble_eq_true rfl⟩ (fun H locs q9 ce hP hD hS hce hv9 hcl => ?_)
      refine vx_catch (E := "java/util/NoSuchElementException") hown ((tableOf HH).take 163) ⟨316, 322, 417, 130⟩ ((tableOf HH).drop (163 + 1)) (htab.trans (sp_at (n := 163) hh163)) (hp_of [(122, "java/lang/IndexOutOfBoundsException"), (124, "java/lang/IllegalArgumentException"), (126, "java/lang/IllegalStateException"), (128, "java/lang/UnsupportedOperationException")] (by decide +kernel) (List.forall_mem_cons.mpr ⟨⟨hts _ q254, hNC _ nc_5_3⟩, List.forall_mem_cons.mpr ⟨⟨hts _ q333, hNC _ nc_5_1⟩, List.forall_mem_cons.mpr ⟨⟨hts _ q334, hNC _ nc_5_2⟩, List.forall_mem_cons.mpr ⟨⟨hts _ q335, hNC _ nc_5_4⟩, fun _ h => absurd h List.not_mem_nil⟩⟩⟩⟩)) (by decide) (by decide) (hts _ q336) (va_Nw.use rfl (hE.2.1 _ n606)) hce hv9 hcl ?_
      refine lv_astore (lv' := [(5, .ref q9), (0, .ref (ad 0)), (1, .int 23), (2, .int p2), (3, .int p3), (4, .int p4)]) hx hb dL_call_417 hl (by decide) rfl (fun ls hl => ?_)
      refine lv_sipush (v := (-1005)) hx hb dL_call_419 (by decide) ?_
      cases hf
      exact endw_i hAe hQm hx hb hr hlocks rfl hP hD hS dL_call_422 (Nat.le_of_ble_eq_true rfl) (Nat.le_of_ble_eq_true rfl)
    have hf := br_neg c13 hf
    cases hf
  refine cw_vi_ok (rest := []) (m_C_openHold l hst ca ad bq nF nO nL nA nC nV nU nP nE bF bO bL bA bC bV bU bP bE cT cK cO cQ cD pT pK pR pW pU pI pC uO uF uE uN wK jM jN jZ jB R _ p2 p3 (.ok r8) uO_2 uF_3 uE_4 uN_5 h6) ⟨hx, hb, hml, hown, hts⟩ (cwV 2 hts (gV q784 q785 q786 q24 q787) rfl rfl rfl (by decide +kernel) ⟨Nat.le_of_ble_eq_true rfl, Nat.le_of_ble_eq_true rfl⟩) (va_recv hK hP (ci := 7) (q0 := 0) rfl rfl) hE hP hD hS hA hZ rfl hl.1 rfl (lv_room (Nat.le_of_ble_eq_true rfl)) dL_call_319 ⟨Nat.le_of_ble_eq_true rfl, Nat.le_of_ble_eq_true rfl⟩ (fun H locs hP hD hS => ?_)
  cases hf
  exact endw_i hAe hQm hx hb hr hlocks rfl hP hD hS dL_call_322 (Nat.le_of_ble_eq_true rfl) (Nat.le_of_ble_eq_true rfl)
def f_K24 (p2 : Int32) (nF : Int32) (nL : Nat → Int32) (nA : Nat → Int32) (nC : Nat → Int32) (nU : Nat → Int32) (cT : Int32) (uO : Int32) (uF : Nat → Int32) (uN : Nat → Int32) : Option (Int32 × (Nat → Int32) × (Nat → Int32) × (Nat → Int32) × (Nat → Int32)) :=
  (f_C_release p2 nF nL nA nC nU cT uO uF uN).bind fun (x1, nA_2, nC_3, nU_4, uN_5) =>
  match x1 with
  | .error n7 => if n7 = 3 then some ((-1001), nA_2, nC_3, nU_4, uN_5) else if n7 = 1 then some ((-1002), nA_2, nC_3, nU_4, uN_5) else if n7 = 2 then some ((-1003), nA_2, nC_3, nU_4, uN_5) else if n7 = 4 then some ((-1004), nA_2, nC_3, nU_4, uN_5) else if n7 = 5 then some ((-1005), nA_2, nC_3, nU_4, uN_5) else none
  | .ok r8 =>
  some (r8, nA_2, nC_3, nU_4, uN_5)
set_option maxHeartbeats 4000000 in
set_option maxRecDepth 100000 in
theorem m_K24 (l : Launch) (hst : l.stackTraces = false) {D : va_G} (ca : Nat → ClassId) (ad : Nat → Nat) (bq : Nat) (nF : Int32) (nO : Nat → Int32) (nL : Nat → Int32) (nA : Nat → Int32) (nC : Nat → Int32) (nV : Nat → Int32) (nU : Nat → Int32) (nP : Nat → Int32) (nE : Int32) (bF : Int32) (bO : Nat → Int32) (bL : Nat → Int32) (bA : Nat → Int32) (bC : Nat → Int32) (bV : Nat → Int32) (bU : Nat → Int32) (bP : Nat → Int32) (bE : Int32) (cT : Int32) (cK : Nat → Int32) (cO : Int32) (cQ : Nat → Int32) (cD : Int32) (pT : Int32) (pK : Int32) (pR : Nat → Int32) (pW : Nat → Int32) (pU : Nat → Int32) (pI : Nat → Int32) (pC : Nat → Nat → Int32) (uO : Int32) (uF : Nat → Int32) (uE : Nat → Int32) (uN : Nat → Int32) (wK : Nat → Int32) (jM : Int32) (jN : Int32) (jZ : Nat) (jB : Nat → Int32) (R : va_W) (sz : Nat) (p2 : Int32) (p3 : Int32) (p4 : Int32) (ro : Int32) (onA : Nat → Int32) (onC : Nat → Int32) (onU : Nat → Int32) (ouN : Nat → Int32) (hf : f_K24 p2 nF nL nA nC nU cT uO uF uN = some (ro, onA, onC, onU, ouN)) : vx_Met l yL_call (wmW yL_call cL_call 6 (some .int) HH) ({ frames := 8, cells := 3, slots := 18, locals := 150 } : Room) (PREL [.ref (ad 0), .int 24, .int p2, .int p3, .int p4] D ca SL0 (WC ca ad bq nF nO nL nA nC nV nU nP nE bF bO bL bA bC bV bU bP bE cT cK cO cQ cD pT pK pR pW pU pI pC uO uF uE uN wK jM jN jZ jB ++ R) sz) (QI ro D (WC ca ad bq nF nO nL onA onC nV onU nP nE bF bO bL bA bC bV bU bP bE cT cK cO cQ cD pT pK pR pW pU pI pC uO uF uE ouN wK jM jN jZ jB ++ R) (WC ca ad bq nF nO nL nA nC nV nU nP nE bF bO bL bA bC bV bU bP bE cT cK cO cQ cD pT pK pR pW pU pI pC uO uF uE uN wK jM jN jZ jB ++ R) sz) (fun _ _ _ => False) 3 18 (va_A (WC ca ad bq nF nO nL nA nC nV nU nP nE bF bO bL bA bC bV bU bP bE cT cK cO cQ cD pT pK pR pW pU pI pC uO uF uE uN wK jM jN jZ jB ++ R) sz) := by
  refine vx_ofWH (cc := cL_call) (maxL := 6) (ret := (some .int)) (hh := HH) (by decide) rfl ?_
  intro p e s m args below meth c s₁ B hml hv
  obtain ⟨rfl, rfl, hP, hE, hD0, hZ, hNC⟩ := hv
  have hx := B.exec
  have hb := B.bytes
  have hr := B.returns
  have hts0 := atoms_spec (ws := wmW yL_call cL_call 6 (some .int) HH) B.pre
  have hts := wmW_ww hts0
  have htab := vx_table (x := yL_call) B (hts0 _ List.mem_cons_self)
  have hown : s.vm.findClass RL = some m.cls := findClass_of_methodNamed B.named
  have hlocks := B.notSynchronized
  have hK := hE.1
  have hD := hD0.self (sz := s.heap.size)
  generalize hAe : va_A (WC ca ad bq nF nO nL nA nC nV nU nP nE bF bO bL bA bC bV bU bP bE cT cK cO cQ cD pT pK pR pW pU pI pC uO uF uE uN wK jM jN jZ jB ++ R) s.heap.size = A at hD hZ ⊢
  have hA : ∀ q : Nat, s.heap.size ≤ q → A q := fun q h => by rw [← hAe]; exact Or.inr h
  have hS : va_S A s.heap s.heap [] := va_S.rf
  have hl := lv_entry ([.ref (ad 0), .int 24, .int p2, .int p3, .int p4]) (n := 6) (Nat.le_of_ble_eq_true rfl)
  rw [lg_entry_eq]
  generalize (lg_sl ([.ref (ad 0), .int 24, .int p2, .int p3, .int p4]) ++ List.replicate (6 - (lg_sl ([.ref (ad 0), .int 24, .int p2, .int p3, .int p4])).length) Slot.unset).toArray = ls at hl ⊢
  have hl : lv_has ls 6 [(0, .ref (ad 0)), (1, .int 24), (2, .int p2), (3, .int p3), (4, .int p4)] := hl
  change W p l e ({ frames := 8, cells := 3, slots := 18, locals := 150 } : Room) s m _ below meth c s.heap [] 0 0 _ _
  generalize hQm : vx_MQ below (QI ro D (WC ca ad bq nF nO nL onA onC nV onU nP nE bF bO bL bA bC bV bU bP bE cT cK cO cQ cD pT pK pR pW pU pI pC uO uF uE ouN wK jM jN jZ jB ++ R) (WC ca ad bq nF nO nL nA nC nV nU nP nE bF bO bL bA bC bV bU bP bE cT cK cO cQ cD pT pK pR pW pU pI pC uO uF uE uN wK jM jN jZ jB ++ R) s.heap.size) (fun _ _ _ => False) _ s 3 18 A = Qm
  have hP : va_P D vwCl (WC ca ad bq nF nO nL nA nC nV nU nP nE bF bO bL bA bC bV bU bP bE cT cK cO cQ cD pT pK pR pW pU pI pC uO uF uE uN wK jM jN jZ jB ++ R) s.heap := hP
  generalize hae : ([.ref (ad 0), .int 24, .int p2, .int p3, .int p4] : List Value).toArray = args at hts hQm ⊢
  refine lv_iload_n hx hb dL_call_0 rfl (lv_at hl 1 rfl) ?_
  refine lv_tableIn (off := 322) (tgt := 323) hx hb dL_call_1 (by decide) (by decide) rfl (by decide) ?_
  refine lv_aload_n hx hb dL_call_323 rfl (lv_at hl 0 rfl) ?_
  refine lv_iload_n hx hb dL_call_324 rfl (lv_at hl 2 rfl) ?_
  obtain ⟨⟨x1, nA_2, nC_3, nU_4, uN_5⟩, h6, hf⟩ := bnd hf
  rcases x1 with n7 | r8
  · have hf : (if n7 = 3 then some ((-1001), nA_2, nC_3, nU_4, uN_5) else if n7 = 1 then some ((-1002), nA_2, nC_3, nU_4, uN_5) else if n7 = 2 then some ((-1003), nA_2, nC_3, nU_4, uN_5) else if n7 = 4 then some ((-1004), nA_2, nC_3, nU_4, uN_5) else if n7 = 5 then some ((-1005), nA_2, nC_3, nU_4, uN_5) else none) = some (ro, onA, onC, onU, ouN) := hf
    by_cases c9 : n7 = 3
    · subst c9
      have hf := br_pos rfl hf
      refine cw_vi_err (rest := []) (m_C_release l hst ca ad bq nF nO nL nA nC nV nU nP nE bF bO bL bA bC bV bU bP bE cT cK cO cQ cD pT pK pR pW pU pI pC uO uF uE uN wK jM jN jZ jB R _ p2 (.error 3) nA_2 nC_3 nU_4 uN_5 h6) ⟨hx, hb, hml, hown, hts⟩ (cwV 1 hts (gV q798 q799 q800 q24 q801) rfl rfl rfl (by decide +kernel) ⟨Nat.le_of_ble_eq_true rfl, Nat.le_of_ble_eq_true rfl⟩) (va_recv hK hP (ci := 7) (q0 := 0) rfl rfl) hE hP hD hS hA hZ rfl hl.1 rfl (lv_room (Nat.le_of_ble_eq_true rfl)) dL_call_325 ⟨Nat.le_of_ble_eq_true rfl, Nat.le_of_ble_eq_true rfl⟩ (fun H locs q9 ce hP hD hS hce hv9 hcl => ?_)
      refine vx_catch (E := "java/lang/IndexOutOfBoundsException") hown ((tableOf HH).take 24) ⟨323, 328, 393, 122⟩ ((tableOf HH).drop (24 + 1)) (htab.trans (sp_at (n := 24) hh24)) (hp_of [] (by decide +kernel) (fun _ h => absurd h List.not_mem_nil)) (by decide) (by decide) (hts _ q254) (va_Nw.use rfl (hE.2.1 _ n392)) hce hv9 hcl ?_
      refine lv_astore (lv' := [(5, .ref q9), (0, .ref (ad 0)), (1, .int 24), (2, .int p2), (3, .int p3), (4, .int p4)]) hx hb dL_call_393 hl (by decide) rfl (fun ls hl => ?_)
      refine lv_sipush (v := (-1001)) hx hb dL_call_395 (by decide) ?_
      cases hf
      exact endw_i hAe hQm hx hb hr hlocks rfl hP hD hS dL_call_398 (Nat.le_of_ble_eq_true rfl) (Nat.le_of_ble_eq_true rfl)
    have hf := br_neg c9 hf
    by_cases c10 : n7 = 1
    · subst c10
      have hf := br_pos rfl hf
      refine cw_vi_err (rest := []) (m_C_release l hst ca ad bq nF nO nL nA nC nV nU nP nE bF bO bL bA bC bV bU bP bE cT cK cO cQ cD pT pK pR pW pU pI pC uO uF uE uN wK jM jN jZ jB R _ p2 (.error 1) nA_2 nC_3 nU_4 uN_5 h6) ⟨hx, hb, hml, hown, hts⟩ (cwV 1 hts (gV q798 q799 q800 q24 q801) rfl rfl rfl (by decide +kernel) ⟨Nat.le_of_ble_eq_true rfl, Nat.le_of_ble_eq_true rfl⟩) (va_recv hK hP (ci := 7) (q0 := 0) rfl rfl) hE hP hD hS hA hZ rfl hl.1 rfl (lv_room (Nat.le_of_ble_eq_true rfl)) dL_call_325 ⟨Nat.le_of_ble_eq_true rfl, Nat.le_of_ble_eq_true rfl⟩ (fun H locs q9 ce hP hD hS hce hv9 hcl => ?_)
      refine vx_catch (E := "java/lang/IllegalArgumentException") hown ((tableOf HH).take 59) ⟨323, 328, 399, 124⟩ ((tableOf HH).drop (59 + 1)) (htab.trans (sp_at (n := 59) hh59)) (hp_of [(122, "java/lang/IndexOutOfBoundsException")] (by decide +kernel) (List.forall_mem_cons.mpr ⟨⟨hts _ q254, hNC _ nc_1_3⟩, fun _ h => absurd h List.not_mem_nil⟩)) (by decide) (by decide) (hts _ q333) (va_Nw.use rfl (hE.2.1 _ n347)) hce hv9 hcl ?_
      refine lv_astore (lv' := [(5, .ref q9), (0, .ref (ad 0)), (1, .int 24), (2, .int p2), (3, .int p3), (4, .int p4)]) hx hb dL_call_399 hl (by decide) rfl (fun ls hl => ?_)
      refine lv_sipush (v := (-1002)) hx hb dL_call_401 (by decide) ?_
      cases hf
      exact endw_i hAe hQm hx hb hr hlocks rfl hP hD hS dL_call_404 (Nat.le_of_ble_eq_true rfl) (Nat.le_of_ble_eq_true rfl)
    have hf := br_neg c10 hf
    by_cases c11 : n7 = 2
    · subst c11
      have hf := br_pos rfl hf
      refine cw_vi_err (rest := []) (m_C_release l hst ca ad bq nF nO nL nA nC nV nU nP nE bF bO bL bA bC bV bU bP bE cT cK cO cQ cD pT pK pR pW pU pI pC uO uF uE uN wK jM jN jZ jB R _ p2 (.error 2) nA_2 nC_3 nU_4 uN_5 h6) ⟨hx, hb, hml, hown, hts⟩ (cwV 1 hts (gV q798 q799 q800 q24 q801) rfl rfl rfl (by decide +kernel) ⟨Nat.le_of_ble_eq_true rfl, Nat.le_of_ble_eq_true rfl⟩) (va_recv hK hP (ci := 7) (q0 := 0) rfl rfl) hE hP hD hS hA hZ rfl hl.1 rfl (lv_room (Nat.le_of_ble_eq_true rfl)) dL_call_325 ⟨Nat.le_of_ble_eq_true rfl, Nat.le_of_ble_eq_true rfl⟩ (fun H locs q9 ce hP hD hS hce hv9 hcl => ?_)
      refine vx_catch (E := "java/lang/IllegalStateException") hown ((tableOf HH).take 94) ⟨323, 328, 405, 126⟩ ((tableOf HH).drop (94 + 1)) (htab.trans (sp_at (n := 94) hh94)) (hp_of [(122, "java/lang/IndexOutOfBoundsException"), (124, "java/lang/IllegalArgumentException")] (by decide +kernel) (List.forall_mem_cons.mpr ⟨⟨hts _ q254, hNC _ nc_2_3⟩, List.forall_mem_cons.mpr ⟨⟨hts _ q333, hNC _ nc_2_1⟩, fun _ h => absurd h List.not_mem_nil⟩⟩)) (by decide) (by decide) (hts _ q334) (va_Nw.use rfl (hE.2.1 _ n367)) hce hv9 hcl ?_
      refine lv_astore (lv' := [(5, .ref q9), (0, .ref (ad 0)), (1, .int 24), (2, .int p2), (3, .int p3), (4, .int p4)]) hx hb dL_call_405 hl (by decide) rfl (fun ls hl => ?_)
      refine lv_sipush (v := (-1003)) hx hb dL_call_407 (by decide) ?_
      cases hf
      exact endw_i hAe hQm hx hb hr hlocks rfl hP hD hS dL_call_410 (Nat.le_of_ble_eq_true rfl) (Nat.le_of_ble_eq_true rfl)
    have hf := br_neg c11 hf
    by_cases c12 : n7 = 4
    · subst c12
      have hf := br_pos rfl hf
      refine cw_vi_err (rest := []) (m_C_release l hst ca ad bq nF nO nL nA nC nV nU nP nE bF bO bL bA bC bV bU bP bE cT cK cO cQ cD pT pK pR pW pU pI pC uO uF uE uN wK jM jN jZ jB R _ p2 (.error 4) nA_2 nC_3 nU_4 uN_5 h6) ⟨hx, hb, hml, hown, hts⟩ (cwV 1 hts (gV q798 q799 q800 q24 q801) rfl rfl rfl (by decide +kernel) ⟨Nat.le_of_ble_eq_true rfl, Nat.le_of_ble_eq_true rfl⟩) (va_recv hK hP (ci := 7) (q0 := 0) rfl rfl) hE hP hD hS hA hZ rfl hl.1 rfl (lv_room (Nat.le_of_ble_eq_true rfl)) dL_call_325 ⟨Nat.le_of_ble_eq_true rfl, Nat.le_of_ble_eq_true rfl⟩ (fun H locs q9 ce hP hD hS hce hv9 hcl => ?_)
      refine vx_catch (E := "java/lang/UnsupportedOperationException") hown ((tableOf HH).take 129) ⟨323, 328, 411, 128⟩ ((tableOf HH).drop (129 + 1)) (htab.trans (sp_at (n := 129) hh129)) (hp_of [(122, "java/lang/IndexOutOfBoundsException"), (124, "java/lang/IllegalArgumentException"), (126, "java/lang/IllegalStateException")] (by decide +kernel) (List.forall_mem_cons.mpr ⟨⟨hts _ q254, hNC _ nc_4_3⟩, List.forall_mem_cons.mpr ⟨⟨hts _ q333, hNC _ nc_4_1⟩, List.forall_mem_cons.mpr ⟨⟨hts _ q334, hNC _ nc_4_2⟩, fun _ h => absurd h List.not_mem_nil⟩⟩⟩)) (by decide) (by decide) (hts _ q335) (va_Nw.use rfl (hE.2.1 _ n547)) hce hv9 hcl ?_
      refine lv_astore (lv' := [(5, .ref q9), (0, .ref (ad 0)), (1, .int 24), (2, .int p2), (3, .int p3), (4, .int p4)]) hx hb dL_call_411 hl (by decide) rfl (fun ls hl => ?_)
      refine lv_sipush (v := (-1004)) hx hb dL_call_413 (by decide) ?_
      cases hf
      exact endw_i hAe hQm hx hb hr hlocks rfl hP hD hS dL_call_416 (Nat.le_of_ble_eq_true rfl) (Nat.le_of_ble_eq_true rfl)
    have hf := br_neg c12 hf
    by_cases c13 : n7 = 5
    · subst c13
      have hf := br_pos rfl hf
      refine cw_vi_err (rest := []) (m_C_release l hst ca ad bq nF nO nL nA nC nV nU nP nE bF bO bL bA bC bV bU bP bE cT cK cO cQ cD pT pK pR pW pU pI pC uO uF uE uN wK jM jN jZ jB R _ p2 (.error 5) nA_2 nC_3 nU_4 uN_5 h6) ⟨hx, hb, hml, hown, hts⟩ (cwV 1 hts (gV q798 q799 q800 q24 q801) rfl rfl rfl (by decide +kernel) ⟨Nat.le_of_ble_eq_true rfl, Nat.le_of_ble_eq_true rfl⟩) (va_recv hK hP (ci := 7) (q0 := 0) rfl rfl) hE hP hD hS hA hZ rfl hl.1 rfl (lv_room (Nat.le_of_ble_eq_true rfl)) dL_call_325 ⟨Nat.le_of_ble_eq_true rfl, Nat.le_of_ble_eq_true rfl⟩ (fun H locs q9 ce hP hD hS hce hv9 hcl => ?_)
      refine vx_catch (E := "java/util/NoSuchElementException") hown ((tableOf HH).take 164) ⟨323, 328, 417, 130⟩ ((tableOf HH).drop (164 + 1)) (htab.trans (sp_at (n := 164) hh164)) (hp_of [(122, "java/lang/IndexOutOfBoundsException"), (124, "java/lang/IllegalArgumentException"), (126, "java/lang/IllegalStateException"), (128, "java/lang/UnsupportedOperationException")] (by decide +kernel) (List.forall_mem_cons.mpr ⟨⟨hts _ q254, hNC _ nc_5_3⟩, List.forall_mem_cons.mpr ⟨⟨hts _ q333, hNC _ nc_5_1⟩, List.forall_mem_cons.mpr ⟨⟨hts _ q334, hNC _ nc_5_2⟩, List.forall_mem_cons.mpr ⟨⟨hts _ q335, hNC _ nc_5_4⟩, fun _ h => absurd h List.not_mem_nil⟩⟩⟩⟩)) (by decide) (by decide) (hts _ q336) (va_Nw.use rfl (hE.2.1 _ n606)) hce hv9 hcl ?_
      refine lv_astore (lv' := [(5, .ref q9), (0, .ref (ad 0)), (1, .int 24), (2, .int p2), (3, .int p3), (4, .int p4)]) hx hb dL_call_417 hl (by decide) rfl (fun ls hl => ?_)
      refine lv_sipush (v := (-1005)) hx hb dL_call_419 (by decide) ?_
      cases hf
      exact endw_i hAe hQm hx hb hr hlocks rfl hP hD hS dL_call_422 (Nat.le_of_ble_eq_true rfl) (Nat.le_of_ble_eq_true rfl)
    have hf := br_neg c13 hf
    cases hf
  refine cw_vi_ok (rest := []) (m_C_release l hst ca ad bq nF nO nL nA nC nV nU nP nE bF bO bL bA bC bV bU bP bE cT cK cO cQ cD pT pK pR pW pU pI pC uO uF uE uN wK jM jN jZ jB R _ p2 (.ok r8) nA_2 nC_3 nU_4 uN_5 h6) ⟨hx, hb, hml, hown, hts⟩ (cwV 1 hts (gV q798 q799 q800 q24 q801) rfl rfl rfl (by decide +kernel) ⟨Nat.le_of_ble_eq_true rfl, Nat.le_of_ble_eq_true rfl⟩) (va_recv hK hP (ci := 7) (q0 := 0) rfl rfl) hE hP hD hS hA hZ rfl hl.1 rfl (lv_room (Nat.le_of_ble_eq_true rfl)) dL_call_325 ⟨Nat.le_of_ble_eq_true rfl, Nat.le_of_ble_eq_true rfl⟩ (fun H locs hP hD hS => ?_)
  cases hf
  exact endw_i hAe hQm hx hb hr hlocks rfl hP hD hS dL_call_328 (Nat.le_of_ble_eq_true rfl) (Nat.le_of_ble_eq_true rfl)
def f_K25 (p2 : Int32) (uO : Int32) (uN : Nat → Int32) : Option (Int32) :=
  (f_C_isOpen p2 uO uN).bind fun x1 =>
  match x1 with
  | .error n3 => if n3 = 3 then some (-1001) else if n3 = 1 then some (-1002) else if n3 = 2 then some (-1003) else if n3 = 4 then some (-1004) else if n3 = 5 then some (-1005) else none
  | .ok r4 =>
  if r4 = 0 then
    some 0
  else
    some 1
set_option maxHeartbeats 4000000 in
set_option maxRecDepth 100000 in
theorem m_K25 (l : Launch) (hst : l.stackTraces = false) {D : va_G} (ca : Nat → ClassId) (ad : Nat → Nat) (bq : Nat) (nF : Int32) (nO : Nat → Int32) (nL : Nat → Int32) (nA : Nat → Int32) (nC : Nat → Int32) (nV : Nat → Int32) (nU : Nat → Int32) (nP : Nat → Int32) (nE : Int32) (bF : Int32) (bO : Nat → Int32) (bL : Nat → Int32) (bA : Nat → Int32) (bC : Nat → Int32) (bV : Nat → Int32) (bU : Nat → Int32) (bP : Nat → Int32) (bE : Int32) (cT : Int32) (cK : Nat → Int32) (cO : Int32) (cQ : Nat → Int32) (cD : Int32) (pT : Int32) (pK : Int32) (pR : Nat → Int32) (pW : Nat → Int32) (pU : Nat → Int32) (pI : Nat → Int32) (pC : Nat → Nat → Int32) (uO : Int32) (uF : Nat → Int32) (uE : Nat → Int32) (uN : Nat → Int32) (wK : Nat → Int32) (jM : Int32) (jN : Int32) (jZ : Nat) (jB : Nat → Int32) (R : va_W) (sz : Nat) (p2 : Int32) (p3 : Int32) (p4 : Int32) (ro : Int32) (hf : f_K25 p2 uO uN = some ro) : vx_Met l yL_call (wmW yL_call cL_call 6 (some .int) HH) ({ frames := 8, cells := 1, slots := 6, locals := 132 } : Room) (PREL [.ref (ad 0), .int 25, .int p2, .int p3, .int p4] D ca SL0 (WC ca ad bq nF nO nL nA nC nV nU nP nE bF bO bL bA bC bV bU bP bE cT cK cO cQ cD pT pK pR pW pU pI pC uO uF uE uN wK jM jN jZ jB ++ R) sz) (QI ro D (WC ca ad bq nF nO nL nA nC nV nU nP nE bF bO bL bA bC bV bU bP bE cT cK cO cQ cD pT pK pR pW pU pI pC uO uF uE uN wK jM jN jZ jB ++ R) (WC ca ad bq nF nO nL nA nC nV nU nP nE bF bO bL bA bC bV bU bP bE cT cK cO cQ cD pT pK pR pW pU pI pC uO uF uE uN wK jM jN jZ jB ++ R) sz) (fun _ _ _ => False) 1 6 (va_A (WC ca ad bq nF nO nL nA nC nV nU nP nE bF bO bL bA bC bV bU bP bE cT cK cO cQ cD pT pK pR pW pU pI pC uO uF uE uN wK jM jN jZ jB ++ R) sz) := by
  refine vx_ofWH (cc := cL_call) (maxL := 6) (ret := (some .int)) (hh := HH) (by decide) rfl ?_
  intro p e s m args below meth c s₁ B hml hv
  obtain ⟨rfl, rfl, hP, hE, hD0, hZ, hNC⟩ := hv
  have hx := B.exec
  have hb := B.bytes
  have hr := B.returns
  have hts0 := atoms_spec (ws := wmW yL_call cL_call 6 (some .int) HH) B.pre
  have hts := wmW_ww hts0
  have htab := vx_table (x := yL_call) B (hts0 _ List.mem_cons_self)
  have hown : s.vm.findClass RL = some m.cls := findClass_of_methodNamed B.named
  have hlocks := B.notSynchronized
  have hK := hE.1
  have hD := hD0.self (sz := s.heap.size)
  generalize hAe : va_A (WC ca ad bq nF nO nL nA nC nV nU nP nE bF bO bL bA bC bV bU bP bE cT cK cO cQ cD pT pK pR pW pU pI pC uO uF uE uN wK jM jN jZ jB ++ R) s.heap.size = A at hD hZ ⊢
  have hA : ∀ q : Nat, s.heap.size ≤ q → A q := fun q h => by rw [← hAe]; exact Or.inr h
  have hS : va_S A s.heap s.heap [] := va_S.rf
  have hl := lv_entry ([.ref (ad 0), .int 25, .int p2, .int p3, .int p4]) (n := 6) (Nat.le_of_ble_eq_true rfl)
  rw [lg_entry_eq]
  generalize (lg_sl ([.ref (ad 0), .int 25, .int p2, .int p3, .int p4]) ++ List.replicate (6 - (lg_sl ([.ref (ad 0), .int 25, .int p2, .int p3, .int p4])).length) Slot.unset).toArray = ls at hl ⊢
  have hl : lv_has ls 6 [(0, .ref (ad 0)), (1, .int 25), (2, .int p2), (3, .int p3), (4, .int p4)] := hl
  change W p l e ({ frames := 8, cells := 1, slots := 6, locals := 132 } : Room) s m _ below meth c s.heap [] 0 0 _ _
  generalize hQm : vx_MQ below (QI ro D (WC ca ad bq nF nO nL nA nC nV nU nP nE bF bO bL bA bC bV bU bP bE cT cK cO cQ cD pT pK pR pW pU pI pC uO uF uE uN wK jM jN jZ jB ++ R) (WC ca ad bq nF nO nL nA nC nV nU nP nE bF bO bL bA bC bV bU bP bE cT cK cO cQ cD pT pK pR pW pU pI pC uO uF uE uN wK jM jN jZ jB ++ R) s.heap.size) (fun _ _ _ => False) _ s 1 6 A = Qm
  have hP : va_P D vwCl (WC ca ad bq nF nO nL nA nC nV nU nP nE bF bO bL bA bC bV bU bP bE cT cK cO cQ cD pT pK pR pW pU pI pC uO uF uE uN wK jM jN jZ jB ++ R) s.heap := hP
  generalize hae : ([.ref (ad 0), .int 25, .int p2, .int p3, .int p4] : List Value).toArray = args at hts hQm ⊢
  refine lv_iload_n hx hb dL_call_0 rfl (lv_at hl 1 rfl) ?_
  refine lv_tableIn (off := 328) (tgt := 329) hx hb dL_call_1 (by decide) (by decide) rfl (by decide) ?_
  refine lv_aload_n hx hb dL_call_329 rfl (lv_at hl 0 rfl) ?_
  refine lv_iload_n hx hb dL_call_330 rfl (lv_at hl 2 rfl) ?_
  obtain ⟨x1, h2, hf⟩ := bnd hf
  rcases x1 with n3 | r4
  · have hf : (if n3 = 3 then some (-1001) else if n3 = 1 then some (-1002) else if n3 = 2 then some (-1003) else if n3 = 4 then some (-1004) else if n3 = 5 then some (-1005) else none) = some ro := hf
    by_cases c5 : n3 = 3
    · subst c5
      have hf := br_pos rfl hf
      refine cw_vi_err (rest := []) (m_C_isOpen l hst ca ad bq nF nO nL nA nC nV nU nP nE bF bO bL bA bC bV bU bP bE cT cK cO cQ cD pT pK pR pW pU pI pC uO uF uE uN wK jM jN jZ jB R _ p2 (.error 3) h2) ⟨hx, hb, hml, hown, hts⟩ (cwV 1 hts (gV q822 q823 q824 q24 q825) rfl rfl rfl (by decide +kernel) ⟨Nat.le_of_ble_eq_true rfl, Nat.le_of_ble_eq_true rfl⟩) (va_recv hK hP (ci := 7) (q0 := 0) rfl rfl) hE hP hD hS hA hZ rfl hl.1 rfl (lv_room (Nat.le_of_ble_eq_true rfl)) dL_call_331 ⟨Nat.le_of_ble_eq_true rfl, Nat.le_of_ble_eq_true rfl⟩ (fun H locs q9 ce hP hD hS hce hv9 hcl => ?_)
      refine vx_catch (E := "java/lang/IndexOutOfBoundsException") hown ((tableOf HH).take 25) ⟨329, 342, 393, 122⟩ ((tableOf HH).drop (25 + 1)) (htab.trans (sp_at (n := 25) hh25)) (hp_of [] (by decide +kernel) (fun _ h => absurd h List.not_mem_nil)) (by decide) (by decide) (hts _ q254) (va_Nw.use rfl (hE.2.1 _ n392)) hce hv9 hcl ?_
      refine lv_astore (lv' := [(5, .ref q9), (0, .ref (ad 0)), (1, .int 25), (2, .int p2), (3, .int p3), (4, .int p4)]) hx hb dL_call_393 hl (by decide) rfl (fun ls hl => ?_)
      refine lv_sipush (v := (-1001)) hx hb dL_call_395 (by decide) ?_
      cases hf
      exact endw_i hAe hQm hx hb hr hlocks rfl hP hD hS dL_call_398 (Nat.le_of_ble_eq_true rfl) (Nat.le_of_ble_eq_true rfl)
    have hf := br_neg c5 hf
    by_cases c6 : n3 = 1
    · subst c6
      have hf := br_pos rfl hf
      refine cw_vi_err (rest := []) (m_C_isOpen l hst ca ad bq nF nO nL nA nC nV nU nP nE bF bO bL bA bC bV bU bP bE cT cK cO cQ cD pT pK pR pW pU pI pC uO uF uE uN wK jM jN jZ jB R _ p2 (.error 1) h2) ⟨hx, hb, hml, hown, hts⟩ (cwV 1 hts (gV q822 q823 q824 q24 q825) rfl rfl rfl (by decide +kernel) ⟨Nat.le_of_ble_eq_true rfl, Nat.le_of_ble_eq_true rfl⟩) (va_recv hK hP (ci := 7) (q0 := 0) rfl rfl) hE hP hD hS hA hZ rfl hl.1 rfl (lv_room (Nat.le_of_ble_eq_true rfl)) dL_call_331 ⟨Nat.le_of_ble_eq_true rfl, Nat.le_of_ble_eq_true rfl⟩ (fun H locs q9 ce hP hD hS hce hv9 hcl => ?_)
      refine vx_catch (E := "java/lang/IllegalArgumentException") hown ((tableOf HH).take 60) ⟨329, 342, 399, 124⟩ ((tableOf HH).drop (60 + 1)) (htab.trans (sp_at (n := 60) hh60)) (hp_of [(122, "java/lang/IndexOutOfBoundsException")] (by decide +kernel) (List.forall_mem_cons.mpr ⟨⟨hts _ q254, hNC _ nc_1_3⟩, fun _ h => absurd h List.not_mem_nil⟩)) (by decide) (by decide) (hts _ q333) (va_Nw.use rfl (hE.2.1 _ n347)) hce hv9 hcl ?_
      refine lv_astore (lv' := [(5, .ref q9), (0, .ref (ad 0)), (1, .int 25), (2, .int p2), (3, .int p3), (4, .int p4)]) hx hb dL_call_399 hl (by decide) rfl (fun ls hl => ?_)
      refine lv_sipush (v := (-1002)) hx hb dL_call_401 (by decide) ?_
      cases hf
      exact endw_i hAe hQm hx hb hr hlocks rfl hP hD hS dL_call_404 (Nat.le_of_ble_eq_true rfl) (Nat.le_of_ble_eq_true rfl)
    have hf := br_neg c6 hf
    by_cases c7 : n3 = 2
    · subst c7
      have hf := br_pos rfl hf
      refine cw_vi_err (rest := []) (m_C_isOpen l hst ca ad bq nF nO nL nA nC nV nU nP nE bF bO bL bA bC bV bU bP bE cT cK cO cQ cD pT pK pR pW pU pI pC uO uF uE uN wK jM jN jZ jB R _ p2 (.error 2) h2) ⟨hx, hb, hml, hown, hts⟩ (cwV 1 hts (gV q822 q823 q824 q24 q825) rfl rfl rfl (by decide +kernel) ⟨Nat.le_of_ble_eq_true rfl, Nat.le_of_ble_eq_true rfl⟩) (va_recv hK hP (ci := 7) (q0 := 0) rfl rfl) hE hP hD hS hA hZ rfl hl.1 rfl (lv_room (Nat.le_of_ble_eq_true rfl)) dL_call_331 ⟨Nat.le_of_ble_eq_true rfl, Nat.le_of_ble_eq_true rfl⟩ (fun H locs q9 ce hP hD hS hce hv9 hcl => ?_)
      refine vx_catch (E := "java/lang/IllegalStateException") hown ((tableOf HH).take 95) ⟨329, 342, 405, 126⟩ ((tableOf HH).drop (95 + 1)) (htab.trans (sp_at (n := 95) hh95)) (hp_of [(122, "java/lang/IndexOutOfBoundsException"), (124, "java/lang/IllegalArgumentException")] (by decide +kernel) (List.forall_mem_cons.mpr ⟨⟨hts _ q254, hNC _ nc_2_3⟩, List.forall_mem_cons.mpr ⟨⟨hts _ q333, hNC _ nc_2_1⟩, fun _ h => absurd h List.not_mem_nil⟩⟩)) (by decide) (by decide) (hts _ q334) (va_Nw.use rfl (hE.2.1 _ n367)) hce hv9 hcl ?_
      refine lv_astore (lv' := [(5, .ref q9), (0, .ref (ad 0)), (1, .int 25), (2, .int p2), (3, .int p3), (4, .int p4)]) hx hb dL_call_405 hl (by decide) rfl (fun ls hl => ?_)
      refine lv_sipush (v := (-1003)) hx hb dL_call_407 (by decide) ?_
      cases hf
      exact endw_i hAe hQm hx hb hr hlocks rfl hP hD hS dL_call_410 (Nat.le_of_ble_eq_true rfl) (Nat.le_of_ble_eq_true rfl)
    have hf := br_neg c7 hf
    by_cases c8 : n3 = 4
    · subst c8
      have hf := br_pos rfl hf
      refine cw_vi_err (rest := []) (m_C_isOpen l hst ca ad bq nF nO nL nA nC nV nU nP nE bF bO bL bA bC bV bU bP bE cT cK cO cQ cD pT pK pR pW pU pI pC uO uF uE uN wK jM jN jZ jB R _ p2 (.error 4) h2) ⟨hx, hb, hml, hown, hts⟩ (cwV 1 hts (gV q822 q823 q824 q24 q825) rfl rfl rfl (by decide +kernel) ⟨Nat.le_of_ble_eq_true rfl, Nat.le_of_ble_eq_true rfl⟩) (va_recv hK hP (ci := 7) (q0 := 0) rfl rfl) hE hP hD hS hA hZ rfl hl.1 rfl (lv_room (Nat.le_of_ble_eq_true rfl)) dL_call_331 ⟨Nat.le_of_ble_eq_true rfl, Nat.le_of_ble_eq_true rfl⟩ (fun H locs q9 ce hP hD hS hce hv9 hcl => ?_)
      refine vx_catch (E := "java/lang/UnsupportedOperationException") hown ((tableOf HH).take 130) ⟨329, 342, 411, 128⟩ ((tableOf HH).drop (130 + 1)) (htab.trans (sp_at (n := 130) hh130)) (hp_of [(122, "java/lang/IndexOutOfBoundsException"), (124, "java/lang/IllegalArgumentException"), (126, "java/lang/IllegalStateException")] (by decide +kernel) (List.forall_mem_cons.mpr ⟨⟨hts _ q254, hNC _ nc_4_3⟩, List.forall_mem_cons.mpr ⟨⟨hts _ q333, hNC _ nc_4_1⟩, List.forall_mem_cons.mpr ⟨⟨hts _ q334, hNC _ nc_4_2⟩, fun _ h => absurd h List.not_mem_nil⟩⟩⟩)) (by decide) (by decide) (hts _ q335) (va_Nw.use rfl (hE.2.1 _ n547)) hce hv9 hcl ?_
      refine lv_astore (lv' := [(5, .ref q9), (0, .ref (ad 0)), (1, .int 25), (2, .int p2), (3, .int p3), (4, .int p4)]) hx hb dL_call_411 hl (by decide) rfl (fun ls hl => ?_)
      refine lv_sipush (v := (-1004)) hx hb dL_call_413 (by decide) ?_
      cases hf
      exact endw_i hAe hQm hx hb hr hlocks rfl hP hD hS dL_call_416 (Nat.le_of_ble_eq_true rfl) (Nat.le_of_ble_eq_true rfl)
    have hf := br_neg c8 hf
    by_cases c9 : n3 = 5
    · subst c9
      have hf := br_pos rfl hf
      refine cw_vi_err (rest := []) (m_C_isOpen l hst ca ad bq nF nO nL nA nC nV nU nP nE bF bO bL bA bC bV bU bP bE cT cK cO cQ cD pT pK pR pW pU pI pC uO uF uE uN wK jM jN jZ jB R _ p2 (.error 5) h2) ⟨hx, hb, hml, hown, hts⟩ (cwV 1 hts (gV q822 q823 q824 q24 q825) rfl rfl rfl (by decide +kernel) ⟨Nat.le_of_ble_eq_true rfl, Nat.le_of_ble_eq_true rfl⟩) (va_recv hK hP (ci := 7) (q0 := 0) rfl rfl) hE hP hD hS hA hZ rfl hl.1 rfl (lv_room (Nat.le_of_ble_eq_true rfl)) dL_call_331 ⟨Nat.le_of_ble_eq_true rfl, Nat.le_of_ble_eq_true rfl⟩ (fun H locs q9 ce hP hD hS hce hv9 hcl => ?_)
      refine vx_catch (E := "java/util/NoSuchElementException") hown ((tableOf HH).take 165) ⟨329, 342, 417, 130⟩ ((tableOf HH).drop (165 + 1)) (htab.trans (sp_at (n := 165) hh165)) (hp_of [(122, "java/lang/IndexOutOfBoundsException"), (124, "java/lang/IllegalArgumentException"), (126, "java/lang/IllegalStateException"), (128, "java/lang/UnsupportedOperationException")] (by decide +kernel) (List.forall_mem_cons.mpr ⟨⟨hts _ q254, hNC _ nc_5_3⟩, List.forall_mem_cons.mpr ⟨⟨hts _ q333, hNC _ nc_5_1⟩, List.forall_mem_cons.mpr ⟨⟨hts _ q334, hNC _ nc_5_2⟩, List.forall_mem_cons.mpr ⟨⟨hts _ q335, hNC _ nc_5_4⟩, fun _ h => absurd h List.not_mem_nil⟩⟩⟩⟩)) (by decide) (by decide) (hts _ q336) (va_Nw.use rfl (hE.2.1 _ n606)) hce hv9 hcl ?_
      refine lv_astore (lv' := [(5, .ref q9), (0, .ref (ad 0)), (1, .int 25), (2, .int p2), (3, .int p3), (4, .int p4)]) hx hb dL_call_417 hl (by decide) rfl (fun ls hl => ?_)
      refine lv_sipush (v := (-1005)) hx hb dL_call_419 (by decide) ?_
      cases hf
      exact endw_i hAe hQm hx hb hr hlocks rfl hP hD hS dL_call_422 (Nat.le_of_ble_eq_true rfl) (Nat.le_of_ble_eq_true rfl)
    have hf := br_neg c9 hf
    cases hf
  refine cw_vi_ok (rest := []) (m_C_isOpen l hst ca ad bq nF nO nL nA nC nV nU nP nE bF bO bL bA bC bV bU bP bE cT cK cO cQ cD pT pK pR pW pU pI pC uO uF uE uN wK jM jN jZ jB R _ p2 (.ok r4) h2) ⟨hx, hb, hml, hown, hts⟩ (cwV 1 hts (gV q822 q823 q824 q24 q825) rfl rfl rfl (by decide +kernel) ⟨Nat.le_of_ble_eq_true rfl, Nat.le_of_ble_eq_true rfl⟩) (va_recv hK hP (ci := 7) (q0 := 0) rfl rfl) hE hP hD hS hA hZ rfl hl.1 rfl (lv_room (Nat.le_of_ble_eq_true rfl)) dL_call_331 ⟨Nat.le_of_ble_eq_true rfl, Nat.le_of_ble_eq_true rfl⟩ (fun H locs hP hD hS => ?_)
  refine lv_if_eq (tgt := 341) hx hb dL_call_334 (by decide) (fun c10 => ?_) (fun c10 => ?_)
  · have hf := br_pos c10 hf
    refine lv_iconst (v := 0) hx hb dL_call_341 (by decide) ?_
    cases hf
    exact endw_i hAe hQm hx hb hr hlocks rfl hP hD hS dL_call_342 (Nat.le_of_ble_eq_true rfl) (Nat.le_of_ble_eq_true rfl)
  · have hf := br_neg c10 hf
    refine lv_iconst (v := 1) hx hb dL_call_337 (by decide) ?_
    refine lv_goto (tgt := 342) hx hb dL_call_338 (by decide) ?_
    cases hf
    exact endw_i hAe hQm hx hb hr hlocks rfl hP hD hS dL_call_342 (Nat.le_of_ble_eq_true rfl) (Nat.le_of_ble_eq_true rfl)
def f_K26 (p2 : Int32) (nF : Int32) (uO : Int32) (uF : Nat → Int32) (uN : Nat → Int32) : Option (Int32) :=
  (f_C_holdsOn p2 nF uO uF uN).bind fun x1 =>
  match x1 with
  | .error n3 => if n3 = 3 then some (-1001) else if n3 = 1 then some (-1002) else if n3 = 2 then some (-1003) else if n3 = 4 then some (-1004) else if n3 = 5 then some (-1005) else none
  | .ok r4 =>
  some r4
set_option maxHeartbeats 4000000 in
set_option maxRecDepth 100000 in
theorem m_K26 (l : Launch) (hst : l.stackTraces = false) {D : va_G} (ca : Nat → ClassId) (ad : Nat → Nat) (bq : Nat) (nF : Int32) (nO : Nat → Int32) (nL : Nat → Int32) (nA : Nat → Int32) (nC : Nat → Int32) (nV : Nat → Int32) (nU : Nat → Int32) (nP : Nat → Int32) (nE : Int32) (bF : Int32) (bO : Nat → Int32) (bL : Nat → Int32) (bA : Nat → Int32) (bC : Nat → Int32) (bV : Nat → Int32) (bU : Nat → Int32) (bP : Nat → Int32) (bE : Int32) (cT : Int32) (cK : Nat → Int32) (cO : Int32) (cQ : Nat → Int32) (cD : Int32) (pT : Int32) (pK : Int32) (pR : Nat → Int32) (pW : Nat → Int32) (pU : Nat → Int32) (pI : Nat → Int32) (pC : Nat → Nat → Int32) (uO : Int32) (uF : Nat → Int32) (uE : Nat → Int32) (uN : Nat → Int32) (wK : Nat → Int32) (jM : Int32) (jN : Int32) (jZ : Nat) (jB : Nat → Int32) (R : va_W) (sz : Nat) (p2 : Int32) (p3 : Int32) (p4 : Int32) (ro : Int32) (hf : f_K26 p2 nF uO uF uN = some ro) : vx_Met l yL_call (wmW yL_call cL_call 6 (some .int) HH) ({ frames := 8, cells := 1, slots := 6, locals := 132 } : Room) (PREL [.ref (ad 0), .int 26, .int p2, .int p3, .int p4] D ca SL0 (WC ca ad bq nF nO nL nA nC nV nU nP nE bF bO bL bA bC bV bU bP bE cT cK cO cQ cD pT pK pR pW pU pI pC uO uF uE uN wK jM jN jZ jB ++ R) sz) (QI ro D (WC ca ad bq nF nO nL nA nC nV nU nP nE bF bO bL bA bC bV bU bP bE cT cK cO cQ cD pT pK pR pW pU pI pC uO uF uE uN wK jM jN jZ jB ++ R) (WC ca ad bq nF nO nL nA nC nV nU nP nE bF bO bL bA bC bV bU bP bE cT cK cO cQ cD pT pK pR pW pU pI pC uO uF uE uN wK jM jN jZ jB ++ R) sz) (fun _ _ _ => False) 1 6 (va_A (WC ca ad bq nF nO nL nA nC nV nU nP nE bF bO bL bA bC bV bU bP bE cT cK cO cQ cD pT pK pR pW pU pI pC uO uF uE uN wK jM jN jZ jB ++ R) sz) := by
  refine vx_ofWH (cc := cL_call) (maxL := 6) (ret := (some .int)) (hh := HH) (by decide) rfl ?_
  intro p e s m args below meth c s₁ B hml hv
  obtain ⟨rfl, rfl, hP, hE, hD0, hZ, hNC⟩ := hv
  have hx := B.exec
  have hb := B.bytes
  have hr := B.returns
  have hts0 := atoms_spec (ws := wmW yL_call cL_call 6 (some .int) HH) B.pre
  have hts := wmW_ww hts0
  have htab := vx_table (x := yL_call) B (hts0 _ List.mem_cons_self)
  have hown : s.vm.findClass RL = some m.cls := findClass_of_methodNamed B.named
  have hlocks := B.notSynchronized
  have hK := hE.1
  have hD := hD0.self (sz := s.heap.size)
  generalize hAe : va_A (WC ca ad bq nF nO nL nA nC nV nU nP nE bF bO bL bA bC bV bU bP bE cT cK cO cQ cD pT pK pR pW pU pI pC uO uF uE uN wK jM jN jZ jB ++ R) s.heap.size = A at hD hZ ⊢
  have hA : ∀ q : Nat, s.heap.size ≤ q → A q := fun q h => by rw [← hAe]; exact Or.inr h
  have hS : va_S A s.heap s.heap [] := va_S.rf
  have hl := lv_entry ([.ref (ad 0), .int 26, .int p2, .int p3, .int p4]) (n := 6) (Nat.le_of_ble_eq_true rfl)
  rw [lg_entry_eq]
  generalize (lg_sl ([.ref (ad 0), .int 26, .int p2, .int p3, .int p4]) ++ List.replicate (6 - (lg_sl ([.ref (ad 0), .int 26, .int p2, .int p3, .int p4])).length) Slot.unset).toArray = ls at hl ⊢
  have hl : lv_has ls 6 [(0, .ref (ad 0)), (1, .int 26), (2, .int p2), (3, .int p3), (4, .int p4)] := hl
  change W p l e ({ frames := 8, cells := 1, slots := 6, locals := 132 } : Room) s m _ below meth c s.heap [] 0 0 _ _
  generalize hQm : vx_MQ below (QI ro D (WC ca ad bq nF nO nL nA nC nV nU nP nE bF bO bL bA bC bV bU bP bE cT cK cO cQ cD pT pK pR pW pU pI pC uO uF uE uN wK jM jN jZ jB ++ R) (WC ca ad bq nF nO nL nA nC nV nU nP nE bF bO bL bA bC bV bU bP bE cT cK cO cQ cD pT pK pR pW pU pI pC uO uF uE uN wK jM jN jZ jB ++ R) s.heap.size) (fun _ _ _ => False) _ s 1 6 A = Qm
  have hP : va_P D vwCl (WC ca ad bq nF nO nL nA nC nV nU nP nE bF bO bL bA bC bV bU bP bE cT cK cO cQ cD pT pK pR pW pU pI pC uO uF uE uN wK jM jN jZ jB ++ R) s.heap := hP
  generalize hae : ([.ref (ad 0), .int 26, .int p2, .int p3, .int p4] : List Value).toArray = args at hts hQm ⊢
  refine lv_iload_n hx hb dL_call_0 rfl (lv_at hl 1 rfl) ?_
  refine lv_tableIn (off := 342) (tgt := 343) hx hb dL_call_1 (by decide) (by decide) rfl (by decide) ?_
  refine lv_aload_n hx hb dL_call_343 rfl (lv_at hl 0 rfl) ?_
  refine lv_iload_n hx hb dL_call_344 rfl (lv_at hl 2 rfl) ?_
  obtain ⟨x1, h2, hf⟩ := bnd hf
  rcases x1 with n3 | r4
  · have hf : (if n3 = 3 then some (-1001) else if n3 = 1 then some (-1002) else if n3 = 2 then some (-1003) else if n3 = 4 then some (-1004) else if n3 = 5 then some (-1005) else none) = some ro := hf
    by_cases c5 : n3 = 3
    · subst c5
      have hf := br_pos rfl hf
      refine cw_vi_err (rest := []) (m_C_holdsOn l hst ca ad bq nF nO nL nA nC nV nU nP nE bF bO bL bA bC bV bU bP bE cT cK cO cQ cD pT pK pR pW pU pI pC uO uF uE uN wK jM jN jZ jB R _ p2 (.error 3) h2) ⟨hx, hb, hml, hown, hts⟩ (cwV 1 hts (gV q826 q827 q828 q24 q829) rfl rfl rfl (by decide +kernel) ⟨Nat.le_of_ble_eq_true rfl, Nat.le_of_ble_eq_true rfl⟩) (va_recv hK hP (ci := 7) (q0 := 0) rfl rfl) hE hP hD hS hA hZ rfl hl.1 rfl (lv_room (Nat.le_of_ble_eq_true rfl)) dL_call_345 ⟨Nat.le_of_ble_eq_true rfl, Nat.le_of_ble_eq_true rfl⟩ (fun H locs q9 ce hP hD hS hce hv9 hcl => ?_)
      refine vx_catch (E := "java/lang/IndexOutOfBoundsException") hown ((tableOf HH).take 26) ⟨343, 348, 393, 122⟩ ((tableOf HH).drop (26 + 1)) (htab.trans (sp_at (n := 26) hh26)) (hp_of [] (by decide +kernel) (fun _ h => absurd h List.not_mem_nil)) (by decide) (by decide) (hts _ q254) (va_Nw.use rfl (hE.2.1 _ n392)) hce hv9 hcl ?_
      refine lv_astore (lv' := [(5, .ref q9), (0, .ref (ad 0)), (1, .int 26), (2, .int p2), (3, .int p3), (4, .int p4)]) hx hb dL_call_393 hl (by decide) rfl (fun ls hl => ?_)
      refine lv_sipush (v := (-1001)) hx hb dL_call_395 (by decide) ?_
      cases hf
      exact endw_i hAe hQm hx hb hr hlocks rfl hP hD hS dL_call_398 (Nat.le_of_ble_eq_true rfl) (Nat.le_of_ble_eq_true rfl)
    have hf := br_neg c5 hf
    by_cases c6 : n3 = 1
    · subst c6
      have hf := br_pos rfl hf
      refine cw_vi_err (rest := []) (m_C_holdsOn l hst ca ad bq nF nO nL nA nC nV nU nP nE bF bO bL bA bC bV bU bP bE cT cK cO cQ cD pT pK pR pW pU pI pC uO uF uE uN wK jM jN jZ jB R _ p2 (.error 1) h2) ⟨hx, hb, hml, hown, hts⟩ (cwV 1 hts (gV q826 q827 q828 q24 q829) rfl rfl rfl (by decide +kernel) ⟨Nat.le_of_ble_eq_true rfl, Nat.le_of_ble_eq_true rfl⟩) (va_recv hK hP (ci := 7) (q0 := 0) rfl rfl) hE hP hD hS hA hZ rfl hl.1 rfl (lv_room (Nat.le_of_ble_eq_true rfl)) dL_call_345 ⟨Nat.le_of_ble_eq_true rfl, Nat.le_of_ble_eq_true rfl⟩ (fun H locs q9 ce hP hD hS hce hv9 hcl => ?_)
      refine vx_catch (E := "java/lang/IllegalArgumentException") hown ((tableOf HH).take 61) ⟨343, 348, 399, 124⟩ ((tableOf HH).drop (61 + 1)) (htab.trans (sp_at (n := 61) hh61)) (hp_of [(122, "java/lang/IndexOutOfBoundsException")] (by decide +kernel) (List.forall_mem_cons.mpr ⟨⟨hts _ q254, hNC _ nc_1_3⟩, fun _ h => absurd h List.not_mem_nil⟩)) (by decide) (by decide) (hts _ q333) (va_Nw.use rfl (hE.2.1 _ n347)) hce hv9 hcl ?_
      refine lv_astore (lv' := [(5, .ref q9), (0, .ref (ad 0)), (1, .int 26), (2, .int p2), (3, .int p3), (4, .int p4)]) hx hb dL_call_399 hl (by decide) rfl (fun ls hl => ?_)
      refine lv_sipush (v := (-1002)) hx hb dL_call_401 (by decide) ?_
      cases hf
      exact endw_i hAe hQm hx hb hr hlocks rfl hP hD hS dL_call_404 (Nat.le_of_ble_eq_true rfl) (Nat.le_of_ble_eq_true rfl)
    have hf := br_neg c6 hf
    by_cases c7 : n3 = 2
    · subst c7
      have hf := br_pos rfl hf
      refine cw_vi_err (rest := []) (m_C_holdsOn l hst ca ad bq nF nO nL nA nC nV nU nP nE bF bO bL bA bC bV bU bP bE cT cK cO cQ cD pT pK pR pW pU pI pC uO uF uE uN wK jM jN jZ jB R _ p2 (.error 2) h2) ⟨hx, hb, hml, hown, hts⟩ (cwV 1 hts (gV q826 q827 q828 q24 q829) rfl rfl rfl (by decide +kernel) ⟨Nat.le_of_ble_eq_true rfl, Nat.le_of_ble_eq_true rfl⟩) (va_recv hK hP (ci := 7) (q0 := 0) rfl rfl) hE hP hD hS hA hZ rfl hl.1 rfl (lv_room (Nat.le_of_ble_eq_true rfl)) dL_call_345 ⟨Nat.le_of_ble_eq_true rfl, Nat.le_of_ble_eq_true rfl⟩ (fun H locs q9 ce hP hD hS hce hv9 hcl => ?_)
      refine vx_catch (E := "java/lang/IllegalStateException") hown ((tableOf HH).take 96) ⟨343, 348, 405, 126⟩ ((tableOf HH).drop (96 + 1)) (htab.trans (sp_at (n := 96) hh96)) (hp_of [(122, "java/lang/IndexOutOfBoundsException"), (124, "java/lang/IllegalArgumentException")] (by decide +kernel) (List.forall_mem_cons.mpr ⟨⟨hts _ q254, hNC _ nc_2_3⟩, List.forall_mem_cons.mpr ⟨⟨hts _ q333, hNC _ nc_2_1⟩, fun _ h => absurd h List.not_mem_nil⟩⟩)) (by decide) (by decide) (hts _ q334) (va_Nw.use rfl (hE.2.1 _ n367)) hce hv9 hcl ?_
      refine lv_astore (lv' := [(5, .ref q9), (0, .ref (ad 0)), (1, .int 26), (2, .int p2), (3, .int p3), (4, .int p4)]) hx hb dL_call_405 hl (by decide) rfl (fun ls hl => ?_)
      refine lv_sipush (v := (-1003)) hx hb dL_call_407 (by decide) ?_
      cases hf
      exact endw_i hAe hQm hx hb hr hlocks rfl hP hD hS dL_call_410 (Nat.le_of_ble_eq_true rfl) (Nat.le_of_ble_eq_true rfl)
    have hf := br_neg c7 hf
    by_cases c8 : n3 = 4
    · subst c8
      have hf := br_pos rfl hf
      refine cw_vi_err (rest := []) (m_C_holdsOn l hst ca ad bq nF nO nL nA nC nV nU nP nE bF bO bL bA bC bV bU bP bE cT cK cO cQ cD pT pK pR pW pU pI pC uO uF uE uN wK jM jN jZ jB R _ p2 (.error 4) h2) ⟨hx, hb, hml, hown, hts⟩ (cwV 1 hts (gV q826 q827 q828 q24 q829) rfl rfl rfl (by decide +kernel) ⟨Nat.le_of_ble_eq_true rfl, Nat.le_of_ble_eq_true rfl⟩) (va_recv hK hP (ci := 7) (q0 := 0) rfl rfl) hE hP hD hS hA hZ rfl hl.1 rfl (lv_room (Nat.le_of_ble_eq_true rfl)) dL_call_345 ⟨Nat.le_of_ble_eq_true rfl, Nat.le_of_ble_eq_true rfl⟩ (fun H locs q9 ce hP hD hS hce hv9 hcl => ?_)
      refine vx_catch (E := "java/lang/UnsupportedOperationException") hown ((tableOf HH).take 131) ⟨343, 348, 411, 128⟩ ((tableOf HH).drop (131 + 1)) (htab.trans (sp_at (n := 131) hh131)) (hp_of [(122, "java/lang/IndexOutOfBoundsException"), (124, "java/lang/IllegalArgumentException"), (126, "java/lang/IllegalStateException")] (by decide +kernel) (List.forall_mem_cons.mpr ⟨⟨hts _ q254, hNC _ nc_4_3⟩, List.forall_mem_cons.mpr ⟨⟨hts _ q333, hNC _ nc_4_1⟩, List.forall_mem_cons.mpr ⟨⟨hts _ q334, hNC _ nc_4_2⟩, fun _ h => absurd h List.not_mem_nil⟩⟩⟩)) (by decide) (by decide) (hts _ q335) (va_Nw.use rfl (hE.2.1 _ n547)) hce hv9 hcl ?_
      refine lv_astore (lv' := [(5, .ref q9), (0, .ref (ad 0)), (1, .int 26), (2, .int p2), (3, .int p3), (4, .int p4)]) hx hb dL_call_411 hl (by decide) rfl (fun ls hl => ?_)
      refine lv_sipush (v := (-1004)) hx hb dL_call_413 (by decide) ?_
      cases hf
      exact endw_i hAe hQm hx hb hr hlocks rfl hP hD hS dL_call_416 (Nat.le_of_ble_eq_true rfl) (Nat.le_of_ble_eq_true rfl)
    have hf := br_neg c8 hf
    by_cases c9 : n3 = 5
    · subst c9
      have hf := br_pos rfl hf
      refine cw_vi_err (rest := []) (m_C_holdsOn l hst ca ad bq nF nO nL nA nC nV nU nP nE bF bO bL bA bC bV bU bP bE cT cK cO cQ cD pT pK pR pW pU pI pC uO uF uE uN wK jM jN jZ jB R _ p2 (.error 5) h2) ⟨hx, hb, hml, hown, hts⟩ (cwV 1 hts (gV q826 q827 q828 q24 q829) rfl rfl rfl (by decide +kernel) ⟨Nat.le_of_ble_eq_true rfl, Nat.le_of_ble_eq_true rfl⟩) (va_recv hK hP (ci := 7) (q0 := 0) rfl rfl) hE hP hD hS hA hZ rfl hl.1 rfl (lv_room (Nat.le_of_ble_eq_true rfl)) dL_call_345 ⟨Nat.le_of_ble_eq_true rfl, Nat.le_of_ble_eq_true rfl⟩ (fun H locs q9 ce hP hD hS hce hv9 hcl => ?_)
      refine vx_catch (E := "java/util/NoSuchElementException") hown ((tableOf HH).take 166) ⟨343, 348, 417, 130⟩ ((tableOf HH).drop (166 + 1)) (htab.trans (sp_at (n := 166) hh166)) (hp_of [(122, "java/lang/IndexOutOfBoundsException"), (124, "java/lang/IllegalArgumentException"), (126, "java/lang/IllegalStateException"), (128, "java/lang/UnsupportedOperationException")] (by decide +kernel) (List.forall_mem_cons.mpr ⟨⟨hts _ q254, hNC _ nc_5_3⟩, List.forall_mem_cons.mpr ⟨⟨hts _ q333, hNC _ nc_5_1⟩, List.forall_mem_cons.mpr ⟨⟨hts _ q334, hNC _ nc_5_2⟩, List.forall_mem_cons.mpr ⟨⟨hts _ q335, hNC _ nc_5_4⟩, fun _ h => absurd h List.not_mem_nil⟩⟩⟩⟩)) (by decide) (by decide) (hts _ q336) (va_Nw.use rfl (hE.2.1 _ n606)) hce hv9 hcl ?_
      refine lv_astore (lv' := [(5, .ref q9), (0, .ref (ad 0)), (1, .int 26), (2, .int p2), (3, .int p3), (4, .int p4)]) hx hb dL_call_417 hl (by decide) rfl (fun ls hl => ?_)
      refine lv_sipush (v := (-1005)) hx hb dL_call_419 (by decide) ?_
      cases hf
      exact endw_i hAe hQm hx hb hr hlocks rfl hP hD hS dL_call_422 (Nat.le_of_ble_eq_true rfl) (Nat.le_of_ble_eq_true rfl)
    have hf := br_neg c9 hf
    cases hf
  refine cw_vi_ok (rest := []) (m_C_holdsOn l hst ca ad bq nF nO nL nA nC nV nU nP nE bF bO bL bA bC bV bU bP bE cT cK cO cQ cD pT pK pR pW pU pI pC uO uF uE uN wK jM jN jZ jB R _ p2 (.ok r4) h2) ⟨hx, hb, hml, hown, hts⟩ (cwV 1 hts (gV q826 q827 q828 q24 q829) rfl rfl rfl (by decide +kernel) ⟨Nat.le_of_ble_eq_true rfl, Nat.le_of_ble_eq_true rfl⟩) (va_recv hK hP (ci := 7) (q0 := 0) rfl rfl) hE hP hD hS hA hZ rfl hl.1 rfl (lv_room (Nat.le_of_ble_eq_true rfl)) dL_call_345 ⟨Nat.le_of_ble_eq_true rfl, Nat.le_of_ble_eq_true rfl⟩ (fun H locs hP hD hS => ?_)
  cases hf
  exact endw_i hAe hQm hx hb hr hlocks rfl hP hD hS dL_call_348 (Nat.le_of_ble_eq_true rfl) (Nat.le_of_ble_eq_true rfl)
def f_K28 (p2 : Int32) (nF : Int32) (nL : Nat → Int32) (nA : Nat → Int32) (nC : Nat → Int32) (nU : Nat → Int32) (cT : Int32) (cD : Int32) (uO : Int32) (uF : Nat → Int32) (uE : Nat → Int32) (uN : Nat → Int32) : Option (Int32 × (Nat → Int32) × (Nat → Int32) × (Nat → Int32) × Int32 × (Nat → Int32)) :=
  (f_C_pass p2 nF nL nA nC nU cT cD uO uF uE uN).bind fun (x1, nA_2, nC_3, nU_4, cD_5, uN_6) =>
  match x1 with
  | .error n8 => if n8 = 3 then some ((-1001), nA_2, nC_3, nU_4, cD_5, uN_6) else if n8 = 1 then some ((-1002), nA_2, nC_3, nU_4, cD_5, uN_6) else if n8 = 2 then some ((-1003), nA_2, nC_3, nU_4, cD_5, uN_6) else if n8 = 4 then some ((-1004), nA_2, nC_3, nU_4, cD_5, uN_6) else if n8 = 5 then some ((-1005), nA_2, nC_3, nU_4, cD_5, uN_6) else none
  | .ok r9 =>
  some (r9, nA_2, nC_3, nU_4, cD_5, uN_6)
set_option maxHeartbeats 4000000 in
set_option maxRecDepth 100000 in
theorem m_K28 (l : Launch) (hst : l.stackTraces = false) {D : va_G} (ca : Nat → ClassId) (ad : Nat → Nat) (bq : Nat) (nF : Int32) (nO : Nat → Int32) (nL : Nat → Int32) (nA : Nat → Int32) (nC : Nat → Int32) (nV : Nat → Int32) (nU : Nat → Int32) (nP : Nat → Int32) (nE : Int32) (bF : Int32) (bO : Nat → Int32) (bL : Nat → Int32) (bA : Nat → Int32) (bC : Nat → Int32) (bV : Nat → Int32) (bU : Nat → Int32) (bP : Nat → Int32) (bE : Int32) (cT : Int32) (cK : Nat → Int32) (cO : Int32) (cQ : Nat → Int32) (cD : Int32) (pT : Int32) (pK : Int32) (pR : Nat → Int32) (pW : Nat → Int32) (pU : Nat → Int32) (pI : Nat → Int32) (pC : Nat → Nat → Int32) (uO : Int32) (uF : Nat → Int32) (uE : Nat → Int32) (uN : Nat → Int32) (wK : Nat → Int32) (jM : Int32) (jN : Int32) (jZ : Nat) (jB : Nat → Int32) (R : va_W) (sz : Nat) (p2 : Int32) (p3 : Int32) (p4 : Int32) (ro : Int32) (onA : Nat → Int32) (onC : Nat → Int32) (onU : Nat → Int32) (ocD : Int32) (ouN : Nat → Int32) (hf : f_K28 p2 nF nL nA nC nU cT cD uO uF uE uN = some (ro, onA, onC, onU, ocD, ouN)) : vx_Met l yL_call (wmW yL_call cL_call 6 (some .int) HH) ({ frames := 8, cells := 3, slots := 18, locals := 152 } : Room) (PREL [.ref (ad 0), .int 28, .int p2, .int p3, .int p4] D ca SL0 (WC ca ad bq nF nO nL nA nC nV nU nP nE bF bO bL bA bC bV bU bP bE cT cK cO cQ cD pT pK pR pW pU pI pC uO uF uE uN wK jM jN jZ jB ++ R) sz) (QI ro D (WC ca ad bq nF nO nL onA onC nV onU nP nE bF bO bL bA bC bV bU bP bE cT cK cO cQ ocD pT pK pR pW pU pI pC uO uF uE ouN wK jM jN jZ jB ++ R) (WC ca ad bq nF nO nL nA nC nV nU nP nE bF bO bL bA bC bV bU bP bE cT cK cO cQ cD pT pK pR pW pU pI pC uO uF uE uN wK jM jN jZ jB ++ R) sz) (fun _ _ _ => False) 3 18 (va_A (WC ca ad bq nF nO nL nA nC nV nU nP nE bF bO bL bA bC bV bU bP bE cT cK cO cQ cD pT pK pR pW pU pI pC uO uF uE uN wK jM jN jZ jB ++ R) sz) := by
  refine vx_ofWH (cc := cL_call) (maxL := 6) (ret := (some .int)) (hh := HH) (by decide) rfl ?_
  intro p e s m args below meth c s₁ B hml hv
  obtain ⟨rfl, rfl, hP, hE, hD0, hZ, hNC⟩ := hv
  have hx := B.exec
  have hb := B.bytes
  have hr := B.returns
  have hts0 := atoms_spec (ws := wmW yL_call cL_call 6 (some .int) HH) B.pre
  have hts := wmW_ww hts0
  have htab := vx_table (x := yL_call) B (hts0 _ List.mem_cons_self)
  have hown : s.vm.findClass RL = some m.cls := findClass_of_methodNamed B.named
  have hlocks := B.notSynchronized
  have hK := hE.1
  have hD := hD0.self (sz := s.heap.size)
  generalize hAe : va_A (WC ca ad bq nF nO nL nA nC nV nU nP nE bF bO bL bA bC bV bU bP bE cT cK cO cQ cD pT pK pR pW pU pI pC uO uF uE uN wK jM jN jZ jB ++ R) s.heap.size = A at hD hZ ⊢
  have hA : ∀ q : Nat, s.heap.size ≤ q → A q := fun q h => by rw [← hAe]; exact Or.inr h
  have hS : va_S A s.heap s.heap [] := va_S.rf
  have hl := lv_entry ([.ref (ad 0), .int 28, .int p2, .int p3, .int p4]) (n := 6) (Nat.le_of_ble_eq_true rfl)
  rw [lg_entry_eq]
  generalize (lg_sl ([.ref (ad 0), .int 28, .int p2, .int p3, .int p4]) ++ List.replicate (6 - (lg_sl ([.ref (ad 0), .int 28, .int p2, .int p3, .int p4])).length) Slot.unset).toArray = ls at hl ⊢
  have hl : lv_has ls 6 [(0, .ref (ad 0)), (1, .int 28), (2, .int p2), (3, .int p3), (4, .int p4)] := hl
  change W p l e ({ frames := 8, cells := 3, slots := 18, locals := 152 } : Room) s m _ below meth c s.heap [] 0 0 _ _
  generalize hQm : vx_MQ below (QI ro D (WC ca ad bq nF nO nL onA onC nV onU nP nE bF bO bL bA bC bV bU bP bE cT cK cO cQ ocD pT pK pR pW pU pI pC uO uF uE ouN wK jM jN jZ jB ++ R) (WC ca ad bq nF nO nL nA nC nV nU nP nE bF bO bL bA bC bV bU bP bE cT cK cO cQ cD pT pK pR pW pU pI pC uO uF uE uN wK jM jN jZ jB ++ R) s.heap.size) (fun _ _ _ => False) _ s 3 18 A = Qm
  have hP : va_P D vwCl (WC ca ad bq nF nO nL nA nC nV nU nP nE bF bO bL bA bC bV bU bP bE cT cK cO cQ cD pT pK pR pW pU pI pC uO uF uE uN wK jM jN jZ jB ++ R) s.heap := hP
  generalize hae : ([.ref (ad 0), .int 28, .int p2, .int p3, .int p4] : List Value).toArray = args at hts hQm ⊢
  refine lv_iload_n hx hb dL_call_0 rfl (lv_at hl 1 rfl) ?_
  refine lv_tableIn (off := 353) (tgt := 354) hx hb dL_call_1 (by decide) (by decide) rfl (by decide) ?_
  refine lv_aload_n hx hb dL_call_354 rfl (lv_at hl 0 rfl) ?_
  refine lv_iload_n hx hb dL_call_355 rfl (lv_at hl 2 rfl) ?_
  obtain ⟨⟨x1, nA_2, nC_3, nU_4, cD_5, uN_6⟩, h7, hf⟩ := bnd hf
  rcases x1 with n8 | r9
  · have hf : (if n8 = 3 then some ((-1001), nA_2, nC_3, nU_4, cD_5, uN_6) else if n8 = 1 then some ((-1002), nA_2, nC_3, nU_4, cD_5, uN_6) else if n8 = 2 then some ((-1003), nA_2, nC_3, nU_4, cD_5, uN_6) else if n8 = 4 then some ((-1004), nA_2, nC_3, nU_4, cD_5, uN_6) else if n8 = 5 then some ((-1005), nA_2, nC_3, nU_4, cD_5, uN_6) else none) = some (ro, onA, onC, onU, ocD, ouN) := hf
    by_cases c10 : n8 = 3
    · subst c10
      have hf := br_pos rfl hf
      refine cw_vi_err (rest := []) (m_C_pass l hst ca ad bq nF nO nL nA nC nV nU nP nE bF bO bL bA bC bV bU bP bE cT cK cO cQ cD pT pK pR pW pU pI pC uO uF uE uN wK jM jN jZ jB R _ p2 (.error 3) nA_2 nC_3 nU_4 cD_5 uN_6 h7) ⟨hx, hb, hml, hown, hts⟩ (cwV 1 hts (gV q843 q844 q845 q24 q846) rfl rfl rfl (by decide +kernel) ⟨Nat.le_of_ble_eq_true rfl, Nat.le_of_ble_eq_true rfl⟩) (va_recv hK hP (ci := 7) (q0 := 0) rfl rfl) hE hP hD hS hA hZ rfl hl.1 rfl (lv_room (Nat.le_of_ble_eq_true rfl)) dL_call_356 ⟨Nat.le_of_ble_eq_true rfl, Nat.le_of_ble_eq_true rfl⟩ (fun H locs q9 ce hP hD hS hce hv9 hcl => ?_)
      refine vx_catch (E := "java/lang/IndexOutOfBoundsException") hown ((tableOf HH).take 28) ⟨354, 359, 393, 122⟩ ((tableOf HH).drop (28 + 1)) (htab.trans (sp_at (n := 28) hh28)) (hp_of [] (by decide +kernel) (fun _ h => absurd h List.not_mem_nil)) (by decide) (by decide) (hts _ q254) (va_Nw.use rfl (hE.2.1 _ n392)) hce hv9 hcl ?_
      refine lv_astore (lv' := [(5, .ref q9), (0, .ref (ad 0)), (1, .int 28), (2, .int p2), (3, .int p3), (4, .int p4)]) hx hb dL_call_393 hl (by decide) rfl (fun ls hl => ?_)
      refine lv_sipush (v := (-1001)) hx hb dL_call_395 (by decide) ?_
      cases hf
      exact endw_i hAe hQm hx hb hr hlocks rfl hP hD hS dL_call_398 (Nat.le_of_ble_eq_true rfl) (Nat.le_of_ble_eq_true rfl)
    have hf := br_neg c10 hf
    by_cases c11 : n8 = 1
    · subst c11
      have hf := br_pos rfl hf
      refine cw_vi_err (rest := []) (m_C_pass l hst ca ad bq nF nO nL nA nC nV nU nP nE bF bO bL bA bC bV bU bP bE cT cK cO cQ cD pT pK pR pW pU pI pC uO uF uE uN wK jM jN jZ jB R _ p2 (.error 1) nA_2 nC_3 nU_4 cD_5 uN_6 h7) ⟨hx, hb, hml, hown, hts⟩ (cwV 1 hts (gV q843 q844 q845 q24 q846) rfl rfl rfl (by decide +kernel) ⟨Nat.le_of_ble_eq_true rfl, Nat.le_of_ble_eq_true rfl⟩) (va_recv hK hP (ci := 7) (q0 := 0) rfl rfl) hE hP hD hS hA hZ rfl hl.1 rfl (lv_room (Nat.le_of_ble_eq_true rfl)) dL_call_356 ⟨Nat.le_of_ble_eq_true rfl, Nat.le_of_ble_eq_true rfl⟩ (fun H locs q9 ce hP hD hS hce hv9 hcl => ?_)
      refine vx_catch (E := "java/lang/IllegalArgumentException") hown ((tableOf HH).take 63) ⟨354, 359, 399, 124⟩ ((tableOf HH).drop (63 + 1)) (htab.trans (sp_at (n := 63) hh63)) (hp_of [(122, "java/lang/IndexOutOfBoundsException")] (by decide +kernel) (List.forall_mem_cons.mpr ⟨⟨hts _ q254, hNC _ nc_1_3⟩, fun _ h => absurd h List.not_mem_nil⟩)) (by decide) (by decide) (hts _ q333) (va_Nw.use rfl (hE.2.1 _ n347)) hce hv9 hcl ?_
      refine lv_astore (lv' := [(5, .ref q9), (0, .ref (ad 0)), (1, .int 28), (2, .int p2), (3, .int p3), (4, .int p4)]) hx hb dL_call_399 hl (by decide) rfl (fun ls hl => ?_)
      refine lv_sipush (v := (-1002)) hx hb dL_call_401 (by decide) ?_
      cases hf
      exact endw_i hAe hQm hx hb hr hlocks rfl hP hD hS dL_call_404 (Nat.le_of_ble_eq_true rfl) (Nat.le_of_ble_eq_true rfl)
    have hf := br_neg c11 hf
    by_cases c12 : n8 = 2
    · subst c12
      have hf := br_pos rfl hf
      refine cw_vi_err (rest := []) (m_C_pass l hst ca ad bq nF nO nL nA nC nV nU nP nE bF bO bL bA bC bV bU bP bE cT cK cO cQ cD pT pK pR pW pU pI pC uO uF uE uN wK jM jN jZ jB R _ p2 (.error 2) nA_2 nC_3 nU_4 cD_5 uN_6 h7) ⟨hx, hb, hml, hown, hts⟩ (cwV 1 hts (gV q843 q844 q845 q24 q846) rfl rfl rfl (by decide +kernel) ⟨Nat.le_of_ble_eq_true rfl, Nat.le_of_ble_eq_true rfl⟩) (va_recv hK hP (ci := 7) (q0 := 0) rfl rfl) hE hP hD hS hA hZ rfl hl.1 rfl (lv_room (Nat.le_of_ble_eq_true rfl)) dL_call_356 ⟨Nat.le_of_ble_eq_true rfl, Nat.le_of_ble_eq_true rfl⟩ (fun H locs q9 ce hP hD hS hce hv9 hcl => ?_)
      refine vx_catch (E := "java/lang/IllegalStateException") hown ((tableOf HH).take 98) ⟨354, 359, 405, 126⟩ ((tableOf HH).drop (98 + 1)) (htab.trans (sp_at (n := 98) hh98)) (hp_of [(122, "java/lang/IndexOutOfBoundsException"), (124, "java/lang/IllegalArgumentException")] (by decide +kernel) (List.forall_mem_cons.mpr ⟨⟨hts _ q254, hNC _ nc_2_3⟩, List.forall_mem_cons.mpr ⟨⟨hts _ q333, hNC _ nc_2_1⟩, fun _ h => absurd h List.not_mem_nil⟩⟩)) (by decide) (by decide) (hts _ q334) (va_Nw.use rfl (hE.2.1 _ n367)) hce hv9 hcl ?_
      refine lv_astore (lv' := [(5, .ref q9), (0, .ref (ad 0)), (1, .int 28), (2, .int p2), (3, .int p3), (4, .int p4)]) hx hb dL_call_405 hl (by decide) rfl (fun ls hl => ?_)
      refine lv_sipush (v := (-1003)) hx hb dL_call_407 (by decide) ?_
      cases hf
      exact endw_i hAe hQm hx hb hr hlocks rfl hP hD hS dL_call_410 (Nat.le_of_ble_eq_true rfl) (Nat.le_of_ble_eq_true rfl)
    have hf := br_neg c12 hf
    by_cases c13 : n8 = 4
    · subst c13
      have hf := br_pos rfl hf
      refine cw_vi_err (rest := []) (m_C_pass l hst ca ad bq nF nO nL nA nC nV nU nP nE bF bO bL bA bC bV bU bP bE cT cK cO cQ cD pT pK pR pW pU pI pC uO uF uE uN wK jM jN jZ jB R _ p2 (.error 4) nA_2 nC_3 nU_4 cD_5 uN_6 h7) ⟨hx, hb, hml, hown, hts⟩ (cwV 1 hts (gV q843 q844 q845 q24 q846) rfl rfl rfl (by decide +kernel) ⟨Nat.le_of_ble_eq_true rfl, Nat.le_of_ble_eq_true rfl⟩) (va_recv hK hP (ci := 7) (q0 := 0) rfl rfl) hE hP hD hS hA hZ rfl hl.1 rfl (lv_room (Nat.le_of_ble_eq_true rfl)) dL_call_356 ⟨Nat.le_of_ble_eq_true rfl, Nat.le_of_ble_eq_true rfl⟩ (fun H locs q9 ce hP hD hS hce hv9 hcl => ?_)
      refine vx_catch (E := "java/lang/UnsupportedOperationException") hown ((tableOf HH).take 133) ⟨354, 359, 411, 128⟩ ((tableOf HH).drop (133 + 1)) (htab.trans (sp_at (n := 133) hh133)) (hp_of [(122, "java/lang/IndexOutOfBoundsException"), (124, "java/lang/IllegalArgumentException"), (126, "java/lang/IllegalStateException")] (by decide +kernel) (List.forall_mem_cons.mpr ⟨⟨hts _ q254, hNC _ nc_4_3⟩, List.forall_mem_cons.mpr ⟨⟨hts _ q333, hNC _ nc_4_1⟩, List.forall_mem_cons.mpr ⟨⟨hts _ q334, hNC _ nc_4_2⟩, fun _ h => absurd h List.not_mem_nil⟩⟩⟩)) (by decide) (by decide) (hts _ q335) (va_Nw.use rfl (hE.2.1 _ n547)) hce hv9 hcl ?_
      refine lv_astore (lv' := [(5, .ref q9), (0, .ref (ad 0)), (1, .int 28), (2, .int p2), (3, .int p3), (4, .int p4)]) hx hb dL_call_411 hl (by decide) rfl (fun ls hl => ?_)
      refine lv_sipush (v := (-1004)) hx hb dL_call_413 (by decide) ?_
      cases hf
      exact endw_i hAe hQm hx hb hr hlocks rfl hP hD hS dL_call_416 (Nat.le_of_ble_eq_true rfl) (Nat.le_of_ble_eq_true rfl)
    have hf := br_neg c13 hf
    by_cases c14 : n8 = 5
    · subst c14
      have hf := br_pos rfl hf
      refine cw_vi_err (rest := []) (m_C_pass l hst ca ad bq nF nO nL nA nC nV nU nP nE bF bO bL bA bC bV bU bP bE cT cK cO cQ cD pT pK pR pW pU pI pC uO uF uE uN wK jM jN jZ jB R _ p2 (.error 5) nA_2 nC_3 nU_4 cD_5 uN_6 h7) ⟨hx, hb, hml, hown, hts⟩ (cwV 1 hts (gV q843 q844 q845 q24 q846) rfl rfl rfl (by decide +kernel) ⟨Nat.le_of_ble_eq_true rfl, Nat.le_of_ble_eq_true rfl⟩) (va_recv hK hP (ci := 7) (q0 := 0) rfl rfl) hE hP hD hS hA hZ rfl hl.1 rfl (lv_room (Nat.le_of_ble_eq_true rfl)) dL_call_356 ⟨Nat.le_of_ble_eq_true rfl, Nat.le_of_ble_eq_true rfl⟩ (fun H locs q9 ce hP hD hS hce hv9 hcl => ?_)
      refine vx_catch (E := "java/util/NoSuchElementException") hown ((tableOf HH).take 168) ⟨354, 359, 417, 130⟩ ((tableOf HH).drop (168 + 1)) (htab.trans (sp_at (n := 168) hh168)) (hp_of [(122, "java/lang/IndexOutOfBoundsException"), (124, "java/lang/IllegalArgumentException"), (126, "java/lang/IllegalStateException"), (128, "java/lang/UnsupportedOperationException")] (by decide +kernel) (List.forall_mem_cons.mpr ⟨⟨hts _ q254, hNC _ nc_5_3⟩, List.forall_mem_cons.mpr ⟨⟨hts _ q333, hNC _ nc_5_1⟩, List.forall_mem_cons.mpr ⟨⟨hts _ q334, hNC _ nc_5_2⟩, List.forall_mem_cons.mpr ⟨⟨hts _ q335, hNC _ nc_5_4⟩, fun _ h => absurd h List.not_mem_nil⟩⟩⟩⟩)) (by decide) (by decide) (hts _ q336) (va_Nw.use rfl (hE.2.1 _ n606)) hce hv9 hcl ?_
      refine lv_astore (lv' := [(5, .ref q9), (0, .ref (ad 0)), (1, .int 28), (2, .int p2), (3, .int p3), (4, .int p4)]) hx hb dL_call_417 hl (by decide) rfl (fun ls hl => ?_)
      refine lv_sipush (v := (-1005)) hx hb dL_call_419 (by decide) ?_
      cases hf
      exact endw_i hAe hQm hx hb hr hlocks rfl hP hD hS dL_call_422 (Nat.le_of_ble_eq_true rfl) (Nat.le_of_ble_eq_true rfl)
    have hf := br_neg c14 hf
    cases hf
  refine cw_vi_ok (rest := []) (m_C_pass l hst ca ad bq nF nO nL nA nC nV nU nP nE bF bO bL bA bC bV bU bP bE cT cK cO cQ cD pT pK pR pW pU pI pC uO uF uE uN wK jM jN jZ jB R _ p2 (.ok r9) nA_2 nC_3 nU_4 cD_5 uN_6 h7) ⟨hx, hb, hml, hown, hts⟩ (cwV 1 hts (gV q843 q844 q845 q24 q846) rfl rfl rfl (by decide +kernel) ⟨Nat.le_of_ble_eq_true rfl, Nat.le_of_ble_eq_true rfl⟩) (va_recv hK hP (ci := 7) (q0 := 0) rfl rfl) hE hP hD hS hA hZ rfl hl.1 rfl (lv_room (Nat.le_of_ble_eq_true rfl)) dL_call_356 ⟨Nat.le_of_ble_eq_true rfl, Nat.le_of_ble_eq_true rfl⟩ (fun H locs hP hD hS => ?_)
  cases hf
  exact endw_i hAe hQm hx hb hr hlocks rfl hP hD hS dL_call_359 (Nat.le_of_ble_eq_true rfl) (Nat.le_of_ble_eq_true rfl)
def f_K29 (nF : Int32) (nO : Nat → Int32) (nL : Nat → Int32) (nA : Nat → Int32) (nC : Nat → Int32) (nV : Nat → Int32) (nU : Nat → Int32) (nP : Nat → Int32) (nE : Int32) (bF : Int32) (bO : Nat → Int32) (bL : Nat → Int32) (bA : Nat → Int32) (bC : Nat → Int32) (bV : Nat → Int32) (bU : Nat → Int32) (bP : Nat → Int32) (bE : Int32) (cT : Int32) : Option (Int32 × Int32 × (Nat → Int32) × (Nat → Int32) × (Nat → Int32) × (Nat → Int32) × (Nat → Int32) × (Nat → Int32) × (Nat → Int32) × Int32 × Int32) :=
  (f_C_begin nF nO nL nA nC nV nU nP nE bF bO bL bA bC bV bU bP bE cT).bind fun (x1, bF_2, bO_3, bL_4, bA_5, bC_6, bV_7, bU_8, bP_9, bE_10, cT_11) =>
  match x1 with
  | .error n13 => if n13 = 3 then some ((-1001), bF_2, bO_3, bL_4, bA_5, bC_6, bV_7, bU_8, bP_9, bE_10, cT_11) else if n13 = 1 then some ((-1002), bF_2, bO_3, bL_4, bA_5, bC_6, bV_7, bU_8, bP_9, bE_10, cT_11) else if n13 = 2 then some ((-1003), bF_2, bO_3, bL_4, bA_5, bC_6, bV_7, bU_8, bP_9, bE_10, cT_11) else if n13 = 4 then some ((-1004), bF_2, bO_3, bL_4, bA_5, bC_6, bV_7, bU_8, bP_9, bE_10, cT_11) else if n13 = 5 then some ((-1005), bF_2, bO_3, bL_4, bA_5, bC_6, bV_7, bU_8, bP_9, bE_10, cT_11) else none
  | .ok r14 =>
  some (r14, bF_2, bO_3, bL_4, bA_5, bC_6, bV_7, bU_8, bP_9, bE_10, cT_11)
set_option maxHeartbeats 4000000 in
set_option maxRecDepth 100000 in
theorem m_K29 (l : Launch) (hst : l.stackTraces = false) {D : va_G} (ca : Nat → ClassId) (ad : Nat → Nat) (bq : Nat) (nF : Int32) (nO : Nat → Int32) (nL : Nat → Int32) (nA : Nat → Int32) (nC : Nat → Int32) (nV : Nat → Int32) (nU : Nat → Int32) (nP : Nat → Int32) (nE : Int32) (bF : Int32) (bO : Nat → Int32) (bL : Nat → Int32) (bA : Nat → Int32) (bC : Nat → Int32) (bV : Nat → Int32) (bU : Nat → Int32) (bP : Nat → Int32) (bE : Int32) (cT : Int32) (cK : Nat → Int32) (cO : Int32) (cQ : Nat → Int32) (cD : Int32) (pT : Int32) (pK : Int32) (pR : Nat → Int32) (pW : Nat → Int32) (pU : Nat → Int32) (pI : Nat → Int32) (pC : Nat → Nat → Int32) (uO : Int32) (uF : Nat → Int32) (uE : Nat → Int32) (uN : Nat → Int32) (wK : Nat → Int32) (jM : Int32) (jN : Int32) (jZ : Nat) (jB : Nat → Int32) (R : va_W) (sz : Nat) (p2 : Int32) (p3 : Int32) (p4 : Int32) (ro : Int32) (obF : Int32) (obO : Nat → Int32) (obL : Nat → Int32) (obA : Nat → Int32) (obC : Nat → Int32) (obV : Nat → Int32) (obU : Nat → Int32) (obP : Nat → Int32) (obE : Int32) (ocT : Int32) (hf : f_K29 nF nO nL nA nC nV nU nP nE bF bO bL bA bC bV bU bP bE cT = some (ro, obF, obO, obL, obA, obC, obV, obU, obP, obE, ocT)) : vx_Met l yL_call (wmW yL_call cL_call 6 (some .int) HH) ({ frames := 8, cells := 1, slots := 6, locals := 130 } : Room) (PREL [.ref (ad 0), .int 29, .int p2, .int p3, .int p4] D ca SL0 (WC ca ad bq nF nO nL nA nC nV nU nP nE bF bO bL bA bC bV bU bP bE cT cK cO cQ cD pT pK pR pW pU pI pC uO uF uE uN wK jM jN jZ jB ++ R) sz) (QI ro D (WC ca ad bq nF nO nL nA nC nV nU nP nE obF obO obL obA obC obV obU obP obE ocT cK cO cQ cD pT pK pR pW pU pI pC uO uF uE uN wK jM jN jZ jB ++ R) (WC ca ad bq nF nO nL nA nC nV nU nP nE bF bO bL bA bC bV bU bP bE cT cK cO cQ cD pT pK pR pW pU pI pC uO uF uE uN wK jM jN jZ jB ++ R) sz) (fun _ _ _ => False) 1 6 (va_A (WC ca ad bq nF nO nL nA nC nV nU nP nE bF bO bL bA bC bV bU bP bE cT cK cO cQ cD pT pK pR pW pU pI pC uO uF uE uN wK jM jN jZ jB ++ R) sz) := by
  refine vx_ofWH (cc := cL_call) (maxL := 6) (ret := (some .int)) (hh := HH) (by decide) rfl ?_
  intro p e s m args below meth c s₁ B hml hv
  obtain ⟨rfl, rfl, hP, hE, hD0, hZ, hNC⟩ := hv
  have hx := B.exec
  have hb := B.bytes
  have hr := B.returns
  have hts0 := atoms_spec (ws := wmW yL_call cL_call 6 (some .int) HH) B.pre
  have hts := wmW_ww hts0
  have htab := vx_table (x := yL_call) B (hts0 _ List.mem_cons_self)
  have hown : s.vm.findClass RL = some m.cls := findClass_of_methodNamed B.named
  have hlocks := B.notSynchronized
  have hK := hE.1
  have hD := hD0.self (sz := s.heap.size)
  generalize hAe : va_A (WC ca ad bq nF nO nL nA nC nV nU nP nE bF bO bL bA bC bV bU bP bE cT cK cO cQ cD pT pK pR pW pU pI pC uO uF uE uN wK jM jN jZ jB ++ R) s.heap.size = A at hD hZ ⊢
  have hA : ∀ q : Nat, s.heap.size ≤ q → A q := fun q h => by rw [← hAe]; exact Or.inr h
  have hS : va_S A s.heap s.heap [] := va_S.rf
  have hl := lv_entry ([.ref (ad 0), .int 29, .int p2, .int p3, .int p4]) (n := 6) (Nat.le_of_ble_eq_true rfl)
  rw [lg_entry_eq]
  generalize (lg_sl ([.ref (ad 0), .int 29, .int p2, .int p3, .int p4]) ++ List.replicate (6 - (lg_sl ([.ref (ad 0), .int 29, .int p2, .int p3, .int p4])).length) Slot.unset).toArray = ls at hl ⊢
  have hl : lv_has ls 6 [(0, .ref (ad 0)), (1, .int 29), (2, .int p2), (3, .int p3), (4, .int p4)] := hl
  change W p l e ({ frames := 8, cells := 1, slots := 6, locals := 130 } : Room) s m _ below meth c s.heap [] 0 0 _ _
  generalize hQm : vx_MQ below (QI ro D (WC ca ad bq nF nO nL nA nC nV nU nP nE obF obO obL obA obC obV obU obP obE ocT cK cO cQ cD pT pK pR pW pU pI pC uO uF uE uN wK jM jN jZ jB ++ R) (WC ca ad bq nF nO nL nA nC nV nU nP nE bF bO bL bA bC bV bU bP bE cT cK cO cQ cD pT pK pR pW pU pI pC uO uF uE uN wK jM jN jZ jB ++ R) s.heap.size) (fun _ _ _ => False) _ s 1 6 A = Qm
  have hP : va_P D vwCl (WC ca ad bq nF nO nL nA nC nV nU nP nE bF bO bL bA bC bV bU bP bE cT cK cO cQ cD pT pK pR pW pU pI pC uO uF uE uN wK jM jN jZ jB ++ R) s.heap := hP
  generalize hae : ([.ref (ad 0), .int 29, .int p2, .int p3, .int p4] : List Value).toArray = args at hts hQm ⊢
  refine lv_iload_n hx hb dL_call_0 rfl (lv_at hl 1 rfl) ?_
  refine lv_tableIn (off := 359) (tgt := 360) hx hb dL_call_1 (by decide) (by decide) rfl (by decide) ?_
  refine lv_aload_n hx hb dL_call_360 rfl (lv_at hl 0 rfl) ?_
  obtain ⟨⟨x1, bF_2, bO_3, bL_4, bA_5, bC_6, bV_7, bU_8, bP_9, bE_10, cT_11⟩, h12, hf⟩ := bnd hf
  rcases x1 with n13 | r14
  · have hf : (if n13 = 3 then some ((-1001), bF_2, bO_3, bL_4, bA_5, bC_6, bV_7, bU_8, bP_9, bE_10, cT_11) else if n13 = 1 then some ((-1002), bF_2, bO_3, bL_4, bA_5, bC_6, bV_7, bU_8, bP_9, bE_10, cT_11) else if n13 = 2 then some ((-1003), bF_2, bO_3, bL_4, bA_5, bC_6, bV_7, bU_8, bP_9, bE_10, cT_11) else if n13 = 4 then some ((-1004), bF_2, bO_3, bL_4, bA_5, bC_6, bV_7, bU_8, bP_9, bE_10, cT_11) else if n13 = 5 then some ((-1005), bF_2, bO_3, bL_4, bA_5, bC_6, bV_7, bU_8, bP_9, bE_10, cT_11) else none) = some (ro, obF, obO, obL, obA, obC, obV, obU, obP, obE, ocT) := hf
    by_cases c15 : n13 = 3
    · subst c15
      have hf := br_pos rfl hf
      refine cw_vi_err (rest := []) (m_C_begin l hst ca ad bq nF nO nL nA nC nV nU nP nE bF bO bL bA bC bV bU bP bE cT cK cO cQ cD pT pK pR pW pU pI pC uO uF uE uN wK jM jN jZ jB R _ (.error 3) bF_2 bO_3 bL_4 bA_5 bC_6 bV_7 bU_8 bP_9 bE_10 cT_11 h12) ⟨hx, hb, hml, hown, hts⟩ (cwV 0 hts (gV q849 q850 q851 q24 q852) rfl rfl rfl (by decide +kernel) ⟨Nat.le_of_ble_eq_true rfl, Nat.le_of_ble_eq_true rfl⟩) (va_recv hK hP (ci := 7) (q0 := 0) rfl rfl) hE hP hD hS hA hZ rfl hl.1 rfl (lv_room (Nat.le_of_ble_eq_true rfl)) dL_call_361 ⟨Nat.le_of_ble_eq_true rfl, Nat.le_of_ble_eq_true rfl⟩ (fun H locs q9 ce hP hD hS hce hv9 hcl => ?_)
      refine vx_catch (E := "java/lang/IndexOutOfBoundsException") hown ((tableOf HH).take 29) ⟨360, 364, 393, 122⟩ ((tableOf HH).drop (29 + 1)) (htab.trans (sp_at (n := 29) hh29)) (hp_of [] (by decide +kernel) (fun _ h => absurd h List.not_mem_nil)) (by decide) (by decide) (hts _ q254) (va_Nw.use rfl (hE.2.1 _ n392)) hce hv9 hcl ?_
      refine lv_astore (lv' := [(5, .ref q9), (0, .ref (ad 0)), (1, .int 29), (2, .int p2), (3, .int p3), (4, .int p4)]) hx hb dL_call_393 hl (by decide) rfl (fun ls hl => ?_)
      refine lv_sipush (v := (-1001)) hx hb dL_call_395 (by decide) ?_
      cases hf
      exact endw_i hAe hQm hx hb hr hlocks rfl hP hD hS dL_call_398 (Nat.le_of_ble_eq_true rfl) (Nat.le_of_ble_eq_true rfl)
    have hf := br_neg c15 hf
    by_cases c16 : n13 = 1
    · subst c16
      have hf := br_pos rfl hf
      refine cw_vi_err (rest := []) (m_C_begin l hst ca ad bq nF nO nL nA nC nV nU nP nE bF bO bL bA bC bV bU bP bE cT cK cO cQ cD pT pK pR pW pU pI pC uO uF uE uN wK jM jN jZ jB R _ (.error 1) bF_2 bO_3 bL_4 bA_5 bC_6 bV_7 bU_8 bP_9 bE_10 cT_11 h12) ⟨hx, hb, hml, hown, hts⟩ (cwV 0 hts (gV q849 q850 q851 q24 q852) rfl rfl rfl (by decide +kernel) ⟨Nat.le_of_ble_eq_true rfl, Nat.le_of_ble_eq_true rfl⟩) (va_recv hK hP (ci := 7) (q0 := 0) rfl rfl) hE hP hD hS hA hZ rfl hl.1 rfl (lv_room (Nat.le_of_ble_eq_true rfl)) dL_call_361 ⟨Nat.le_of_ble_eq_true rfl, Nat.le_of_ble_eq_true rfl⟩ (fun H locs q9 ce hP hD hS hce hv9 hcl => ?_)
      refine vx_catch (E := "java/lang/IllegalArgumentException") hown ((tableOf HH).take 64) ⟨360, 364, 399, 124⟩ ((tableOf HH).drop (64 + 1)) (htab.trans (sp_at (n := 64) hh64)) (hp_of [(122, "java/lang/IndexOutOfBoundsException")] (by decide +kernel) (List.forall_mem_cons.mpr ⟨⟨hts _ q254, hNC _ nc_1_3⟩, fun _ h => absurd h List.not_mem_nil⟩)) (by decide) (by decide) (hts _ q333) (va_Nw.use rfl (hE.2.1 _ n347)) hce hv9 hcl ?_
      refine lv_astore (lv' := [(5, .ref q9), (0, .ref (ad 0)), (1, .int 29), (2, .int p2), (3, .int p3), (4, .int p4)]) hx hb dL_call_399 hl (by decide) rfl (fun ls hl => ?_)
      refine lv_sipush (v := (-1002)) hx hb dL_call_401 (by decide) ?_
      cases hf
      exact endw_i hAe hQm hx hb hr hlocks rfl hP hD hS dL_call_404 (Nat.le_of_ble_eq_true rfl) (Nat.le_of_ble_eq_true rfl)
    have hf := br_neg c16 hf
    by_cases c17 : n13 = 2
    · subst c17
      have hf := br_pos rfl hf
      refine cw_vi_err (rest := []) (m_C_begin l hst ca ad bq nF nO nL nA nC nV nU nP nE bF bO bL bA bC bV bU bP bE cT cK cO cQ cD pT pK pR pW pU pI pC uO uF uE uN wK jM jN jZ jB R _ (.error 2) bF_2 bO_3 bL_4 bA_5 bC_6 bV_7 bU_8 bP_9 bE_10 cT_11 h12) ⟨hx, hb, hml, hown, hts⟩ (cwV 0 hts (gV q849 q850 q851 q24 q852) rfl rfl rfl (by decide +kernel) ⟨Nat.le_of_ble_eq_true rfl, Nat.le_of_ble_eq_true rfl⟩) (va_recv hK hP (ci := 7) (q0 := 0) rfl rfl) hE hP hD hS hA hZ rfl hl.1 rfl (lv_room (Nat.le_of_ble_eq_true rfl)) dL_call_361 ⟨Nat.le_of_ble_eq_true rfl, Nat.le_of_ble_eq_true rfl⟩ (fun H locs q9 ce hP hD hS hce hv9 hcl => ?_)
      refine vx_catch (E := "java/lang/IllegalStateException") hown ((tableOf HH).take 99) ⟨360, 364, 405, 126⟩ ((tableOf HH).drop (99 + 1)) (htab.trans (sp_at (n := 99) hh99)) (hp_of [(122, "java/lang/IndexOutOfBoundsException"), (124, "java/lang/IllegalArgumentException")] (by decide +kernel) (List.forall_mem_cons.mpr ⟨⟨hts _ q254, hNC _ nc_2_3⟩, List.forall_mem_cons.mpr ⟨⟨hts _ q333, hNC _ nc_2_1⟩, fun _ h => absurd h List.not_mem_nil⟩⟩)) (by decide) (by decide) (hts _ q334) (va_Nw.use rfl (hE.2.1 _ n367)) hce hv9 hcl ?_
      refine lv_astore (lv' := [(5, .ref q9), (0, .ref (ad 0)), (1, .int 29), (2, .int p2), (3, .int p3), (4, .int p4)]) hx hb dL_call_405 hl (by decide) rfl (fun ls hl => ?_)
      refine lv_sipush (v := (-1003)) hx hb dL_call_407 (by decide) ?_
      cases hf
      exact endw_i hAe hQm hx hb hr hlocks rfl hP hD hS dL_call_410 (Nat.le_of_ble_eq_true rfl) (Nat.le_of_ble_eq_true rfl)
    have hf := br_neg c17 hf
    by_cases c18 : n13 = 4
    · subst c18
      have hf := br_pos rfl hf
      refine cw_vi_err (rest := []) (m_C_begin l hst ca ad bq nF nO nL nA nC nV nU nP nE bF bO bL bA bC bV bU bP bE cT cK cO cQ cD pT pK pR pW pU pI pC uO uF uE uN wK jM jN jZ jB R _ (.error 4) bF_2 bO_3 bL_4 bA_5 bC_6 bV_7 bU_8 bP_9 bE_10 cT_11 h12) ⟨hx, hb, hml, hown, hts⟩ (cwV 0 hts (gV q849 q850 q851 q24 q852) rfl rfl rfl (by decide +kernel) ⟨Nat.le_of_ble_eq_true rfl, Nat.le_of_ble_eq_true rfl⟩) (va_recv hK hP (ci := 7) (q0 := 0) rfl rfl) hE hP hD hS hA hZ rfl hl.1 rfl (lv_room (Nat.le_of_ble_eq_true rfl)) dL_call_361 ⟨Nat.le_of_ble_eq_true rfl, Nat.le_of_ble_eq_true rfl⟩ (fun H locs q9 ce hP hD hS hce hv9 hcl => ?_)
      refine vx_catch (E := "java/lang/UnsupportedOperationException") hown ((tableOf HH).take 134) ⟨360, 364, 411, 128⟩ ((tableOf HH).drop (134 + 1)) (htab.trans (sp_at (n := 134) hh134)) (hp_of [(122, "java/lang/IndexOutOfBoundsException"), (124, "java/lang/IllegalArgumentException"), (126, "java/lang/IllegalStateException")] (by decide +kernel) (List.forall_mem_cons.mpr ⟨⟨hts _ q254, hNC _ nc_4_3⟩, List.forall_mem_cons.mpr ⟨⟨hts _ q333, hNC _ nc_4_1⟩, List.forall_mem_cons.mpr ⟨⟨hts _ q334, hNC _ nc_4_2⟩, fun _ h => absurd h List.not_mem_nil⟩⟩⟩)) (by decide) (by decide) (hts _ q335) (va_Nw.use rfl (hE.2.1 _ n547)) hce hv9 hcl ?_
      refine lv_astore (lv' := [(5, .ref q9), (0, .ref (ad 0)), (1, .int 29), (2, .int p2), (3, .int p3), (4, .int p4)]) hx hb dL_call_411 hl (by decide) rfl (fun ls hl => ?_)
      refine lv_sipush (v := (-1004)) hx hb dL_call_413 (by decide) ?_
      cases hf
      exact endw_i hAe hQm hx hb hr hlocks rfl hP hD hS dL_call_416 (Nat.le_of_ble_eq_true rfl) (Nat.le_of_ble_eq_true rfl)
    have hf := br_neg c18 hf
    by_cases c19 : n13 = 5
    · subst c19
      have hf := br_pos rfl hf
      refine cw_vi_err (rest := []) (m_C_begin l hst ca ad bq nF nO nL nA nC nV nU nP nE bF bO bL bA bC bV bU bP bE cT cK cO cQ cD pT pK pR pW pU pI pC uO uF uE uN wK jM jN jZ jB R _ (.error 5) bF_2 bO_3 bL_4 bA_5 bC_6 bV_7 bU_8 bP_9 bE_10 cT_11 h12) ⟨hx, hb, hml, hown, hts⟩ (cwV 0 hts (gV q849 q850 q851 q24 q852) rfl rfl rfl (by decide +kernel) ⟨Nat.le_of_ble_eq_true rfl, Nat.le_of_ble_eq_true rfl⟩) (va_recv hK hP (ci := 7) (q0 := 0) rfl rfl) hE hP hD hS hA hZ rfl hl.1 rfl (lv_room (Nat.le_of_ble_eq_true rfl)) dL_call_361 ⟨Nat.le_of_ble_eq_true rfl, Nat.le_of_ble_eq_true rfl⟩ (fun H locs q9 ce hP hD hS hce hv9 hcl => ?_)
      refine vx_catch (E := "java/util/NoSuchElementException") hown ((tableOf HH).take 169) ⟨360, 364, 417, 130⟩ ((tableOf HH).drop (169 + 1)) (htab.trans (sp_at (n := 169) hh169)) (hp_of [(122, "java/lang/IndexOutOfBoundsException"), (124, "java/lang/IllegalArgumentException"), (126, "java/lang/IllegalStateException"), (128, "java/lang/UnsupportedOperationException")] (by decide +kernel) (List.forall_mem_cons.mpr ⟨⟨hts _ q254, hNC _ nc_5_3⟩, List.forall_mem_cons.mpr ⟨⟨hts _ q333, hNC _ nc_5_1⟩, List.forall_mem_cons.mpr ⟨⟨hts _ q334, hNC _ nc_5_2⟩, List.forall_mem_cons.mpr ⟨⟨hts _ q335, hNC _ nc_5_4⟩, fun _ h => absurd h List.not_mem_nil⟩⟩⟩⟩)) (by decide) (by decide) (hts _ q336) (va_Nw.use rfl (hE.2.1 _ n606)) hce hv9 hcl ?_
      refine lv_astore (lv' := [(5, .ref q9), (0, .ref (ad 0)), (1, .int 29), (2, .int p2), (3, .int p3), (4, .int p4)]) hx hb dL_call_417 hl (by decide) rfl (fun ls hl => ?_)
      refine lv_sipush (v := (-1005)) hx hb dL_call_419 (by decide) ?_
      cases hf
      exact endw_i hAe hQm hx hb hr hlocks rfl hP hD hS dL_call_422 (Nat.le_of_ble_eq_true rfl) (Nat.le_of_ble_eq_true rfl)
    have hf := br_neg c19 hf
    cases hf
  refine cw_vi_ok (rest := []) (m_C_begin l hst ca ad bq nF nO nL nA nC nV nU nP nE bF bO bL bA bC bV bU bP bE cT cK cO cQ cD pT pK pR pW pU pI pC uO uF uE uN wK jM jN jZ jB R _ (.ok r14) bF_2 bO_3 bL_4 bA_5 bC_6 bV_7 bU_8 bP_9 bE_10 cT_11 h12) ⟨hx, hb, hml, hown, hts⟩ (cwV 0 hts (gV q849 q850 q851 q24 q852) rfl rfl rfl (by decide +kernel) ⟨Nat.le_of_ble_eq_true rfl, Nat.le_of_ble_eq_true rfl⟩) (va_recv hK hP (ci := 7) (q0 := 0) rfl rfl) hE hP hD hS hA hZ rfl hl.1 rfl (lv_room (Nat.le_of_ble_eq_true rfl)) dL_call_361 ⟨Nat.le_of_ble_eq_true rfl, Nat.le_of_ble_eq_true rfl⟩ (fun H locs hP hD hS => ?_)
  cases hf
  exact endw_i hAe hQm hx hb hr hlocks rfl hP hD hS dL_call_364 (Nat.le_of_ble_eq_true rfl) (Nat.le_of_ble_eq_true rfl)
def f_K30 (nE : Int32) (bE : Int32) (cT : Int32) : Option (Int32 × Int32) :=
  (f_C_commit nE bE cT).bind fun (x1, cT_2) =>
  match x1 with
  | .error n4 => if n4 = 3 then some ((-1001), cT_2) else if n4 = 1 then some ((-1002), cT_2) else if n4 = 2 then some ((-1003), cT_2) else if n4 = 4 then some ((-1004), cT_2) else if n4 = 5 then some ((-1005), cT_2) else none
  | .ok r5 =>
  some (r5, cT_2)
set_option maxHeartbeats 4000000 in
set_option maxRecDepth 100000 in
theorem m_K30 (l : Launch) (hst : l.stackTraces = false) {D : va_G} (ca : Nat → ClassId) (ad : Nat → Nat) (bq : Nat) (nF : Int32) (nO : Nat → Int32) (nL : Nat → Int32) (nA : Nat → Int32) (nC : Nat → Int32) (nV : Nat → Int32) (nU : Nat → Int32) (nP : Nat → Int32) (nE : Int32) (bF : Int32) (bO : Nat → Int32) (bL : Nat → Int32) (bA : Nat → Int32) (bC : Nat → Int32) (bV : Nat → Int32) (bU : Nat → Int32) (bP : Nat → Int32) (bE : Int32) (cT : Int32) (cK : Nat → Int32) (cO : Int32) (cQ : Nat → Int32) (cD : Int32) (pT : Int32) (pK : Int32) (pR : Nat → Int32) (pW : Nat → Int32) (pU : Nat → Int32) (pI : Nat → Int32) (pC : Nat → Nat → Int32) (uO : Int32) (uF : Nat → Int32) (uE : Nat → Int32) (uN : Nat → Int32) (wK : Nat → Int32) (jM : Int32) (jN : Int32) (jZ : Nat) (jB : Nat → Int32) (R : va_W) (sz : Nat) (p2 : Int32) (p3 : Int32) (p4 : Int32) (ro : Int32) (ocT : Int32) (hf : f_K30 nE bE cT = some (ro, ocT)) : vx_Met l yL_call (wmW yL_call cL_call 6 (some .int) HH) ({ frames := 7, cells := 1, slots := 6, locals := 110 } : Room) (PREL [.ref (ad 0), .int 30, .int p2, .int p3, .int p4] D ca SL0 (WC ca ad bq nF nO nL nA nC nV nU nP nE bF bO bL bA bC bV bU bP bE cT cK cO cQ cD pT pK pR pW pU pI pC uO uF uE uN wK jM jN jZ jB ++ R) sz) (QI ro D (WC ca ad bq nF nO nL nA nC nV nU nP nE bF bO bL bA bC bV bU bP bE ocT cK cO cQ cD pT pK pR pW pU pI pC uO uF uE uN wK jM jN jZ jB ++ R) (WC ca ad bq nF nO nL nA nC nV nU nP nE bF bO bL bA bC bV bU bP bE cT cK cO cQ cD pT pK pR pW pU pI pC uO uF uE uN wK jM jN jZ jB ++ R) sz) (fun _ _ _ => False) 1 6 (va_A (WC ca ad bq nF nO nL nA nC nV nU nP nE bF bO bL bA bC bV bU bP bE cT cK cO cQ cD pT pK pR pW pU pI pC uO uF uE uN wK jM jN jZ jB ++ R) sz) := by
  refine vx_ofWH (cc := cL_call) (maxL := 6) (ret := (some .int)) (hh := HH) (by decide) rfl ?_
  intro p e s m args below meth c s₁ B hml hv
  obtain ⟨rfl, rfl, hP, hE, hD0, hZ, hNC⟩ := hv
  have hx := B.exec
  have hb := B.bytes
  have hr := B.returns
  have hts0 := atoms_spec (ws := wmW yL_call cL_call 6 (some .int) HH) B.pre
  have hts := wmW_ww hts0
  have htab := vx_table (x := yL_call) B (hts0 _ List.mem_cons_self)
  have hown : s.vm.findClass RL = some m.cls := findClass_of_methodNamed B.named
  have hlocks := B.notSynchronized
  have hK := hE.1
  have hD := hD0.self (sz := s.heap.size)
  generalize hAe : va_A (WC ca ad bq nF nO nL nA nC nV nU nP nE bF bO bL bA bC bV bU bP bE cT cK cO cQ cD pT pK pR pW pU pI pC uO uF uE uN wK jM jN jZ jB ++ R) s.heap.size = A at hD hZ ⊢
  have hA : ∀ q : Nat, s.heap.size ≤ q → A q := fun q h => by rw [← hAe]; exact Or.inr h
  have hS : va_S A s.heap s.heap [] := va_S.rf
  have hl := lv_entry ([.ref (ad 0), .int 30, .int p2, .int p3, .int p4]) (n := 6) (Nat.le_of_ble_eq_true rfl)
  rw [lg_entry_eq]
  generalize (lg_sl ([.ref (ad 0), .int 30, .int p2, .int p3, .int p4]) ++ List.replicate (6 - (lg_sl ([.ref (ad 0), .int 30, .int p2, .int p3, .int p4])).length) Slot.unset).toArray = ls at hl ⊢
  have hl : lv_has ls 6 [(0, .ref (ad 0)), (1, .int 30), (2, .int p2), (3, .int p3), (4, .int p4)] := hl
  change W p l e ({ frames := 7, cells := 1, slots := 6, locals := 110 } : Room) s m _ below meth c s.heap [] 0 0 _ _
  generalize hQm : vx_MQ below (QI ro D (WC ca ad bq nF nO nL nA nC nV nU nP nE bF bO bL bA bC bV bU bP bE ocT cK cO cQ cD pT pK pR pW pU pI pC uO uF uE uN wK jM jN jZ jB ++ R) (WC ca ad bq nF nO nL nA nC nV nU nP nE bF bO bL bA bC bV bU bP bE cT cK cO cQ cD pT pK pR pW pU pI pC uO uF uE uN wK jM jN jZ jB ++ R) s.heap.size) (fun _ _ _ => False) _ s 1 6 A = Qm
  have hP : va_P D vwCl (WC ca ad bq nF nO nL nA nC nV nU nP nE bF bO bL bA bC bV bU bP bE cT cK cO cQ cD pT pK pR pW pU pI pC uO uF uE uN wK jM jN jZ jB ++ R) s.heap := hP
  generalize hae : ([.ref (ad 0), .int 30, .int p2, .int p3, .int p4] : List Value).toArray = args at hts hQm ⊢
  refine lv_iload_n hx hb dL_call_0 rfl (lv_at hl 1 rfl) ?_
  refine lv_tableIn (off := 364) (tgt := 365) hx hb dL_call_1 (by decide) (by decide) rfl (by decide) ?_
  refine lv_aload_n hx hb dL_call_365 rfl (lv_at hl 0 rfl) ?_
  obtain ⟨⟨x1, cT_2⟩, h3, hf⟩ := bnd hf
  rcases x1 with n4 | r5
  · have hf : (if n4 = 3 then some ((-1001), cT_2) else if n4 = 1 then some ((-1002), cT_2) else if n4 = 2 then some ((-1003), cT_2) else if n4 = 4 then some ((-1004), cT_2) else if n4 = 5 then some ((-1005), cT_2) else none) = some (ro, ocT) := hf
    by_cases c6 : n4 = 3
    · subst c6
      have hf := br_pos rfl hf
      refine cw_vi_err (rest := []) (m_C_commit l hst ca ad bq nF nO nL nA nC nV nU nP nE bF bO bL bA bC bV bU bP bE cT cK cO cQ cD pT pK pR pW pU pI pC uO uF uE uN wK jM jN jZ jB R _ (.error 3) cT_2 h3) ⟨hx, hb, hml, hown, hts⟩ (cwV 0 hts (gV q853 q854 q855 q24 q856) rfl rfl rfl (by decide +kernel) ⟨Nat.le_of_ble_eq_true rfl, Nat.le_of_ble_eq_true rfl⟩) (va_recv hK hP (ci := 7) (q0 := 0) rfl rfl) hE hP hD hS hA hZ rfl hl.1 rfl (lv_room (Nat.le_of_ble_eq_true rfl)) dL_call_366 ⟨Nat.le_of_ble_eq_true rfl, Nat.le_of_ble_eq_true rfl⟩ (fun H locs q9 ce hP hD hS hce hv9 hcl => ?_)
      refine vx_catch (E := "java/lang/IndexOutOfBoundsException") hown ((tableOf HH).take 30) ⟨365, 369, 393, 122⟩ ((tableOf HH).drop (30 + 1)) (htab.trans (sp_at (n := 30) hh30)) (hp_of [] (by decide +kernel) (fun _ h => absurd h List.not_mem_nil)) (by decide) (by decide) (hts _ q254) (va_Nw.use rfl (hE.2.1 _ n392)) hce hv9 hcl ?_
      refine lv_astore (lv' := [(5, .ref q9), (0, .ref (ad 0)), (1, .int 30), (2, .int p2), (3, .int p3), (4, .int p4)]) hx hb dL_call_393 hl (by decide) rfl (fun ls hl => ?_)
      refine lv_sipush (v := (-1001)) hx hb dL_call_395 (by decide) ?_
      cases hf
      exact endw_i hAe hQm hx hb hr hlocks rfl hP hD hS dL_call_398 (Nat.le_of_ble_eq_true rfl) (Nat.le_of_ble_eq_true rfl)
    have hf := br_neg c6 hf
    by_cases c7 : n4 = 1
    · subst c7
      have hf := br_pos rfl hf
      refine cw_vi_err (rest := []) (m_C_commit l hst ca ad bq nF nO nL nA nC nV nU nP nE bF bO bL bA bC bV bU bP bE cT cK cO cQ cD pT pK pR pW pU pI pC uO uF uE uN wK jM jN jZ jB R _ (.error 1) cT_2 h3) ⟨hx, hb, hml, hown, hts⟩ (cwV 0 hts (gV q853 q854 q855 q24 q856) rfl rfl rfl (by decide +kernel) ⟨Nat.le_of_ble_eq_true rfl, Nat.le_of_ble_eq_true rfl⟩) (va_recv hK hP (ci := 7) (q0 := 0) rfl rfl) hE hP hD hS hA hZ rfl hl.1 rfl (lv_room (Nat.le_of_ble_eq_true rfl)) dL_call_366 ⟨Nat.le_of_ble_eq_true rfl, Nat.le_of_ble_eq_true rfl⟩ (fun H locs q9 ce hP hD hS hce hv9 hcl => ?_)
      refine vx_catch (E := "java/lang/IllegalArgumentException") hown ((tableOf HH).take 65) ⟨365, 369, 399, 124⟩ ((tableOf HH).drop (65 + 1)) (htab.trans (sp_at (n := 65) hh65)) (hp_of [(122, "java/lang/IndexOutOfBoundsException")] (by decide +kernel) (List.forall_mem_cons.mpr ⟨⟨hts _ q254, hNC _ nc_1_3⟩, fun _ h => absurd h List.not_mem_nil⟩)) (by decide) (by decide) (hts _ q333) (va_Nw.use rfl (hE.2.1 _ n347)) hce hv9 hcl ?_
      refine lv_astore (lv' := [(5, .ref q9), (0, .ref (ad 0)), (1, .int 30), (2, .int p2), (3, .int p3), (4, .int p4)]) hx hb dL_call_399 hl (by decide) rfl (fun ls hl => ?_)
      refine lv_sipush (v := (-1002)) hx hb dL_call_401 (by decide) ?_
      cases hf
      exact endw_i hAe hQm hx hb hr hlocks rfl hP hD hS dL_call_404 (Nat.le_of_ble_eq_true rfl) (Nat.le_of_ble_eq_true rfl)
    have hf := br_neg c7 hf
    by_cases c8 : n4 = 2
    · subst c8
      have hf := br_pos rfl hf
      refine cw_vi_err (rest := []) (m_C_commit l hst ca ad bq nF nO nL nA nC nV nU nP nE bF bO bL bA bC bV bU bP bE cT cK cO cQ cD pT pK pR pW pU pI pC uO uF uE uN wK jM jN jZ jB R _ (.error 2) cT_2 h3) ⟨hx, hb, hml, hown, hts⟩ (cwV 0 hts (gV q853 q854 q855 q24 q856) rfl rfl rfl (by decide +kernel) ⟨Nat.le_of_ble_eq_true rfl, Nat.le_of_ble_eq_true rfl⟩) (va_recv hK hP (ci := 7) (q0 := 0) rfl rfl) hE hP hD hS hA hZ rfl hl.1 rfl (lv_room (Nat.le_of_ble_eq_true rfl)) dL_call_366 ⟨Nat.le_of_ble_eq_true rfl, Nat.le_of_ble_eq_true rfl⟩ (fun H locs q9 ce hP hD hS hce hv9 hcl => ?_)
      refine vx_catch (E := "java/lang/IllegalStateException") hown ((tableOf HH).take 100) ⟨365, 369, 405, 126⟩ ((tableOf HH).drop (100 + 1)) (htab.trans (sp_at (n := 100) hh100)) (hp_of [(122, "java/lang/IndexOutOfBoundsException"), (124, "java/lang/IllegalArgumentException")] (by decide +kernel) (List.forall_mem_cons.mpr ⟨⟨hts _ q254, hNC _ nc_2_3⟩, List.forall_mem_cons.mpr ⟨⟨hts _ q333, hNC _ nc_2_1⟩, fun _ h => absurd h List.not_mem_nil⟩⟩)) (by decide) (by decide) (hts _ q334) (va_Nw.use rfl (hE.2.1 _ n367)) hce hv9 hcl ?_
      refine lv_astore (lv' := [(5, .ref q9), (0, .ref (ad 0)), (1, .int 30), (2, .int p2), (3, .int p3), (4, .int p4)]) hx hb dL_call_405 hl (by decide) rfl (fun ls hl => ?_)
      refine lv_sipush (v := (-1003)) hx hb dL_call_407 (by decide) ?_
      cases hf
      exact endw_i hAe hQm hx hb hr hlocks rfl hP hD hS dL_call_410 (Nat.le_of_ble_eq_true rfl) (Nat.le_of_ble_eq_true rfl)
    have hf := br_neg c8 hf
    by_cases c9 : n4 = 4
    · subst c9
      have hf := br_pos rfl hf
      refine cw_vi_err (rest := []) (m_C_commit l hst ca ad bq nF nO nL nA nC nV nU nP nE bF bO bL bA bC bV bU bP bE cT cK cO cQ cD pT pK pR pW pU pI pC uO uF uE uN wK jM jN jZ jB R _ (.error 4) cT_2 h3) ⟨hx, hb, hml, hown, hts⟩ (cwV 0 hts (gV q853 q854 q855 q24 q856) rfl rfl rfl (by decide +kernel) ⟨Nat.le_of_ble_eq_true rfl, Nat.le_of_ble_eq_true rfl⟩) (va_recv hK hP (ci := 7) (q0 := 0) rfl rfl) hE hP hD hS hA hZ rfl hl.1 rfl (lv_room (Nat.le_of_ble_eq_true rfl)) dL_call_366 ⟨Nat.le_of_ble_eq_true rfl, Nat.le_of_ble_eq_true rfl⟩ (fun H locs q9 ce hP hD hS hce hv9 hcl => ?_)
      refine vx_catch (E := "java/lang/UnsupportedOperationException") hown ((tableOf HH).take 135) ⟨365, 369, 411, 128⟩ ((tableOf HH).drop (135 + 1)) (htab.trans (sp_at (n := 135) hh135)) (hp_of [(122, "java/lang/IndexOutOfBoundsException"), (124, "java/lang/IllegalArgumentException"), (126, "java/lang/IllegalStateException")] (by decide +kernel) (List.forall_mem_cons.mpr ⟨⟨hts _ q254, hNC _ nc_4_3⟩, List.forall_mem_cons.mpr ⟨⟨hts _ q333, hNC _ nc_4_1⟩, List.forall_mem_cons.mpr ⟨⟨hts _ q334, hNC _ nc_4_2⟩, fun _ h => absurd h List.not_mem_nil⟩⟩⟩)) (by decide) (by decide) (hts _ q335) (va_Nw.use rfl (hE.2.1 _ n547)) hce hv9 hcl ?_
      refine lv_astore (lv' := [(5, .ref q9), (0, .ref (ad 0)), (1, .int 30), (2, .int p2), (3, .int p3), (4, .int p4)]) hx hb dL_call_411 hl (by decide) rfl (fun ls hl => ?_)
      refine lv_sipush (v := (-1004)) hx hb dL_call_413 (by decide) ?_
      cases hf
      exact endw_i hAe hQm hx hb hr hlocks rfl hP hD hS dL_call_416 (Nat.le_of_ble_eq_true rfl) (Nat.le_of_ble_eq_true rfl)
    have hf := br_neg c9 hf
    by_cases c10 : n4 = 5
    · subst c10
      have hf := br_pos rfl hf
      refine cw_vi_err (rest := []) (m_C_commit l hst ca ad bq nF nO nL nA nC nV nU nP nE bF bO bL bA bC bV bU bP bE cT cK cO cQ cD pT pK pR pW pU pI pC uO uF uE uN wK jM jN jZ jB R _ (.error 5) cT_2 h3) ⟨hx, hb, hml, hown, hts⟩ (cwV 0 hts (gV q853 q854 q855 q24 q856) rfl rfl rfl (by decide +kernel) ⟨Nat.le_of_ble_eq_true rfl, Nat.le_of_ble_eq_true rfl⟩) (va_recv hK hP (ci := 7) (q0 := 0) rfl rfl) hE hP hD hS hA hZ rfl hl.1 rfl (lv_room (Nat.le_of_ble_eq_true rfl)) dL_call_366 ⟨Nat.le_of_ble_eq_true rfl, Nat.le_of_ble_eq_true rfl⟩ (fun H locs q9 ce hP hD hS hce hv9 hcl => ?_)
      refine vx_catch (E := "java/util/NoSuchElementException") hown ((tableOf HH).take 170) ⟨365, 369, 417, 130⟩ ((tableOf HH).drop (170 + 1)) (htab.trans (sp_at (n := 170) hh170)) (hp_of [(122, "java/lang/IndexOutOfBoundsException"), (124, "java/lang/IllegalArgumentException"), (126, "java/lang/IllegalStateException"), (128, "java/lang/UnsupportedOperationException")] (by decide +kernel) (List.forall_mem_cons.mpr ⟨⟨hts _ q254, hNC _ nc_5_3⟩, List.forall_mem_cons.mpr ⟨⟨hts _ q333, hNC _ nc_5_1⟩, List.forall_mem_cons.mpr ⟨⟨hts _ q334, hNC _ nc_5_2⟩, List.forall_mem_cons.mpr ⟨⟨hts _ q335, hNC _ nc_5_4⟩, fun _ h => absurd h List.not_mem_nil⟩⟩⟩⟩)) (by decide) (by decide) (hts _ q336) (va_Nw.use rfl (hE.2.1 _ n606)) hce hv9 hcl ?_
      refine lv_astore (lv' := [(5, .ref q9), (0, .ref (ad 0)), (1, .int 30), (2, .int p2), (3, .int p3), (4, .int p4)]) hx hb dL_call_417 hl (by decide) rfl (fun ls hl => ?_)
      refine lv_sipush (v := (-1005)) hx hb dL_call_419 (by decide) ?_
      cases hf
      exact endw_i hAe hQm hx hb hr hlocks rfl hP hD hS dL_call_422 (Nat.le_of_ble_eq_true rfl) (Nat.le_of_ble_eq_true rfl)
    have hf := br_neg c10 hf
    cases hf
  refine cw_vi_ok (rest := []) (m_C_commit l hst ca ad bq nF nO nL nA nC nV nU nP nE bF bO bL bA bC bV bU bP bE cT cK cO cQ cD pT pK pR pW pU pI pC uO uF uE uN wK jM jN jZ jB R _ (.ok r5) cT_2 h3) ⟨hx, hb, hml, hown, hts⟩ (cwV 0 hts (gV q853 q854 q855 q24 q856) rfl rfl rfl (by decide +kernel) ⟨Nat.le_of_ble_eq_true rfl, Nat.le_of_ble_eq_true rfl⟩) (va_recv hK hP (ci := 7) (q0 := 0) rfl rfl) hE hP hD hS hA hZ rfl hl.1 rfl (lv_room (Nat.le_of_ble_eq_true rfl)) dL_call_366 ⟨Nat.le_of_ble_eq_true rfl, Nat.le_of_ble_eq_true rfl⟩ (fun H locs hP hD hS => ?_)
  cases hf
  exact endw_i hAe hQm hx hb hr hlocks rfl hP hD hS dL_call_369 (Nat.le_of_ble_eq_true rfl) (Nat.le_of_ble_eq_true rfl)
