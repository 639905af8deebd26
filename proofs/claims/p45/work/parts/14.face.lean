/-! printed by program out of the bytecode: pure functions and contracts -/
def f_C_requireWithin (p1 : Int32) (p2 : Int32) (p3 : Int32) : Option (Except Nat Unit) :=
  if p1 < p2 then
    some (.error 1)
  else
    if p1 ≤ p3 then
      some (.ok ())
    else
      some (.error 1)
set_option maxHeartbeats 4000000 in
set_option maxRecDepth 100000 in
theorem m_C_requireWithin (l : Launch) (hst : l.stackTraces = false) {D : va_G} (ca : Nat → ClassId) (ad : Nat → Nat) (bq : Nat) (nF : Int32) (nO : Nat → Int32) (nL : Nat → Int32) (nA : Nat → Int32) (nC : Nat → Int32) (nV : Nat → Int32) (nU : Nat → Int32) (nP : Nat → Int32) (nE : Int32) (bF : Int32) (bO : Nat → Int32) (bL : Nat → Int32) (bA : Nat → Int32) (bC : Nat → Int32) (bV : Nat → Int32) (bU : Nat → Int32) (bP : Nat → Int32) (bE : Int32) (cT : Int32) (cK : Nat → Int32) (cO : Int32) (cQ : Nat → Int32) (cD : Int32) (pT : Int32) (pK : Int32) (pR : Nat → Int32) (pW : Nat → Int32) (pU : Nat → Int32) (pI : Nat → Int32) (pC : Nat → Nat → Int32) (uO : Int32) (uF : Nat → Int32) (uE : Nat → Int32) (uN : Nat → Int32) (wK : Nat → Int32) (jM : Int32) (jN : Int32) (jZ : Nat) (jB : Nat → Int32) (R : va_W) (sz : Nat) (p1 : Int32) (p2 : Int32) (p3 : Int32) (ro : Except Nat Unit) (hf : f_C_requireWithin p1 p2 p3 = some ro) : vx_Met l yX3_requireWithin (wm yX3_requireWithin cX3_requireWithin 4 none) ({ frames := 6, cells := 1, slots := 6, locals := 90 } : Room) (PREX [.ref (ad 0), .int p1, .int p2, .int p3] D ca SL0 (WC ca ad bq nF nO nL nA nC nV nU nP nE bF bO bL bA bC bV bU bP bE cT cK cO cQ cD pT pK pR pW pU pI pC uO uF uE uN wK jM jN jZ jB ++ R) sz) (QXV ro D (WC ca ad bq nF nO nL nA nC nV nU nP nE bF bO bL bA bC bV bU bP bE cT cK cO cQ cD pT pK pR pW pU pI pC uO uF uE uN wK jM jN jZ jB ++ R) (WC ca ad bq nF nO nL nA nC nV nU nP nE bF bO bL bA bC bV bU bP bE cT cK cO cQ cD pT pK pR pW pU pI pC uO uF uE uN wK jM jN jZ jB ++ R) sz) (QXE ro D (WC ca ad bq nF nO nL nA nC nV nU nP nE bF bO bL bA bC bV bU bP bE cT cK cO cQ cD pT pK pR pW pU pI pC uO uF uE uN wK jM jN jZ jB ++ R) (WC ca ad bq nF nO nL nA nC nV nU nP nE bF bO bL bA bC bV bU bP bE cT cK cO cQ cD pT pK pR pW pU pI pC uO uF uE uN wK jM jN jZ jB ++ R) sz) 1 6 (va_A (WC ca ad bq nF nO nL nA nC nV nU nP nE bF bO bL bA bC bV bU bP bE cT cK cO cQ cD pT pK pR pW pU pI pC uO uF uE uN wK jM jN jZ jB ++ R) sz) := by
  refine vx_ofW (cc := cX3_requireWithin) (maxL := 4) (ret := none) (by decide) rfl ?_
  intro p e s m args below meth c s₁ B hml htab hv
  obtain ⟨rfl, rfl, hP, hE, hD0, hZ⟩ := hv
  have hx := B.exec
  have hb := B.bytes
  have hr := B.returns
  have hts := wm_ww (atoms_spec (ws := wm yX3_requireWithin cX3_requireWithin 4 none) B.pre)
  have hown : s.vm.findClass RX3 = some m.cls := findClass_of_methodNamed B.named
  have hlocks := B.notSynchronized
  have hK := hE.1
  have hD := hD0.self (sz := s.heap.size)
  generalize hAe : va_A (WC ca ad bq nF nO nL nA nC nV nU nP nE bF bO bL bA bC bV bU bP bE cT cK cO cQ cD pT pK pR pW pU pI pC uO uF uE uN wK jM jN jZ jB ++ R) s.heap.size = A at hD hZ ⊢
  have hA : ∀ q : Nat, s.heap.size ≤ q → A q := fun q h => by rw [← hAe]; exact Or.inr h
  have hS : va_S A s.heap s.heap [] := va_S.rf
  have hl := lv_entry ([.ref (ad 0), .int p1, .int p2, .int p3]) (n := 4) (Nat.le_of_ble_eq_true rfl)
  rw [lg_entry_eq]
  generalize (lg_sl ([.ref (ad 0), .int p1, .int p2, .int p3]) ++ List.replicate (4 - (lg_sl ([.ref (ad 0), .int p1, .int p2, .int p3])).length) Slot.unset).toArray = ls at hl ⊢
  have hl : lv_has ls 4 [(0, .ref (ad 0)), (1, .int p1), (2, .int p2), (3, .int p3)] := hl
  change W p l e ({ frames := 6, cells := 1, slots := 6, locals := 90 } : Room) s m _ below meth c s.heap [] 0 0 _ _
  generalize hQm : vx_MQ below (QXV ro D (WC ca ad bq nF nO nL nA nC nV nU nP nE bF bO bL bA bC bV bU bP bE cT cK cO cQ cD pT pK pR pW pU pI pC uO uF uE uN wK jM jN jZ jB ++ R) (WC ca ad bq nF nO nL nA nC nV nU nP nE bF bO bL bA bC bV bU bP bE cT cK cO cQ cD pT pK pR pW pU pI pC uO uF uE uN wK jM jN jZ jB ++ R) s.heap.size) (QXE ro D (WC ca ad bq nF nO nL nA nC nV nU nP nE bF bO bL bA bC bV bU bP bE cT cK cO cQ cD pT pK pR pW pU pI pC uO uF uE uN wK jM jN jZ jB ++ R) (WC ca ad bq nF nO nL nA nC nV nU nP nE bF bO bL bA bC bV bU bP bE cT cK cO cQ cD pT pK pR pW pU pI pC uO uF uE uN wK jM jN jZ jB ++ R) s.heap.size) _ s 1 6 A = Qm
  have hP : va_P D vwCl (WC ca ad bq nF nO nL nA nC nV nU nP nE bF bO bL bA bC bV bU bP bE cT cK cO cQ cD pT pK pR pW pU pI pC uO uF uE uN wK jM jN jZ jB ++ R) s.heap := hP
  generalize hae : ([.ref (ad 0), .int p1, .int p2, .int p3] : List Value).toArray = args at hts hQm ⊢
  refine lv_iload_n hx hb dX3_requireWithin_0 rfl (lv_at hl 1 rfl) ?_
  refine lv_iload_n hx hb dX3_requireWithin_1 rfl (lv_at hl 2 rfl) ?_
  refine lv_icmp_lt (tgt := 10) hx hb dX3_requireWithin_2 (by decide) (fun c1 => ?_) (fun c1 => ?_)
  · have hf := br_pos c1 hf
    cases hf
    exact endx_throwW 1 rfl hAe hQm hst hx hb hts hE hown htab hlocks (by decide +kernel) q345 q38 sl19 at321 hZ (hl.1.trans hml.symm) hP hD hS dX3_requireWithin_10 dX3_requireWithin_13 dX3_requireWithin_14 dX3_requireWithin_17 dX3_requireWithin_20 (Nat.le_of_ble_eq_true rfl) (Nat.le_of_ble_eq_true rfl) (Nat.le_of_ble_eq_true rfl) (Nat.le_of_ble_eq_true rfl) (Nat.le_of_ble_eq_true rfl) (Nat.le_of_ble_eq_true rfl)
  · have hf := br_neg c1 hf
    refine lv_iload_n hx hb dX3_requireWithin_5 rfl (lv_at hl 1 rfl) ?_
    refine lv_iload_n hx hb dX3_requireWithin_6 rfl (lv_at hl 3 rfl) ?_
    refine lv_icmp_le (tgt := 21) hx hb dX3_requireWithin_7 (by decide) (fun c2 => ?_) (fun c2 => ?_)
    · have hf := br_pos c2 hf
      cases hf
      exact endx_v hAe hQm hx hb hr hlocks hP hD hS dX3_requireWithin_21 (Nat.le_of_ble_eq_true rfl) (Nat.le_of_ble_eq_true rfl)
    · have hf := br_neg c2 hf
      cases hf
      exact endx_throwW 1 rfl hAe hQm hst hx hb hts hE hown htab hlocks (by decide +kernel) q345 q38 sl19 at321 hZ (hl.1.trans hml.symm) hP hD hS dX3_requireWithin_10 dX3_requireWithin_13 dX3_requireWithin_14 dX3_requireWithin_17 dX3_requireWithin_20 (Nat.le_of_ble_eq_true rfl) (Nat.le_of_ble_eq_true rfl) (Nat.le_of_ble_eq_true rfl) (Nat.le_of_ble_eq_true rfl) (Nat.le_of_ble_eq_true rfl) (Nat.le_of_ble_eq_true rfl)
def f_C_requireNoTransaction (cT : Int32) : Option (Except Nat Unit) :=
  if cT = 0 then
    some (.ok ())
  else
    some (.error 2)
set_option maxHeartbeats 4000000 in
set_option maxRecDepth 100000 in
theorem m_C_requireNoTransaction (l : Launch) (hst : l.stackTraces = false) {D : va_G} (ca : Nat → ClassId) (ad : Nat → Nat) (bq : Nat) (nF : Int32) (nO : Nat → Int32) (nL : Nat → Int32) (nA : Nat → Int32) (nC : Nat → Int32) (nV : Nat → Int32) (nU : Nat → Int32) (nP : Nat → Int32) (nE : Int32) (bF : Int32) (bO : Nat → Int32) (bL : Nat → Int32) (bA : Nat → Int32) (bC : Nat → Int32) (bV : Nat → Int32) (bU : Nat → Int32) (bP : Nat → Int32) (bE : Int32) (cT : Int32) (cK : Nat → Int32) (cO : Int32) (cQ : Nat → Int32) (cD : Int32) (pT : Int32) (pK : Int32) (pR : Nat → Int32) (pW : Nat → Int32) (pU : Nat → Int32) (pI : Nat → Int32) (pC : Nat → Nat → Int32) (uO : Int32) (uF : Nat → Int32) (uE : Nat → Int32) (uN : Nat → Int32) (wK : Nat → Int32) (jM : Int32) (jN : Int32) (jZ : Nat) (jB : Nat → Int32) (R : va_W) (sz : Nat) (ro : Except Nat Unit) (hf : f_C_requireNoTransaction cT = some ro) : vx_Met l yX3_requireNoTransaction (wm yX3_requireNoTransaction cX3_requireNoTransaction 1 none) ({ frames := 6, cells := 1, slots := 6, locals := 90 } : Room) (PREX [.ref (ad 0)] D ca SL0 (WC ca ad bq nF nO nL nA nC nV nU nP nE bF bO bL bA bC bV bU bP bE cT cK cO cQ cD pT pK pR pW pU pI pC uO uF uE uN wK jM jN jZ jB ++ R) sz) (QXV ro D (WC ca ad bq nF nO nL nA nC nV nU nP nE bF bO bL bA bC bV bU bP bE cT cK cO cQ cD pT pK pR pW pU pI pC uO uF uE uN wK jM jN jZ jB ++ R) (WC ca ad bq nF nO nL nA nC nV nU nP nE bF bO bL bA bC bV bU bP bE cT cK cO cQ cD pT pK pR pW pU pI pC uO uF uE uN wK jM jN jZ jB ++ R) sz) (QXE ro D (WC ca ad bq nF nO nL nA nC nV nU nP nE bF bO bL bA bC bV bU bP bE cT cK cO cQ cD pT pK pR pW pU pI pC uO uF uE uN wK jM jN jZ jB ++ R) (WC ca ad bq nF nO nL nA nC nV nU nP nE bF bO bL bA bC bV bU bP bE cT cK cO cQ cD pT pK pR pW pU pI pC uO uF uE uN wK jM jN jZ jB ++ R) sz) 1 6 (va_A (WC ca ad bq nF nO nL nA nC nV nU nP nE bF bO bL bA bC bV bU bP bE cT cK cO cQ cD pT pK pR pW pU pI pC uO uF uE uN wK jM jN jZ jB ++ R) sz) := by
  refine vx_ofW (cc := cX3_requireNoTransaction) (maxL := 1) (ret := none) (by decide) rfl ?_
  intro p e s m args below meth c s₁ B hml htab hv
  obtain ⟨rfl, rfl, hP, hE, hD0, hZ⟩ := hv
  have hx := B.exec
  have hb := B.bytes
  have hr := B.returns
  have hts := wm_ww (atoms_spec (ws := wm yX3_requireNoTransaction cX3_requireNoTransaction 1 none) B.pre)
  have hown : s.vm.findClass RX3 = some m.cls := findClass_of_methodNamed B.named
  have hlocks := B.notSynchronized
  have hK := hE.1
  have hD := hD0.self (sz := s.heap.size)
  generalize hAe : va_A (WC ca ad bq nF nO nL nA nC nV nU nP nE bF bO bL bA bC bV bU bP bE cT cK cO cQ cD pT pK pR pW pU pI pC uO uF uE uN wK jM jN jZ jB ++ R) s.heap.size = A at hD hZ ⊢
  have hA : ∀ q : Nat, s.heap.size ≤ q → A q := fun q h => by rw [← hAe]; exact Or.inr h
  have hS : va_S A s.heap s.heap [] := va_S.rf
  have hl := lv_entry ([.ref (ad 0)]) (n := 1) (Nat.le_of_ble_eq_true rfl)
  rw [lg_entry_eq]
  generalize (lg_sl ([.ref (ad 0)]) ++ List.replicate (1 - (lg_sl ([.ref (ad 0)])).length) Slot.unset).toArray = ls at hl ⊢
  have hl : lv_has ls 1 [(0, .ref (ad 0))] := hl
  change W p l e ({ frames := 6, cells := 1, slots := 6, locals := 90 } : Room) s m _ below meth c s.heap [] 0 0 _ _
  generalize hQm : vx_MQ below (QXV ro D (WC ca ad bq nF nO nL nA nC nV nU nP nE bF bO bL bA bC bV bU bP bE cT cK cO cQ cD pT pK pR pW pU pI pC uO uF uE uN wK jM jN jZ jB ++ R) (WC ca ad bq nF nO nL nA nC nV nU nP nE bF bO bL bA bC bV bU bP bE cT cK cO cQ cD pT pK pR pW pU pI pC uO uF uE uN wK jM jN jZ jB ++ R) s.heap.size) (QXE ro D (WC ca ad bq nF nO nL nA nC nV nU nP nE bF bO bL bA bC bV bU bP bE cT cK cO cQ cD pT pK pR pW pU pI pC uO uF uE uN wK jM jN jZ jB ++ R) (WC ca ad bq nF nO nL nA nC nV nU nP nE bF bO bL bA bC bV bU bP bE cT cK cO cQ cD pT pK pR pW pU pI pC uO uF uE uN wK jM jN jZ jB ++ R) s.heap.size) _ s 1 6 A = Qm
  have hP : va_P D vwCl (WC ca ad bq nF nO nL nA nC nV nU nP nE bF bO bL bA bC bV bU bP bE cT cK cO cQ cD pT pK pR pW pU pI pC uO uF uE uN wK jM jN jZ jB ++ R) s.heap := hP
  generalize hae : ([.ref (ad 0)] : List Value).toArray = args at hts hQm ⊢
  refine lv_aload_n hx hb dX3_requireNoTransaction_0 rfl (lv_at hl 0 rfl) ?_
  refine va_get (D := D) (ci := 7) (v := .int cT) (C := RX3) (T := TX3) (N := 11) hx hb hts inX3 hown hK hP 0 rfl rfl 2 (by decide) (hts _ q184) (fun _ h9 => h9) rfl dX3_requireNoTransaction_1 ?_
  refine lv_if_eq (tgt := 18) hx hb dX3_requireNoTransaction_4 (by decide) (fun c1 => ?_) (fun c1 => ?_)
  · have hf := br_pos c1 hf
    cases hf
    exact endx_v hAe hQm hx hb hr hlocks hP hD hS dX3_requireNoTransaction_18 (Nat.le_of_ble_eq_true rfl) (Nat.le_of_ble_eq_true rfl)
  · have hf := br_neg c1 hf
    cases hf
    exact endx_throwW 2 rfl hAe hQm hst hx hb hts hE hown htab hlocks (by decide +kernel) q365 q39 sl28 at73 hZ (hl.1.trans hml.symm) hP hD hS dX3_requireNoTransaction_7 dX3_requireNoTransaction_10 dX3_requireNoTransaction_11 dX3_requireNoTransaction_14 dX3_requireNoTransaction_17 (Nat.le_of_ble_eq_true rfl) (Nat.le_of_ble_eq_true rfl) (Nat.le_of_ble_eq_true rfl) (Nat.le_of_ble_eq_true rfl) (Nat.le_of_ble_eq_true rfl) (Nat.le_of_ble_eq_true rfl)
def f_C_addOwner (p1 : Int32) (cT : Int32) (cO : Int32) (cQ : Nat → Int32) : Option (Except Nat Int32 × Int32 × (Nat → Int32)) :=
  (f_C_requireWithin p1 0 64).bind fun x1 =>
  match x1 with
  | .error n3 => some ((.error n3), cO, cQ)
  | .ok _ =>
  (f_C_requireNoTransaction cT).bind fun x4 =>
  match x4 with
  | .error n6 => some ((.error n6), cO, cQ)
  | .ok _ =>
  if cO < 4 then
    if cO < 0 ∨ 4 ≤ cO.toNatClampNeg then none else
      some ((.ok cO), (cO + 1), (upd cQ cO.toNatClampNeg p1))
  else
    some ((.error 2), cO, cQ)
set_option maxHeartbeats 4000000 in
set_option maxRecDepth 100000 in
theorem m_C_addOwner (l : Launch) (hst : l.stackTraces = false) {D : va_G} (ca : Nat → ClassId) (ad : Nat → Nat) (bq : Nat) (nF : Int32) (nO : Nat → Int32) (nL : Nat → Int32) (nA : Nat → Int32) (nC : Nat → Int32) (nV : Nat → Int32) (nU : Nat → Int32) (nP : Nat → Int32) (nE : Int32) (bF : Int32) (bO : Nat → Int32) (bL : Nat → Int32) (bA : Nat → Int32) (bC : Nat → Int32) (bV : Nat → Int32) (bU : Nat → Int32) (bP : Nat → Int32) (bE : Int32) (cT : Int32) (cK : Nat → Int32) (cO : Int32) (cQ : Nat → Int32) (cD : Int32) (pT : Int32) (pK : Int32) (pR : Nat → Int32) (pW : Nat → Int32) (pU : Nat → Int32) (pI : Nat → Int32) (pC : Nat → Nat → Int32) (uO : Int32) (uF : Nat → Int32) (uE : Nat → Int32) (uN : Nat → Int32) (wK : Nat → Int32) (jM : Int32) (jN : Int32) (jZ : Nat) (jB : Nat → Int32) (R : va_W) (sz : Nat) (p1 : Int32) (ro : Except Nat Int32) (ocO : Int32) (ocQ : Nat → Int32) (hf : f_C_addOwner p1 cT cO cQ = some (ro, ocO, ocQ)) : vx_Met l yX3_addOwner (wm yX3_addOwner cX3_addOwner 3 (some .int)) ({ frames := 7, cells := 3, slots := 18, locals := 113 } : Room) (PREX [.ref (ad 0), .int p1] D ca SL0 (WC ca ad bq nF nO nL nA nC nV nU nP nE bF bO bL bA bC bV bU bP bE cT cK cO cQ cD pT pK pR pW pU pI pC uO uF uE uN wK jM jN jZ jB ++ R) sz) (QXI ro D (WC ca ad bq nF nO nL nA nC nV nU nP nE bF bO bL bA bC bV bU bP bE cT cK ocO ocQ cD pT pK pR pW pU pI pC uO uF uE uN wK jM jN jZ jB ++ R) (WC ca ad bq nF nO nL nA nC nV nU nP nE bF bO bL bA bC bV bU bP bE cT cK cO cQ cD pT pK pR pW pU pI pC uO uF uE uN wK jM jN jZ jB ++ R) sz) (QXE ro D (WC ca ad bq nF nO nL nA nC nV nU nP nE bF bO bL bA bC bV bU bP bE cT cK ocO ocQ cD pT pK pR pW pU pI pC uO uF uE uN wK jM jN jZ jB ++ R) (WC ca ad bq nF nO nL nA nC nV nU nP nE bF bO bL bA bC bV bU bP bE cT cK cO cQ cD pT pK pR pW pU pI pC uO uF uE uN wK jM jN jZ jB ++ R) sz) 3 18 (va_A (WC ca ad bq nF nO nL nA nC nV nU nP nE bF bO bL bA bC bV bU bP bE cT cK cO cQ cD pT pK pR pW pU pI pC uO uF uE uN wK jM jN jZ jB ++ R) sz) := by
  refine vx_ofW (cc := cX3_addOwner) (maxL := 3) (ret := (some .int)) (by decide) rfl ?_
  intro p e s m args below meth c s₁ B hml htab hv
  obtain ⟨rfl, rfl, hP, hE, hD0, hZ⟩ := hv
  have hx := B.exec
  have hb := B.bytes
  have hr := B.returns
  have hts := wm_ww (atoms_spec (ws := wm yX3_addOwner cX3_addOwner 3 (some .int)) B.pre)
  have hown : s.vm.findClass RX3 = some m.cls := findClass_of_methodNamed B.named
  have hlocks := B.notSynchronized
  have hK := hE.1
  have hD := hD0.self (sz := s.heap.size)
  generalize hAe : va_A (WC ca ad bq nF nO nL nA nC nV nU nP nE bF bO bL bA bC bV bU bP bE cT cK cO cQ cD pT pK pR pW pU pI pC uO uF uE uN wK jM jN jZ jB ++ R) s.heap.size = A at hD hZ ⊢
  have hA : ∀ q : Nat, s.heap.size ≤ q → A q := fun q h => by rw [← hAe]; exact Or.inr h
  have hS : va_S A s.heap s.heap [] := va_S.rf
  have hl := lv_entry ([.ref (ad 0), .int p1]) (n := 3) (Nat.le_of_ble_eq_true rfl)
  rw [lg_entry_eq]
  generalize (lg_sl ([.ref (ad 0), .int p1]) ++ List.replicate (3 - (lg_sl ([.ref (ad 0), .int p1])).length) Slot.unset).toArray = ls at hl ⊢
  have hl : lv_has ls 3 [(0, .ref (ad 0)), (1, .int p1)] := hl
  change W p l e ({ frames := 7, cells := 3, slots := 18, locals := 113 } : Room) s m _ below meth c s.heap [] 0 0 _ _
  generalize hQm : vx_MQ below (QXI ro D (WC ca ad bq nF nO nL nA nC nV nU nP nE bF bO bL bA bC bV bU bP bE cT cK ocO ocQ cD pT pK pR pW pU pI pC uO uF uE uN wK jM jN jZ jB ++ R) (WC ca ad bq nF nO nL nA nC nV nU nP nE bF bO bL bA bC bV bU bP bE cT cK cO cQ cD pT pK pR pW pU pI pC uO uF uE uN wK jM jN jZ jB ++ R) s.heap.size) (QXE ro D (WC ca ad bq nF nO nL nA nC nV nU nP nE bF bO bL bA bC bV bU bP bE cT cK ocO ocQ cD pT pK pR pW pU pI pC uO uF uE uN wK jM jN jZ jB ++ R) (WC ca ad bq nF nO nL nA nC nV nU nP nE bF bO bL bA bC bV bU bP bE cT cK cO cQ cD pT pK pR pW pU pI pC uO uF uE uN wK jM jN jZ jB ++ R) s.heap.size) _ s 3 18 A = Qm
  have hP : va_P D vwCl (WC ca ad bq nF nO nL nA nC nV nU nP nE bF bO bL bA bC bV bU bP bE cT cK cO cQ cD pT pK pR pW pU pI pC uO uF uE uN wK jM jN jZ jB ++ R) s.heap := hP
  generalize hae : ([.ref (ad 0), .int p1] : List Value).toArray = args at hts hQm ⊢
  refine lv_aload_n hx hb dX3_addOwner_0 rfl (lv_at hl 0 rfl) ?_
  refine lv_iload_n hx hb dX3_addOwner_1 rfl (lv_at hl 1 rfl) ?_
  refine lv_iconst (v := 0) hx hb dX3_addOwner_2 (by decide) ?_
  refine lv_bipush (v := 64) hx hb dX3_addOwner_3 (by decide) ?_
  obtain ⟨x1, h2, hf⟩ := bnd hf
  rcases x1 with n3 | _
  · have hf : some ((.error n3), cO, cQ) = some (ro, ocO, ocQ) := hf
    cases hf
    exact cx_vv_err (rest := []) (m_C_requireWithin l hst ca ad bq nF nO nL nA nC nV nU nP nE bF bO bL bA bC bV bU bP bE cT cK cO cQ cD pT pK pR pW pU pI pC uO uF uE uN wK jM jN jZ jB R _ p1 0 64 (.error n3) h2) ⟨hx, hb, hml, hown, hts⟩ (cwV 3 hts (gV q341 q343 q1 q24 q344) rfl rfl rfl (by decide +kernel) ⟨Nat.le_of_ble_eq_true rfl, Nat.le_of_ble_eq_true rfl⟩) (va_recv hK hP (ci := 7) (q0 := 0) rfl rfl) hE hP hD hS hA hZ rfl hl.1 rfl (lv_room (Nat.le_of_ble_eq_true rfl)) dX3_addOwner_5 ⟨Nat.le_of_ble_eq_true rfl, Nat.le_of_ble_eq_true rfl⟩ hAe hQm htab hlocks (Nat.le_of_ble_eq_true rfl) (Nat.le_of_ble_eq_true rfl)
  refine cx_vv_ok (rest := []) (m_C_requireWithin l hst ca ad bq nF nO nL nA nC nV nU nP nE bF bO bL bA bC bV bU bP bE cT cK cO cQ cD pT pK pR pW pU pI pC uO uF uE uN wK jM jN jZ jB R _ p1 0 64 (.ok ()) h2) ⟨hx, hb, hml, hown, hts⟩ (cwV 3 hts (gV q341 q343 q1 q24 q344) rfl rfl rfl (by decide +kernel) ⟨Nat.le_of_ble_eq_true rfl, Nat.le_of_ble_eq_true rfl⟩) (va_recv hK hP (ci := 7) (q0 := 0) rfl rfl) hE hP hD hS hA hZ rfl hl.1 rfl (lv_room (Nat.le_of_ble_eq_true rfl)) dX3_addOwner_5 ⟨Nat.le_of_ble_eq_true rfl, Nat.le_of_ble_eq_true rfl⟩ (fun H locs hP hD hS => ?_)
  refine lv_aload_n hx hb dX3_addOwner_8 rfl (lv_at hl 0 rfl) ?_
  obtain ⟨x4, h5, hf⟩ := bnd hf
  rcases x4 with n6 | _
  · have hf : some ((.error n6), cO, cQ) = some (ro, ocO, ocQ) := hf
    cases hf
    exact cx_vv_err (rest := []) (m_C_requireNoTransaction l hst ca ad bq nF nO nL nA nC nV nU nP nE bF bO bL bA bC bV bU bP bE cT cK cO cQ cD pT pK pR pW pU pI pC uO uF uE uN wK jM jN jZ jB R _ (.error n6) h5) ⟨hx, hb, hml, hown, hts⟩ (cwV 0 hts (gV q361 q363 q2 q24 q364) rfl rfl rfl (by decide +kernel) ⟨Nat.le_of_ble_eq_true rfl, Nat.le_of_ble_eq_true rfl⟩) (va_recv hK hP (ci := 7) (q0 := 0) rfl rfl) hE hP hD hS hA hZ rfl hl.1 rfl (lv_room (Nat.le_of_ble_eq_true rfl)) dX3_addOwner_9 ⟨Nat.le_of_ble_eq_true rfl, Nat.le_of_ble_eq_true rfl⟩ hAe hQm htab hlocks (Nat.le_of_ble_eq_true rfl) (Nat.le_of_ble_eq_true rfl)
  refine cx_vv_ok (rest := []) (m_C_requireNoTransaction l hst ca ad bq nF nO nL nA nC nV nU nP nE bF bO bL bA bC bV bU bP bE cT cK cO cQ cD pT pK pR pW pU pI pC uO uF uE uN wK jM jN jZ jB R _ (.ok ()) h5) ⟨hx, hb, hml, hown, hts⟩ (cwV 0 hts (gV q361 q363 q2 q24 q364) rfl rfl rfl (by decide +kernel) ⟨Nat.le_of_ble_eq_true rfl, Nat.le_of_ble_eq_true rfl⟩) (va_recv hK hP (ci := 7) (q0 := 0) rfl rfl) hE hP hD hS hA hZ rfl hl.1 rfl (lv_room (Nat.le_of_ble_eq_true rfl)) dX3_addOwner_9 ⟨Nat.le_of_ble_eq_true rfl, Nat.le_of_ble_eq_true rfl⟩ (fun H locs hP hD hS => ?_)
  refine lv_aload_n hx hb dX3_addOwner_12 rfl (lv_at hl 0 rfl) ?_
  refine va_get (D := D) (ci := 7) (v := .int cO) (C := RX3) (T := TX3) (N := 11) hx hb hts inX3 hown hK hP 0 rfl rfl 4 (by decide) (hts _ q186) (fun _ h9 => h9) rfl dX3_addOwner_13 ?_
  refine lv_iconst (v := 4) hx hb dX3_addOwner_16 (by decide) ?_
  refine lv_icmp_lt (tgt := 30) hx hb dX3_addOwner_17 (by decide) (fun c7 => ?_) (fun c7 => ?_)
  · have hf := br_pos c7 hf
    refine lv_aload_n hx hb dX3_addOwner_30 rfl (lv_at hl 0 rfl) ?_
    refine va_get (D := D) (ci := 7) (v := .int cO) (C := RX3) (T := TX3) (N := 11) hx hb hts inX3 hown hK hP 0 rfl rfl 4 (by decide) (hts _ q186) (fun _ h9 => h9) rfl dX3_addOwner_31 ?_
    refine lv_istore_n (lv' := [(2, .int cO), (0, .ref (ad 0)), (1, .int p1)]) hx hb dX3_addOwner_34 rfl hl (by decide) rfl (fun ls hl => ?_)
    refine lv_aload_n hx hb dX3_addOwner_35 rfl (lv_at hl 1 rfl) ?_
    refine va_get (D := D) (ci := 7) (v := .ref (ad 4)) (C := RX3) (T := TX3) (N := 11) hx hb hts inX3 hown hK hP 0 rfl rfl 5 (by decide) (hts _ q187) (fun _ h9 => h9) rfl dX3_addOwner_36 ?_
    refine lv_iload_n hx hb dX3_addOwner_39 rfl (lv_at hl 0 rfl) ?_
    refine lv_iload_n hx hb dX3_addOwner_40 rfl (lv_at hl 2 rfl) ?_
    obtain ⟨k8, hf⟩ := ck_not hf
    refine va_iast (D := D) hx hb hK hP hD hS 18 0 rfl rfl k8 dX3_addOwner_41 (fun H locs hP hD hS => ?_)
    have hP : va_P D vwCl (WC ca ad bq nF nO nL nA nC nV nU nP nE bF bO bL bA bC bV bU bP bE cT cK cO (upd cQ cO.toNatClampNeg p1) cD pT pK pR pW pU pI pC uO uF uE uN wK jM jN jZ jB ++ R) H := hP
    have hD : va_D A (WC ca ad bq nF nO nL nA nC nV nU nP nE bF bO bL bA bC bV bU bP bE cT cK cO (upd cQ cO.toNatClampNeg p1) cD pT pK pR pW pU pI pC uO uF uE uN wK jM jN jZ jB ++ R) := hD
    refine lv_aload_n hx hb dX3_addOwner_42 rfl (lv_at hl 1 rfl) ?_
    refine lv_iload_n hx hb dX3_addOwner_43 rfl (lv_at hl 0 rfl) ?_
    refine lv_iconst (v := 1) hx hb dX3_addOwner_44 (by decide) ?_
    refine lv_iadd hx hb dX3_addOwner_45 ?_
    refine va_put (D := D) (ci := 7) (v := .int (cO + 1)) (ty := .int) (C := RX3) (T := TX3) (N := 11) hx hb hts inX3 tyX3 tyX3_ok nmX3 hown hK hP hD hS 0 rfl rfl 4 (by decide) (hts _ q186) (fun _ h9 => h9) rfl (by decide +kernel) rfl rfl (Nat.le_of_ble_eq_true rfl) dX3_addOwner_46 (fun H locs hP hD hS => ?_)
    have hP : va_P D vwCl (WC ca ad bq nF nO nL nA nC nV nU nP nE bF bO bL bA bC bV bU bP bE cT cK (cO + 1) (upd cQ cO.toNatClampNeg p1) cD pT pK pR pW pU pI pC uO uF uE uN wK jM jN jZ jB ++ R) H := hP
    have hD : va_D A (WC ca ad bq nF nO nL nA nC nV nU nP nE bF bO bL bA bC bV bU bP bE cT cK (cO + 1) (upd cQ cO.toNatClampNeg p1) cD pT pK pR pW pU pI pC uO uF uE uN wK jM jN jZ jB ++ R) := hD
    refine lv_iload_n hx hb dX3_addOwner_49 rfl (lv_at hl 0 rfl) ?_
    cases hf
    exact endx_i hAe hQm hx hb hr hlocks rfl hP hD hS dX3_addOwner_50 (Nat.le_of_ble_eq_true rfl) (Nat.le_of_ble_eq_true rfl)
  · have hf := br_neg c7 hf
    cases hf
    exact endx_throw 2 rfl hAe hQm hst hx hb hts hE hown htab hlocks (by decide +kernel) q365 q39 sl0 at73 hZ (hl.1.trans hml.symm) hP hD hS dX3_addOwner_20 dX3_addOwner_23 dX3_addOwner_24 dX3_addOwner_26 dX3_addOwner_29 (Nat.le_of_ble_eq_true rfl) (Nat.le_of_ble_eq_true rfl) (Nat.le_of_ble_eq_true rfl) (Nat.le_of_ble_eq_true rfl) (Nat.le_of_ble_eq_true rfl) (Nat.le_of_ble_eq_true rfl)
def f_C_requireOwner (p1 : Int32) (cO : Int32) : Option (Except Nat Unit) :=
  if p1 < 0 then
    some (.error 3)
  else
    if p1 < cO then
      some (.ok ())
    else
      some (.error 3)
set_option maxHeartbeats 4000000 in
set_option maxRecDepth 100000 in
theorem m_C_requireOwner (l : Launch) (hst : l.stackTraces = false) {D : va_G} (ca : Nat → ClassId) (ad : Nat → Nat) (bq : Nat) (nF : Int32) (nO : Nat → Int32) (nL : Nat → Int32) (nA : Nat → Int32) (nC : Nat → Int32) (nV : Nat → Int32) (nU : Nat → Int32) (nP : Nat → Int32) (nE : Int32) (bF : Int32) (bO : Nat → Int32) (bL : Nat → Int32) (bA : Nat → Int32) (bC : Nat → Int32) (bV : Nat → Int32) (bU : Nat → Int32) (bP : Nat → Int32) (bE : Int32) (cT : Int32) (cK : Nat → Int32) (cO : Int32) (cQ : Nat → Int32) (cD : Int32) (pT : Int32) (pK : Int32) (pR : Nat → Int32) (pW : Nat → Int32) (pU : Nat → Int32) (pI : Nat → Int32) (pC : Nat → Nat → Int32) (uO : Int32) (uF : Nat → Int32) (uE : Nat → Int32) (uN : Nat → Int32) (wK : Nat → Int32) (jM : Int32) (jN : Int32) (jZ : Nat) (jB : Nat → Int32) (R : va_W) (sz : Nat) (p1 : Int32) (ro : Except Nat Unit) (hf : f_C_requireOwner p1 cO = some ro) : vx_Met l yX3_requireOwner (wm yX3_requireOwner cX3_requireOwner 2 none) ({ frames := 6, cells := 1, slots := 6, locals := 90 } : Room) (PREX [.ref (ad 0), .int p1] D ca SL0 (WC ca ad bq nF nO nL nA nC nV nU nP nE bF bO bL bA bC bV bU bP bE cT cK cO cQ cD pT pK pR pW pU pI pC uO uF uE uN wK jM jN jZ jB ++ R) sz) (QXV ro D (WC ca ad bq nF nO nL nA nC nV nU nP nE bF bO bL bA bC bV bU bP bE cT cK cO cQ cD pT pK pR pW pU pI pC uO uF uE uN wK jM jN jZ jB ++ R) (WC ca ad bq nF nO nL nA nC nV nU nP nE bF bO bL bA bC bV bU bP bE cT cK cO cQ cD pT pK pR pW pU pI pC uO uF uE uN wK jM jN jZ jB ++ R) sz) (QXE ro D (WC ca ad bq nF nO nL nA nC nV nU nP nE bF bO bL bA bC bV bU bP bE cT cK cO cQ cD pT pK pR pW pU pI pC uO uF uE uN wK jM jN jZ jB ++ R) (WC ca ad bq nF nO nL nA nC nV nU nP nE bF bO bL bA bC bV bU bP bE cT cK cO cQ cD pT pK pR pW pU pI pC uO uF uE uN wK jM jN jZ jB ++ R) sz) 1 6 (va_A (WC ca ad bq nF nO nL nA nC nV nU nP nE bF bO bL bA bC bV bU bP bE cT cK cO cQ cD pT pK pR pW pU pI pC uO uF uE uN wK jM jN jZ jB ++ R) sz) := by
  refine vx_ofW (cc := cX3_requireOwner) (maxL := 2) (ret := none) (by decide) rfl ?_
  intro p e s m args below meth c s₁ B hml htab hv
  obtain ⟨rfl, rfl, hP, hE, hD0, hZ⟩ := hv
  have hx := B.exec
  have hb := B.bytes
  have hr := B.returns
  have hts := wm_ww (atoms_spec (ws := wm yX3_requireOwner cX3_requireOwner 2 none) B.pre)
  have hown : s.vm.findClass RX3 = some m.cls := findClass_of_methodNamed B.named
  have hlocks := B.notSynchronized
  have hK := hE.1
  have hD := hD0.self (sz := s.heap.size)
  generalize hAe : va_A (WC ca ad bq nF nO nL nA nC nV nU nP nE bF bO bL bA bC bV bU bP bE cT cK cO cQ cD pT pK pR pW pU pI pC uO uF uE uN wK jM jN jZ jB ++ R) s.heap.size = A at hD hZ ⊢
  have hA : ∀ q : Nat, s.heap.size ≤ q → A q := fun q h => by rw [← hAe]; exact Or.inr h
  have hS : va_S A s.heap s.heap [] := va_S.rf
  have hl := lv_entry ([.ref (ad 0), .int p1]) (n := 2) (Nat.le_of_ble_eq_true rfl)
  rw [lg_entry_eq]
  generalize (lg_sl ([.ref (ad 0), .int p1]) ++ List.replicate (2 - (lg_sl ([.ref (ad 0), .int p1])).length) Slot.unset).toArray = ls at hl ⊢
  have hl : lv_has ls 2 [(0, .ref (ad 0)), (1, .int p1)] := hl
  change W p l e ({ frames := 6, cells := 1, slots := 6, locals := 90 } : Room) s m _ below meth c s.heap [] 0 0 _ _
  generalize hQm : vx_MQ below (QXV ro D (WC ca ad bq nF nO nL nA nC nV nU nP nE bF bO bL bA bC bV bU bP bE cT cK cO cQ cD pT pK pR pW pU pI pC uO uF uE uN wK jM jN jZ jB ++ R) (WC ca ad bq nF nO nL nA nC nV nU nP nE bF bO bL bA bC bV bU bP bE cT cK cO cQ cD pT pK pR pW pU pI pC uO uF uE uN wK jM jN jZ jB ++ R) s.heap.size) (QXE ro D (WC ca ad bq nF nO nL nA nC nV nU nP nE bF bO bL bA bC bV bU bP bE cT cK cO cQ cD pT pK pR pW pU pI pC uO uF uE uN wK jM jN jZ jB ++ R) (WC ca ad bq nF nO nL nA nC nV nU nP nE bF bO bL bA bC bV bU bP bE cT cK cO cQ cD pT pK pR pW pU pI pC uO uF uE uN wK jM jN jZ jB ++ R) s.heap.size) _ s 1 6 A = Qm
  have hP : va_P D vwCl (WC ca ad bq nF nO nL nA nC nV nU nP nE bF bO bL bA bC bV bU bP bE cT cK cO cQ cD pT pK pR pW pU pI pC uO uF uE uN wK jM jN jZ jB ++ R) s.heap := hP
  generalize hae : ([.ref (ad 0), .int p1] : List Value).toArray = args at hts hQm ⊢
  refine lv_iload_n hx hb dX3_requireOwner_0 rfl (lv_at hl 1 rfl) ?_
  refine lv_if_lt (tgt := 12) hx hb dX3_requireOwner_1 (by decide) (fun c1 => ?_) (fun c1 => ?_)
  · have hf := br_pos c1 hf
    cases hf
    exact endx_throwW 3 rfl hAe hQm hst hx hb hts hE hown htab hlocks (by decide +kernel) q390 q36 sl20 at283 hZ (hl.1.trans hml.symm) hP hD hS dX3_requireOwner_12 dX3_requireOwner_15 dX3_requireOwner_16 dX3_requireOwner_19 dX3_requireOwner_22 (Nat.le_of_ble_eq_true rfl) (Nat.le_of_ble_eq_true rfl) (Nat.le_of_ble_eq_true rfl) (Nat.le_of_ble_eq_true rfl) (Nat.le_of_ble_eq_true rfl) (Nat.le_of_ble_eq_true rfl)
  · have hf := br_neg c1 hf
    refine lv_iload_n hx hb dX3_requireOwner_4 rfl (lv_at hl 1 rfl) ?_
    refine lv_aload_n hx hb dX3_requireOwner_5 rfl (lv_at hl 0 rfl) ?_
    refine va_get (D := D) (ci := 7) (v := .int cO) (C := RX3) (T := TX3) (N := 11) hx hb hts inX3 hown hK hP 0 rfl rfl 4 (by decide) (hts _ q186) (fun _ h9 => h9) rfl dX3_requireOwner_6 ?_
    refine lv_icmp_lt (tgt := 23) hx hb dX3_requireOwner_9 (by decide) (fun c2 => ?_) (fun c2 => ?_)
    · have hf := br_pos c2 hf
      cases hf
      exact endx_v hAe hQm hx hb hr hlocks hP hD hS dX3_requireOwner_23 (Nat.le_of_ble_eq_true rfl) (Nat.le_of_ble_eq_true rfl)
    · have hf := br_neg c2 hf
      cases hf
      exact endx_throwW 3 rfl hAe hQm hst hx hb hts hE hown htab hlocks (by decide +kernel) q390 q36 sl20 at283 hZ (hl.1.trans hml.symm) hP hD hS dX3_requireOwner_12 dX3_requireOwner_15 dX3_requireOwner_16 dX3_requireOwner_19 dX3_requireOwner_22 (Nat.le_of_ble_eq_true rfl) (Nat.le_of_ble_eq_true rfl) (Nat.le_of_ble_eq_true rfl) (Nat.le_of_ble_eq_true rfl) (Nat.le_of_ble_eq_true rfl) (Nat.le_of_ble_eq_true rfl)
def f_C_note (p1 : Int32) (nE : Int32) (cK : Nat → Int32) : Option (Int32 × (Nat → Int32)) :=
  (f_S_entryTotal nE).bind fun r1 =>
  if 512 ≤ r1 then
    some (nE, cK)
  else
    if r1 < 0 ∨ 512 ≤ r1.toNatClampNeg then none else
      (f_S_setEntries (r1 + 1)).bind fun nE_5 =>
    some (nE_5, (upd cK r1.toNatClampNeg (vp_nar .char p1)))
set_option maxHeartbeats 4000000 in
set_option maxRecDepth 100000 in
theorem m_C_note (l : Launch) {D : va_G} {sl : List (String × Nat × String)} (ca : Nat → ClassId) (ad : Nat → Nat) (bq : Nat) (nF : Int32) (nO : Nat → Int32) (nL : Nat → Int32) (nA : Nat → Int32) (nC : Nat → Int32) (nV : Nat → Int32) (nU : Nat → Int32) (nP : Nat → Int32) (nE : Int32) (bF : Int32) (bO : Nat → Int32) (bL : Nat → Int32) (bA : Nat → Int32) (bC : Nat → Int32) (bV : Nat → Int32) (bU : Nat → Int32) (bP : Nat → Int32) (bE : Int32) (cT : Int32) (cK : Nat → Int32) (cO : Int32) (cQ : Nat → Int32) (cD : Int32) (pT : Int32) (pK : Int32) (pR : Nat → Int32) (pW : Nat → Int32) (pU : Nat → Int32) (pI : Nat → Int32) (pC : Nat → Nat → Int32) (uO : Int32) (uF : Nat → Int32) (uE : Nat → Int32) (uN : Nat → Int32) (wK : Nat → Int32) (jM : Int32) (jN : Int32) (jZ : Nat) (jB : Nat → Int32) (R : va_W) (sz : Nat) (p1 : Int32) (onE : Int32) (ocK : Nat → Int32) (hf : f_C_note p1 nE cK = some (onE, ocK)) : Met l yX3_note (wm yX3_note cX3_note 3 none) ({ frames := 1, cells := 0, slots := 0, locals := 21 } : Room) (PRE [.ref (ad 0), .int p1] D ca sl (WC ca ad bq nF nO nL nA nC nV nU nP nE bF bO bL bA bC bV bU bP bE cT cK cO cQ cD pT pK pR pW pU pI pC uO uF uE uN wK jM jN jZ jB ++ R) sz) (QV D (WC ca ad bq nF nO nL nA nC nV nU nP onE bF bO bL bA bC bV bU bP bE cT ocK cO cQ cD pT pK pR pW pU pI pC uO uF uE uN wK jM jN jZ jB ++ R) (WC ca ad bq nF nO nL nA nC nV nU nP nE bF bO bL bA bC bV bU bP bE cT cK cO cQ cD pT pK pR pW pU pI pC uO uF uE uN wK jM jN jZ jB ++ R) sz) 0 0 (va_A (WC ca ad bq nF nO nL nA nC nV nU nP nE bF bO bL bA bC bV bU bP bE cT cK cO cQ cD pT pK pR pW pU pI pC uO uF uE uN wK jM jN jZ jB ++ R) sz) := by
  refine Met.ofW (cc := cX3_note) (maxL := 3) (ret := none) (by decide) rfl ?_
  intro p e s m args below meth c s₁ B hml hv
  obtain ⟨rfl, rfl, hP, hE, hD0⟩ := hv
  have hx := B.exec
  have hb := B.bytes
  have hr := B.returns
  have hts := wm_ww (atoms_spec (ws := wm yX3_note cX3_note 3 none) B.pre)
  have hown : s.vm.findClass RX3 = some m.cls := findClass_of_methodNamed B.named
  have hlocks := B.notSynchronized
  have hK := hE.1
  have hD := hD0.self (sz := s.heap.size)
  generalize hAe : va_A (WC ca ad bq nF nO nL nA nC nV nU nP nE bF bO bL bA bC bV bU bP bE cT cK cO cQ cD pT pK pR pW pU pI pC uO uF uE uN wK jM jN jZ jB ++ R) s.heap.size = A at hD ⊢
  have hA : ∀ q : Nat, s.heap.size ≤ q → A q := fun q h => by rw [← hAe]; exact Or.inr h
  have hS : va_S A s.heap s.heap [] := va_S.rf
  have hl := lv_entry ([.ref (ad 0), .int p1]) (n := 3) (Nat.le_of_ble_eq_true rfl)
  rw [lg_entry_eq]
  generalize (lg_sl ([.ref (ad 0), .int p1]) ++ List.replicate (3 - (lg_sl ([.ref (ad 0), .int p1])).length) Slot.unset).toArray = ls at hl ⊢
  have hl : lv_has ls 3 [(0, .ref (ad 0)), (1, .int p1)] := hl
  change W p l e ({ frames := 1, cells := 0, slots := 0, locals := 21 } : Room) s m _ below meth c s.heap [] 0 0 _ _
  generalize hQm : MQ below (QV D (WC ca ad bq nF nO nL nA nC nV nU nP onE bF bO bL bA bC bV bU bP bE cT ocK cO cQ cD pT pK pR pW pU pI pC uO uF uE uN wK jM jN jZ jB ++ R) (WC ca ad bq nF nO nL nA nC nV nU nP nE bF bO bL bA bC bV bU bP bE cT cK cO cQ cD pT pK pR pW pU pI pC uO uF uE uN wK jM jN jZ jB ++ R) s.heap.size) _ s 0 0 A = Qm
  have hP : va_P D vwCl (WC ca ad bq nF nO nL nA nC nV nU nP nE bF bO bL bA bC bV bU bP bE cT cK cO cQ cD pT pK pR pW pU pI pC uO uF uE uN wK jM jN jZ jB ++ R) s.heap := hP
  generalize hae : ([.ref (ad 0), .int p1] : List Value).toArray = args at hts hQm ⊢
  refine lv_aload_n hx hb dX3_note_0 rfl (lv_at hl 0 rfl) ?_
  refine va_get (D := D) (ci := 7) (v := .ref (ad 1)) (C := RX3) (T := TX3) (N := 11) hx hb hts inX3 hown hK hP 0 rfl rfl 0 (by decide) (hts _ q182) (fun _ h9 => h9) rfl dX3_note_1 ?_
  obtain ⟨r1, h2, hf⟩ := bnd hf
  refine call_vi (rest := []) (m_S_entryTotal l ca ad bq nF nO nL nA nC nV nU nP nE bF bO bL bA bC bV bU bP bE cT cK cO cQ cD pT pK pR pW pU pI pC uO uF uE uN wK jM jN jZ jB R _ r1 h2) ⟨hx, hb, hml, hown, hts⟩ (cwV 0 hts (gV q228 q229 q230 q25 q231) rfl rfl rfl (by decide +kernel) ⟨Nat.le_of_ble_eq_true rfl, Nat.le_of_ble_eq_true rfl⟩) (va_recv hK hP (ci := 6) (q0 := 1) rfl rfl) hE hP hD hS hA rfl hl.1 rfl (lv_room (Nat.le_of_ble_eq_true rfl)) dX3_note_4 ⟨Nat.le_of_ble_eq_true rfl, Nat.le_of_ble_eq_true rfl⟩ (fun H locs hP hD hS => ?_)
  refine lv_istore_n (lv' := [(2, .int r1), (0, .ref (ad 0)), (1, .int p1)]) hx hb dX3_note_7 rfl hl (by decide) rfl (fun ls hl => ?_)
  refine lv_iload_n hx hb dX3_note_8 rfl (lv_at hl 0 rfl) ?_
  refine lv_sipush (v := 512) hx hb dX3_note_9 (by decide) ?_
  refine lv_icmp_ge (tgt := 32) hx hb dX3_note_12 (by decide) (fun c3 => ?_) (fun c3 => ?_)
  · have hf := br_pos c3 hf
    cases hf
    exact end_v hAe hQm hx hb hr hlocks hP hD hS dX3_note_32
  · have hf := br_neg c3 hf
    refine lv_aload_n hx hb dX3_note_15 rfl (lv_at hl 1 rfl) ?_
    refine va_get (D := D) (ci := 7) (v := .ref (ad 3)) (C := RX3) (T := TX3) (N := 11) hx hb hts inX3 hown hK hP 0 rfl rfl 3 (by decide) (hts _ q185) (fun _ h9 => h9) rfl dX3_note_16 ?_
    refine lv_iload_n hx hb dX3_note_19 rfl (lv_at hl 0 rfl) ?_
    refine lv_iload_n hx hb dX3_note_20 rfl (lv_at hl 2 rfl) ?_
    obtain ⟨k4, hf⟩ := ck_not hf
    refine va_cast (D := D) hx hb hK hP hD hS 17 2 rfl rfl k4 dX3_note_21 (fun H locs hP hD hS => ?_)
    have hP : va_P D vwCl (WC ca ad bq nF nO nL nA nC nV nU nP nE bF bO bL bA bC bV bU bP bE cT (upd cK r1.toNatClampNeg (vp_nar .char p1)) cO cQ cD pT pK pR pW pU pI pC uO uF uE uN wK jM jN jZ jB ++ R) H := hP
    have hD : va_D A (WC ca ad bq nF nO nL nA nC nV nU nP nE bF bO bL bA bC bV bU bP bE cT (upd cK r1.toNatClampNeg (vp_nar .char p1)) cO cQ cD pT pK pR pW pU pI pC uO uF uE uN wK jM jN jZ jB ++ R) := hD
    refine lv_aload_n hx hb dX3_note_22 rfl (lv_at hl 1 rfl) ?_
    refine va_get (D := D) (ci := 7) (v := .ref (ad 1)) (C := RX3) (T := TX3) (N := 11) hx hb hts inX3 hown hK hP 0 rfl rfl 0 (by decide) (hts _ q182) (fun _ h9 => h9) rfl dX3_note_23 ?_
    refine lv_iload_n hx hb dX3_note_26 rfl (lv_at hl 0 rfl) ?_
    refine lv_iconst (v := 1) hx hb dX3_note_27 (by decide) ?_
    refine lv_iadd hx hb dX3_note_28 ?_
    obtain ⟨nE_5, h6, hf⟩ := bnd hf
    refine call_vv (rest := []) (m_S_setEntries l ca ad bq nF nO nL nA nC nV nU nP nE bF bO bL bA bC bV bU bP bE cT (upd cK r1.toNatClampNeg (vp_nar .char p1)) cO cQ cD pT pK pR pW pU pI pC uO uF uE uN wK jM jN jZ jB R _ (r1 + 1) nE_5 h6) ⟨hx, hb, hml, hown, hts⟩ (cwV 1 hts (gV q412 q413 q414 q25 q415) rfl rfl rfl (by decide +kernel) ⟨Nat.le_of_ble_eq_true rfl, Nat.le_of_ble_eq_true rfl⟩) (va_recv hK hP (ci := 6) (q0 := 1) rfl rfl) hE hP hD hS hA rfl hl.1 rfl (lv_room (Nat.le_of_ble_eq_true rfl)) dX3_note_29 ⟨Nat.le_of_ble_eq_true rfl, Nat.le_of_ble_eq_true rfl⟩ (fun H locs hP hD hS => ?_)
    cases hf
    exact end_v hAe hQm hx hb hr hlocks hP hD hS dX3_note_32
def f_C_createFile (p1 : Int32) (nF : Int32) (nO : Nat → Int32) (nL : Nat → Int32) (nA : Nat → Int32) (nE : Int32) (cK : Nat → Int32) (cO : Int32) : Option (Except Nat Int32 × Int32 × (Nat → Int32) × (Nat → Int32) × (Nat → Int32) × Int32 × (Nat → Int32)) :=
  (f_C_requireOwner p1 cO).bind fun x1 =>
  match x1 with
  | .error n3 => some ((.error n3), nF, nO, nL, nA, nE, cK)
  | .ok _ =>
  (f_S_fileTotal nF).bind fun r4 =>
  if r4 < 40 then
    (f_S_addFile p1 nF nO nL nA).bind fun (r7, nF_8, nO_9, nL_10, nA_11) =>
    (f_C_note 99 nE cK).bind fun (nE_13, cK_14) =>
    some ((.ok r7), nF_8, nO_9, nL_10, nA_11, nE_13, cK_14)
  else
    some ((.error 2), nF, nO, nL, nA, nE, cK)
set_option maxHeartbeats 4000000 in
set_option maxRecDepth 100000 in
theorem m_C_createFile (l : Launch) (hst : l.stackTraces = false) {D : va_G} (ca : Nat → ClassId) (ad : Nat → Nat) (bq : Nat) (nF : Int32) (nO : Nat → Int32) (nL : Nat → Int32) (nA : Nat → Int32) (nC : Nat → Int32) (nV : Nat → Int32) (nU : Nat → Int32) (nP : Nat → Int32) (nE : Int32) (bF : Int32) (bO : Nat → Int32) (bL : Nat → Int32) (bA : Nat → Int32) (bC : Nat → Int32) (bV : Nat → Int32) (bU : Nat → Int32) (bP : Nat → Int32) (bE : Int32) (cT : Int32) (cK : Nat → Int32) (cO : Int32) (cQ : Nat → Int32) (cD : Int32) (pT : Int32) (pK : Int32) (pR : Nat → Int32) (pW : Nat → Int32) (pU : Nat → Int32) (pI : Nat → Int32) (pC : Nat → Nat → Int32) (uO : Int32) (uF : Nat → Int32) (uE : Nat → Int32) (uN : Nat → Int32) (wK : Nat → Int32) (jM : Int32) (jN : Int32) (jZ : Nat) (jB : Nat → Int32) (R : va_W) (sz : Nat) (p1 : Int32) (ro : Except Nat Int32) (onF : Int32) (onO : Nat → Int32) (onL : Nat → Int32) (onA : Nat → Int32) (onE : Int32) (ocK : Nat → Int32) (hf : f_C_createFile p1 nF nO nL nA nE cK cO = some (ro, onF, onO, onL, onA, onE, ocK)) : vx_Met l yX3_createFile (wm yX3_createFile cX3_createFile 3 (some .int)) ({ frames := 7, cells := 2, slots := 12, locals := 111 } : Room) (PREX [.ref (ad 0), .int p1] D ca SL0 (WC ca ad bq nF nO nL nA nC nV nU nP nE bF bO bL bA bC bV bU bP bE cT cK cO cQ cD pT pK pR pW pU pI pC uO uF uE uN wK jM jN jZ jB ++ R) sz) (QXI ro D (WC ca ad bq onF onO onL onA nC nV nU nP onE bF bO bL bA bC bV bU bP bE cT ocK cO cQ cD pT pK pR pW pU pI pC uO uF uE uN wK jM jN jZ jB ++ R) (WC ca ad bq nF nO nL nA nC nV nU nP nE bF bO bL bA bC bV bU bP bE cT cK cO cQ cD pT pK pR pW pU pI pC uO uF uE uN wK jM jN jZ jB ++ R) sz) (QXE ro D (WC ca ad bq onF onO onL onA nC nV nU nP onE bF bO bL bA bC bV bU bP bE cT ocK cO cQ cD pT pK pR pW pU pI pC uO uF uE uN wK jM jN jZ jB ++ R) (WC ca ad bq nF nO nL nA nC nV nU nP nE bF bO bL bA bC bV bU bP bE cT cK cO cQ cD pT pK pR pW pU pI pC uO uF uE uN wK jM jN jZ jB ++ R) sz) 2 12 (va_A (WC ca ad bq nF nO nL nA nC nV nU nP nE bF bO bL bA bC bV bU bP bE cT cK cO cQ cD pT pK pR pW pU pI pC uO uF uE uN wK jM jN jZ jB ++ R) sz) := by
  refine vx_ofW (cc := cX3_createFile) (maxL := 3) (ret := (some .int)) (by decide) rfl ?_
  intro p e s m args below meth c s₁ B hml htab hv
  obtain ⟨rfl, rfl, hP, hE, hD0, hZ⟩ := hv
  have hx := B.exec
  have hb := B.bytes
  have hr := B.returns
  have hts := wm_ww (atoms_spec (ws := wm yX3_createFile cX3_createFile 3 (some .int)) B.pre)
  have hown : s.vm.findClass RX3 = some m.cls := findClass_of_methodNamed B.named
  have hlocks := B.notSynchronized
  have hK := hE.1
  have hD := hD0.self (sz := s.heap.size)
  generalize hAe : va_A (WC ca ad bq nF nO nL nA nC nV nU nP nE bF bO bL bA bC bV bU bP bE cT cK cO cQ cD pT pK pR pW pU pI pC uO uF uE uN wK jM jN jZ jB ++ R) s.heap.size = A at hD hZ ⊢
  have hA : ∀ q : Nat, s.heap.size ≤ q → A q := fun q h => by rw [← hAe]; exact Or.inr h
  have hS : va_S A s.heap s.heap [] := va_S.rf
  have hl := lv_entry ([.ref (ad 0), .int p1]) (n := 3) (Nat.le_of_ble_eq_true rfl)
  rw [lg_entry_eq]
  generalize (lg_sl ([.ref (ad 0), .int p1]) ++ List.replicate (3 - (lg_sl ([.ref (ad 0), .int p1])).length) Slot.unset).toArray = ls at hl ⊢
  have hl : lv_has ls 3 [(0, .ref (ad 0)), (1, .int p1)] := hl
  change W p l e ({ frames := 7, cells := 2, slots := 12, locals := 111 } : Room) s m _ below meth c s.heap [] 0 0 _ _
  generalize hQm : vx_MQ below (QXI ro D (WC ca ad bq onF onO onL onA nC nV nU nP onE bF bO bL bA bC bV bU bP bE cT ocK cO cQ cD pT pK pR pW pU pI pC uO uF uE uN wK jM jN jZ jB ++ R) (WC ca ad bq nF nO nL nA nC nV nU nP nE bF bO bL bA bC bV bU bP bE cT cK cO cQ cD pT pK pR pW pU pI pC uO uF uE uN wK jM jN jZ jB ++ R) s.heap.size) (QXE ro D (WC ca ad bq onF onO onL onA nC nV nU nP onE bF bO bL bA bC bV bU bP bE cT ocK cO cQ cD pT pK pR pW pU pI pC uO uF uE uN wK jM jN jZ jB ++ R) (WC ca ad bq nF nO nL nA nC nV nU nP nE bF bO bL bA bC bV bU bP bE cT cK cO cQ cD pT pK pR pW pU pI pC uO uF uE uN wK jM jN jZ jB ++ R) s.heap.size) _ s 2 12 A = Qm
  have hP : va_P D vwCl (WC ca ad bq nF nO nL nA nC nV nU nP nE bF bO bL bA bC bV bU bP bE cT cK cO cQ cD pT pK pR pW pU pI pC uO uF uE uN wK jM jN jZ jB ++ R) s.heap := hP
  generalize hae : ([.ref (ad 0), .int p1] : List Value).toArray = args at hts hQm ⊢
  refine lv_aload_n hx hb dX3_createFile_0 rfl (lv_at hl 0 rfl) ?_
  refine lv_iload_n hx hb dX3_createFile_1 rfl (lv_at hl 1 rfl) ?_
  obtain ⟨x1, h2, hf⟩ := bnd hf
  rcases x1 with n3 | _
  · have hf : some ((.error n3), nF, nO, nL, nA, nE, cK) = some (ro, onF, onO, onL, onA, onE, ocK) := hf
    cases hf
    exact cx_vv_err (rest := []) (m_C_requireOwner l hst ca ad bq nF nO nL nA nC nV nU nP nE bF bO bL bA bC bV bU bP bE cT cK cO cQ cD pT pK pR pW pU pI pC uO uF uE uN wK jM jN jZ jB R _ p1 (.error n3) h2) ⟨hx, hb, hml, hown, hts⟩ (cwV 1 hts (gV q386 q388 q3 q24 q389) rfl rfl rfl (by decide +kernel) ⟨Nat.le_of_ble_eq_true rfl, Nat.le_of_ble_eq_true rfl⟩) (va_recv hK hP (ci := 7) (q0 := 0) rfl rfl) hE hP hD hS hA hZ rfl hl.1 rfl (lv_room (Nat.le_of_ble_eq_true rfl)) dX3_createFile_2 ⟨Nat.le_of_ble_eq_true rfl, Nat.le_of_ble_eq_true rfl⟩ hAe hQm htab hlocks (Nat.le_of_ble_eq_true rfl) (Nat.le_of_ble_eq_true rfl)
  refine cx_vv_ok (rest := []) (m_C_requireOwner l hst ca ad bq nF nO nL nA nC nV nU nP nE bF bO bL bA bC bV bU bP bE cT cK cO cQ cD pT pK pR pW pU pI pC uO uF uE uN wK jM jN jZ jB R _ p1 (.ok ()) h2) ⟨hx, hb, hml, hown, hts⟩ (cwV 1 hts (gV q386 q388 q3 q24 q389) rfl rfl rfl (by decide +kernel) ⟨Nat.le_of_ble_eq_true rfl, Nat.le_of_ble_eq_true rfl⟩) (va_recv hK hP (ci := 7) (q0 := 0) rfl rfl) hE hP hD hS hA hZ rfl hl.1 rfl (lv_room (Nat.le_of_ble_eq_true rfl)) dX3_createFile_2 ⟨Nat.le_of_ble_eq_true rfl, Nat.le_of_ble_eq_true rfl⟩ (fun H locs hP hD hS => ?_)
  refine lv_aload_n hx hb dX3_createFile_5 rfl (lv_at hl 0 rfl) ?_
  refine va_get (D := D) (ci := 7) (v := .ref (ad 1)) (C := RX3) (T := TX3) (N := 11) hx hb hts inX3 hown hK hP 0 rfl rfl 0 (by decide) (hts _ q182) (fun _ h9 => h9) rfl dX3_createFile_6 ?_
  obtain ⟨r4, h5, hf⟩ := bnd hf
  refine call_vi (rest := []) (m_S_fileTotal l ca ad bq nF nO nL nA nC nV nU nP nE bF bO bL bA bC bV bU bP bE cT cK cO cQ cD pT pK pR pW pU pI pC uO uF uE uN wK jM jN jZ jB R _ r4 h5) ⟨hx, hb, hml, hown, hts⟩ (cwV 0 hts (gV q220 q221 q222 q25 q223) rfl rfl rfl (by decide +kernel) ⟨Nat.le_of_ble_eq_true rfl, Nat.le_of_ble_eq_true rfl⟩) (va_recv hK hP (ci := 6) (q0 := 1) rfl rfl) hE hP hD hS hA rfl hl.1 rfl (lv_room (Nat.le_of_ble_eq_true rfl)) dX3_createFile_9 ⟨Nat.le_of_ble_eq_true rfl, Nat.le_of_ble_eq_true rfl⟩ (fun H locs hP hD hS => ?_)
  refine lv_bipush (v := 40) hx hb dX3_createFile_12 (by decide) ?_
  refine lv_icmp_lt (tgt := 27) hx hb dX3_createFile_14 (by decide) (fun c6 => ?_) (fun c6 => ?_)
  · have hf := br_pos c6 hf
    refine lv_aload_n hx hb dX3_createFile_27 rfl (lv_at hl 0 rfl) ?_
    refine va_get (D := D) (ci := 7) (v := .ref (ad 1)) (C := RX3) (T := TX3) (N := 11) hx hb hts inX3 hown hK hP 0 rfl rfl 0 (by decide) (hts _ q182) (fun _ h9 => h9) rfl dX3_createFile_28 ?_
    refine lv_iload_n hx hb dX3_createFile_31 rfl (lv_at hl 1 rfl) ?_
    obtain ⟨⟨r7, nF_8, nO_9, nL_10, nA_11⟩, h12, hf⟩ := bnd hf
    refine call_vi (rest := []) (m_S_addFile l ca ad bq nF nO nL nA nC nV nU nP nE bF bO bL bA bC bV bU bP bE cT cK cO cQ cD pT pK pR pW pU pI pC uO uF uE uN wK jM jN jZ jB R _ p1 r7 nF_8 nO_9 nL_10 nA_11 h12) ⟨hx, hb, hml, hown, hts⟩ (cwV 1 hts (gV q404 q405 q406 q25 q407) rfl rfl rfl (by decide +kernel) ⟨Nat.le_of_ble_eq_true rfl, Nat.le_of_ble_eq_true rfl⟩) (va_recv hK hP (ci := 6) (q0 := 1) rfl rfl) hE hP hD hS hA rfl hl.1 rfl (lv_room (Nat.le_of_ble_eq_true rfl)) dX3_createFile_32 ⟨Nat.le_of_ble_eq_true rfl, Nat.le_of_ble_eq_true rfl⟩ (fun H locs hP hD hS => ?_)
    refine lv_istore_n (lv' := [(2, .int r7), (0, .ref (ad 0)), (1, .int p1)]) hx hb dX3_createFile_35 rfl hl (by decide) rfl (fun ls hl => ?_)
    refine lv_aload_n hx hb dX3_createFile_36 rfl (lv_at hl 1 rfl) ?_
    refine lv_bipush (v := 99) hx hb dX3_createFile_37 (by decide) ?_
    obtain ⟨⟨nE_13, cK_14⟩, h15, hf⟩ := bnd hf
    refine call_vv (rest := []) (m_C_note l ca ad bq nF_8 nO_9 nL_10 nA_11 nC nV nU nP nE bF bO bL bA bC bV bU bP bE cT cK cO cQ cD pT pK pR pW pU pI pC uO uF uE uN wK jM jN jZ jB R _ 99 nE_13 cK_14 h15) ⟨hx, hb, hml, hown, hts⟩ (cwV 1 hts (gV q408 q410 q4 q24 q411) rfl rfl rfl (by decide +kernel) ⟨Nat.le_of_ble_eq_true rfl, Nat.le_of_ble_eq_true rfl⟩) (va_recv hK hP (ci := 7) (q0 := 0) rfl rfl) hE hP hD hS hA rfl hl.1 rfl (lv_room (Nat.le_of_ble_eq_true rfl)) dX3_createFile_39 ⟨Nat.le_of_ble_eq_true rfl, Nat.le_of_ble_eq_true rfl⟩ (fun H locs hP hD hS => ?_)
    refine lv_iload_n hx hb dX3_createFile_42 rfl (lv_at hl 0 rfl) ?_
    cases hf
    exact endx_i hAe hQm hx hb hr hlocks rfl hP hD hS dX3_createFile_43 (Nat.le_of_ble_eq_true rfl) (Nat.le_of_ble_eq_true rfl)
  · have hf := br_neg c6 hf
    cases hf
    exact endx_throw 2 rfl hAe hQm hst hx hb hts hE hown htab hlocks (by decide +kernel) q365 q39 sl1 at73 hZ (hl.1.trans hml.symm) hP hD hS dX3_createFile_17 dX3_createFile_20 dX3_createFile_21 dX3_createFile_23 dX3_createFile_26 (Nat.le_of_ble_eq_true rfl) (Nat.le_of_ble_eq_true rfl) (Nat.le_of_ble_eq_true rfl) (Nat.le_of_ble_eq_true rfl) (Nat.le_of_ble_eq_true rfl) (Nat.le_of_ble_eq_true rfl)
def f_C_fileCount (nF : Int32) : Option (Int32) :=
  (f_S_fileTotal nF).bind fun r1 =>
  some r1
set_option maxHeartbeats 4000000 in
set_option maxRecDepth 100000 in
theorem m_C_fileCount (l : Launch) {D : va_G} {sl : List (String × Nat × String)} (ca : Nat → ClassId) (ad : Nat → Nat) (bq : Nat) (nF : Int32) (nO : Nat → Int32) (nL : Nat → Int32) (nA : Nat → Int32) (nC : Nat → Int32) (nV : Nat → Int32) (nU : Nat → Int32) (nP : Nat → Int32) (nE : Int32) (bF : Int32) (bO : Nat → Int32) (bL : Nat → Int32) (bA : Nat → Int32) (bC : Nat → Int32) (bV : Nat → Int32) (bU : Nat → Int32) (bP : Nat → Int32) (bE : Int32) (cT : Int32) (cK : Nat → Int32) (cO : Int32) (cQ : Nat → Int32) (cD : Int32) (pT : Int32) (pK : Int32) (pR : Nat → Int32) (pW : Nat → Int32) (pU : Nat → Int32) (pI : Nat → Int32) (pC : Nat → Nat → Int32) (uO : Int32) (uF : Nat → Int32) (uE : Nat → Int32) (uN : Nat → Int32) (wK : Nat → Int32) (jM : Int32) (jN : Int32) (jZ : Nat) (jB : Nat → Int32) (R : va_W) (sz : Nat) (ro : Int32) (hf : f_C_fileCount nF = some ro) : Met l yX3_fileCount (wm yX3_fileCount cX3_fileCount 1 (some .int)) ({ frames := 1, cells := 0, slots := 0, locals := 20 } : Room) (PRE [.ref (ad 0)] D ca sl (WC ca ad bq nF nO nL nA nC nV nU nP nE bF bO bL bA bC bV bU bP bE cT cK cO cQ cD pT pK pR pW pU pI pC uO uF uE uN wK jM jN jZ jB ++ R) sz) (QI ro D (WC ca ad bq nF nO nL nA nC nV nU nP nE bF bO bL bA bC bV bU bP bE cT cK cO cQ cD pT pK pR pW pU pI pC uO uF uE uN wK jM jN jZ jB ++ R) (WC ca ad bq nF nO nL nA nC nV nU nP nE bF bO bL bA bC bV bU bP bE cT cK cO cQ cD pT pK pR pW pU pI pC uO uF uE uN wK jM jN jZ jB ++ R) sz) 0 0 (va_A (WC ca ad bq nF nO nL nA nC nV nU nP nE bF bO bL bA bC bV bU bP bE cT cK cO cQ cD pT pK pR pW pU pI pC uO uF uE uN wK jM jN jZ jB ++ R) sz) := by
  refine Met.ofW (cc := cX3_fileCount) (maxL := 1) (ret := (some .int)) (by decide) rfl ?_
  intro p e s m args below meth c s₁ B hml hv
  obtain ⟨rfl, rfl, hP, hE, hD0⟩ := hv
  have hx := B.exec
  have hb := B.bytes
  have hr := B.returns
  have hts := wm_ww (atoms_spec (ws := wm yX3_fileCount cX3_fileCount 1 (some .int)) B.pre)
  have hown : s.vm.findClass RX3 = some m.cls := findClass_of_methodNamed B.named
  have hlocks := B.notSynchronized
  have hK := hE.1
  have hD := hD0.self (sz := s.heap.size)
  generalize hAe : va_A (WC ca ad bq nF nO nL nA nC nV nU nP nE bF bO bL bA bC bV bU bP bE cT cK cO cQ cD pT pK pR pW pU pI pC uO uF uE uN wK jM jN jZ jB ++ R) s.heap.size = A at hD ⊢
  have hA : ∀ q : Nat, s.heap.size ≤ q → A q := fun q h => by rw [← hAe]; exact Or.inr h
  have hS : va_S A s.heap s.heap [] := va_S.rf
  have hl := lv_entry ([.ref (ad 0)]) (n := 1) (Nat.le_of_ble_eq_true rfl)
  rw [lg_entry_eq]
  generalize (lg_sl ([.ref (ad 0)]) ++ List.replicate (1 - (lg_sl ([.ref (ad 0)])).length) Slot.unset).toArray = ls at hl ⊢
  have hl : lv_has ls 1 [(0, .ref (ad 0))] := hl
  change W p l e ({ frames := 1, cells := 0, slots := 0, locals := 20 } : Room) s m _ below meth c s.heap [] 0 0 _ _
  generalize hQm : MQ below (QI ro D (WC ca ad bq nF nO nL nA nC nV nU nP nE bF bO bL bA bC bV bU bP bE cT cK cO cQ cD pT pK pR pW pU pI pC uO uF uE uN wK jM jN jZ jB ++ R) (WC ca ad bq nF nO nL nA nC nV nU nP nE bF bO bL bA bC bV bU bP bE cT cK cO cQ cD pT pK pR pW pU pI pC uO uF uE uN wK jM jN jZ jB ++ R) s.heap.size) _ s 0 0 A = Qm
  have hP : va_P D vwCl (WC ca ad bq nF nO nL nA nC nV nU nP nE bF bO bL bA bC bV bU bP bE cT cK cO cQ cD pT pK pR pW pU pI pC uO uF uE uN wK jM jN jZ jB ++ R) s.heap := hP
  generalize hae : ([.ref (ad 0)] : List Value).toArray = args at hts hQm ⊢
  refine lv_aload_n hx hb dX3_fileCount_0 rfl (lv_at hl 0 rfl) ?_
  refine va_get (D := D) (ci := 7) (v := .ref (ad 1)) (C := RX3) (T := TX3) (N := 11) hx hb hts inX3 hown hK hP 0 rfl rfl 0 (by decide) (hts _ q182) (fun _ h9 => h9) rfl dX3_fileCount_1 ?_
  obtain ⟨r1, h2, hf⟩ := bnd hf
  refine call_vi (rest := []) (m_S_fileTotal l ca ad bq nF nO nL nA nC nV nU nP nE bF bO bL bA bC bV bU bP bE cT cK cO cQ cD pT pK pR pW pU pI pC uO uF uE uN wK jM jN jZ jB R _ r1 h2) ⟨hx, hb, hml, hown, hts⟩ (cwV 0 hts (gV q220 q221 q222 q25 q223) rfl rfl rfl (by decide +kernel) ⟨Nat.le_of_ble_eq_true rfl, Nat.le_of_ble_eq_true rfl⟩) (va_recv hK hP (ci := 6) (q0 := 1) rfl rfl) hE hP hD hS hA rfl hl.1 rfl (lv_room (Nat.le_of_ble_eq_true rfl)) dX3_fileCount_4 ⟨Nat.le_of_ble_eq_true rfl, Nat.le_of_ble_eq_true rfl⟩ (fun H locs hP hD hS => ?_)
  cases hf
  exact end_i hAe hQm hx hb hr hlocks rfl hP hD hS dX3_fileCount_7
def f_C_requireFile (p1 : Int32) (nF : Int32) : Option (Except Nat Unit) :=
  (f_S_hasFile p1 nF).bind fun r1 =>
  if r1 = 0 then
    some (.error 3)
  else
    some (.ok ())
set_option maxHeartbeats 4000000 in
set_option maxRecDepth 100000 in
theorem m_C_requireFile (l : Launch) (hst : l.stackTraces = false) {D : va_G} (ca : Nat → ClassId) (ad : Nat → Nat) (bq : Nat) (nF : Int32) (nO : Nat → Int32) (nL : Nat → Int32) (nA : Nat → Int32) (nC : Nat → Int32) (nV : Nat → Int32) (nU : Nat → Int32) (nP : Nat → Int32) (nE : Int32) (bF : Int32) (bO : Nat → Int32) (bL : Nat → Int32) (bA : Nat → Int32) (bC : Nat → Int32) (bV : Nat → Int32) (bU : Nat → Int32) (bP : Nat → Int32) (bE : Int32) (cT : Int32) (cK : Nat → Int32) (cO : Int32) (cQ : Nat → Int32) (cD : Int32) (pT : Int32) (pK : Int32) (pR : Nat → Int32) (pW : Nat → Int32) (pU : Nat → Int32) (pI : Nat → Int32) (pC : Nat → Nat → Int32) (uO : Int32) (uF : Nat → Int32) (uE : Nat → Int32) (uN : Nat → Int32) (wK : Nat → Int32) (jM : Int32) (jN : Int32) (jZ : Nat) (jB : Nat → Int32) (R : va_W) (sz : Nat) (p1 : Int32) (ro : Except Nat Unit) (hf : f_C_requireFile p1 nF = some ro) : vx_Met l yX3_requireFile (wm yX3_requireFile cX3_requireFile 2 none) ({ frames := 6, cells := 1, slots := 6, locals := 90 } : Room) (PREX [.ref (ad 0), .int p1] D ca SL0 (WC ca ad bq nF nO nL nA nC nV nU nP nE bF bO bL bA bC bV bU bP bE cT cK cO cQ cD pT pK pR pW pU pI pC uO uF uE uN wK jM jN jZ jB ++ R) sz) (QXV ro D (WC ca ad bq nF nO nL nA nC nV nU nP nE bF bO bL bA bC bV bU bP bE cT cK cO cQ cD pT pK pR pW pU pI pC uO uF uE uN wK jM jN jZ jB ++ R) (WC ca ad bq nF nO nL nA nC nV nU nP nE bF bO bL bA bC bV bU bP bE cT cK cO cQ cD pT pK pR pW pU pI pC uO uF uE uN wK jM jN jZ jB ++ R) sz) (QXE ro D (WC ca ad bq nF nO nL nA nC nV nU nP nE bF bO bL bA bC bV bU bP bE cT cK cO cQ cD pT pK pR pW pU pI pC uO uF uE uN wK jM jN jZ jB ++ R) (WC ca ad bq nF nO nL nA nC nV nU nP nE bF bO bL bA bC bV bU bP bE cT cK cO cQ cD pT pK pR pW pU pI pC uO uF uE uN wK jM jN jZ jB ++ R) sz) 1 6 (va_A (WC ca ad bq nF nO nL nA nC nV nU nP nE bF bO bL bA bC bV bU bP bE cT cK cO cQ cD pT pK pR pW pU pI pC uO uF uE uN wK jM jN jZ jB ++ R) sz) := by
  refine vx_ofW (cc := cX3_requireFile) (maxL := 2) (ret := none) (by decide) rfl ?_
  intro p e s m args below meth c s₁ B hml htab hv
  obtain ⟨rfl, rfl, hP, hE, hD0, hZ⟩ := hv
  have hx := B.exec
  have hb := B.bytes
  have hr := B.returns
  have hts := wm_ww (atoms_spec (ws := wm yX3_requireFile cX3_requireFile 2 none) B.pre)
  have hown : s.vm.findClass RX3 = some m.cls := findClass_of_methodNamed B.named
  have hlocks := B.notSynchronized
  have hK := hE.1
  have hD := hD0.self (sz := s.heap.size)
  generalize hAe : va_A (WC ca ad bq nF nO nL nA nC nV nU nP nE bF bO bL bA bC bV bU bP bE cT cK cO cQ cD pT pK pR pW pU pI pC uO uF uE uN wK jM jN jZ jB ++ R) s.heap.size = A at hD hZ ⊢
  have hA : ∀ q : Nat, s.heap.size ≤ q → A q := fun q h => by rw [← hAe]; exact Or.inr h
  have hS : va_S A s.heap s.heap [] := va_S.rf
  have hl := lv_entry ([.ref (ad 0), .int p1]) (n := 2) (Nat.le_of_ble_eq_true rfl)
  rw [lg_entry_eq]
  generalize (lg_sl ([.ref (ad 0), .int p1]) ++ List.replicate (2 - (lg_sl ([.ref (ad 0), .int p1])).length) Slot.unset).toArray = ls at hl ⊢
  have hl : lv_has ls 2 [(0, .ref (ad 0)), (1, .int p1)] := hl
  change W p l e ({ frames := 6, cells := 1, slots := 6, locals := 90 } : Room) s m _ below meth c s.heap [] 0 0 _ _
  generalize hQm : vx_MQ below (QXV ro D (WC ca ad bq nF nO nL nA nC nV nU nP nE bF bO bL bA bC bV bU bP bE cT cK cO cQ cD pT pK pR pW pU pI pC uO uF uE uN wK jM jN jZ jB ++ R) (WC ca ad bq nF nO nL nA nC nV nU nP nE bF bO bL bA bC bV bU bP bE cT cK cO cQ cD pT pK pR pW pU pI pC uO uF uE uN wK jM jN jZ jB ++ R) s.heap.size) (QXE ro D (WC ca ad bq nF nO nL nA nC nV nU nP nE bF bO bL bA bC bV bU bP bE cT cK cO cQ cD pT pK pR pW pU pI pC uO uF uE uN wK jM jN jZ jB ++ R) (WC ca ad bq nF nO nL nA nC nV nU nP nE bF bO bL bA bC bV bU bP bE cT cK cO cQ cD pT pK pR pW pU pI pC uO uF uE uN wK jM jN jZ jB ++ R) s.heap.size) _ s 1 6 A = Qm
  have hP : va_P D vwCl (WC ca ad bq nF nO nL nA nC nV nU nP nE bF bO bL bA bC bV bU bP bE cT cK cO cQ cD pT pK pR pW pU pI pC uO uF uE uN wK jM jN jZ jB ++ R) s.heap := hP
  generalize hae : ([.ref (ad 0), .int p1] : List Value).toArray = args at hts hQm ⊢
  refine lv_aload_n hx hb dX3_requireFile_0 rfl (lv_at hl 0 rfl) ?_
  refine va_get (D := D) (ci := 7) (v := .ref (ad 1)) (C := RX3) (T := TX3) (N := 11) hx hb hts inX3 hown hK hP 0 rfl rfl 0 (by decide) (hts _ q182) (fun _ h9 => h9) rfl dX3_requireFile_1 ?_
  refine lv_iload_n hx hb dX3_requireFile_4 rfl (lv_at hl 1 rfl) ?_
  obtain ⟨r1, h2, hf⟩ := bnd hf
  refine call_vi (rest := []) (m_S_hasFile l ca ad bq nF nO nL nA nC nV nU nP nE bF bO bL bA bC bV bU bP bE cT cK cO cQ cD pT pK pR pW pU pI pC uO uF uE uN wK jM jN jZ jB R _ p1 r1 h2) ⟨hx, hb, hml, hown, hts⟩ (cwV 1 hts (gV q424 q425 q426 q25 q427) rfl rfl rfl (by decide +kernel) ⟨Nat.le_of_ble_eq_true rfl, Nat.le_of_ble_eq_true rfl⟩) (va_recv hK hP (ci := 6) (q0 := 1) rfl rfl) hE hP hD hS hA rfl hl.1 rfl (lv_room (Nat.le_of_ble_eq_true rfl)) dX3_requireFile_5 ⟨Nat.le_of_ble_eq_true rfl, Nat.le_of_ble_eq_true rfl⟩ (fun H locs hP hD hS => ?_)
  refine lv_if_ne (tgt := 22) hx hb dX3_requireFile_8 (by decide) (fun c3 => ?_) (fun c3 => ?_)
  · have hf := br_neg c3 hf
    cases hf
    exact endx_v hAe hQm hx hb hr hlocks hP hD hS dX3_requireFile_22 (Nat.le_of_ble_eq_true rfl) (Nat.le_of_ble_eq_true rfl)
  · have hf := br_pos c3 hf
    cases hf
    exact endx_throwW 3 rfl hAe hQm hst hx hb hts hE hown htab hlocks (by decide +kernel) q390 q36 sl21 at283 hZ (hl.1.trans hml.symm) hP hD hS dX3_requireFile_11 dX3_requireFile_14 dX3_requireFile_15 dX3_requireFile_18 dX3_requireFile_21 (Nat.le_of_ble_eq_true rfl) (Nat.le_of_ble_eq_true rfl) (Nat.le_of_ble_eq_true rfl) (Nat.le_of_ble_eq_true rfl) (Nat.le_of_ble_eq_true rfl) (Nat.le_of_ble_eq_true rfl)
def f_C_doesExist (p1 : Int32) (nF : Int32) (nA : Nat → Int32) : Option (Except Nat Int32) :=
  (f_C_requireFile p1 nF).bind fun x1 =>
  match x1 with
  | .error n3 => some (.error n3)
  | .ok _ =>
  (f_S_isAlive p1 nF nA).bind fun r4 =>
  if vp_nar .boolean r4 = r4 then some (.ok r4) else none
set_option maxHeartbeats 4000000 in
set_option maxRecDepth 100000 in
theorem m_C_doesExist (l : Launch) (hst : l.stackTraces = false) {D : va_G} (ca : Nat → ClassId) (ad : Nat → Nat) (bq : Nat) (nF : Int32) (nO : Nat → Int32) (nL : Nat → Int32) (nA : Nat → Int32) (nC : Nat → Int32) (nV : Nat → Int32) (nU : Nat → Int32) (nP : Nat → Int32) (nE : Int32) (bF : Int32) (bO : Nat → Int32) (bL : Nat → Int32) (bA : Nat → Int32) (bC : Nat → Int32) (bV : Nat → Int32) (bU : Nat → Int32) (bP : Nat → Int32) (bE : Int32) (cT : Int32) (cK : Nat → Int32) (cO : Int32) (cQ : Nat → Int32) (cD : Int32) (pT : Int32) (pK : Int32) (pR : Nat → Int32) (pW : Nat → Int32) (pU : Nat → Int32) (pI : Nat → Int32) (pC : Nat → Nat → Int32) (uO : Int32) (uF : Nat → Int32) (uE : Nat → Int32) (uN : Nat → Int32) (wK : Nat → Int32) (jM : Int32) (jN : Int32) (jZ : Nat) (jB : Nat → Int32) (R : va_W) (sz : Nat) (p1 : Int32) (ro : Except Nat Int32) (hf : f_C_doesExist p1 nF nA = some ro) : vx_Met l yX3_doesExist (wm yX3_doesExist cX3_doesExist 2 (some .boolean)) ({ frames := 7, cells := 1, slots := 6, locals := 111 } : Room) (PREX [.ref (ad 0), .int p1] D ca SL0 (WC ca ad bq nF nO nL nA nC nV nU nP nE bF bO bL bA bC bV bU bP bE cT cK cO cQ cD pT pK pR pW pU pI pC uO uF uE uN wK jM jN jZ jB ++ R) sz) (QXI ro D (WC ca ad bq nF nO nL nA nC nV nU nP nE bF bO bL bA bC bV bU bP bE cT cK cO cQ cD pT pK pR pW pU pI pC uO uF uE uN wK jM jN jZ jB ++ R) (WC ca ad bq nF nO nL nA nC nV nU nP nE bF bO bL bA bC bV bU bP bE cT cK cO cQ cD pT pK pR pW pU pI pC uO uF uE uN wK jM jN jZ jB ++ R) sz) (QXE ro D (WC ca ad bq nF nO nL nA nC nV nU nP nE bF bO bL bA bC bV bU bP bE cT cK cO cQ cD pT pK pR pW pU pI pC uO uF uE uN wK jM jN jZ jB ++ R) (WC ca ad bq nF nO nL nA nC nV nU nP nE bF bO bL bA bC bV bU bP bE cT cK cO cQ cD pT pK pR pW pU pI pC uO uF uE uN wK jM jN jZ jB ++ R) sz) 1 6 (va_A (WC ca ad bq nF nO nL nA nC nV nU nP nE bF bO bL bA bC bV bU bP bE cT cK cO cQ cD pT pK pR pW pU pI pC uO uF uE uN wK jM jN jZ jB ++ R) sz) := by
  refine vx_ofW (cc := cX3_doesExist) (maxL := 2) (ret := (some .boolean)) (by decide) rfl ?_
  intro p e s m args below meth c s₁ B hml htab hv
  obtain ⟨rfl, rfl, hP, hE, hD0, hZ⟩ := hv
  have hx := B.exec
  have hb := B.bytes
  have hr := B.returns
  have hts := wm_ww (atoms_spec (ws := wm yX3_doesExist cX3_doesExist 2 (some .boolean)) B.pre)
  have hown : s.vm.findClass RX3 = some m.cls := findClass_of_methodNamed B.named
  have hlocks := B.notSynchronized
  have hK := hE.1
  have hD := hD0.self (sz := s.heap.size)
  generalize hAe : va_A (WC ca ad bq nF nO nL nA nC nV nU nP nE bF bO bL bA bC bV bU bP bE cT cK cO cQ cD pT pK pR pW pU pI pC uO uF uE uN wK jM jN jZ jB ++ R) s.heap.size = A at hD hZ ⊢
  have hA : ∀ q : Nat, s.heap.size ≤ q → A q := fun q h => by rw [← hAe]; exact Or.inr h
  have hS : va_S A s.heap s.heap [] := va_S.rf
  have hl := lv_entry ([.ref (ad 0), .int p1]) (n := 2) (Nat.le_of_ble_eq_true rfl)
  rw [lg_entry_eq]
  generalize (lg_sl ([.ref (ad 0), .int p1]) ++ List.replicate (2 - (lg_sl ([.ref (ad 0), .int p1])).length) Slot.unset).toArray = ls at hl ⊢
  have hl : lv_has ls 2 [(0, .ref (ad 0)), (1, .int p1)] := hl
  change W p l e ({ frames := 7, cells := 1, slots := 6, locals := 111 } : Room) s m _ below meth c s.heap [] 0 0 _ _
  generalize hQm : vx_MQ below (QXI ro D (WC ca ad bq nF nO nL nA nC nV nU nP nE bF bO bL bA bC bV bU bP bE cT cK cO cQ cD pT pK pR pW pU pI pC uO uF uE uN wK jM jN jZ jB ++ R) (WC ca ad bq nF nO nL nA nC nV nU nP nE bF bO bL bA bC bV bU bP bE cT cK cO cQ cD pT pK pR pW pU pI pC uO uF uE uN wK jM jN jZ jB ++ R) s.heap.size) (QXE ro D (WC ca ad bq nF nO nL nA nC nV nU nP nE bF bO bL bA bC bV bU bP bE cT cK cO cQ cD pT pK pR pW pU pI pC uO uF uE uN wK jM jN jZ jB ++ R) (WC ca ad bq nF nO nL nA nC nV nU nP nE bF bO bL bA bC bV bU bP bE cT cK cO cQ cD pT pK pR pW pU pI pC uO uF uE uN wK jM jN jZ jB ++ R) s.heap.size) _ s 1 6 A = Qm
  have hP : va_P D vwCl (WC ca ad bq nF nO nL nA nC nV nU nP nE bF bO bL bA bC bV bU bP bE cT cK cO cQ cD pT pK pR pW pU pI pC uO uF uE uN wK jM jN jZ jB ++ R) s.heap := hP
  generalize hae : ([.ref (ad 0), .int p1] : List Value).toArray = args at hts hQm ⊢
  refine lv_aload_n hx hb dX3_doesExist_0 rfl (lv_at hl 0 rfl) ?_
  refine lv_iload_n hx hb dX3_doesExist_1 rfl (lv_at hl 1 rfl) ?_
  obtain ⟨x1, h2, hf⟩ := bnd hf
  rcases x1 with n3 | _
  · have hf : some (.error n3) = some ro := hf
    cases hf
    exact cx_vv_err (rest := []) (m_C_requireFile l hst ca ad bq nF nO nL nA nC nV nU nP nE bF bO bL bA bC bV bU bP bE cT cK cO cQ cD pT pK pR pW pU pI pC uO uF uE uN wK jM jN jZ jB R _ p1 (.error n3) h2) ⟨hx, hb, hml, hown, hts⟩ (cwV 1 hts (gV q420 q422 q5 q24 q423) rfl rfl rfl (by decide +kernel) ⟨Nat.le_of_ble_eq_true rfl, Nat.le_of_ble_eq_true rfl⟩) (va_recv hK hP (ci := 7) (q0 := 0) rfl rfl) hE hP hD hS hA hZ rfl hl.1 rfl (lv_room (Nat.le_of_ble_eq_true rfl)) dX3_doesExist_2 ⟨Nat.le_of_ble_eq_true rfl, Nat.le_of_ble_eq_true rfl⟩ hAe hQm htab hlocks (Nat.le_of_ble_eq_true rfl) (Nat.le_of_ble_eq_true rfl)
  refine cx_vv_ok (rest := []) (m_C_requireFile l hst ca ad bq nF nO nL nA nC nV nU nP nE bF bO bL bA bC bV bU bP bE cT cK cO cQ cD pT pK pR pW pU pI pC uO uF uE uN wK jM jN jZ jB R _ p1 (.ok ()) h2) ⟨hx, hb, hml, hown, hts⟩ (cwV 1 hts (gV q420 q422 q5 q24 q423) rfl rfl rfl (by decide +kernel) ⟨Nat.le_of_ble_eq_true rfl, Nat.le_of_ble_eq_true rfl⟩) (va_recv hK hP (ci := 7) (q0 := 0) rfl rfl) hE hP hD hS hA hZ rfl hl.1 rfl (lv_room (Nat.le_of_ble_eq_true rfl)) dX3_doesExist_2 ⟨Nat.le_of_ble_eq_true rfl, Nat.le_of_ble_eq_true rfl⟩ (fun H locs hP hD hS => ?_)
  refine lv_aload_n hx hb dX3_doesExist_5 rfl (lv_at hl 0 rfl) ?_
  refine va_get (D := D) (ci := 7) (v := .ref (ad 1)) (C := RX3) (T := TX3) (N := 11) hx hb hts inX3 hown hK hP 0 rfl rfl 0 (by decide) (hts _ q182) (fun _ h9 => h9) rfl dX3_doesExist_6 ?_
  refine lv_iload_n hx hb dX3_doesExist_9 rfl (lv_at hl 1 rfl) ?_
  obtain ⟨r4, h5, hf⟩ := bnd hf
  refine call_vi (rest := []) (m_S_isAlive l ca ad bq nF nO nL nA nC nV nU nP nE bF bO bL bA bC bV bU bP bE cT cK cO cQ cD pT pK pR pW pU pI pC uO uF uE uN wK jM jN jZ jB R _ p1 r4 h5) ⟨hx, hb, hml, hown, hts⟩ (cwV 1 hts (gV q429 q430 q431 q25 q432) rfl rfl rfl (by decide +kernel) ⟨Nat.le_of_ble_eq_true rfl, Nat.le_of_ble_eq_true rfl⟩) (va_recv hK hP (ci := 6) (q0 := 1) rfl rfl) hE hP hD hS hA rfl hl.1 rfl (lv_room (Nat.le_of_ble_eq_true rfl)) dX3_doesExist_10 ⟨Nat.le_of_ble_eq_true rfl, Nat.le_of_ble_eq_true rfl⟩ (fun H locs hP hD hS => ?_)
  obtain ⟨k6, hf⟩ := ck_yes hf
  cases hf
  exact endx_i hAe hQm hx hb hr hlocks (nar_z k6) hP hD hS dX3_doesExist_13 (Nat.le_of_ble_eq_true rfl) (Nat.le_of_ble_eq_true rfl)
def f_C_linksOf (p1 : Int32) (nF : Int32) (nL : Nat → Int32) : Option (Except Nat Int32) :=
  (f_C_requireFile p1 nF).bind fun x1 =>
  match x1 with
  | .error n3 => some (.error n3)
  | .ok _ =>
  (f_S_linkTotal p1 nF nL).bind fun r4 =>
  some (.ok r4)
set_option maxHeartbeats 4000000 in
set_option maxRecDepth 100000 in
theorem m_C_linksOf (l : Launch) (hst : l.stackTraces = false) {D : va_G} (ca : Nat → ClassId) (ad : Nat → Nat) (bq : Nat) (nF : Int32) (nO : Nat → Int32) (nL : Nat → Int32) (nA : Nat → Int32) (nC : Nat → Int32) (nV : Nat → Int32) (nU : Nat → Int32) (nP : Nat → Int32) (nE : Int32) (bF : Int32) (bO : Nat → Int32) (bL : Nat → Int32) (bA : Nat → Int32) (bC : Nat → Int32) (bV : Nat → Int32) (bU : Nat → Int32) (bP : Nat → Int32) (bE : Int32) (cT : Int32) (cK : Nat → Int32) (cO : Int32) (cQ : Nat → Int32) (cD : Int32) (pT : Int32) (pK : Int32) (pR : Nat → Int32) (pW : Nat → Int32) (pU : Nat → Int32) (pI : Nat → Int32) (pC : Nat → Nat → Int32) (uO : Int32) (uF : Nat → Int32) (uE : Nat → Int32) (uN : Nat → Int32) (wK : Nat → Int32) (jM : Int32) (jN : Int32) (jZ : Nat) (jB : Nat → Int32) (R : va_W) (sz : Nat) (p1 : Int32) (ro : Except Nat Int32) (hf : f_C_linksOf p1 nF nL = some ro) : vx_Met l yX3_linksOf (wm yX3_linksOf cX3_linksOf 2 (some .int)) ({ frames := 7, cells := 1, slots := 6, locals := 111 } : Room) (PREX [.ref (ad 0), .int p1] D ca SL0 (WC ca ad bq nF nO nL nA nC nV nU nP nE bF bO bL bA bC bV bU bP bE cT cK cO cQ cD pT pK pR pW pU pI pC uO uF uE uN wK jM jN jZ jB ++ R) sz) (QXI ro D (WC ca ad bq nF nO nL nA nC nV nU nP nE bF bO bL bA bC bV bU bP bE cT cK cO cQ cD pT pK pR pW pU pI pC uO uF uE uN wK jM jN jZ jB ++ R) (WC ca ad bq nF nO nL nA nC nV nU nP nE bF bO bL bA bC bV bU bP bE cT cK cO cQ cD pT pK pR pW pU pI pC uO uF uE uN wK jM jN jZ jB ++ R) sz) (QXE ro D (WC ca ad bq nF nO nL nA nC nV nU nP nE bF bO bL bA bC bV bU bP bE cT cK cO cQ cD pT pK pR pW pU pI pC uO uF uE uN wK jM jN jZ jB ++ R) (WC ca ad bq nF nO nL nA nC nV nU nP nE bF bO bL bA bC bV bU bP bE cT cK cO cQ cD pT pK pR pW pU pI pC uO uF uE uN wK jM jN jZ jB ++ R) sz) 1 6 (va_A (WC ca ad bq nF nO nL nA nC nV nU nP nE bF bO bL bA bC bV bU bP bE cT cK cO cQ cD pT pK pR pW pU pI pC uO uF uE uN wK jM jN jZ jB ++ R) sz) := by
  refine vx_ofW (cc := cX3_linksOf) (maxL := 2) (ret := (some .int)) (by decide) rfl ?_
  intro p e s m args below meth c s₁ B hml htab hv
  obtain ⟨rfl, rfl, hP, hE, hD0, hZ⟩ := hv
  have hx := B.exec
  have hb := B.bytes
  have hr := B.returns
  have hts := wm_ww (atoms_spec (ws := wm yX3_linksOf cX3_linksOf 2 (some .int)) B.pre)
  have hown : s.vm.findClass RX3 = some m.cls := findClass_of_methodNamed B.named
  have hlocks := B.notSynchronized
  have hK := hE.1
  have hD := hD0.self (sz := s.heap.size)
  generalize hAe : va_A (WC ca ad bq nF nO nL nA nC nV nU nP nE bF bO bL bA bC bV bU bP bE cT cK cO cQ cD pT pK pR pW pU pI pC uO uF uE uN wK jM jN jZ jB ++ R) s.heap.size = A at hD hZ ⊢
  have hA : ∀ q : Nat, s.heap.size ≤ q → A q := fun q h => by rw [← hAe]; exact Or.inr h
  have hS : va_S A s.heap s.heap [] := va_S.rf
  have hl := lv_entry ([.ref (ad 0), .int p1]) (n := 2) (Nat.le_of_ble_eq_true rfl)
  rw [lg_entry_eq]
  generalize (lg_sl ([.ref (ad 0), .int p1]) ++ List.replicate (2 - (lg_sl ([.ref (ad 0), .int p1])).length) Slot.unset).toArray = ls at hl ⊢
  have hl : lv_has ls 2 [(0, .ref (ad 0)), (1, .int p1)] := hl
  change W p l e ({ frames := 7, cells := 1, slots := 6, locals := 111 } : Room) s m _ below meth c s.heap [] 0 0 _ _
  generalize hQm : vx_MQ below (QXI ro D (WC ca ad bq nF nO nL nA nC nV nU nP nE bF bO bL bA bC bV bU bP bE cT cK cO cQ cD pT pK pR pW pU pI pC uO uF uE uN wK jM jN jZ jB ++ R) (WC ca ad bq nF nO nL nA nC nV nU nP nE bF bO bL bA bC bV bU bP bE cT cK cO cQ cD pT pK pR pW pU pI pC uO uF uE uN wK jM jN jZ jB ++ R) s.heap.size) (QXE ro D (WC ca ad bq nF nO nL nA nC nV nU nP nE bF bO bL bA bC bV bU bP bE cT cK cO cQ cD pT pK pR pW pU pI pC uO uF uE uN wK jM jN jZ jB ++ R) (WC ca ad bq nF nO nL nA nC nV nU nP nE bF bO bL bA bC bV bU bP bE cT cK cO cQ cD pT pK pR pW pU pI pC uO uF uE uN wK jM jN jZ jB ++ R) s.heap.size) _ s 1 6 A = Qm
  have hP : va_P D vwCl (WC ca ad bq nF nO nL nA nC nV nU nP nE bF bO bL bA bC bV bU bP bE cT cK cO cQ cD pT pK pR pW pU pI pC uO uF uE uN wK jM jN jZ jB ++ R) s.heap := hP
  generalize hae : ([.ref (ad 0), .int p1] : List Value).toArray = args at hts hQm ⊢
  refine lv_aload_n hx hb dX3_linksOf_0 rfl (lv_at hl 0 rfl) ?_
  refine lv_iload_n hx hb dX3_linksOf_1 rfl (lv_at hl 1 rfl) ?_
  obtain ⟨x1, h2, hf⟩ := bnd hf
  rcases x1 with n3 | _
  · have hf : some (.error n3) = some ro := hf
    cases hf
    exact cx_vv_err (rest := []) (m_C_requireFile l hst ca ad bq nF nO nL nA nC nV nU nP nE bF bO bL bA bC bV bU bP bE cT cK cO cQ cD pT pK pR pW pU pI pC uO uF uE uN wK jM jN jZ jB R _ p1 (.error n3) h2) ⟨hx, hb, hml, hown, hts⟩ (cwV 1 hts (gV q420 q422 q5 q24 q423) rfl rfl rfl (by decide +kernel) ⟨Nat.le_of_ble_eq_true rfl, Nat.le_of_ble_eq_true rfl⟩) (va_recv hK hP (ci := 7) (q0 := 0) rfl rfl) hE hP hD hS hA hZ rfl hl.1 rfl (lv_room (Nat.le_of_ble_eq_true rfl)) dX3_linksOf_2 ⟨Nat.le_of_ble_eq_true rfl, Nat.le_of_ble_eq_true rfl⟩ hAe hQm htab hlocks (Nat.le_of_ble_eq_true rfl) (Nat.le_of_ble_eq_true rfl)
  refine cx_vv_ok (rest := []) (m_C_requireFile l hst ca ad bq nF nO nL nA nC nV nU nP nE bF bO bL bA bC bV bU bP bE cT cK cO cQ cD pT pK pR pW pU pI pC uO uF uE uN wK jM jN jZ jB R _ p1 (.ok ()) h2) ⟨hx, hb, hml, hown, hts⟩ (cwV 1 hts (gV q420 q422 q5 q24 q423) rfl rfl rfl (by decide +kernel) ⟨Nat.le_of_ble_eq_true rfl, Nat.le_of_ble_eq_true rfl⟩) (va_recv hK hP (ci := 7) (q0 := 0) rfl rfl) hE hP hD hS hA hZ rfl hl.1 rfl (lv_room (Nat.le_of_ble_eq_true rfl)) dX3_linksOf_2 ⟨Nat.le_of_ble_eq_true rfl, Nat.le_of_ble_eq_true rfl⟩ (fun H locs hP hD hS => ?_)
  refine lv_aload_n hx hb dX3_linksOf_5 rfl (lv_at hl 0 rfl) ?_
  refine va_get (D := D) (ci := 7) (v := .ref (ad 1)) (C := RX3) (T := TX3) (N := 11) hx hb hts inX3 hown hK hP 0 rfl rfl 0 (by decide) (hts _ q182) (fun _ h9 => h9) rfl dX3_linksOf_6 ?_
  refine lv_iload_n hx hb dX3_linksOf_9 rfl (lv_at hl 1 rfl) ?_
  obtain ⟨r4, h5, hf⟩ := bnd hf
  refine call_vi (rest := []) (m_S_linkTotal l ca ad bq nF nO nL nA nC nV nU nP nE bF bO bL bA bC bV bU bP bE cT cK cO cQ cD pT pK pR pW pU pI pC uO uF uE uN wK jM jN jZ jB R _ p1 r4 h5) ⟨hx, hb, hml, hown, hts⟩ (cwV 1 hts (gV q438 q439 q440 q25 q441) rfl rfl rfl (by decide +kernel) ⟨Nat.le_of_ble_eq_true rfl, Nat.le_of_ble_eq_true rfl⟩) (va_recv hK hP (ci := 6) (q0 := 1) rfl rfl) hE hP hD hS hA rfl hl.1 rfl (lv_room (Nat.le_of_ble_eq_true rfl)) dX3_linksOf_10 ⟨Nat.le_of_ble_eq_true rfl, Nat.le_of_ble_eq_true rfl⟩ (fun H locs hP hD hS => ?_)
  cases hf
  exact endx_i hAe hQm hx hb hr hlocks rfl hP hD hS dX3_linksOf_13 (Nat.le_of_ble_eq_true rfl) (Nat.le_of_ble_eq_true rfl)
def f_C_requireLinks (p1 : Int32) (nF : Int32) (nL : Nat → Int32) : Option (Except Nat Unit) :=
  (f_S_linkTotal p1 nF nL).bind fun r1 =>
  if r1 = 0 then
    some (.error 2)
  else
    some (.ok ())
set_option maxHeartbeats 4000000 in
set_option maxRecDepth 100000 in
theorem m_C_requireLinks (l : Launch) (hst : l.stackTraces = false) {D : va_G} (ca : Nat → ClassId) (ad : Nat → Nat) (bq : Nat) (nF : Int32) (nO : Nat → Int32) (nL : Nat → Int32) (nA : Nat → Int32) (nC : Nat → Int32) (nV : Nat → Int32) (nU : Nat → Int32) (nP : Nat → Int32) (nE : Int32) (bF : Int32) (bO : Nat → Int32) (bL : Nat → Int32) (bA : Nat → Int32) (bC : Nat → Int32) (bV : Nat → Int32) (bU : Nat → Int32) (bP : Nat → Int32) (bE : Int32) (cT : Int32) (cK : Nat → Int32) (cO : Int32) (cQ : Nat → Int32) (cD : Int32) (pT : Int32) (pK : Int32) (pR : Nat → Int32) (pW : Nat → Int32) (pU : Nat → Int32) (pI : Nat → Int32) (pC : Nat → Nat → Int32) (uO : Int32) (uF : Nat → Int32) (uE : Nat → Int32) (uN : Nat → Int32) (wK : Nat → Int32) (jM : Int32) (jN : Int32) (jZ : Nat) (jB : Nat → Int32) (R : va_W) (sz : Nat) (p1 : Int32) (ro : Except Nat Unit) (hf : f_C_requireLinks p1 nF nL = some ro) : vx_Met l yX3_requireLinks (wm yX3_requireLinks cX3_requireLinks 2 none) ({ frames := 6, cells := 1, slots := 6, locals := 90 } : Room) (PREX [.ref (ad 0), .int p1] D ca SL0 (WC ca ad bq nF nO nL nA nC nV nU nP nE bF bO bL bA bC bV bU bP bE cT cK cO cQ cD pT pK pR pW pU pI pC uO uF uE uN wK jM jN jZ jB ++ R) sz) (QXV ro D (WC ca ad bq nF nO nL nA nC nV nU nP nE bF bO bL bA bC bV bU bP bE cT cK cO cQ cD pT pK pR pW pU pI pC uO uF uE uN wK jM jN jZ jB ++ R) (WC ca ad bq nF nO nL nA nC nV nU nP nE bF bO bL bA bC bV bU bP bE cT cK cO cQ cD pT pK pR pW pU pI pC uO uF uE uN wK jM jN jZ jB ++ R) sz) (QXE ro D (WC ca ad bq nF nO nL nA nC nV nU nP nE bF bO bL bA bC bV bU bP bE cT cK cO cQ cD pT pK pR pW pU pI pC uO uF uE uN wK jM jN jZ jB ++ R) (WC ca ad bq nF nO nL nA nC nV nU nP nE bF bO bL bA bC bV bU bP bE cT cK cO cQ cD pT pK pR pW pU pI pC uO uF uE uN wK jM jN jZ jB ++ R) sz) 1 6 (va_A (WC ca ad bq nF nO nL nA nC nV nU nP nE bF bO bL bA bC bV bU bP bE cT cK cO cQ cD pT pK pR pW pU pI pC uO uF uE uN wK jM jN jZ jB ++ R) sz) := by
  refine vx_ofW (cc := cX3_requireLinks) (maxL := 2) (ret := none) (by decide) rfl ?_
  intro p e s m args below meth c s₁ B hml htab hv
  obtain ⟨rfl, rfl, hP, hE, hD0, hZ⟩ := hv
  have hx := B.exec
  have hb := B.bytes
  have hr := B.returns
  have hts := wm_ww (atoms_spec (ws := wm yX3_requireLinks cX3_requireLinks 2 none) B.pre)
  have hown : s.vm.findClass RX3 = some m.cls := findClass_of_methodNamed B.named
  have hlocks := B.notSynchronized
  have hK := hE.1
  have hD := hD0.self (sz := s.heap.size)
  generalize hAe : va_A (WC ca ad bq nF nO nL nA nC nV nU nP nE bF bO bL bA bC bV bU bP bE cT cK cO cQ cD pT pK pR pW pU pI pC uO uF uE uN wK jM jN jZ jB ++ R) s.heap.size = A at hD hZ ⊢
  have hA : ∀ q : Nat, s.heap.size ≤ q → A q := fun q h => by rw [← hAe]; exact Or.inr h
  have hS : va_S A s.heap s.heap [] := va_S.rf
  have hl := lv_entry ([.ref (ad 0), .int p1]) (n := 2) (Nat.le_of_ble_eq_true rfl)
  rw [lg_entry_eq]
  generalize (lg_sl ([.ref (ad 0), .int p1]) ++ List.replicate (2 - (lg_sl ([.ref (ad 0), .int p1])).length) Slot.unset).toArray = ls at hl ⊢
  have hl : lv_has ls 2 [(0, .ref (ad 0)), (1, .int p1)] := hl
  change W p l e ({ frames := 6, cells := 1, slots := 6, locals := 90 } : Room) s m _ below meth c s.heap [] 0 0 _ _
  generalize hQm : vx_MQ below (QXV ro D (WC ca ad bq nF nO nL nA nC nV nU nP nE bF bO bL bA bC bV bU bP bE cT cK cO cQ cD pT pK pR pW pU pI pC uO uF uE uN wK jM jN jZ jB ++ R) (WC ca ad bq nF nO nL nA nC nV nU nP nE bF bO bL bA bC bV bU bP bE cT cK cO cQ cD pT pK pR pW pU pI pC uO uF uE uN wK jM jN jZ jB ++ R) s.heap.size) (QXE ro D (WC ca ad bq nF nO nL nA nC nV nU nP nE bF bO bL bA bC bV bU bP bE cT cK cO cQ cD pT pK pR pW pU pI pC uO uF uE uN wK jM jN jZ jB ++ R) (WC ca ad bq nF nO nL nA nC nV nU nP nE bF bO bL bA bC bV bU bP bE cT cK cO cQ cD pT pK pR pW pU pI pC uO uF uE uN wK jM jN jZ jB ++ R) s.heap.size) _ s 1 6 A = Qm
  have hP : va_P D vwCl (WC ca ad bq nF nO nL nA nC nV nU nP nE bF bO bL bA bC bV bU bP bE cT cK cO cQ cD pT pK pR pW pU pI pC uO uF uE uN wK jM jN jZ jB ++ R) s.heap := hP
  generalize hae : ([.ref (ad 0), .int p1] : List Value).toArray = args at hts hQm ⊢
  refine lv_aload_n hx hb dX3_requireLinks_0 rfl (lv_at hl 0 rfl) ?_
  refine va_get (D := D) (ci := 7) (v := .ref (ad 1)) (C := RX3) (T := TX3) (N := 11) hx hb hts inX3 hown hK hP 0 rfl rfl 0 (by decide) (hts _ q182) (fun _ h9 => h9) rfl dX3_requireLinks_1 ?_
  refine lv_iload_n hx hb dX3_requireLinks_4 rfl (lv_at hl 1 rfl) ?_
  obtain ⟨r1, h2, hf⟩ := bnd hf
  refine call_vi (rest := []) (m_S_linkTotal l ca ad bq nF nO nL nA nC nV nU nP nE bF bO bL bA bC bV bU bP bE cT cK cO cQ cD pT pK pR pW pU pI pC uO uF uE uN wK jM jN jZ jB R _ p1 r1 h2) ⟨hx, hb, hml, hown, hts⟩ (cwV 1 hts (gV q438 q439 q440 q25 q441) rfl rfl rfl (by decide +kernel) ⟨Nat.le_of_ble_eq_true rfl, Nat.le_of_ble_eq_true rfl⟩) (va_recv hK hP (ci := 6) (q0 := 1) rfl rfl) hE hP hD hS hA rfl hl.1 rfl (lv_room (Nat.le_of_ble_eq_true rfl)) dX3_requireLinks_5 ⟨Nat.le_of_ble_eq_true rfl, Nat.le_of_ble_eq_true rfl⟩ (fun H locs hP hD hS => ?_)
  refine lv_if_ne (tgt := 22) hx hb dX3_requireLinks_8 (by decide) (fun c3 => ?_) (fun c3 => ?_)
  · have hf := br_neg c3 hf
    cases hf
    exact endx_v hAe hQm hx hb hr hlocks hP hD hS dX3_requireLinks_22 (Nat.le_of_ble_eq_true rfl) (Nat.le_of_ble_eq_true rfl)
  · have hf := br_pos c3 hf
    cases hf
    exact endx_throwW 2 rfl hAe hQm hst hx hb hts hE hown htab hlocks (by decide +kernel) q365 q39 sl27 at73 hZ (hl.1.trans hml.symm) hP hD hS dX3_requireLinks_11 dX3_requireLinks_14 dX3_requireLinks_15 dX3_requireLinks_18 dX3_requireLinks_21 (Nat.le_of_ble_eq_true rfl) (Nat.le_of_ble_eq_true rfl) (Nat.le_of_ble_eq_true rfl) (Nat.le_of_ble_eq_true rfl) (Nat.le_of_ble_eq_true rfl) (Nat.le_of_ble_eq_true rfl)
def f_C_link (p1 : Int32) (nF : Int32) (nL : Nat → Int32) (nE : Int32) (cK : Nat → Int32) : Option (Except Nat Int32 × (Nat → Int32) × Int32 × (Nat → Int32)) :=
  (f_C_requireFile p1 nF).bind fun x1 =>
  match x1 with
  | .error n3 => some ((.error n3), nL, nE, cK)
  | .ok _ =>
  (f_C_requireLinks p1 nF nL).bind fun x4 =>
  match x4 with
  | .error n6 => some ((.error n6), nL, nE, cK)
  | .ok _ =>
  (f_S_linkTotal p1 nF nL).bind fun r7 =>
  if r7 < 9 then
    (f_S_setLinks p1 (r7 + 1) nF nL).bind fun nL_10 =>
    (f_C_note 108 nE cK).bind fun (nE_12, cK_13) =>
    some ((.ok (r7 + 1)), nL_10, nE_12, cK_13)
  else
    some ((.error 2), nL, nE, cK)
set_option maxHeartbeats 4000000 in
set_option maxRecDepth 100000 in
theorem m_C_link (l : Launch) (hst : l.stackTraces = false) {D : va_G} (ca : Nat → ClassId) (ad : Nat → Nat) (bq : Nat) (nF : Int32) (nO : Nat → Int32) (nL : Nat → Int32) (nA : Nat → Int32) (nC : Nat → Int32) (nV : Nat → Int32) (nU : Nat → Int32) (nP : Nat → Int32) (nE : Int32) (bF : Int32) (bO : Nat → Int32) (bL : Nat → Int32) (bA : Nat → Int32) (bC : Nat → Int32) (bV : Nat → Int32) (bU : Nat → Int32) (bP : Nat → Int32) (bE : Int32) (cT : Int32) (cK : Nat → Int32) (cO : Int32) (cQ : Nat → Int32) (cD : Int32) (pT : Int32) (pK : Int32) (pR : Nat → Int32) (pW : Nat → Int32) (pU : Nat → Int32) (pI : Nat → Int32) (pC : Nat → Nat → Int32) (uO : Int32) (uF : Nat → Int32) (uE : Nat → Int32) (uN : Nat → Int32) (wK : Nat → Int32) (jM : Int32) (jN : Int32) (jZ : Nat) (jB : Nat → Int32) (R : va_W) (sz : Nat) (p1 : Int32) (ro : Except Nat Int32) (onL : Nat → Int32) (onE : Int32) (ocK : Nat → Int32) (hf : f_C_link p1 nF nL nE cK = some (ro, onL, onE, ocK)) : vx_Met l yX3_link (wm yX3_link cX3_link 3 (some .int)) ({ frames := 7, cells := 3, slots := 18, locals := 111 } : Room) (PREX [.ref (ad 0), .int p1] D ca SL0 (WC ca ad bq nF nO nL nA nC nV nU nP nE bF bO bL bA bC bV bU bP bE cT cK cO cQ cD pT pK pR pW pU pI pC uO uF uE uN wK jM jN jZ jB ++ R) sz) (QXI ro D (WC ca ad bq nF nO onL nA nC nV nU nP onE bF bO bL bA bC bV bU bP bE cT ocK cO cQ cD pT pK pR pW pU pI pC uO uF uE uN wK jM jN jZ jB ++ R) (WC ca ad bq nF nO nL nA nC nV nU nP nE bF bO bL bA bC bV bU bP bE cT cK cO cQ cD pT pK pR pW pU pI pC uO uF uE uN wK jM jN jZ jB ++ R) sz) (QXE ro D (WC ca ad bq nF nO onL nA nC nV nU nP onE bF bO bL bA bC bV bU bP bE cT ocK cO cQ cD pT pK pR pW pU pI pC uO uF uE uN wK jM jN jZ jB ++ R) (WC ca ad bq nF nO nL nA nC nV nU nP nE bF bO bL bA bC bV bU bP bE cT cK cO cQ cD pT pK pR pW pU pI pC uO uF uE uN wK jM jN jZ jB ++ R) sz) 3 18 (va_A (WC ca ad bq nF nO nL nA nC nV nU nP nE bF bO bL bA bC bV bU bP bE cT cK cO cQ cD pT pK pR pW pU pI pC uO uF uE uN wK jM jN jZ jB ++ R) sz) := by
  refine vx_ofW (cc := cX3_link) (maxL := 3) (ret := (some .int)) (by decide) rfl ?_
  intro p e s m args below meth c s₁ B hml htab hv
  obtain ⟨rfl, rfl, hP, hE, hD0, hZ⟩ := hv
  have hx := B.exec
  have hb := B.bytes
  have hr := B.returns
  have hts := wm_ww (atoms_spec (ws := wm yX3_link cX3_link 3 (some .int)) B.pre)
  have hown : s.vm.findClass RX3 = some m.cls := findClass_of_methodNamed B.named
  have hlocks := B.notSynchronized
  have hK := hE.1
  have hD := hD0.self (sz := s.heap.size)
  generalize hAe : va_A (WC ca ad bq nF nO nL nA nC nV nU nP nE bF bO bL bA bC bV bU bP bE cT cK cO cQ cD pT pK pR pW pU pI pC uO uF uE uN wK jM jN jZ jB ++ R) s.heap.size = A at hD hZ ⊢
  have hA : ∀ q : Nat, s.heap.size ≤ q → A q := fun q h => by rw [← hAe]; exact Or.inr h
  have hS : va_S A s.heap s.heap [] := va_S.rf
  have hl := lv_entry ([.ref (ad 0), .int p1]) (n := 3) (Nat.le_of_ble_eq_true rfl)
  rw [lg_entry_eq]
  generalize (lg_sl ([.ref (ad 0), .int p1]) ++ List.replicate (3 - (lg_sl ([.ref (ad 0), .int p1])).length) Slot.unset).toArray = ls at hl ⊢
  have hl : lv_has ls 3 [(0, .ref (ad 0)), (1, .int p1)] := hl
  change W p l e ({ frames := 7, cells := 3, slots := 18, locals := 111 } : Room) s m _ below meth c s.heap [] 0 0 _ _
  generalize hQm : vx_MQ below (QXI ro D (WC ca ad bq nF nO onL nA nC nV nU nP onE bF bO bL bA bC bV bU bP bE cT ocK cO cQ cD pT pK pR pW pU pI pC uO uF uE uN wK jM jN jZ jB ++ R) (WC ca ad bq nF nO nL nA nC nV nU nP nE bF bO bL bA bC bV bU bP bE cT cK cO cQ cD pT pK pR pW pU pI pC uO uF uE uN wK jM jN jZ jB ++ R) s.heap.size) (QXE ro D (WC ca ad bq nF nO onL nA nC nV nU nP onE bF bO bL bA bC bV bU bP bE cT ocK cO cQ cD pT pK pR pW pU pI pC uO uF uE uN wK jM jN jZ jB ++ R) (WC ca ad bq nF nO nL nA nC nV nU nP nE bF bO bL bA bC bV bU bP bE cT cK cO cQ cD pT pK pR pW pU pI pC uO uF uE uN wK jM jN jZ jB ++ R) s.heap.size) _ s 3 18 A = Qm
  have hP : va_P D vwCl (WC ca ad bq nF nO nL nA nC nV nU nP nE bF bO bL bA bC bV bU bP bE cT cK cO cQ cD pT pK pR pW pU pI pC uO uF uE uN wK jM jN jZ jB ++ R) s.heap := hP
  generalize hae : ([.ref (ad 0), .int p1] : List Value).toArray = args at hts hQm ⊢
  refine lv_aload_n hx hb dX3_link_0 rfl (lv_at hl 0 rfl) ?_
  refine lv_iload_n hx hb dX3_link_1 rfl (lv_at hl 1 rfl) ?_
  obtain ⟨x1, h2, hf⟩ := bnd hf
  rcases x1 with n3 | _
  · have hf : some ((.error n3), nL, nE, cK) = some (ro, onL, onE, ocK) := hf
    cases hf
    exact cx_vv_err (rest := []) (m_C_requireFile l hst ca ad bq nF nO nL nA nC nV nU nP nE bF bO bL bA bC bV bU bP bE cT cK cO cQ cD pT pK pR pW pU pI pC uO uF uE uN wK jM jN jZ jB R _ p1 (.error n3) h2) ⟨hx, hb, hml, hown, hts⟩ (cwV 1 hts (gV q420 q422 q5 q24 q423) rfl rfl rfl (by decide +kernel) ⟨Nat.le_of_ble_eq_true rfl, Nat.le_of_ble_eq_true rfl⟩) (va_recv hK hP (ci := 7) (q0 := 0) rfl rfl) hE hP hD hS hA hZ rfl hl.1 rfl (lv_room (Nat.le_of_ble_eq_true rfl)) dX3_link_2 ⟨Nat.le_of_ble_eq_true rfl, Nat.le_of_ble_eq_true rfl⟩ hAe hQm htab hlocks (Nat.le_of_ble_eq_true rfl) (Nat.le_of_ble_eq_true rfl)
  refine cx_vv_ok (rest := []) (m_C_requireFile l hst ca ad bq nF nO nL nA nC nV nU nP nE bF bO bL bA bC bV bU bP bE cT cK cO cQ cD pT pK pR pW pU pI pC uO uF uE uN wK jM jN jZ jB R _ p1 (.ok ()) h2) ⟨hx, hb, hml, hown, hts⟩ (cwV 1 hts (gV q420 q422 q5 q24 q423) rfl rfl rfl (by decide +kernel) ⟨Nat.le_of_ble_eq_true rfl, Nat.le_of_ble_eq_true rfl⟩) (va_recv hK hP (ci := 7) (q0 := 0) rfl rfl) hE hP hD hS hA hZ rfl hl.1 rfl (lv_room (Nat.le_of_ble_eq_true rfl)) dX3_link_2 ⟨Nat.le_of_ble_eq_true rfl, Nat.le_of_ble_eq_true rfl⟩ (fun H locs hP hD hS => ?_)
  refine lv_aload_n hx hb dX3_link_5 rfl (lv_at hl 0 rfl) ?_
  refine lv_iload_n hx hb dX3_link_6 rfl (lv_at hl 1 rfl) ?_
  obtain ⟨x4, h5, hf⟩ := bnd hf
  rcases x4 with n6 | _
  · have hf : some ((.error n6), nL, nE, cK) = some (ro, onL, onE, ocK) := hf
    cases hf
    exact cx_vv_err (rest := []) (m_C_requireLinks l hst ca ad bq nF nO nL nA nC nV nU nP nE bF bO bL bA bC bV bU bP bE cT cK cO cQ cD pT pK pR pW pU pI pC uO uF uE uN wK jM jN jZ jB R _ p1 (.error n6) h5) ⟨hx, hb, hml, hown, hts⟩ (cwV 1 hts (gV q446 q448 q6 q24 q449) rfl rfl rfl (by decide +kernel) ⟨Nat.le_of_ble_eq_true rfl, Nat.le_of_ble_eq_true rfl⟩) (va_recv hK hP (ci := 7) (q0 := 0) rfl rfl) hE hP hD hS hA hZ rfl hl.1 rfl (lv_room (Nat.le_of_ble_eq_true rfl)) dX3_link_7 ⟨Nat.le_of_ble_eq_true rfl, Nat.le_of_ble_eq_true rfl⟩ hAe hQm htab hlocks (Nat.le_of_ble_eq_true rfl) (Nat.le_of_ble_eq_true rfl)
  refine cx_vv_ok (rest := []) (m_C_requireLinks l hst ca ad bq nF nO nL nA nC nV nU nP nE bF bO bL bA bC bV bU bP bE cT cK cO cQ cD pT pK pR pW pU pI pC uO uF uE uN wK jM jN jZ jB R _ p1 (.ok ()) h5) ⟨hx, hb, hml, hown, hts⟩ (cwV 1 hts (gV q446 q448 q6 q24 q449) rfl rfl rfl (by decide +kernel) ⟨Nat.le_of_ble_eq_true rfl, Nat.le_of_ble_eq_true rfl⟩) (va_recv hK hP (ci := 7) (q0 := 0) rfl rfl) hE hP hD hS hA hZ rfl hl.1 rfl (lv_room (Nat.le_of_ble_eq_true rfl)) dX3_link_7 ⟨Nat.le_of_ble_eq_true rfl, Nat.le_of_ble_eq_true rfl⟩ (fun H locs hP hD hS => ?_)
  refine lv_aload_n hx hb dX3_link_10 rfl (lv_at hl 0 rfl) ?_
  refine va_get (D := D) (ci := 7) (v := .ref (ad 1)) (C := RX3) (T := TX3) (N := 11) hx hb hts inX3 hown hK hP 0 rfl rfl 0 (by decide) (hts _ q182) (fun _ h9 => h9) rfl dX3_link_11 ?_
  refine lv_iload_n hx hb dX3_link_14 rfl (lv_at hl 1 rfl) ?_
  obtain ⟨r7, h8, hf⟩ := bnd hf
  refine call_vi (rest := []) (m_S_linkTotal l ca ad bq nF nO nL nA nC nV nU nP nE bF bO bL bA bC bV bU bP bE cT cK cO cQ cD pT pK pR pW pU pI pC uO uF uE uN wK jM jN jZ jB R _ p1 r7 h8) ⟨hx, hb, hml, hown, hts⟩ (cwV 1 hts (gV q438 q439 q440 q25 q441) rfl rfl rfl (by decide +kernel) ⟨Nat.le_of_ble_eq_true rfl, Nat.le_of_ble_eq_true rfl⟩) (va_recv hK hP (ci := 6) (q0 := 1) rfl rfl) hE hP hD hS hA rfl hl.1 rfl (lv_room (Nat.le_of_ble_eq_true rfl)) dX3_link_15 ⟨Nat.le_of_ble_eq_true rfl, Nat.le_of_ble_eq_true rfl⟩ (fun H locs hP hD hS => ?_)
  refine lv_istore_n (lv' := [(2, .int r7), (0, .ref (ad 0)), (1, .int p1)]) hx hb dX3_link_18 rfl hl (by decide) rfl (fun ls hl => ?_)
  refine lv_iload_n hx hb dX3_link_19 rfl (lv_at hl 0 rfl) ?_
  refine lv_bipush (v := 9) hx hb dX3_link_20 (by decide) ?_
  refine lv_icmp_lt (tgt := 35) hx hb dX3_link_22 (by decide) (fun c9 => ?_) (fun c9 => ?_)
  · have hf := br_pos c9 hf
    refine lv_aload_n hx hb dX3_link_35 rfl (lv_at hl 1 rfl) ?_
    refine va_get (D := D) (ci := 7) (v := .ref (ad 1)) (C := RX3) (T := TX3) (N := 11) hx hb hts inX3 hown hK hP 0 rfl rfl 0 (by decide) (hts _ q182) (fun _ h9 => h9) rfl dX3_link_36 ?_
    refine lv_iload_n hx hb dX3_link_39 rfl (lv_at hl 2 rfl) ?_
    refine lv_iload_n hx hb dX3_link_40 rfl (lv_at hl 0 rfl) ?_
    refine lv_iconst (v := 1) hx hb dX3_link_41 (by decide) ?_
    refine lv_iadd hx hb dX3_link_42 ?_
    obtain ⟨nL_10, h11, hf⟩ := bnd hf
    refine call_vv (rest := []) (m_S_setLinks l ca ad bq nF nO nL nA nC nV nU nP nE bF bO bL bA bC bV bU bP bE cT cK cO cQ cD pT pK pR pW pU pI pC uO uF uE uN wK jM jN jZ jB R _ p1 (r7 + 1) nL_10 h11) ⟨hx, hb, hml, hown, hts⟩ (cwV 2 hts (gV q452 q453 q454 q25 q455) rfl rfl rfl (by decide +kernel) ⟨Nat.le_of_ble_eq_true rfl, Nat.le_of_ble_eq_true rfl⟩) (va_recv hK hP (ci := 6) (q0 := 1) rfl rfl) hE hP hD hS hA rfl hl.1 rfl (lv_room (Nat.le_of_ble_eq_true rfl)) dX3_link_43 ⟨Nat.le_of_ble_eq_true rfl, Nat.le_of_ble_eq_true rfl⟩ (fun H locs hP hD hS => ?_)
    refine lv_aload_n hx hb dX3_link_46 rfl (lv_at hl 1 rfl) ?_
    refine lv_bipush (v := 108) hx hb dX3_link_47 (by decide) ?_
    obtain ⟨⟨nE_12, cK_13⟩, h14, hf⟩ := bnd hf
    refine call_vv (rest := []) (m_C_note l ca ad bq nF nO nL_10 nA nC nV nU nP nE bF bO bL bA bC bV bU bP bE cT cK cO cQ cD pT pK pR pW pU pI pC uO uF uE uN wK jM jN jZ jB R _ 108 nE_12 cK_13 h14) ⟨hx, hb, hml, hown, hts⟩ (cwV 1 hts (gV q408 q410 q4 q24 q411) rfl rfl rfl (by decide +kernel) ⟨Nat.le_of_ble_eq_true rfl, Nat.le_of_ble_eq_true rfl⟩) (va_recv hK hP (ci := 7) (q0 := 0) rfl rfl) hE hP hD hS hA rfl hl.1 rfl (lv_room (Nat.le_of_ble_eq_true rfl)) dX3_link_49 ⟨Nat.le_of_ble_eq_true rfl, Nat.le_of_ble_eq_true rfl⟩ (fun H locs hP hD hS => ?_)
    refine lv_iload_n hx hb dX3_link_52 rfl (lv_at hl 0 rfl) ?_
    refine lv_iconst (v := 1) hx hb dX3_link_53 (by decide) ?_
    refine lv_iadd hx hb dX3_link_54 ?_
    cases hf
    exact endx_i hAe hQm hx hb hr hlocks rfl hP hD hS dX3_link_55 (Nat.le_of_ble_eq_true rfl) (Nat.le_of_ble_eq_true rfl)
  · have hf := br_neg c9 hf
    cases hf
    exact endx_throw 2 rfl hAe hQm hst hx hb hts hE hown htab hlocks (by decide +kernel) q365 q39 sl2 at73 hZ (hl.1.trans hml.symm) hP hD hS dX3_link_25 dX3_link_28 dX3_link_29 dX3_link_31 dX3_link_34 (Nat.le_of_ble_eq_true rfl) (Nat.le_of_ble_eq_true rfl) (Nat.le_of_ble_eq_true rfl) (Nat.le_of_ble_eq_true rfl) (Nat.le_of_ble_eq_true rfl) (Nat.le_of_ble_eq_true rfl)
def f_C_removeIfAbandoned (p1 : Int32) (nF : Int32) (nL : Nat → Int32) (nA : Nat → Int32) (nC : Nat → Int32) (nU : Nat → Int32) (uO : Int32) (uF : Nat → Int32) (uN : Nat → Int32) : Option (Int32 × (Nat → Int32) × (Nat → Int32) × (Nat → Int32)) :=
  (f_S_linkTotal p1 nF nL).bind fun r1 =>
  if 0 < r1 then
    some (0, nA, nC, nU)
  else
    (f_H_openTotal p1 uO uF uN).bind fun r4 =>
    if r4 ≤ 0 then
      (f_S_removeFile p1 nF nA nC nU).bind fun (nA_7, nC_8, nU_9) =>
      some (1, nA_7, nC_8, nU_9)
    else
      some (0, nA, nC, nU)
set_option maxHeartbeats 4000000 in
set_option maxRecDepth 100000 in
theorem m_C_removeIfAbandoned (l : Launch) {D : va_G} {sl : List (String × Nat × String)} (ca : Nat → ClassId) (ad : Nat → Nat) (bq : Nat) (nF : Int32) (nO : Nat → Int32) (nL : Nat → Int32) (nA : Nat → Int32) (nC : Nat → Int32) (nV : Nat → Int32) (nU : Nat → Int32) (nP : Nat → Int32) (nE : Int32) (bF : Int32) (bO : Nat → Int32) (bL : Nat → Int32) (bA : Nat → Int32) (bC : Nat → Int32) (bV : Nat → Int32) (bU : Nat → Int32) (bP : Nat → Int32) (bE : Int32) (cT : Int32) (cK : Nat → Int32) (cO : Int32) (cQ : Nat → Int32) (cD : Int32) (pT : Int32) (pK : Int32) (pR : Nat → Int32) (pW : Nat → Int32) (pU : Nat → Int32) (pI : Nat → Int32) (pC : Nat → Nat → Int32) (uO : Int32) (uF : Nat → Int32) (uE : Nat → Int32) (uN : Nat → Int32) (wK : Nat → Int32) (jM : Int32) (jN : Int32) (jZ : Nat) (jB : Nat → Int32) (R : va_W) (sz : Nat) (p1 : Int32) (ro : Int32) (onA : Nat → Int32) (onC : Nat → Int32) (onU : Nat → Int32) (hf : f_C_removeIfAbandoned p1 nF nL nA nC nU uO uF uN = some (ro, onA, onC, onU)) : Met l yX3_removeIfAbandoned (wm yX3_removeIfAbandoned cX3_removeIfAbandoned 2 (some .int)) ({ frames := 4, cells := 0, slots := 0, locals := 87 } : Room) (PRE [.ref (ad 0), .int p1] D ca sl (WC ca ad bq nF nO nL nA nC nV nU nP nE bF bO bL bA bC bV bU bP bE cT cK cO cQ cD pT pK pR pW pU pI pC uO uF uE uN wK jM jN jZ jB ++ R) sz) (QI ro D (WC ca ad bq nF nO nL onA onC nV onU nP nE bF bO bL bA bC bV bU bP bE cT cK cO cQ cD pT pK pR pW pU pI pC uO uF uE uN wK jM jN jZ jB ++ R) (WC ca ad bq nF nO nL nA nC nV nU nP nE bF bO bL bA bC bV bU bP bE cT cK cO cQ cD pT pK pR pW pU pI pC uO uF uE uN wK jM jN jZ jB ++ R) sz) 0 0 (va_A (WC ca ad bq nF nO nL nA nC nV nU nP nE bF bO bL bA bC bV bU bP bE cT cK cO cQ cD pT pK pR pW pU pI pC uO uF uE uN wK jM jN jZ jB ++ R) sz) := by
  refine Met.ofW (cc := cX3_removeIfAbandoned) (maxL := 2) (ret := (some .int)) (by decide) rfl ?_
  intro p e s m args below meth c s₁ B hml hv
  obtain ⟨rfl, rfl, hP, hE, hD0⟩ := hv
  have hx := B.exec
  have hb := B.bytes
  have hr := B.returns
  have hts := wm_ww (atoms_spec (ws := wm yX3_removeIfAbandoned cX3_removeIfAbandoned 2 (some .int)) B.pre)
  have hown : s.vm.findClass RX3 = some m.cls := findClass_of_methodNamed B.named
  have hlocks := B.notSynchronized
  have hK := hE.1
  have hD := hD0.self (sz := s.heap.size)
  generalize hAe : va_A (WC ca ad bq nF nO nL nA nC nV nU nP nE bF bO bL bA bC bV bU bP bE cT cK cO cQ cD pT pK pR pW pU pI pC uO uF uE uN wK jM jN jZ jB ++ R) s.heap.size = A at hD ⊢
  have hA : ∀ q : Nat, s.heap.size ≤ q → A q := fun q h => by rw [← hAe]; exact Or.inr h
  have hS : va_S A s.heap s.heap [] := va_S.rf
  have hl := lv_entry ([.ref (ad 0), .int p1]) (n := 2) (Nat.le_of_ble_eq_true rfl)
  rw [lg_entry_eq]
  generalize (lg_sl ([.ref (ad 0), .int p1]) ++ List.replicate (2 - (lg_sl ([.ref (ad 0), .int p1])).length) Slot.unset).toArray = ls at hl ⊢
  have hl : lv_has ls 2 [(0, .ref (ad 0)), (1, .int p1)] := hl
  change W p l e ({ frames := 4, cells := 0, slots := 0, locals := 87 } : Room) s m _ below meth c s.heap [] 0 0 _ _
  generalize hQm : MQ below (QI ro D (WC ca ad bq nF nO nL onA onC nV onU nP nE bF bO bL bA bC bV bU bP bE cT cK cO cQ cD pT pK pR pW pU pI pC uO uF uE uN wK jM jN jZ jB ++ R) (WC ca ad bq nF nO nL nA nC nV nU nP nE bF bO bL bA bC bV bU bP bE cT cK cO cQ cD pT pK pR pW pU pI pC uO uF uE uN wK jM jN jZ jB ++ R) s.heap.size) _ s 0 0 A = Qm
  have hP : va_P D vwCl (WC ca ad bq nF nO nL nA nC nV nU nP nE bF bO bL bA bC bV bU bP bE cT cK cO cQ cD pT pK pR pW pU pI pC uO uF uE uN wK jM jN jZ jB ++ R) s.heap := hP
  generalize hae : ([.ref (ad 0), .int p1] : List Value).toArray = args at hts hQm ⊢
  refine lv_aload_n hx hb dX3_removeIfAbandoned_0 rfl (lv_at hl 0 rfl) ?_
  refine va_get (D := D) (ci := 7) (v := .ref (ad 1)) (C := RX3) (T := TX3) (N := 11) hx hb hts inX3 hown hK hP 0 rfl rfl 0 (by decide) (hts _ q182) (fun _ h9 => h9) rfl dX3_removeIfAbandoned_1 ?_
  refine lv_iload_n hx hb dX3_removeIfAbandoned_4 rfl (lv_at hl 1 rfl) ?_
  obtain ⟨r1, h2, hf⟩ := bnd hf
  refine call_vi (rest := []) (m_S_linkTotal l ca ad bq nF nO nL nA nC nV nU nP nE bF bO bL bA bC bV bU bP bE cT cK cO cQ cD pT pK pR pW pU pI pC uO uF uE uN wK jM jN jZ jB R _ p1 r1 h2) ⟨hx, hb, hml, hown, hts⟩ (cwV 1 hts (gV q438 q439 q440 q25 q441) rfl rfl rfl (by decide +kernel) ⟨Nat.le_of_ble_eq_true rfl, Nat.le_of_ble_eq_true rfl⟩) (va_recv hK hP (ci := 6) (q0 := 1) rfl rfl) hE hP hD hS hA rfl hl.1 rfl (lv_room (Nat.le_of_ble_eq_true rfl)) dX3_removeIfAbandoned_5 ⟨Nat.le_of_ble_eq_true rfl, Nat.le_of_ble_eq_true rfl⟩ (fun H locs hP hD hS => ?_)
  refine lv_if_gt (tgt := 22) hx hb dX3_removeIfAbandoned_8 (by decide) (fun c3 => ?_) (fun c3 => ?_)
  · have hf := br_pos c3 hf
    refine lv_iconst (v := 0) hx hb dX3_removeIfAbandoned_22 (by decide) ?_
    cases hf
    exact end_i hAe hQm hx hb hr hlocks rfl hP hD hS dX3_removeIfAbandoned_23
  · have hf := br_neg c3 hf
    refine lv_aload_n hx hb dX3_removeIfAbandoned_11 rfl (lv_at hl 0 rfl) ?_
    refine va_get (D := D) (ci := 7) (v := .ref (ad 6)) (C := RX3) (T := TX3) (N := 11) hx hb hts inX3 hown hK hP 0 rfl rfl 7 (by decide) (hts _ q189) (fun _ h9 => h9) rfl dX3_removeIfAbandoned_12 ?_
    refine lv_iload_n hx hb dX3_removeIfAbandoned_15 rfl (lv_at hl 1 rfl) ?_
    obtain ⟨r4, h5, hf⟩ := bnd hf
    refine call_vi (rest := []) (m_H_openTotal l ca ad bq nF nO nL nA nC nV nU nP nE bF bO bL bA bC bV bU bP bE cT cK cO cQ cD pT pK pR pW pU pI pC uO uF uE uN wK jM jN jZ jB R _ p1 r4 h5) ⟨hx, hb, hml, hown, hts⟩ (cwV 1 hts (gV q464 q465 q466 q28 q467) rfl rfl rfl (by decide +kernel) ⟨Nat.le_of_ble_eq_true rfl, Nat.le_of_ble_eq_true rfl⟩) (va_recv hK hP (ci := 4) (q0 := 33) rfl rfl) hE hP hD hS hA rfl hl.1 rfl (lv_room (Nat.le_of_ble_eq_true rfl)) dX3_removeIfAbandoned_16 ⟨Nat.le_of_ble_eq_true rfl, Nat.le_of_ble_eq_true rfl⟩ (fun H locs hP hD hS => ?_)
    refine lv_if_le (tgt := 24) hx hb dX3_removeIfAbandoned_19 (by decide) (fun c6 => ?_) (fun c6 => ?_)
    · have hf := br_pos c6 hf
      refine lv_aload_n hx hb dX3_removeIfAbandoned_24 rfl (lv_at hl 0 rfl) ?_
      refine va_get (D := D) (ci := 7) (v := .ref (ad 1)) (C := RX3) (T := TX3) (N := 11) hx hb hts inX3 hown hK hP 0 rfl rfl 0 (by decide) (hts _ q182) (fun _ h9 => h9) rfl dX3_removeIfAbandoned_25 ?_
      refine lv_iload_n hx hb dX3_removeIfAbandoned_28 rfl (lv_at hl 1 rfl) ?_
      obtain ⟨⟨nA_7, nC_8, nU_9⟩, h10, hf⟩ := bnd hf
      refine call_vv (rest := []) (m_S_removeFile l ca ad bq nF nO nL nA nC nV nU nP nE bF bO bL bA bC bV bU bP bE cT cK cO cQ cD pT pK pR pW pU pI pC uO uF uE uN wK jM jN jZ jB R _ p1 nA_7 nC_8 nU_9 h10) ⟨hx, hb, hml, hown, hts⟩ (cwV 1 hts (gV q476 q477 q478 q25 q479) rfl rfl rfl (by decide +kernel) ⟨Nat.le_of_ble_eq_true rfl, Nat.le_of_ble_eq_true rfl⟩) (va_recv hK hP (ci := 6) (q0 := 1) rfl rfl) hE hP hD hS hA rfl hl.1 rfl (lv_room (Nat.le_of_ble_eq_true rfl)) dX3_removeIfAbandoned_29 ⟨Nat.le_of_ble_eq_true rfl, Nat.le_of_ble_eq_true rfl⟩ (fun H locs hP hD hS => ?_)
      refine lv_iconst (v := 1) hx hb dX3_removeIfAbandoned_32 (by decide) ?_
      cases hf
      exact end_i hAe hQm hx hb hr hlocks rfl hP hD hS dX3_removeIfAbandoned_33
    · have hf := br_neg c6 hf
      refine lv_iconst (v := 0) hx hb dX3_removeIfAbandoned_22 (by decide) ?_
      cases hf
      exact end_i hAe hQm hx hb hr hlocks rfl hP hD hS dX3_removeIfAbandoned_23
def f_C_unlink (p1 : Int32) (nF : Int32) (nL : Nat → Int32) (nA : Nat → Int32) (nC : Nat → Int32) (nU : Nat → Int32) (nE : Int32) (cK : Nat → Int32) (uO : Int32) (uF : Nat → Int32) (uN : Nat → Int32) : Option (Except Nat Int32 × (Nat → Int32) × (Nat → Int32) × (Nat → Int32) × (Nat → Int32) × Int32 × (Nat → Int32)) :=
  (f_C_requireFile p1 nF).bind fun x1 =>
  match x1 with
  | .error n3 => some ((.error n3), nL, nA, nC, nU, nE, cK)
  | .ok _ =>
  (f_C_requireLinks p1 nF nL).bind fun x4 =>
  match x4 with
  | .error n6 => some ((.error n6), nL, nA, nC, nU, nE, cK)
  | .ok _ =>
  (f_S_linkTotal p1 nF nL).bind fun r7 =>
  (f_S_setLinks p1 (r7 - 1) nF nL).bind fun nL_9 =>
  (f_C_removeIfAbandoned p1 nF nL_9 nA nC nU uO uF uN).bind fun (r11, nA_12, nC_13, nU_14) =>
  (f_C_note 117 nE cK).bind fun (nE_16, cK_17) =>
  some ((.ok (r7 - 1)), nL_9, nA_12, nC_13, nU_14, nE_16, cK_17)
set_option maxHeartbeats 4000000 in
set_option maxRecDepth 100000 in
theorem m_C_unlink (l : Launch) (hst : l.stackTraces = false) {D : va_G} (ca : Nat → ClassId) (ad : Nat → Nat) (bq : Nat) (nF : Int32) (nO : Nat → Int32) (nL : Nat → Int32) (nA : Nat → Int32) (nC : Nat → Int32) (nV : Nat → Int32) (nU : Nat → Int32) (nP : Nat → Int32) (nE : Int32) (bF : Int32) (bO : Nat → Int32) (bL : Nat → Int32) (bA : Nat → Int32) (bC : Nat → Int32) (bV : Nat → Int32) (bU : Nat → Int32) (bP : Nat → Int32) (bE : Int32) (cT : Int32) (cK : Nat → Int32) (cO : Int32) (cQ : Nat → Int32) (cD : Int32) (pT : Int32) (pK : Int32) (pR : Nat → Int32) (pW : Nat → Int32) (pU : Nat → Int32) (pI : Nat → Int32) (pC : Nat → Nat → Int32) (uO : Int32) (uF : Nat → Int32) (uE : Nat → Int32) (uN : Nat → Int32) (wK : Nat → Int32) (jM : Int32) (jN : Int32) (jZ : Nat) (jB : Nat → Int32) (R : va_W) (sz : Nat) (p1 : Int32) (ro : Except Nat Int32) (onL : Nat → Int32) (onA : Nat → Int32) (onC : Nat → Int32) (onU : Nat → Int32) (onE : Int32) (ocK : Nat → Int32) (hf : f_C_unlink p1 nF nL nA nC nU nE cK uO uF uN = some (ro, onL, onA, onC, onU, onE, ocK)) : vx_Met l yX3_unlink (wm yX3_unlink cX3_unlink 3 (some .int)) ({ frames := 7, cells := 2, slots := 12, locals := 111 } : Room) (PREX [.ref (ad 0), .int p1] D ca SL0 (WC ca ad bq nF nO nL nA nC nV nU nP nE bF bO bL bA bC bV bU bP bE cT cK cO cQ cD pT pK pR pW pU pI pC uO uF uE uN wK jM jN jZ jB ++ R) sz) (QXI ro D (WC ca ad bq nF nO onL onA onC nV onU nP onE bF bO bL bA bC bV bU bP bE cT ocK cO cQ cD pT pK pR pW pU pI pC uO uF uE uN wK jM jN jZ jB ++ R) (WC ca ad bq nF nO nL nA nC nV nU nP nE bF bO bL bA bC bV bU bP bE cT cK cO cQ cD pT pK pR pW pU pI pC uO uF uE uN wK jM jN jZ jB ++ R) sz) (QXE ro D (WC ca ad bq nF nO onL onA onC nV onU nP onE bF bO bL bA bC bV bU bP bE cT ocK cO cQ cD pT pK pR pW pU pI pC uO uF uE uN wK jM jN jZ jB ++ R) (WC ca ad bq nF nO nL nA nC nV nU nP nE bF bO bL bA bC bV bU bP bE cT cK cO cQ cD pT pK pR pW pU pI pC uO uF uE uN wK jM jN jZ jB ++ R) sz) 2 12 (va_A (WC ca ad bq nF nO nL nA nC nV nU nP nE bF bO bL bA bC bV bU bP bE cT cK cO cQ cD pT pK pR pW pU pI pC uO uF uE uN wK jM jN jZ jB ++ R) sz) := by
  refine vx_ofW (cc := cX3_unlink) (maxL := 3) (ret := (some .int)) (by decide) rfl ?_
  intro p e s m args below meth c s₁ B hml htab hv
  obtain ⟨rfl, rfl, hP, hE, hD0, hZ⟩ := hv
  have hx := B.exec
  have hb := B.bytes
  have hr := B.returns
  have hts := wm_ww (atoms_spec (ws := wm yX3_unlink cX3_unlink 3 (some .int)) B.pre)
  have hown : s.vm.findClass RX3 = some m.cls := findClass_of_methodNamed B.named
  have hlocks := B.notSynchronized
  have hK := hE.1
  have hD := hD0.self (sz := s.heap.size)
  generalize hAe : va_A (WC ca ad bq nF nO nL nA nC nV nU nP nE bF bO bL bA bC bV bU bP bE cT cK cO cQ cD pT pK pR pW pU pI pC uO uF uE uN wK jM jN jZ jB ++ R) s.heap.size = A at hD hZ ⊢
  have hA : ∀ q : Nat, s.heap.size ≤ q → A q := fun q h => by rw [← hAe]; exact Or.inr h
  have hS : va_S A s.heap s.heap [] := va_S.rf
  have hl := lv_entry ([.ref (ad 0), .int p1]) (n := 3) (Nat.le_of_ble_eq_true rfl)
  rw [lg_entry_eq]
  generalize (lg_sl ([.ref (ad 0), .int p1]) ++ List.replicate (3 - (lg_sl ([.ref (ad 0), .int p1])).length) Slot.unset).toArray = ls at hl ⊢
  have hl : lv_has ls 3 [(0, .ref (ad 0)), (1, .int p1)] := hl
  change W p l e ({ frames := 7, cells := 2, slots := 12, locals := 111 } : Room) s m _ below meth c s.heap [] 0 0 _ _
  generalize hQm : vx_MQ below (QXI ro D (WC ca ad bq nF nO onL onA onC nV onU nP onE bF bO bL bA bC bV bU bP bE cT ocK cO cQ cD pT pK pR pW pU pI pC uO uF uE uN wK jM jN jZ jB ++ R) (WC ca ad bq nF nO nL nA nC nV nU nP nE bF bO bL bA bC bV bU bP bE cT cK cO cQ cD pT pK pR pW pU pI pC uO uF uE uN wK jM jN jZ jB ++ R) s.heap.size) (QXE ro D (WC ca ad bq nF nO onL onA onC nV onU nP onE bF bO bL bA bC bV bU bP bE cT ocK cO cQ cD pT pK pR pW pU pI pC uO uF uE uN wK jM jN jZ jB ++ R) (WC ca ad bq nF nO nL nA nC nV nU nP nE bF bO bL bA bC bV bU bP bE cT cK cO cQ cD pT pK pR pW pU pI pC uO uF uE uN wK jM jN jZ jB ++ R) s.heap.size) _ s 2 12 A = Qm
  have hP : va_P D vwCl (WC ca ad bq nF nO nL nA nC nV nU nP nE bF bO bL bA bC bV bU bP bE cT cK cO cQ cD pT pK pR pW pU pI pC uO uF uE uN wK jM jN jZ jB ++ R) s.heap := hP
  generalize hae : ([.ref (ad 0), .int p1] : List Value).toArray = args at hts hQm ⊢
  refine lv_aload_n hx hb dX3_unlink_0 rfl (lv_at hl 0 rfl) ?_
  refine lv_iload_n hx hb dX3_unlink_1 rfl (lv_at hl 1 rfl) ?_
  obtain ⟨x1, h2, hf⟩ := bnd hf
  rcases x1 with n3 | _
  · have hf : some ((.error n3), nL, nA, nC, nU, nE, cK) = some (ro, onL, onA, onC, onU, onE, ocK) := hf
    cases hf
    exact cx_vv_err (rest := []) (m_C_requireFile l hst ca ad bq nF nO nL nA nC nV nU nP nE bF bO bL bA bC bV bU bP bE cT cK cO cQ cD pT pK pR pW pU pI pC uO uF uE uN wK jM jN jZ jB R _ p1 (.error n3) h2) ⟨hx, hb, hml, hown, hts⟩ (cwV 1 hts (gV q420 q422 q5 q24 q423) rfl rfl rfl (by decide +kernel) ⟨Nat.le_of_ble_eq_true rfl, Nat.le_of_ble_eq_true rfl⟩) (va_recv hK hP (ci := 7) (q0 := 0) rfl rfl) hE hP hD hS hA hZ rfl hl.1 rfl (lv_room (Nat.le_of_ble_eq_true rfl)) dX3_unlink_2 ⟨Nat.le_of_ble_eq_true rfl, Nat.le_of_ble_eq_true rfl⟩ hAe hQm htab hlocks (Nat.le_of_ble_eq_true rfl) (Nat.le_of_ble_eq_true rfl)
  refine cx_vv_ok (rest := []) (m_C_requireFile l hst ca ad bq nF nO nL nA nC nV nU nP nE bF bO bL bA bC bV bU bP bE cT cK cO cQ cD pT pK pR pW pU pI pC uO uF uE uN wK jM jN jZ jB R _ p1 (.ok ()) h2) ⟨hx, hb, hml, hown, hts⟩ (cwV 1 hts (gV q420 q422 q5 q24 q423) rfl rfl rfl (by decide +kernel) ⟨Nat.le_of_ble_eq_true rfl, Nat.le_of_ble_eq_true rfl⟩) (va_recv hK hP (ci := 7) (q0 := 0) rfl rfl) hE hP hD hS hA hZ rfl hl.1 rfl (lv_room (Nat.le_of_ble_eq_true rfl)) dX3_unlink_2 ⟨Nat.le_of_ble_eq_true rfl, Nat.le_of_ble_eq_true rfl⟩ (fun H locs hP hD hS => ?_)
  refine lv_aload_n hx hb dX3_unlink_5 rfl (lv_at hl 0 rfl) ?_
  refine lv_iload_n hx hb dX3_unlink_6 rfl (lv_at hl 1 rfl) ?_
  obtain ⟨x4, h5, hf⟩ := bnd hf
  rcases x4 with n6 | _
  · have hf : some ((.error n6), nL, nA, nC, nU, nE, cK) = some (ro, onL, onA, onC, onU, onE, ocK) := hf
    cases hf
    exact cx_vv_err (rest := []) (m_C_requireLinks l hst ca ad bq nF nO nL nA nC nV nU nP nE bF bO bL bA bC bV bU bP bE cT cK cO cQ cD pT pK pR pW pU pI pC uO uF uE uN wK jM jN jZ jB R _ p1 (.error n6) h5) ⟨hx, hb, hml, hown, hts⟩ (cwV 1 hts (gV q446 q448 q6 q24 q449) rfl rfl rfl (by decide +kernel) ⟨Nat.le_of_ble_eq_true rfl, Nat.le_of_ble_eq_true rfl⟩) (va_recv hK hP (ci := 7) (q0 := 0) rfl rfl) hE hP hD hS hA hZ rfl hl.1 rfl (lv_room (Nat.le_of_ble_eq_true rfl)) dX3_unlink_7 ⟨Nat.le_of_ble_eq_true rfl, Nat.le_of_ble_eq_true rfl⟩ hAe hQm htab hlocks (Nat.le_of_ble_eq_true rfl) (Nat.le_of_ble_eq_true rfl)
  refine cx_vv_ok (rest := []) (m_C_requireLinks l hst ca ad bq nF nO nL nA nC nV nU nP nE bF bO bL bA bC bV bU bP bE cT cK cO cQ cD pT pK pR pW pU pI pC uO uF uE uN wK jM jN jZ jB R _ p1 (.ok ()) h5) ⟨hx, hb, hml, hown, hts⟩ (cwV 1 hts (gV q446 q448 q6 q24 q449) rfl rfl rfl (by decide +kernel) ⟨Nat.le_of_ble_eq_true rfl, Nat.le_of_ble_eq_true rfl⟩) (va_recv hK hP (ci := 7) (q0 := 0) rfl rfl) hE hP hD hS hA hZ rfl hl.1 rfl (lv_room (Nat.le_of_ble_eq_true rfl)) dX3_unlink_7 ⟨Nat.le_of_ble_eq_true rfl, Nat.le_of_ble_eq_true rfl⟩ (fun H locs hP hD hS => ?_)
  refine lv_aload_n hx hb dX3_unlink_10 rfl (lv_at hl 0 rfl) ?_
  refine va_get (D := D) (ci := 7) (v := .ref (ad 1)) (C := RX3) (T := TX3) (N := 11) hx hb hts inX3 hown hK hP 0 rfl rfl 0 (by decide) (hts _ q182) (fun _ h9 => h9) rfl dX3_unlink_11 ?_
  refine lv_iload_n hx hb dX3_unlink_14 rfl (lv_at hl 1 rfl) ?_
  obtain ⟨r7, h8, hf⟩ := bnd hf
  refine call_vi (rest := []) (m_S_linkTotal l ca ad bq nF nO nL nA nC nV nU nP nE bF bO bL bA bC bV bU bP bE cT cK cO cQ cD pT pK pR pW pU pI pC uO uF uE uN wK jM jN jZ jB R _ p1 r7 h8) ⟨hx, hb, hml, hown, hts⟩ (cwV 1 hts (gV q438 q439 q440 q25 q441) rfl rfl rfl (by decide +kernel) ⟨Nat.le_of_ble_eq_true rfl, Nat.le_of_ble_eq_true rfl⟩) (va_recv hK hP (ci := 6) (q0 := 1) rfl rfl) hE hP hD hS hA rfl hl.1 rfl (lv_room (Nat.le_of_ble_eq_true rfl)) dX3_unlink_15 ⟨Nat.le_of_ble_eq_true rfl, Nat.le_of_ble_eq_true rfl⟩ (fun H locs hP hD hS => ?_)
  refine lv_iconst (v := 1) hx hb dX3_unlink_18 (by decide) ?_
  refine lv_isub hx hb dX3_unlink_19 ?_
  refine lv_istore_n (lv' := [(2, .int (r7 - 1)), (0, .ref (ad 0)), (1, .int p1)]) hx hb dX3_unlink_20 rfl hl (by decide) rfl (fun ls hl => ?_)
  refine lv_aload_n hx hb dX3_unlink_21 rfl (lv_at hl 1 rfl) ?_
  refine va_get (D := D) (ci := 7) (v := .ref (ad 1)) (C := RX3) (T := TX3) (N := 11) hx hb hts inX3 hown hK hP 0 rfl rfl 0 (by decide) (hts _ q182) (fun _ h9 => h9) rfl dX3_unlink_22 ?_
  refine lv_iload_n hx hb dX3_unlink_25 rfl (lv_at hl 2 rfl) ?_
  refine lv_iload_n hx hb dX3_unlink_26 rfl (lv_at hl 0 rfl) ?_
  obtain ⟨nL_9, h10, hf⟩ := bnd hf
  refine call_vv (rest := []) (m_S_setLinks l ca ad bq nF nO nL nA nC nV nU nP nE bF bO bL bA bC bV bU bP bE cT cK cO cQ cD pT pK pR pW pU pI pC uO uF uE uN wK jM jN jZ jB R _ p1 (r7 - 1) nL_9 h10) ⟨hx, hb, hml, hown, hts⟩ (cwV 2 hts (gV q452 q453 q454 q25 q455) rfl rfl rfl (by decide +kernel) ⟨Nat.le_of_ble_eq_true rfl, Nat.le_of_ble_eq_true rfl⟩) (va_recv hK hP (ci := 6) (q0 := 1) rfl rfl) hE hP hD hS hA rfl hl.1 rfl (lv_room (Nat.le_of_ble_eq_true rfl)) dX3_unlink_27 ⟨Nat.le_of_ble_eq_true rfl, Nat.le_of_ble_eq_true rfl⟩ (fun H locs hP hD hS => ?_)
  refine lv_aload_n hx hb dX3_unlink_30 rfl (lv_at hl 1 rfl) ?_
  refine lv_iload_n hx hb dX3_unlink_31 rfl (lv_at hl 2 rfl) ?_
  obtain ⟨⟨r11, nA_12, nC_13, nU_14⟩, h15, hf⟩ := bnd hf
  refine call_vi (rest := []) (m_C_removeIfAbandoned l ca ad bq nF nO nL_9 nA nC nV nU nP nE bF bO bL bA bC bV bU bP bE cT cK cO cQ cD pT pK pR pW pU pI pC uO uF uE uN wK jM jN jZ jB R _ p1 r11 nA_12 nC_13 nU_14 h15) ⟨hx, hb, hml, hown, hts⟩ (cwV 1 hts (gV q460 q462 q7 q24 q463) rfl rfl rfl (by decide +kernel) ⟨Nat.le_of_ble_eq_true rfl, Nat.le_of_ble_eq_true rfl⟩) (va_recv hK hP (ci := 7) (q0 := 0) rfl rfl) hE hP hD hS hA rfl hl.1 rfl (lv_room (Nat.le_of_ble_eq_true rfl)) dX3_unlink_32 ⟨Nat.le_of_ble_eq_true rfl, Nat.le_of_ble_eq_true rfl⟩ (fun H locs hP hD hS => ?_)
  refine lv_pop hx hb dX3_unlink_35 rfl ?_
  refine lv_aload_n hx hb dX3_unlink_36 rfl (lv_at hl 1 rfl) ?_
  refine lv_bipush (v := 117) hx hb dX3_unlink_37 (by decide) ?_
  obtain ⟨⟨nE_16, cK_17⟩, h18, hf⟩ := bnd hf
  refine call_vv (rest := []) (m_C_note l ca ad bq nF nO nL_9 nA_12 nC_13 nV nU_14 nP nE bF bO bL bA bC bV bU bP bE cT cK cO cQ cD pT pK pR pW pU pI pC uO uF uE uN wK jM jN jZ jB R _ 117 nE_16 cK_17 h18) ⟨hx, hb, hml, hown, hts⟩ (cwV 1 hts (gV q408 q410 q4 q24 q411) rfl rfl rfl (by decide +kernel) ⟨Nat.le_of_ble_eq_true rfl, Nat.le_of_ble_eq_true rfl⟩) (va_recv hK hP (ci := 7) (q0 := 0) rfl rfl) hE hP hD hS hA rfl hl.1 rfl (lv_room (Nat.le_of_ble_eq_true rfl)) dX3_unlink_39 ⟨Nat.le_of_ble_eq_true rfl, Nat.le_of_ble_eq_true rfl⟩ (fun H locs hP hD hS => ?_)
  refine lv_iload_n hx hb dX3_unlink_42 rfl (lv_at hl 0 rfl) ?_
  cases hf
  exact endx_i hAe hQm hx hb hr hlocks rfl hP hD hS dX3_unlink_43 (Nat.le_of_ble_eq_true rfl) (Nat.le_of_ble_eq_true rfl)
def f_C_requirePlace (p1 : Int32) : Option (Except Nat Unit) :=
  (f_C_isPlace p1).bind fun r1 =>
  if r1 = 0 then
    some (.error 3)
  else
    some (.ok ())
set_option maxHeartbeats 4000000 in
set_option maxRecDepth 100000 in
theorem m_C_requirePlace (l : Launch) (hst : l.stackTraces = false) {D : va_G} (ca : Nat → ClassId) (ad : Nat → Nat) (bq : Nat) (nF : Int32) (nO : Nat → Int32) (nL : Nat → Int32) (nA : Nat → Int32) (nC : Nat → Int32) (nV : Nat → Int32) (nU : Nat → Int32) (nP : Nat → Int32) (nE : Int32) (bF : Int32) (bO : Nat → Int32) (bL : Nat → Int32) (bA : Nat → Int32) (bC : Nat → Int32) (bV : Nat → Int32) (bU : Nat → Int32) (bP : Nat → Int32) (bE : Int32) (cT : Int32) (cK : Nat → Int32) (cO : Int32) (cQ : Nat → Int32) (cD : Int32) (pT : Int32) (pK : Int32) (pR : Nat → Int32) (pW : Nat → Int32) (pU : Nat → Int32) (pI : Nat → Int32) (pC : Nat → Nat → Int32) (uO : Int32) (uF : Nat → Int32) (uE : Nat → Int32) (uN : Nat → Int32) (wK : Nat → Int32) (jM : Int32) (jN : Int32) (jZ : Nat) (jB : Nat → Int32) (R : va_W) (sz : Nat) (p1 : Int32) (ro : Except Nat Unit) (hf : f_C_requirePlace p1 = some ro) : vx_Met l yX3_requirePlace (wm yX3_requirePlace cX3_requirePlace 2 none) ({ frames := 6, cells := 1, slots := 6, locals := 90 } : Room) (PREX [.ref (ad 0), .int p1] D ca SL0 (WC ca ad bq nF nO nL nA nC nV nU nP nE bF bO bL bA bC bV bU bP bE cT cK cO cQ cD pT pK pR pW pU pI pC uO uF uE uN wK jM jN jZ jB ++ R) sz) (QXV ro D (WC ca ad bq nF nO nL nA nC nV nU nP nE bF bO bL bA bC bV bU bP bE cT cK cO cQ cD pT pK pR pW pU pI pC uO uF uE uN wK jM jN jZ jB ++ R) (WC ca ad bq nF nO nL nA nC nV nU nP nE bF bO bL bA bC bV bU bP bE cT cK cO cQ cD pT pK pR pW pU pI pC uO uF uE uN wK jM jN jZ jB ++ R) sz) (QXE ro D (WC ca ad bq nF nO nL nA nC nV nU nP nE bF bO bL bA bC bV bU bP bE cT cK cO cQ cD pT pK pR pW pU pI pC uO uF uE uN wK jM jN jZ jB ++ R) (WC ca ad bq nF nO nL nA nC nV nU nP nE bF bO bL bA bC bV bU bP bE cT cK cO cQ cD pT pK pR pW pU pI pC uO uF uE uN wK jM jN jZ jB ++ R) sz) 1 6 (va_A (WC ca ad bq nF nO nL nA nC nV nU nP nE bF bO bL bA bC bV bU bP bE cT cK cO cQ cD pT pK pR pW pU pI pC uO uF uE uN wK jM jN jZ jB ++ R) sz) := by
  refine vx_ofW (cc := cX3_requirePlace) (maxL := 2) (ret := none) (by decide) rfl ?_
  intro p e s m args below meth c s₁ B hml htab hv
  obtain ⟨rfl, rfl, hP, hE, hD0, hZ⟩ := hv
  have hx := B.exec
  have hb := B.bytes
  have hr := B.returns
  have hts := wm_ww (atoms_spec (ws := wm yX3_requirePlace cX3_requirePlace 2 none) B.pre)
  have hown : s.vm.findClass RX3 = some m.cls := findClass_of_methodNamed B.named
  have hlocks := B.notSynchronized
  have hK := hE.1
  have hD := hD0.self (sz := s.heap.size)
  generalize hAe : va_A (WC ca ad bq nF nO nL nA nC nV nU nP nE bF bO bL bA bC bV bU bP bE cT cK cO cQ cD pT pK pR pW pU pI pC uO uF uE uN wK jM jN jZ jB ++ R) s.heap.size = A at hD hZ ⊢
  have hA : ∀ q : Nat, s.heap.size ≤ q → A q := fun q h => by rw [← hAe]; exact Or.inr h
  have hS : va_S A s.heap s.heap [] := va_S.rf
  have hl := lv_entry ([.ref (ad 0), .int p1]) (n := 2) (Nat.le_of_ble_eq_true rfl)
  rw [lg_entry_eq]
  generalize (lg_sl ([.ref (ad 0), .int p1]) ++ List.replicate (2 - (lg_sl ([.ref (ad 0), .int p1])).length) Slot.unset).toArray = ls at hl ⊢
  have hl : lv_has ls 2 [(0, .ref (ad 0)), (1, .int p1)] := hl
  change W p l e ({ frames := 6, cells := 1, slots := 6, locals := 90 } : Room) s m _ below meth c s.heap [] 0 0 _ _
  generalize hQm : vx_MQ below (QXV ro D (WC ca ad bq nF nO nL nA nC nV nU nP nE bF bO bL bA bC bV bU bP bE cT cK cO cQ cD pT pK pR pW pU pI pC uO uF uE uN wK jM jN jZ jB ++ R) (WC ca ad bq nF nO nL nA nC nV nU nP nE bF bO bL bA bC bV bU bP bE cT cK cO cQ cD pT pK pR pW pU pI pC uO uF uE uN wK jM jN jZ jB ++ R) s.heap.size) (QXE ro D (WC ca ad bq nF nO nL nA nC nV nU nP nE bF bO bL bA bC bV bU bP bE cT cK cO cQ cD pT pK pR pW pU pI pC uO uF uE uN wK jM jN jZ jB ++ R) (WC ca ad bq nF nO nL nA nC nV nU nP nE bF bO bL bA bC bV bU bP bE cT cK cO cQ cD pT pK pR pW pU pI pC uO uF uE uN wK jM jN jZ jB ++ R) s.heap.size) _ s 1 6 A = Qm
  have hP : va_P D vwCl (WC ca ad bq nF nO nL nA nC nV nU nP nE bF bO bL bA bC bV bU bP bE cT cK cO cQ cD pT pK pR pW pU pI pC uO uF uE uN wK jM jN jZ jB ++ R) s.heap := hP
  generalize hae : ([.ref (ad 0), .int p1] : List Value).toArray = args at hts hQm ⊢
  refine lv_iload_n hx hb dX3_requirePlace_0 rfl (lv_at hl 1 rfl) ?_
  obtain ⟨r1, h2, hf⟩ := bnd hf
  refine call_si (rest := []) (m_C_isPlace l ca ad bq nF nO nL nA nC nV nU nP nE bF bO bL bA bC bV bU bP bE cT cK cO cQ cD pT pK pR pW pU pI pC uO uF uE uN wK jM jN jZ jB R _ p1 r1 h2) ⟨hx, hb, hml, hown, hts⟩ (va_cwS 1 hts (gS q506 q485 q24 q486) rfl rfl rfl (by decide +kernel) ⟨Nat.le_of_ble_eq_true rfl, Nat.le_of_ble_eq_true rfl⟩) hE hP hD hS hA rfl hl.1 rfl (lv_room (Nat.le_of_ble_eq_true rfl)) dX3_requirePlace_1 ⟨Nat.le_of_ble_eq_true rfl, Nat.le_of_ble_eq_true rfl⟩ (fun H locs hP hD hS => ?_)
  refine lv_if_ne (tgt := 18) hx hb dX3_requirePlace_4 (by decide) (fun c3 => ?_) (fun c3 => ?_)
  · have hf := br_neg c3 hf
    cases hf
    exact endx_v hAe hQm hx hb hr hlocks hP hD hS dX3_requirePlace_18 (Nat.le_of_ble_eq_true rfl) (Nat.le_of_ble_eq_true rfl)
  · have hf := br_pos c3 hf
    cases hf
    exact endx_throwW 3 rfl hAe hQm hst hx hb hts hE hown htab hlocks (by decide +kernel) q390 q36 sl22 at283 hZ (hl.1.trans hml.symm) hP hD hS dX3_requirePlace_7 dX3_requirePlace_10 dX3_requirePlace_11 dX3_requirePlace_14 dX3_requirePlace_17 (Nat.le_of_ble_eq_true rfl) (Nat.le_of_ble_eq_true rfl) (Nat.le_of_ble_eq_true rfl) (Nat.le_of_ble_eq_true rfl) (Nat.le_of_ble_eq_true rfl) (Nat.le_of_ble_eq_true rfl)
def f_J13_bitCount_95d88 (p0 : Int64) : Option (Int32) :=
  (some (p0 - ((p0.toUInt64 >>> ((1 : Int32).toInt64.toUInt64 &&& Int64.toUInt64 63)).toInt64 &&& 6148914691236517205))).bind fun b1 =>
  (some ((b1 &&& 3689348814741910323) + ((b1.toUInt64 >>> ((2 : Int32).toInt64.toUInt64 &&& Int64.toUInt64 63)).toInt64 &&& 3689348814741910323))).bind fun b3 =>
  (some ((b3 + (b3.toUInt64 >>> ((4 : Int32).toInt64.toUInt64 &&& Int64.toUInt64 63)).toInt64) &&& 1085102592571150095)).bind fun b5 =>
  (some ((b5 + (b5.toUInt64 >>> ((8 : Int32).toInt64.toUInt64 &&& Int64.toUInt64 63)).toInt64) + ((b5 + (b5.toUInt64 >>> ((8 : Int32).toInt64.toUInt64 &&& Int64.toUInt64 63)).toInt64).toUInt64 >>> ((16 : Int32).toInt64.toUInt64 &&& Int64.toUInt64 63)).toInt64)).bind fun b7 =>
  some (((b7 + (b7.toUInt64 >>> ((32 : Int32).toInt64.toUInt64 &&& Int64.toUInt64 63)).toInt64)).toInt32 &&& 127)
set_option maxHeartbeats 4000000 in
set_option maxRecDepth 100000 in
theorem m_J13_bitCount_95d88 (l : Launch) {D : va_G} {sl : List (String × Nat × String)} (ca : Nat → ClassId) (ad : Nat → Nat) (bq : Nat) (nF : Int32) (nO : Nat → Int32) (nL : Nat → Int32) (nA : Nat → Int32) (nC : Nat → Int32) (nV : Nat → Int32) (nU : Nat → Int32) (nP : Nat → Int32) (nE : Int32) (bF : Int32) (bO : Nat → Int32) (bL : Nat → Int32) (bA : Nat → Int32) (bC : Nat → Int32) (bV : Nat → Int32) (bU : Nat → Int32) (bP : Nat → Int32) (bE : Int32) (cT : Int32) (cK : Nat → Int32) (cO : Int32) (cQ : Nat → Int32) (cD : Int32) (pT : Int32) (pK : Int32) (pR : Nat → Int32) (pW : Nat → Int32) (pU : Nat → Int32) (pI : Nat → Int32) (pC : Nat → Nat → Int32) (uO : Int32) (uF : Nat → Int32) (uE : Nat → Int32) (uN : Nat → Int32) (wK : Nat → Int32) (jM : Int32) (jN : Int32) (jZ : Nat) (jB : Nat → Int32) (R : va_W) (sz : Nat) (p0 : Int64) (ro : Int32) (hf : f_J13_bitCount_95d88 p0 = some ro) : Met l yJ13_bitCount_95d88 (wm yJ13_bitCount_95d88 cJ13_bitCount_95d88 2 (some .int)) ({ frames := 0, cells := 0, slots := 0, locals := 0 } : Room) (PRE [.long p0] D ca sl (WC ca ad bq nF nO nL nA nC nV nU nP nE bF bO bL bA bC bV bU bP bE cT cK cO cQ cD pT pK pR pW pU pI pC uO uF uE uN wK jM jN jZ jB ++ R) sz) (QI ro D (WC ca ad bq nF nO nL nA nC nV nU nP nE bF bO bL bA bC bV bU bP bE cT cK cO cQ cD pT pK pR pW pU pI pC uO uF uE uN wK jM jN jZ jB ++ R) (WC ca ad bq nF nO nL nA nC nV nU nP nE bF bO bL bA bC bV bU bP bE cT cK cO cQ cD pT pK pR pW pU pI pC uO uF uE uN wK jM jN jZ jB ++ R) sz) 0 0 (va_A (WC ca ad bq nF nO nL nA nC nV nU nP nE bF bO bL bA bC bV bU bP bE cT cK cO cQ cD pT pK pR pW pU pI pC uO uF uE uN wK jM jN jZ jB ++ R) sz) := by
  refine Met.ofW (cc := cJ13_bitCount_95d88) (maxL := 2) (ret := (some .int)) (by decide) rfl ?_
  intro p e s m args below meth c s₁ B hml hv
  obtain ⟨rfl, rfl, hP, hE, hD0⟩ := hv
  have hx := B.exec
  have hb := B.bytes
  have hr := B.returns
  have hts := wm_ww (atoms_spec (ws := wm yJ13_bitCount_95d88 cJ13_bitCount_95d88 2 (some .int)) B.pre)
  have hown : s.vm.findClass RJ13 = some m.cls := findClass_of_methodNamed B.named
  have hlocks := B.notSynchronized
  have hK := hE.1
  have hD := hD0.self (sz := s.heap.size)
  generalize hAe : va_A (WC ca ad bq nF nO nL nA nC nV nU nP nE bF bO bL bA bC bV bU bP bE cT cK cO cQ cD pT pK pR pW pU pI pC uO uF uE uN wK jM jN jZ jB ++ R) s.heap.size = A at hD ⊢
  have hA : ∀ q : Nat, s.heap.size ≤ q → A q := fun q h => by rw [← hAe]; exact Or.inr h
  have hS : va_S A s.heap s.heap [] := va_S.rf
  have hl := lv_entry ([.long p0]) (n := 2) (Nat.le_of_ble_eq_true rfl)
  rw [lg_entry_eq]
  generalize (lg_sl ([.long p0]) ++ List.replicate (2 - (lg_sl ([.long p0])).length) Slot.unset).toArray = ls at hl ⊢
  have hl : lv_has ls 2 [(0, .long p0)] := hl
  change W p l e ({ frames := 0, cells := 0, slots := 0, locals := 0 } : Room) s m _ below meth c s.heap [] 0 0 _ _
  generalize hQm : MQ below (QI ro D (WC ca ad bq nF nO nL nA nC nV nU nP nE bF bO bL bA bC bV bU bP bE cT cK cO cQ cD pT pK pR pW pU pI pC uO uF uE uN wK jM jN jZ jB ++ R) (WC ca ad bq nF nO nL nA nC nV nU nP nE bF bO bL bA bC bV bU bP bE cT cK cO cQ cD pT pK pR pW pU pI pC uO uF uE uN wK jM jN jZ jB ++ R) s.heap.size) _ s 0 0 A = Qm
  have hP : va_P D vwCl (WC ca ad bq nF nO nL nA nC nV nU nP nE bF bO bL bA bC bV bU bP bE cT cK cO cQ cD pT pK pR pW pU pI pC uO uF uE uN wK jM jN jZ jB ++ R) s.heap := hP
  generalize hae : ([.long p0] : List Value).toArray = args at hts hQm ⊢
  refine lv_lload_n hx hb dJ13_bitCount_95d88_0 rfl (lv_at hl 0 rfl) ?_
  refine lv_lload_n hx hb dJ13_bitCount_95d88_1 rfl (lv_at hl 0 rfl) ?_
  refine lv_iconst (v := 1) hx hb dJ13_bitCount_95d88_2 (by decide) ?_
  refine lv_lushr hx hb dJ13_bitCount_95d88_3 rfl ?_
  refine lv_ldc2 hx hb hown (hts _ q538) dJ13_bitCount_95d88_4 ?_
  refine lv_land hx hb dJ13_bitCount_95d88_7 ?_
  refine lv_lsub hx hb dJ13_bitCount_95d88_8 ?_
  obtain ⟨b1, e2, hf⟩ := bnd hf
  rw [Option.some.inj e2]
  refine lv_lstore_n (lv' := [(0, .long b1)]) hx hb dJ13_bitCount_95d88_9 rfl hl (by decide) rfl (fun ls hl => ?_)
  refine lv_lload_n hx hb dJ13_bitCount_95d88_10 rfl (lv_at hl 0 rfl) ?_
  refine lv_ldc2 hx hb hown (hts _ q539) dJ13_bitCount_95d88_11 ?_
  refine lv_land hx hb dJ13_bitCount_95d88_14 ?_
  refine lv_lload_n hx hb dJ13_bitCount_95d88_15 rfl (lv_at hl 0 rfl) ?_
  refine lv_iconst (v := 2) hx hb dJ13_bitCount_95d88_16 (by decide) ?_
  refine lv_lushr hx hb dJ13_bitCount_95d88_17 rfl ?_
  refine lv_ldc2 hx hb hown (hts _ q539) dJ13_bitCount_95d88_18 ?_
  refine lv_land hx hb dJ13_bitCount_95d88_21 ?_
  refine lv_ladd hx hb dJ13_bitCount_95d88_22 ?_
  obtain ⟨b3, e4, hf⟩ := bnd hf
  rw [Option.some.inj e4]
  refine lv_lstore_n (lv' := [(0, .long b3)]) hx hb dJ13_bitCount_95d88_23 rfl hl (by decide) rfl (fun ls hl => ?_)
  refine lv_lload_n hx hb dJ13_bitCount_95d88_24 rfl (lv_at hl 0 rfl) ?_
  refine lv_lload_n hx hb dJ13_bitCount_95d88_25 rfl (lv_at hl 0 rfl) ?_
  refine lv_iconst (v := 4) hx hb dJ13_bitCount_95d88_26 (by decide) ?_
  refine lv_lushr hx hb dJ13_bitCount_95d88_27 rfl ?_
  refine lv_ladd hx hb dJ13_bitCount_95d88_28 ?_
  refine lv_ldc2 hx hb hown (hts _ q540) dJ13_bitCount_95d88_29 ?_
  refine lv_land hx hb dJ13_bitCount_95d88_32 ?_
  obtain ⟨b5, e6, hf⟩ := bnd hf
  rw [Option.some.inj e6]
  refine lv_lstore_n (lv' := [(0, .long b5)]) hx hb dJ13_bitCount_95d88_33 rfl hl (by decide) rfl (fun ls hl => ?_)
  refine lv_lload_n hx hb dJ13_bitCount_95d88_34 rfl (lv_at hl 0 rfl) ?_
  refine lv_lload_n hx hb dJ13_bitCount_95d88_35 rfl (lv_at hl 0 rfl) ?_
  refine lv_bipush (v := 8) hx hb dJ13_bitCount_95d88_36 (by decide) ?_
  refine lv_lushr hx hb dJ13_bitCount_95d88_38 rfl ?_
  refine lv_ladd hx hb dJ13_bitCount_95d88_39 ?_
  refine lv_lstore_n (lv' := [(0, .long (b5 + (b5.toUInt64 >>> ((8 : Int32).toInt64.toUInt64 &&& Int64.toUInt64 63)).toInt64))]) hx hb dJ13_bitCount_95d88_40 rfl hl (by decide) rfl (fun ls hl => ?_)
  refine lv_lload_n hx hb dJ13_bitCount_95d88_41 rfl (lv_at hl 0 rfl) ?_
  refine lv_lload_n hx hb dJ13_bitCount_95d88_42 rfl (lv_at hl 0 rfl) ?_
  refine lv_bipush (v := 16) hx hb dJ13_bitCount_95d88_43 (by decide) ?_
  refine lv_lushr hx hb dJ13_bitCount_95d88_45 rfl ?_
  refine lv_ladd hx hb dJ13_bitCount_95d88_46 ?_
  obtain ⟨b7, e8, hf⟩ := bnd hf
  rw [Option.some.inj e8]
  refine lv_lstore_n (lv' := [(0, .long b7)]) hx hb dJ13_bitCount_95d88_47 rfl hl (by decide) rfl (fun ls hl => ?_)
  refine lv_lload_n hx hb dJ13_bitCount_95d88_48 rfl (lv_at hl 0 rfl) ?_
  refine lv_lload_n hx hb dJ13_bitCount_95d88_49 rfl (lv_at hl 0 rfl) ?_
  refine lv_bipush (v := 32) hx hb dJ13_bitCount_95d88_50 (by decide) ?_
  refine lv_lushr hx hb dJ13_bitCount_95d88_52 rfl ?_
  refine lv_ladd hx hb dJ13_bitCount_95d88_53 ?_
  refine lv_lstore_n (lv' := [(0, .long (b7 + (b7.toUInt64 >>> ((32 : Int32).toInt64.toUInt64 &&& Int64.toUInt64 63)).toInt64))]) hx hb dJ13_bitCount_95d88_54 rfl hl (by decide) rfl (fun ls hl => ?_)
  refine lv_lload_n hx hb dJ13_bitCount_95d88_55 rfl (lv_at hl 0 rfl) ?_
  refine lv_l2i hx hb dJ13_bitCount_95d88_56 rfl ?_
  refine lv_bipush (v := 127) hx hb dJ13_bitCount_95d88_57 (by decide) ?_
  refine lv_iand hx hb dJ13_bitCount_95d88_59 ?_
  cases hf
  exact end_i hAe hQm hx hb hr hlocks rfl hP hD hS dJ13_bitCount_95d88_60
def f_C_quotaOf (p1 : Int32) (cO : Int32) (cQ : Nat → Int32) : Option (Int32) :=
  if p1 < 0 then
    some 0
  else
    if cO ≤ p1 then
      some 0
    else
      if p1 < 0 ∨ 4 ≤ p1.toNatClampNeg then none else
        some (cQ p1.toNatClampNeg)
set_option maxHeartbeats 4000000 in
set_option maxRecDepth 100000 in
theorem m_C_quotaOf (l : Launch) {D : va_G} {sl : List (String × Nat × String)} (ca : Nat → ClassId) (ad : Nat → Nat) (bq : Nat) (nF : Int32) (nO : Nat → Int32) (nL : Nat → Int32) (nA : Nat → Int32) (nC : Nat → Int32) (nV : Nat → Int32) (nU : Nat → Int32) (nP : Nat → Int32) (nE : Int32) (bF : Int32) (bO : Nat → Int32) (bL : Nat → Int32) (bA : Nat → Int32) (bC : Nat → Int32) (bV : Nat → Int32) (bU : Nat → Int32) (bP : Nat → Int32) (bE : Int32) (cT : Int32) (cK : Nat → Int32) (cO : Int32) (cQ : Nat → Int32) (cD : Int32) (pT : Int32) (pK : Int32) (pR : Nat → Int32) (pW : Nat → Int32) (pU : Nat → Int32) (pI : Nat → Int32) (pC : Nat → Nat → Int32) (uO : Int32) (uF : Nat → Int32) (uE : Nat → Int32) (uN : Nat → Int32) (wK : Nat → Int32) (jM : Int32) (jN : Int32) (jZ : Nat) (jB : Nat → Int32) (R : va_W) (sz : Nat) (p1 : Int32) (ro : Int32) (hf : f_C_quotaOf p1 cO cQ = some ro) : Met l yX3_quotaOf (wm yX3_quotaOf cX3_quotaOf 2 (some .int)) ({ frames := 0, cells := 0, slots := 0, locals := 0 } : Room) (PRE [.ref (ad 0), .int p1] D ca sl (WC ca ad bq nF nO nL nA nC nV nU nP nE bF bO bL bA bC bV bU bP bE cT cK cO cQ cD pT pK pR pW pU pI pC uO uF uE uN wK jM jN jZ jB ++ R) sz) (QI ro D (WC ca ad bq nF nO nL nA nC nV nU nP nE bF bO bL bA bC bV bU bP bE cT cK cO cQ cD pT pK pR pW pU pI pC uO uF uE uN wK jM jN jZ jB ++ R) (WC ca ad bq nF nO nL nA nC nV nU nP nE bF bO bL bA bC bV bU bP bE cT cK cO cQ cD pT pK pR pW pU pI pC uO uF uE uN wK jM jN jZ jB ++ R) sz) 0 0 (va_A (WC ca ad bq nF nO nL nA nC nV nU nP nE bF bO bL bA bC bV bU bP bE cT cK cO cQ cD pT pK pR pW pU pI pC uO uF uE uN wK jM jN jZ jB ++ R) sz) := by
  refine Met.ofW (cc := cX3_quotaOf) (maxL := 2) (ret := (some .int)) (by decide) rfl ?_
  intro p e s m args below meth c s₁ B hml hv
  obtain ⟨rfl, rfl, hP, hE, hD0⟩ := hv
  have hx := B.exec
  have hb := B.bytes
  have hr := B.returns
  have hts := wm_ww (atoms_spec (ws := wm yX3_quotaOf cX3_quotaOf 2 (some .int)) B.pre)
  have hown : s.vm.findClass RX3 = some m.cls := findClass_of_methodNamed B.named
  have hlocks := B.notSynchronized
  have hK := hE.1
  have hD := hD0.self (sz := s.heap.size)
  generalize hAe : va_A (WC ca ad bq nF nO nL nA nC nV nU nP nE bF bO bL bA bC bV bU bP bE cT cK cO cQ cD pT pK pR pW pU pI pC uO uF uE uN wK jM jN jZ jB ++ R) s.heap.size = A at hD ⊢
  have hA : ∀ q : Nat, s.heap.size ≤ q → A q := fun q h => by rw [← hAe]; exact Or.inr h
  have hS : va_S A s.heap s.heap [] := va_S.rf
  have hl := lv_entry ([.ref (ad 0), .int p1]) (n := 2) (Nat.le_of_ble_eq_true rfl)
  rw [lg_entry_eq]
  generalize (lg_sl ([.ref (ad 0), .int p1]) ++ List.replicate (2 - (lg_sl ([.ref (ad 0), .int p1])).length) Slot.unset).toArray = ls at hl ⊢
  have hl : lv_has ls 2 [(0, .ref (ad 0)), (1, .int p1)] := hl
  change W p l e ({ frames := 0, cells := 0, slots := 0, locals := 0 } : Room) s m _ below meth c s.heap [] 0 0 _ _
  generalize hQm : MQ below (QI ro D (WC ca ad bq nF nO nL nA nC nV nU nP nE bF bO bL bA bC bV bU bP bE cT cK cO cQ cD pT pK pR pW pU pI pC uO uF uE uN wK jM jN jZ jB ++ R) (WC ca ad bq nF nO nL nA nC nV nU nP nE bF bO bL bA bC bV bU bP bE cT cK cO cQ cD pT pK pR pW pU pI pC uO uF uE uN wK jM jN jZ jB ++ R) s.heap.size) _ s 0 0 A = Qm
  have hP : va_P D vwCl (WC ca ad bq nF nO nL nA nC nV nU nP nE bF bO bL bA bC bV bU bP bE cT cK cO cQ cD pT pK pR pW pU pI pC uO uF uE uN wK jM jN jZ jB ++ R) s.heap := hP
  generalize hae : ([.ref (ad 0), .int p1] : List Value).toArray = args at hts hQm ⊢
  refine lv_iload_n hx hb dX3_quotaOf_0 rfl (lv_at hl 1 rfl) ?_
  refine lv_if_lt (tgt := 21) hx hb dX3_quotaOf_1 (by decide) (fun c1 => ?_) (fun c1 => ?_)
  · have hf := br_pos c1 hf
    refine lv_iconst (v := 0) hx hb dX3_quotaOf_21 (by decide) ?_
    cases hf
    exact end_i hAe hQm hx hb hr hlocks rfl hP hD hS dX3_quotaOf_22
  · have hf := br_neg c1 hf
    refine lv_iload_n hx hb dX3_quotaOf_4 rfl (lv_at hl 1 rfl) ?_
    refine lv_aload_n hx hb dX3_quotaOf_5 rfl (lv_at hl 0 rfl) ?_
    refine va_get (D := D) (ci := 7) (v := .int cO) (C := RX3) (T := TX3) (N := 11) hx hb hts inX3 hown hK hP 0 rfl rfl 4 (by decide) (hts _ q186) (fun _ h9 => h9) rfl dX3_quotaOf_6 ?_
    refine lv_icmp_ge (tgt := 21) hx hb dX3_quotaOf_9 (by decide) (fun c2 => ?_) (fun c2 => ?_)
    · have hf := br_pos c2 hf
      refine lv_iconst (v := 0) hx hb dX3_quotaOf_21 (by decide) ?_
      cases hf
      exact end_i hAe hQm hx hb hr hlocks rfl hP hD hS dX3_quotaOf_22
    · have hf := br_neg c2 hf
      refine lv_aload_n hx hb dX3_quotaOf_12 rfl (lv_at hl 0 rfl) ?_
      refine va_get (D := D) (ci := 7) (v := .ref (ad 4)) (C := RX3) (T := TX3) (N := 11) hx hb hts inX3 hown hK hP 0 rfl rfl 5 (by decide) (hts _ q187) (fun _ h9 => h9) rfl dX3_quotaOf_13 ?_
      refine lv_iload_n hx hb dX3_quotaOf_16 rfl (lv_at hl 1 rfl) ?_
      obtain ⟨k3, hf⟩ := ck_not hf
      refine va_iald (D := D) hx hb hK hP 18 0 rfl rfl k3 dX3_quotaOf_17 ?_
      refine lv_goto (tgt := 22) hx hb dX3_quotaOf_18 (by decide) ?_
      cases hf
      exact end_i hAe hQm hx hb hr hlocks rfl hP hD hS dX3_quotaOf_22
def f_C_requireBlockFor (p1 : Int32) (p2 : Int32) (p3 : Int32) (nF : Int32) (nO : Nat → Int32) (nC : Nat → Int32) (nU : Nat → Int32) (nP : Nat → Int32) (cO : Int32) (cQ : Nat → Int32) : Option (Except Nat Unit) :=
  (f_S_blocksOfOwner p1 p2 nF nO nC).bind fun r1 =>
  (f_S_blocksInFile p2 p3 nF nC).bind fun r3 =>
  (f_J13_bitCount_95d88 (r1 ||| r3)).bind fun r5 =>
  (f_C_quotaOf p1 cO cQ).bind fun r7 =>
  if (r5 + 1) ≤ r7 then
    (f_S_freeTotal nU).bind fun r10 =>
    (f_S_promisedInAll nP).bind fun r12 =>
    (f_S_promisedFor p1 nP).bind fun r14 =>
    if 0 < ((r10 - r12) + r14) then
      some (.ok ())
    else
      some (.error 4)
  else
    some (.error 4)
set_option maxHeartbeats 4000000 in
set_option maxRecDepth 100000 in
theorem m_C_requireBlockFor (l : Launch) (hst : l.stackTraces = false) {D : va_G} (ca : Nat → ClassId) (ad : Nat → Nat) (bq : Nat) (nF : Int32) (nO : Nat → Int32) (nL : Nat → Int32) (nA : Nat → Int32) (nC : Nat → Int32) (nV : Nat → Int32) (nU : Nat → Int32) (nP : Nat → Int32) (nE : Int32) (bF : Int32) (bO : Nat → Int32) (bL : Nat → Int32) (bA : Nat → Int32) (bC : Nat → Int32) (bV : Nat → Int32) (bU : Nat → Int32) (bP : Nat → Int32) (bE : Int32) (cT : Int32) (cK : Nat → Int32) (cO : Int32) (cQ : Nat → Int32) (cD : Int32) (pT : Int32) (pK : Int32) (pR : Nat → Int32) (pW : Nat → Int32) (pU : Nat → Int32) (pI : Nat → Int32) (pC : Nat → Nat → Int32) (uO : Int32) (uF : Nat → Int32) (uE : Nat → Int32) (uN : Nat → Int32) (wK : Nat → Int32) (jM : Int32) (jN : Int32) (jZ : Nat) (jB : Nat → Int32) (R : va_W) (sz : Nat) (p1 : Int32) (p2 : Int32) (p3 : Int32) (ro : Except Nat Unit) (hf : f_C_requireBlockFor p1 p2 p3 nF nO nC nU nP cO cQ = some ro) : vx_Met l yX3_requireBlockFor (wm yX3_requireBlockFor cX3_requireBlockFor 6 none) ({ frames := 6, cells := 1, slots := 6, locals := 94 } : Room) (PREX [.ref (ad 0), .int p1, .int p2, .int p3] D ca SL0 (WC ca ad bq nF nO nL nA nC nV nU nP nE bF bO bL bA bC bV bU bP bE cT cK cO cQ cD pT pK pR pW pU pI pC uO uF uE uN wK jM jN jZ jB ++ R) sz) (QXV ro D (WC ca ad bq nF nO nL nA nC nV nU nP nE bF bO bL bA bC bV bU bP bE cT cK cO cQ cD pT pK pR pW pU pI pC uO uF uE uN wK jM jN jZ jB ++ R) (WC ca ad bq nF nO nL nA nC nV nU nP nE bF bO bL bA bC bV bU bP bE cT cK cO cQ cD pT pK pR pW pU pI pC uO uF uE uN wK jM jN jZ jB ++ R) sz) (QXE ro D (WC ca ad bq nF nO nL nA nC nV nU nP nE bF bO bL bA bC bV bU bP bE cT cK cO cQ cD pT pK pR pW pU pI pC uO uF uE uN wK jM jN jZ jB ++ R) (WC ca ad bq nF nO nL nA nC nV nU nP nE bF bO bL bA bC bV bU bP bE cT cK cO cQ cD pT pK pR pW pU pI pC uO uF uE uN wK jM jN jZ jB ++ R) sz) 1 6 (va_A (WC ca ad bq nF nO nL nA nC nV nU nP nE bF bO bL bA bC bV bU bP bE cT cK cO cQ cD pT pK pR pW pU pI pC uO uF uE uN wK jM jN jZ jB ++ R) sz) := by
  refine vx_ofW (cc := cX3_requireBlockFor) (maxL := 6) (ret := none) (by decide) rfl ?_
  intro p e s m args below meth c s₁ B hml htab hv
  obtain ⟨rfl, rfl, hP, hE, hD0, hZ⟩ := hv
  have hx := B.exec
  have hb := B.bytes
  have hr := B.returns
  have hts := wm_ww (atoms_spec (ws := wm yX3_requireBlockFor cX3_requireBlockFor 6 none) B.pre)
  have hown : s.vm.findClass RX3 = some m.cls := findClass_of_methodNamed B.named
  have hlocks := B.notSynchronized
  have hK := hE.1
  have hD := hD0.self (sz := s.heap.size)
  generalize hAe : va_A (WC ca ad bq nF nO nL nA nC nV nU nP nE bF bO bL bA bC bV bU bP bE cT cK cO cQ cD pT pK pR pW pU pI pC uO uF uE uN wK jM jN jZ jB ++ R) s.heap.size = A at hD hZ ⊢
  have hA : ∀ q : Nat, s.heap.size ≤ q → A q := fun q h => by rw [← hAe]; exact Or.inr h
  have hS : va_S A s.heap s.heap [] := va_S.rf
  have hl := lv_entry ([.ref (ad 0), .int p1, .int p2, .int p3]) (n := 6) (Nat.le_of_ble_eq_true rfl)
  rw [lg_entry_eq]
  generalize (lg_sl ([.ref (ad 0), .int p1, .int p2, .int p3]) ++ List.replicate (6 - (lg_sl ([.ref (ad 0), .int p1, .int p2, .int p3])).length) Slot.unset).toArray = ls at hl ⊢
  have hl : lv_has ls 6 [(0, .ref (ad 0)), (1, .int p1), (2, .int p2), (3, .int p3)] := hl
  change W p l e ({ frames := 6, cells := 1, slots := 6, locals := 94 } : Room) s m _ below meth c s.heap [] 0 0 _ _
  generalize hQm : vx_MQ below (QXV ro D (WC ca ad bq nF nO nL nA nC nV nU nP nE bF bO bL bA bC bV bU bP bE cT cK cO cQ cD pT pK pR pW pU pI pC uO uF uE uN wK jM jN jZ jB ++ R) (WC ca ad bq nF nO nL nA nC nV nU nP nE bF bO bL bA bC bV bU bP bE cT cK cO cQ cD pT pK pR pW pU pI pC uO uF uE uN wK jM jN jZ jB ++ R) s.heap.size) (QXE ro D (WC ca ad bq nF nO nL nA nC nV nU nP nE bF bO bL bA bC bV bU bP bE cT cK cO cQ cD pT pK pR pW pU pI pC uO uF uE uN wK jM jN jZ jB ++ R) (WC ca ad bq nF nO nL nA nC nV nU nP nE bF bO bL bA bC bV bU bP bE cT cK cO cQ cD pT pK pR pW pU pI pC uO uF uE uN wK jM jN jZ jB ++ R) s.heap.size) _ s 1 6 A = Qm
  have hP : va_P D vwCl (WC ca ad bq nF nO nL nA nC nV nU nP nE bF bO bL bA bC bV bU bP bE cT cK cO cQ cD pT pK pR pW pU pI pC uO uF uE uN wK jM jN jZ jB ++ R) s.heap := hP
  generalize hae : ([.ref (ad 0), .int p1, .int p2, .int p3] : List Value).toArray = args at hts hQm ⊢
  refine lv_aload_n hx hb dX3_requireBlockFor_0 rfl (lv_at hl 0 rfl) ?_
  refine va_get (D := D) (ci := 7) (v := .ref (ad 1)) (C := RX3) (T := TX3) (N := 11) hx hb hts inX3 hown hK hP 0 rfl rfl 0 (by decide) (hts _ q182) (fun _ h9 => h9) rfl dX3_requireBlockFor_1 ?_
  refine lv_iload_n hx hb dX3_requireBlockFor_4 rfl (lv_at hl 1 rfl) ?_
  refine lv_iload_n hx hb dX3_requireBlockFor_5 rfl (lv_at hl 2 rfl) ?_
  obtain ⟨r1, h2, hf⟩ := bnd hf
  refine call_vl (rest := []) (m_S_blocksOfOwner l ca ad bq nF nO nL nA nC nV nU nP nE bF bO bL bA bC bV bU bP bE cT cK cO cQ cD pT pK pR pW pU pI pC uO uF uE uN wK jM jN jZ jB R _ p1 p2 r1 h2) ⟨hx, hb, hml, hown, hts⟩ (cwV 2 hts (gV q524 q525 q526 q25 q527) rfl rfl rfl (by decide +kernel) ⟨Nat.le_of_ble_eq_true rfl, Nat.le_of_ble_eq_true rfl⟩) (va_recv hK hP (ci := 6) (q0 := 1) rfl rfl) hE hP hD hS hA rfl hl.1 rfl (lv_room (Nat.le_of_ble_eq_true rfl)) dX3_requireBlockFor_6 ⟨Nat.le_of_ble_eq_true rfl, Nat.le_of_ble_eq_true rfl⟩ (fun H locs hP hD hS => ?_)
  refine lv_aload_n hx hb dX3_requireBlockFor_9 rfl (lv_at hl 0 rfl) ?_
  refine va_get (D := D) (ci := 7) (v := .ref (ad 1)) (C := RX3) (T := TX3) (N := 11) hx hb hts inX3 hown hK hP 0 rfl rfl 0 (by decide) (hts _ q182) (fun _ h9 => h9) rfl dX3_requireBlockFor_10 ?_
  refine lv_iload_n hx hb dX3_requireBlockFor_13 rfl (lv_at hl 2 rfl) ?_
  refine lv_iload_n hx hb dX3_requireBlockFor_14 rfl (lv_at hl 3 rfl) ?_
  obtain ⟨r3, h4, hf⟩ := bnd hf
  refine call_vl (rest := [.long r1]) (m_S_blocksInFile l ca ad bq nF nO nL nA nC nV nU nP nE bF bO bL bA bC bV bU bP bE cT cK cO cQ cD pT pK pR pW pU pI pC uO uF uE uN wK jM jN jZ jB R _ p2 p3 r3 h4) ⟨hx, hb, hml, hown, hts⟩ (cwV 2 hts (gV q534 q530 q531 q25 q532) rfl rfl rfl (by decide +kernel) ⟨Nat.le_of_ble_eq_true rfl, Nat.le_of_ble_eq_true rfl⟩) (va_recv hK hP (ci := 6) (q0 := 1) rfl rfl) hE hP hD hS hA rfl hl.1 rfl (lv_room (Nat.le_of_ble_eq_true rfl)) dX3_requireBlockFor_15 ⟨Nat.le_of_ble_eq_true rfl, Nat.le_of_ble_eq_true rfl⟩ (fun H locs hP hD hS => ?_)
  refine lv_lor hx hb dX3_requireBlockFor_18 ?_
  refine lv_lstore (lv' := [(4, .long (r1 ||| r3)), (0, .ref (ad 0)), (1, .int p1), (2, .int p2), (3, .int p3)]) hx hb dX3_requireBlockFor_19 hl (by decide) rfl (fun ls hl => ?_)
  refine lv_lload hx hb dX3_requireBlockFor_21 (lv_at hl 0 rfl) ?_
  obtain ⟨r5, h6, hf⟩ := bnd hf
  refine call_si (rest := []) (m_J13_bitCount_95d88 l ca ad bq nF nO nL nA nC nV nU nP nE bF bO bL bA bC bV bU bP bE cT cK cO cQ cD pT pK pR pW pU pI pC uO uF uE uN wK jM jN jZ jB R _ (r1 ||| r3) r5 h6) ⟨hx, hb, hml, hown, hts⟩ (va_cwS 1 hts (gS q535 q536 q41 q537) rfl rfl rfl (by decide +kernel) ⟨Nat.le_of_ble_eq_true rfl, Nat.le_of_ble_eq_true rfl⟩) hE hP hD hS hA rfl hl.1 rfl (lv_room (Nat.le_of_ble_eq_true rfl)) dX3_requireBlockFor_23 ⟨Nat.le_of_ble_eq_true rfl, Nat.le_of_ble_eq_true rfl⟩ (fun H locs hP hD hS => ?_)
  refine lv_iconst (v := 1) hx hb dX3_requireBlockFor_26 (by decide) ?_
  refine lv_iadd hx hb dX3_requireBlockFor_27 ?_
  refine lv_aload_n hx hb dX3_requireBlockFor_28 rfl (lv_at hl 1 rfl) ?_
  refine lv_iload_n hx hb dX3_requireBlockFor_29 rfl (lv_at hl 2 rfl) ?_
  obtain ⟨r7, h8, hf⟩ := bnd hf
  refine call_vi (rest := [.int (r5 + 1)]) (m_C_quotaOf l ca ad bq nF nO nL nA nC nV nU nP nE bF bO bL bA bC bV bU bP bE cT cK cO cQ cD pT pK pR pW pU pI pC uO uF uE uN wK jM jN jZ jB R _ p1 r7 h8) ⟨hx, hb, hml, hown, hts⟩ (cwV 1 hts (gV q541 q543 q10 q24 q544) rfl rfl rfl (by decide +kernel) ⟨Nat.le_of_ble_eq_true rfl, Nat.le_of_ble_eq_true rfl⟩) (va_recv hK hP (ci := 7) (q0 := 0) rfl rfl) hE hP hD hS hA rfl hl.1 rfl (lv_room (Nat.le_of_ble_eq_true rfl)) dX3_requireBlockFor_30 ⟨Nat.le_of_ble_eq_true rfl, Nat.le_of_ble_eq_true rfl⟩ (fun H locs hP hD hS => ?_)
  refine lv_icmp_le (tgt := 46) hx hb dX3_requireBlockFor_33 (by decide) (fun c9 => ?_) (fun c9 => ?_)
  · have hf := br_pos c9 hf
    refine lv_aload_n hx hb dX3_requireBlockFor_46 rfl (lv_at hl 1 rfl) ?_
    refine va_get (D := D) (ci := 7) (v := .ref (ad 1)) (C := RX3) (T := TX3) (N := 11) hx hb hts inX3 hown hK hP 0 rfl rfl 0 (by decide) (hts _ q182) (fun _ h9 => h9) rfl dX3_requireBlockFor_47 ?_
    obtain ⟨r10, h11, hf⟩ := bnd hf
    refine call_vi (rest := []) (m_S_freeTotal l ca ad bq nF nO nL nA nC nV nU nP nE bF bO bL bA bC bV bU bP bE cT cK cO cQ cD pT pK pR pW pU pI pC uO uF uE uN wK jM jN jZ jB R _ r10 h11) ⟨hx, hb, hml, hown, hts⟩ (cwV 0 hts (gV q561 q562 q563 q25 q564) rfl rfl rfl (by decide +kernel) ⟨Nat.le_of_ble_eq_true rfl, Nat.le_of_ble_eq_true rfl⟩) (va_recv hK hP (ci := 6) (q0 := 1) rfl rfl) hE hP hD hS hA rfl hl.1 rfl (lv_room (Nat.le_of_ble_eq_true rfl)) dX3_requireBlockFor_50 ⟨Nat.le_of_ble_eq_true rfl, Nat.le_of_ble_eq_true rfl⟩ (fun H locs hP hD hS => ?_)
    refine lv_aload_n hx hb dX3_requireBlockFor_53 rfl (lv_at hl 1 rfl) ?_
    refine va_get (D := D) (ci := 7) (v := .ref (ad 1)) (C := RX3) (T := TX3) (N := 11) hx hb hts inX3 hown hK hP 0 rfl rfl 0 (by decide) (hts _ q182) (fun _ h9 => h9) rfl dX3_requireBlockFor_54 ?_
    obtain ⟨r12, h13, hf⟩ := bnd hf
    refine call_vi (rest := [.int r10]) (m_S_promisedInAll l ca ad bq nF nO nL nA nC nV nU nP nE bF bO bL bA bC bV bU bP bE cT cK cO cQ cD pT pK pR pW pU pI pC uO uF uE uN wK jM jN jZ jB R _ r12 h13) ⟨hx, hb, hml, hown, hts⟩ (cwV 0 hts (gV q565 q566 q567 q25 q568) rfl rfl rfl (by decide +kernel) ⟨Nat.le_of_ble_eq_true rfl, Nat.le_of_ble_eq_true rfl⟩) (va_recv hK hP (ci := 6) (q0 := 1) rfl rfl) hE hP hD hS hA rfl hl.1 rfl (lv_room (Nat.le_of_ble_eq_true rfl)) dX3_requireBlockFor_57 ⟨Nat.le_of_ble_eq_true rfl, Nat.le_of_ble_eq_true rfl⟩ (fun H locs hP hD hS => ?_)
    refine lv_isub hx hb dX3_requireBlockFor_60 ?_
    refine lv_aload_n hx hb dX3_requireBlockFor_61 rfl (lv_at hl 1 rfl) ?_
    refine va_get (D := D) (ci := 7) (v := .ref (ad 1)) (C := RX3) (T := TX3) (N := 11) hx hb hts inX3 hown hK hP 0 rfl rfl 0 (by decide) (hts _ q182) (fun _ h9 => h9) rfl dX3_requireBlockFor_62 ?_
    refine lv_iload_n hx hb dX3_requireBlockFor_65 rfl (lv_at hl 2 rfl) ?_
    obtain ⟨r14, h15, hf⟩ := bnd hf
    refine call_vi (rest := [.int (r10 - r12)]) (m_S_promisedFor l ca ad bq nF nO nL nA nC nV nU nP nE bF bO bL bA bC bV bU bP bE cT cK cO cQ cD pT pK pR pW pU pI pC uO uF uE uN wK jM jN jZ jB R _ p1 r14 h15) ⟨hx, hb, hml, hown, hts⟩ (cwV 1 hts (gV q569 q570 q571 q25 q572) rfl rfl rfl (by decide +kernel) ⟨Nat.le_of_ble_eq_true rfl, Nat.le_of_ble_eq_true rfl⟩) (va_recv hK hP (ci := 6) (q0 := 1) rfl rfl) hE hP hD hS hA rfl hl.1 rfl (lv_room (Nat.le_of_ble_eq_true rfl)) dX3_requireBlockFor_66 ⟨Nat.le_of_ble_eq_true rfl, Nat.le_of_ble_eq_true rfl⟩ (fun H locs hP hD hS => ?_)
    refine lv_iadd hx hb dX3_requireBlockFor_69 ?_
    refine lv_if_gt (tgt := 84) hx hb dX3_requireBlockFor_70 (by decide) (fun c16 => ?_) (fun c16 => ?_)
    · have hf := br_pos c16 hf
      cases hf
      exact endx_v hAe hQm hx hb hr hlocks hP hD hS dX3_requireBlockFor_84 (Nat.le_of_ble_eq_true rfl) (Nat.le_of_ble_eq_true rfl)
    · have hf := br_neg c16 hf
      cases hf
      exact endx_throwW 4 rfl hAe hQm hst hx hb hts hE hown htab hlocks (by decide +kernel) q545 q42 sl29 at175 hZ (hl.1.trans hml.symm) hP hD hS dX3_requireBlockFor_73 dX3_requireBlockFor_76 dX3_requireBlockFor_77 dX3_requireBlockFor_80 dX3_requireBlockFor_83 (Nat.le_of_ble_eq_true rfl) (Nat.le_of_ble_eq_true rfl) (Nat.le_of_ble_eq_true rfl) (Nat.le_of_ble_eq_true rfl) (Nat.le_of_ble_eq_true rfl) (Nat.le_of_ble_eq_true rfl)
  · have hf := br_neg c9 hf
    cases hf
    exact endx_throw 4 rfl hAe hQm hst hx hb hts hE hown htab hlocks (by decide +kernel) q545 q42 sl10 at175 hZ (hl.1.trans hml.symm) hP hD hS dX3_requireBlockFor_36 dX3_requireBlockFor_39 dX3_requireBlockFor_40 dX3_requireBlockFor_42 dX3_requireBlockFor_45 (Nat.le_of_ble_eq_true rfl) (Nat.le_of_ble_eq_true rfl) (Nat.le_of_ble_eq_true rfl) (Nat.le_of_ble_eq_true rfl) (Nat.le_of_ble_eq_true rfl) (Nat.le_of_ble_eq_true rfl)
def f_C_write (p1 : Int32) (p2 : Int32) (p3 : Int32) (nF : Int32) (nO : Nat → Int32) (nL : Nat → Int32) (nC : Nat → Int32) (nV : Nat → Int32) (nU : Nat → Int32) (nP : Nat → Int32) (nE : Int32) (cK : Nat → Int32) (cO : Int32) (cQ : Nat → Int32) : Option (Except Nat Int32 × (Nat → Int32) × (Nat → Int32) × (Nat → Int32) × (Nat → Int32) × Int32 × (Nat → Int32)) :=
  (f_C_requireFile p1 nF).bind fun x1 =>
  match x1 with
  | .error n3 => some ((.error n3), nC, nV, nU, nP, nE, cK)
  | .ok _ =>
  (f_C_requirePlace p2).bind fun x4 =>
  match x4 with
  | .error n6 => some ((.error n6), nC, nV, nU, nP, nE, cK)
  | .ok _ =>
  (f_C_requireWithin p3 0 999).bind fun x7 =>
  match x7 with
  | .error n9 => some ((.error n9), nC, nV, nU, nP, nE, cK)
  | .ok _ =>
  (f_C_requireLinks p1 nF nL).bind fun x10 =>
  match x10 with
  | .error n12 => some ((.error n12), nC, nV, nU, nP, nE, cK)
  | .ok _ =>
  (f_S_blockIn p1 p2 nF nC).bind fun r13 =>
  (f_S_userTotal r13 nU).bind fun r15 =>
  if r15 = 1 then
    (f_S_setValue r13 p3 nV).bind fun nV_18 =>
    (f_C_note 119 nE cK).bind fun (nE_20, cK_21) =>
    some ((.ok r13), nC, nV_18, nU, nP, nE_20, cK_21)
  else
    (f_S_ownerIn p1 nF nO).bind fun r23 =>
    (f_C_requireBlockFor r23 p1 p2 nF nO nC nU nP cO cQ).bind fun x25 =>
    match x25 with
    | .error n27 => some ((.error n27), nC, nV, nU, nP, nE, cK)
    | .ok _ =>
    (f_S_takeBlock r23 nU nP).bind fun (r28, nP_29) =>
    (f_S_setBlock p1 p2 r28 nF nC nU).bind fun (nC_31, nU_32) =>
    (f_S_setValue r28 p3 nV).bind fun nV_34 =>
    (f_C_note 119 nE cK).bind fun (nE_36, cK_37) =>
    some ((.ok r28), nC_31, nV_34, nU_32, nP_29, nE_36, cK_37)
set_option maxHeartbeats 4000000 in
set_option maxRecDepth 100000 in
theorem m_C_write (l : Launch) (hst : l.stackTraces = false) {D : va_G} (ca : Nat → ClassId) (ad : Nat → Nat) (bq : Nat) (nF : Int32) (nO : Nat → Int32) (nL : Nat → Int32) (nA : Nat → Int32) (nC : Nat → Int32) (nV : Nat → Int32) (nU : Nat → Int32) (nP : Nat → Int32) (nE : Int32) (bF : Int32) (bO : Nat → Int32) (bL : Nat → Int32) (bA : Nat → Int32) (bC : Nat → Int32) (bV : Nat → Int32) (bU : Nat → Int32) (bP : Nat → Int32) (bE : Int32) (cT : Int32) (cK : Nat → Int32) (cO : Int32) (cQ : Nat → Int32) (cD : Int32) (pT : Int32) (pK : Int32) (pR : Nat → Int32) (pW : Nat → Int32) (pU : Nat → Int32) (pI : Nat → Int32) (pC : Nat → Nat → Int32) (uO : Int32) (uF : Nat → Int32) (uE : Nat → Int32) (uN : Nat → Int32) (wK : Nat → Int32) (jM : Int32) (jN : Int32) (jZ : Nat) (jB : Nat → Int32) (R : va_W) (sz : Nat) (p1 : Int32) (p2 : Int32) (p3 : Int32) (ro : Except Nat Int32) (onC : Nat → Int32) (onV : Nat → Int32) (onU : Nat → Int32) (onP : Nat → Int32) (onE : Int32) (ocK : Nat → Int32) (hf : f_C_write p1 p2 p3 nF nO nL nC nV nU nP nE cK cO cQ = some (ro, onC, onV, onU, onP, onE, ocK)) : vx_Met l yX3_write (wm yX3_write cX3_write 6 (some .int)) ({ frames := 7, cells := 5, slots := 30, locals := 119 } : Room) (PREX [.ref (ad 0), .int p1, .int p2, .int p3] D ca SL0 (WC ca ad bq nF nO nL nA nC nV nU nP nE bF bO bL bA bC bV bU bP bE cT cK cO cQ cD pT pK pR pW pU pI pC uO uF uE uN wK jM jN jZ jB ++ R) sz) (QXI ro D (WC ca ad bq nF nO nL nA onC onV onU onP onE bF bO bL bA bC bV bU bP bE cT ocK cO cQ cD pT pK pR pW pU pI pC uO uF uE uN wK jM jN jZ jB ++ R) (WC ca ad bq nF nO nL nA nC nV nU nP nE bF bO bL bA bC bV bU bP bE cT cK cO cQ cD pT pK pR pW pU pI pC uO uF uE uN wK jM jN jZ jB ++ R) sz) (QXE ro D (WC ca ad bq nF nO nL nA onC onV onU onP onE bF bO bL bA bC bV bU bP bE cT ocK cO cQ cD pT pK pR pW pU pI pC uO uF uE uN wK jM jN jZ jB ++ R) (WC ca ad bq nF nO nL nA nC nV nU nP nE bF bO bL bA bC bV bU bP bE cT cK cO cQ cD pT pK pR pW pU pI pC uO uF uE uN wK jM jN jZ jB ++ R) sz) 5 30 (va_A (WC ca ad bq nF nO nL nA nC nV nU nP nE bF bO bL bA bC bV bU bP bE cT cK cO cQ cD pT pK pR pW pU pI pC uO uF uE uN wK jM jN jZ jB ++ R) sz) := by
  refine vx_ofW (cc := cX3_write) (maxL := 6) (ret := (some .int)) (by decide) rfl ?_
  intro p e s m args below meth c s₁ B hml htab hv
  obtain ⟨rfl, rfl, hP, hE, hD0, hZ⟩ := hv
  have hx := B.exec
  have hb := B.bytes
  have hr := B.returns
  have hts := wm_ww (atoms_spec (ws := wm yX3_write cX3_write 6 (some .int)) B.pre)
  have hown : s.vm.findClass RX3 = some m.cls := findClass_of_methodNamed B.named
  have hlocks := B.notSynchronized
  have hK := hE.1
  have hD := hD0.self (sz := s.heap.size)
  generalize hAe : va_A (WC ca ad bq nF nO nL nA nC nV nU nP nE bF bO bL bA bC bV bU bP bE cT cK cO cQ cD pT pK pR pW pU pI pC uO uF uE uN wK jM jN jZ jB ++ R) s.heap.size = A at hD hZ ⊢
  have hA : ∀ q : Nat, s.heap.size ≤ q → A q := fun q h => by rw [← hAe]; exact Or.inr h
  have hS : va_S A s.heap s.heap [] := va_S.rf
  have hl := lv_entry ([.ref (ad 0), .int p1, .int p2, .int p3]) (n := 6) (Nat.le_of_ble_eq_true rfl)
  rw [lg_entry_eq]
  generalize (lg_sl ([.ref (ad 0), .int p1, .int p2, .int p3]) ++ List.replicate (6 - (lg_sl ([.ref (ad 0), .int p1, .int p2, .int p3])).length) Slot.unset).toArray = ls at hl ⊢
  have hl : lv_has ls 6 [(0, .ref (ad 0)), (1, .int p1), (2, .int p2), (3, .int p3)] := hl
  change W p l e ({ frames := 7, cells := 5, slots := 30, locals := 119 } : Room) s m _ below meth c s.heap [] 0 0 _ _
  generalize hQm : vx_MQ below (QXI ro D (WC ca ad bq nF nO nL nA onC onV onU onP onE bF bO bL bA bC bV bU bP bE cT ocK cO cQ cD pT pK pR pW pU pI pC uO uF uE uN wK jM jN jZ jB ++ R) (WC ca ad bq nF nO nL nA nC nV nU nP nE bF bO bL bA bC bV bU bP bE cT cK cO cQ cD pT pK pR pW pU pI pC uO uF uE uN wK jM jN jZ jB ++ R) s.heap.size) (QXE ro D (WC ca ad bq nF nO nL nA onC onV onU onP onE bF bO bL bA bC bV bU bP bE cT ocK cO cQ cD pT pK pR pW pU pI pC uO uF uE uN wK jM jN jZ jB ++ R) (WC ca ad bq nF nO nL nA nC nV nU nP nE bF bO bL bA bC bV bU bP bE cT cK cO cQ cD pT pK pR pW pU pI pC uO uF uE uN wK jM jN jZ jB ++ R) s.heap.size) _ s 5 30 A = Qm
  have hP : va_P D vwCl (WC ca ad bq nF nO nL nA nC nV nU nP nE bF bO bL bA bC bV bU bP bE cT cK cO cQ cD pT pK pR pW pU pI pC uO uF uE uN wK jM jN jZ jB ++ R) s.heap := hP
  generalize hae : ([.ref (ad 0), .int p1, .int p2, .int p3] : List Value).toArray = args at hts hQm ⊢
  refine lv_aload_n hx hb dX3_write_0 rfl (lv_at hl 0 rfl) ?_
  refine lv_iload_n hx hb dX3_write_1 rfl (lv_at hl 1 rfl) ?_
  obtain ⟨x1, h2, hf⟩ := bnd hf
  rcases x1 with n3 | _
  · have hf : some ((.error n3), nC, nV, nU, nP, nE, cK) = some (ro, onC, onV, onU, onP, onE, ocK) := hf
    cases hf
    exact cx_vv_err (rest := []) (m_C_requireFile l hst ca ad bq nF nO nL nA nC nV nU nP nE bF bO bL bA bC bV bU bP bE cT cK cO cQ cD pT pK pR pW pU pI pC uO uF uE uN wK jM jN jZ jB R _ p1 (.error n3) h2) ⟨hx, hb, hml, hown, hts⟩ (cwV 1 hts (gV q420 q422 q5 q24 q423) rfl rfl rfl (by decide +kernel) ⟨Nat.le_of_ble_eq_true rfl, Nat.le_of_ble_eq_true rfl⟩) (va_recv hK hP (ci := 7) (q0 := 0) rfl rfl) hE hP hD hS hA hZ rfl hl.1 rfl (lv_room (Nat.le_of_ble_eq_true rfl)) dX3_write_2 ⟨Nat.le_of_ble_eq_true rfl, Nat.le_of_ble_eq_true rfl⟩ hAe hQm htab hlocks (Nat.le_of_ble_eq_true rfl) (Nat.le_of_ble_eq_true rfl)
  refine cx_vv_ok (rest := []) (m_C_requireFile l hst ca ad bq nF nO nL nA nC nV nU nP nE bF bO bL bA bC bV bU bP bE cT cK cO cQ cD pT pK pR pW pU pI pC uO uF uE uN wK jM jN jZ jB R _ p1 (.ok ()) h2) ⟨hx, hb, hml, hown, hts⟩ (cwV 1 hts (gV q420 q422 q5 q24 q423) rfl rfl rfl (by decide +kernel) ⟨Nat.le_of_ble_eq_true rfl, Nat.le_of_ble_eq_true rfl⟩) (va_recv hK hP (ci := 7) (q0 := 0) rfl rfl) hE hP hD hS hA hZ rfl hl.1 rfl (lv_room (Nat.le_of_ble_eq_true rfl)) dX3_write_2 ⟨Nat.le_of_ble_eq_true rfl, Nat.le_of_ble_eq_true rfl⟩ (fun H locs hP hD hS => ?_)
  refine lv_aload_n hx hb dX3_write_5 rfl (lv_at hl 0 rfl) ?_
  refine lv_iload_n hx hb dX3_write_6 rfl (lv_at hl 2 rfl) ?_
  obtain ⟨x4, h5, hf⟩ := bnd hf
  rcases x4 with n6 | _
  · have hf : some ((.error n6), nC, nV, nU, nP, nE, cK) = some (ro, onC, onV, onU, onP, onE, ocK) := hf
    cases hf
    exact cx_vv_err (rest := []) (m_C_requirePlace l hst ca ad bq nF nO nL nA nC nV nU nP nE bF bO bL bA bC bV bU bP bE cT cK cO cQ cD pT pK pR pW pU pI pC uO uF uE uN wK jM jN jZ jB R _ p2 (.error n6) h5) ⟨hx, hb, hml, hown, hts⟩ (cwV 1 hts (gV q502 q504 q8 q24 q505) rfl rfl rfl (by decide +kernel) ⟨Nat.le_of_ble_eq_true rfl, Nat.le_of_ble_eq_true rfl⟩) (va_recv hK hP (ci := 7) (q0 := 0) rfl rfl) hE hP hD hS hA hZ rfl hl.1 rfl (lv_room (Nat.le_of_ble_eq_true rfl)) dX3_write_7 ⟨Nat.le_of_ble_eq_true rfl, Nat.le_of_ble_eq_true rfl⟩ hAe hQm htab hlocks (Nat.le_of_ble_eq_true rfl) (Nat.le_of_ble_eq_true rfl)
  refine cx_vv_ok (rest := []) (m_C_requirePlace l hst ca ad bq nF nO nL nA nC nV nU nP nE bF bO bL bA bC bV bU bP bE cT cK cO cQ cD pT pK pR pW pU pI pC uO uF uE uN wK jM jN jZ jB R _ p2 (.ok ()) h5) ⟨hx, hb, hml, hown, hts⟩ (cwV 1 hts (gV q502 q504 q8 q24 q505) rfl rfl rfl (by decide +kernel) ⟨Nat.le_of_ble_eq_true rfl, Nat.le_of_ble_eq_true rfl⟩) (va_recv hK hP (ci := 7) (q0 := 0) rfl rfl) hE hP hD hS hA hZ rfl hl.1 rfl (lv_room (Nat.le_of_ble_eq_true rfl)) dX3_write_7 ⟨Nat.le_of_ble_eq_true rfl, Nat.le_of_ble_eq_true rfl⟩ (fun H locs hP hD hS => ?_)
  refine lv_aload_n hx hb dX3_write_10 rfl (lv_at hl 0 rfl) ?_
  refine lv_iload_n hx hb dX3_write_11 rfl (lv_at hl 3 rfl) ?_
  refine lv_iconst (v := 0) hx hb dX3_write_12 (by decide) ?_
  refine lv_sipush (v := 999) hx hb dX3_write_13 (by decide) ?_
  obtain ⟨x7, h8, hf⟩ := bnd hf
  rcases x7 with n9 | _
  · have hf : some ((.error n9), nC, nV, nU, nP, nE, cK) = some (ro, onC, onV, onU, onP, onE, ocK) := hf
    cases hf
    exact cx_vv_err (rest := []) (m_C_requireWithin l hst ca ad bq nF nO nL nA nC nV nU nP nE bF bO bL bA bC bV bU bP bE cT cK cO cQ cD pT pK pR pW pU pI pC uO uF uE uN wK jM jN jZ jB R _ p3 0 999 (.error n9) h8) ⟨hx, hb, hml, hown, hts⟩ (cwV 3 hts (gV q341 q343 q1 q24 q344) rfl rfl rfl (by decide +kernel) ⟨Nat.le_of_ble_eq_true rfl, Nat.le_of_ble_eq_true rfl⟩) (va_recv hK hP (ci := 7) (q0 := 0) rfl rfl) hE hP hD hS hA hZ rfl hl.1 rfl (lv_room (Nat.le_of_ble_eq_true rfl)) dX3_write_16 ⟨Nat.le_of_ble_eq_true rfl, Nat.le_of_ble_eq_true rfl⟩ hAe hQm htab hlocks (Nat.le_of_ble_eq_true rfl) (Nat.le_of_ble_eq_true rfl)
  refine cx_vv_ok (rest := []) (m_C_requireWithin l hst ca ad bq nF nO nL nA nC nV nU nP nE bF bO bL bA bC bV bU bP bE cT cK cO cQ cD pT pK pR pW pU pI pC uO uF uE uN wK jM jN jZ jB R _ p3 0 999 (.ok ()) h8) ⟨hx, hb, hml, hown, hts⟩ (cwV 3 hts (gV q341 q343 q1 q24 q344) rfl rfl rfl (by decide +kernel) ⟨Nat.le_of_ble_eq_true rfl, Nat.le_of_ble_eq_true rfl⟩) (va_recv hK hP (ci := 7) (q0 := 0) rfl rfl) hE hP hD hS hA hZ rfl hl.1 rfl (lv_room (Nat.le_of_ble_eq_true rfl)) dX3_write_16 ⟨Nat.le_of_ble_eq_true rfl, Nat.le_of_ble_eq_true rfl⟩ (fun H locs hP hD hS => ?_)
  refine lv_aload_n hx hb dX3_write_19 rfl (lv_at hl 0 rfl) ?_
  refine lv_iload_n hx hb dX3_write_20 rfl (lv_at hl 1 rfl) ?_
  obtain ⟨x10, h11, hf⟩ := bnd hf
  rcases x10 with n12 | _
  · have hf : some ((.error n12), nC, nV, nU, nP, nE, cK) = some (ro, onC, onV, onU, onP, onE, ocK) := hf
    cases hf
    exact cx_vv_err (rest := []) (m_C_requireLinks l hst ca ad bq nF nO nL nA nC nV nU nP nE bF bO bL bA bC bV bU bP bE cT cK cO cQ cD pT pK pR pW pU pI pC uO uF uE uN wK jM jN jZ jB R _ p1 (.error n12) h11) ⟨hx, hb, hml, hown, hts⟩ (cwV 1 hts (gV q446 q448 q6 q24 q449) rfl rfl rfl (by decide +kernel) ⟨Nat.le_of_ble_eq_true rfl, Nat.le_of_ble_eq_true rfl⟩) (va_recv hK hP (ci := 7) (q0 := 0) rfl rfl) hE hP hD hS hA hZ rfl hl.1 rfl (lv_room (Nat.le_of_ble_eq_true rfl)) dX3_write_21 ⟨Nat.le_of_ble_eq_true rfl, Nat.le_of_ble_eq_true rfl⟩ hAe hQm htab hlocks (Nat.le_of_ble_eq_true rfl) (Nat.le_of_ble_eq_true rfl)
  refine cx_vv_ok (rest := []) (m_C_requireLinks l hst ca ad bq nF nO nL nA nC nV nU nP nE bF bO bL bA bC bV bU bP bE cT cK cO cQ cD pT pK pR pW pU pI pC uO uF uE uN wK jM jN jZ jB R _ p1 (.ok ()) h11) ⟨hx, hb, hml, hown, hts⟩ (cwV 1 hts (gV q446 q448 q6 q24 q449) rfl rfl rfl (by decide +kernel) ⟨Nat.le_of_ble_eq_true rfl, Nat.le_of_ble_eq_true rfl⟩) (va_recv hK hP (ci := 7) (q0 := 0) rfl rfl) hE hP hD hS hA hZ rfl hl.1 rfl (lv_room (Nat.le_of_ble_eq_true rfl)) dX3_write_21 ⟨Nat.le_of_ble_eq_true rfl, Nat.le_of_ble_eq_true rfl⟩ (fun H locs hP hD hS => ?_)
  refine lv_aload_n hx hb dX3_write_24 rfl (lv_at hl 0 rfl) ?_
  refine va_get (D := D) (ci := 7) (v := .ref (ad 1)) (C := RX3) (T := TX3) (N := 11) hx hb hts inX3 hown hK hP 0 rfl rfl 0 (by decide) (hts _ q182) (fun _ h9 => h9) rfl dX3_write_25 ?_
  refine lv_iload_n hx hb dX3_write_28 rfl (lv_at hl 1 rfl) ?_
  refine lv_iload_n hx hb dX3_write_29 rfl (lv_at hl 2 rfl) ?_
  obtain ⟨r13, h14, hf⟩ := bnd hf
  refine call_vi (rest := []) (m_S_blockIn l ca ad bq nF nO nL nA nC nV nU nP nE bF bO bL bA bC bV bU bP bE cT cK cO cQ cD pT pK pR pW pU pI pC uO uF uE uN wK jM jN jZ jB R _ p1 p2 r13 h14) ⟨hx, hb, hml, hown, hts⟩ (cwV 2 hts (gV q508 q509 q510 q25 q511) rfl rfl rfl (by decide +kernel) ⟨Nat.le_of_ble_eq_true rfl, Nat.le_of_ble_eq_true rfl⟩) (va_recv hK hP (ci := 6) (q0 := 1) rfl rfl) hE hP hD hS hA rfl hl.1 rfl (lv_room (Nat.le_of_ble_eq_true rfl)) dX3_write_30 ⟨Nat.le_of_ble_eq_true rfl, Nat.le_of_ble_eq_true rfl⟩ (fun H locs hP hD hS => ?_)
  refine lv_istore (lv' := [(4, .int r13), (0, .ref (ad 0)), (1, .int p1), (2, .int p2), (3, .int p3)]) hx hb dX3_write_33 hl (by decide) rfl (fun ls hl => ?_)
  refine lv_aload_n hx hb dX3_write_35 rfl (lv_at hl 1 rfl) ?_
  refine va_get (D := D) (ci := 7) (v := .ref (ad 1)) (C := RX3) (T := TX3) (N := 11) hx hb hts inX3 hown hK hP 0 rfl rfl 0 (by decide) (hts _ q182) (fun _ h9 => h9) rfl dX3_write_36 ?_
  refine lv_iload hx hb dX3_write_39 (lv_at hl 0 rfl) ?_
  obtain ⟨r15, h16, hf⟩ := bnd hf
  refine call_vi (rest := []) (m_S_userTotal l ca ad bq nF nO nL nA nC nV nU nP nE bF bO bL bA bC bV bU bP bE cT cK cO cQ cD pT pK pR pW pU pI pC uO uF uE uN wK jM jN jZ jB R _ r13 r15 h16) ⟨hx, hb, hml, hown, hts⟩ (cwV 1 hts (gV q512 q513 q514 q25 q515) rfl rfl rfl (by decide +kernel) ⟨Nat.le_of_ble_eq_true rfl, Nat.le_of_ble_eq_true rfl⟩) (va_recv hK hP (ci := 6) (q0 := 1) rfl rfl) hE hP hD hS hA rfl hl.1 rfl (lv_room (Nat.le_of_ble_eq_true rfl)) dX3_write_41 ⟨Nat.le_of_ble_eq_true rfl, Nat.le_of_ble_eq_true rfl⟩ (fun H locs hP hD hS => ?_)
  refine lv_iconst (v := 1) hx hb dX3_write_44 (by decide) ?_
  refine lv_icmp_eq (tgt := 88) hx hb dX3_write_45 (by decide) (fun c17 => ?_) (fun c17 => ?_)
  · have hf := br_pos c17 hf
    refine lv_aload_n hx hb dX3_write_88 rfl (lv_at hl 1 rfl) ?_
    refine va_get (D := D) (ci := 7) (v := .ref (ad 1)) (C := RX3) (T := TX3) (N := 11) hx hb hts inX3 hown hK hP 0 rfl rfl 0 (by decide) (hts _ q182) (fun _ h9 => h9) rfl dX3_write_89 ?_
    refine lv_iload hx hb dX3_write_92 (lv_at hl 0 rfl) ?_
    refine lv_iload_n hx hb dX3_write_94 rfl (lv_at hl 4 rfl) ?_
    obtain ⟨nV_18, h19, hf⟩ := bnd hf
    refine call_vv (rest := []) (m_S_setValue l ca ad bq nF nO nL nA nC nV nU nP nE bF bO bL bA bC bV bU bP bE cT cK cO cQ cD pT pK pR pW pU pI pC uO uF uE uN wK jM jN jZ jB R _ r13 p3 nV_18 h19) ⟨hx, hb, hml, hown, hts⟩ (cwV 2 hts (gV q587 q588 q589 q25 q590) rfl rfl rfl (by decide +kernel) ⟨Nat.le_of_ble_eq_true rfl, Nat.le_of_ble_eq_true rfl⟩) (va_recv hK hP (ci := 6) (q0 := 1) rfl rfl) hE hP hD hS hA rfl hl.1 rfl (lv_room (Nat.le_of_ble_eq_true rfl)) dX3_write_95 ⟨Nat.le_of_ble_eq_true rfl, Nat.le_of_ble_eq_true rfl⟩ (fun H locs hP hD hS => ?_)
    refine lv_aload_n hx hb dX3_write_98 rfl (lv_at hl 1 rfl) ?_
    refine lv_bipush (v := 119) hx hb dX3_write_99 (by decide) ?_
    obtain ⟨⟨nE_20, cK_21⟩, h22, hf⟩ := bnd hf
    refine call_vv (rest := []) (m_C_note l ca ad bq nF nO nL nA nC nV_18 nU nP nE bF bO bL bA bC bV bU bP bE cT cK cO cQ cD pT pK pR pW pU pI pC uO uF uE uN wK jM jN jZ jB R _ 119 nE_20 cK_21 h22) ⟨hx, hb, hml, hown, hts⟩ (cwV 1 hts (gV q408 q410 q4 q24 q411) rfl rfl rfl (by decide +kernel) ⟨Nat.le_of_ble_eq_true rfl, Nat.le_of_ble_eq_true rfl⟩) (va_recv hK hP (ci := 7) (q0 := 0) rfl rfl) hE hP hD hS hA rfl hl.1 rfl (lv_room (Nat.le_of_ble_eq_true rfl)) dX3_write_101 ⟨Nat.le_of_ble_eq_true rfl, Nat.le_of_ble_eq_true rfl⟩ (fun H locs hP hD hS => ?_)
    refine lv_iload hx hb dX3_write_104 (lv_at hl 0 rfl) ?_
    cases hf
    exact endx_i hAe hQm hx hb hr hlocks rfl hP hD hS dX3_write_106 (Nat.le_of_ble_eq_true rfl) (Nat.le_of_ble_eq_true rfl)
  · have hf := br_neg c17 hf
    refine lv_aload_n hx hb dX3_write_48 rfl (lv_at hl 1 rfl) ?_
    refine va_get (D := D) (ci := 7) (v := .ref (ad 1)) (C := RX3) (T := TX3) (N := 11) hx hb hts inX3 hown hK hP 0 rfl rfl 0 (by decide) (hts _ q182) (fun _ h9 => h9) rfl dX3_write_49 ?_
    refine lv_iload_n hx hb dX3_write_52 rfl (lv_at hl 2 rfl) ?_
    obtain ⟨r23, h24, hf⟩ := bnd hf
    refine call_vi (rest := []) (m_S_ownerIn l ca ad bq nF nO nL nA nC nV nU nP nE bF bO bL bA bC bV bU bP bE cT cK cO cQ cD pT pK pR pW pU pI pC uO uF uE uN wK jM jN jZ jB R _ p1 r23 h24) ⟨hx, hb, hml, hown, hts⟩ (cwV 1 hts (gV q516 q517 q518 q25 q519) rfl rfl rfl (by decide +kernel) ⟨Nat.le_of_ble_eq_true rfl, Nat.le_of_ble_eq_true rfl⟩) (va_recv hK hP (ci := 6) (q0 := 1) rfl rfl) hE hP hD hS hA rfl hl.1 rfl (lv_room (Nat.le_of_ble_eq_true rfl)) dX3_write_53 ⟨Nat.le_of_ble_eq_true rfl, Nat.le_of_ble_eq_true rfl⟩ (fun H locs hP hD hS => ?_)
    refine lv_istore (lv' := [(5, .int r23), (4, .int r13), (0, .ref (ad 0)), (1, .int p1), (2, .int p2), (3, .int p3)]) hx hb dX3_write_56 hl (by decide) rfl (fun ls hl => ?_)
    refine lv_aload_n hx hb dX3_write_58 rfl (lv_at hl 2 rfl) ?_
    refine lv_iload hx hb dX3_write_59 (lv_at hl 0 rfl) ?_
    refine lv_iload_n hx hb dX3_write_61 rfl (lv_at hl 3 rfl) ?_
    refine lv_iload_n hx hb dX3_write_62 rfl (lv_at hl 4 rfl) ?_
    obtain ⟨x25, h26, hf⟩ := bnd hf
    rcases x25 with n27 | _
    · have hf : some ((.error n27), nC, nV, nU, nP, nE, cK) = some (ro, onC, onV, onU, onP, onE, ocK) := hf
      cases hf
      exact cx_vv_err (rest := []) (m_C_requireBlockFor l hst ca ad bq nF nO nL nA nC nV nU nP nE bF bO bL bA bC bV bU bP bE cT cK cO cQ cD pT pK pR pW pU pI pC uO uF uE uN wK jM jN jZ jB R _ r23 p1 p2 (.error n27) h26) ⟨hx, hb, hml, hown, hts⟩ (cwV 3 hts (gV q520 q522 q9 q24 q523) rfl rfl rfl (by decide +kernel) ⟨Nat.le_of_ble_eq_true rfl, Nat.le_of_ble_eq_true rfl⟩) (va_recv hK hP (ci := 7) (q0 := 0) rfl rfl) hE hP hD hS hA hZ rfl hl.1 rfl (lv_room (Nat.le_of_ble_eq_true rfl)) dX3_write_63 ⟨Nat.le_of_ble_eq_true rfl, Nat.le_of_ble_eq_true rfl⟩ hAe hQm htab hlocks (Nat.le_of_ble_eq_true rfl) (Nat.le_of_ble_eq_true rfl)
    refine cx_vv_ok (rest := []) (m_C_requireBlockFor l hst ca ad bq nF nO nL nA nC nV nU nP nE bF bO bL bA bC bV bU bP bE cT cK cO cQ cD pT pK pR pW pU pI pC uO uF uE uN wK jM jN jZ jB R _ r23 p1 p2 (.ok ()) h26) ⟨hx, hb, hml, hown, hts⟩ (cwV 3 hts (gV q520 q522 q9 q24 q523) rfl rfl rfl (by decide +kernel) ⟨Nat.le_of_ble_eq_true rfl, Nat.le_of_ble_eq_true rfl⟩) (va_recv hK hP (ci := 7) (q0 := 0) rfl rfl) hE hP hD hS hA hZ rfl hl.1 rfl (lv_room (Nat.le_of_ble_eq_true rfl)) dX3_write_63 ⟨Nat.le_of_ble_eq_true rfl, Nat.le_of_ble_eq_true rfl⟩ (fun H locs hP hD hS => ?_)
    refine lv_aload_n hx hb dX3_write_66 rfl (lv_at hl 2 rfl) ?_
    refine va_get (D := D) (ci := 7) (v := .ref (ad 1)) (C := RX3) (T := TX3) (N := 11) hx hb hts inX3 hown hK hP 0 rfl rfl 0 (by decide) (hts _ q182) (fun _ h9 => h9) rfl dX3_write_67 ?_
    refine lv_iload hx hb dX3_write_70 (lv_at hl 0 rfl) ?_
    obtain ⟨⟨r28, nP_29⟩, h30, hf⟩ := bnd hf
    refine call_vi (rest := []) (m_S_takeBlock l ca ad bq nF nO nL nA nC nV nU nP nE bF bO bL bA bC bV bU bP bE cT cK cO cQ cD pT pK pR pW pU pI pC uO uF uE uN wK jM jN jZ jB R _ r23 r28 nP_29 h30) ⟨hx, hb, hml, hown, hts⟩ (cwV 1 hts (gV q574 q575 q576 q25 q577) rfl rfl rfl (by decide +kernel) ⟨Nat.le_of_ble_eq_true rfl, Nat.le_of_ble_eq_true rfl⟩) (va_recv hK hP (ci := 6) (q0 := 1) rfl rfl) hE hP hD hS hA rfl hl.1 rfl (lv_room (Nat.le_of_ble_eq_true rfl)) dX3_write_72 ⟨Nat.le_of_ble_eq_true rfl, Nat.le_of_ble_eq_true rfl⟩ (fun H locs hP hD hS => ?_)
    refine lv_istore (lv' := [(4, .int r28), (5, .int r23), (0, .ref (ad 0)), (1, .int p1), (2, .int p2), (3, .int p3)]) hx hb dX3_write_75 hl (by decide) rfl (fun ls hl => ?_)
    refine lv_aload_n hx hb dX3_write_77 rfl (lv_at hl 2 rfl) ?_
    refine va_get (D := D) (ci := 7) (v := .ref (ad 1)) (C := RX3) (T := TX3) (N := 11) hx hb hts inX3 hown hK hP 0 rfl rfl 0 (by decide) (hts _ q182) (fun _ h9 => h9) rfl dX3_write_78 ?_
    refine lv_iload_n hx hb dX3_write_81 rfl (lv_at hl 3 rfl) ?_
    refine lv_iload_n hx hb dX3_write_82 rfl (lv_at hl 4 rfl) ?_
    refine lv_iload hx hb dX3_write_83 (lv_at hl 0 rfl) ?_
    obtain ⟨⟨nC_31, nU_32⟩, h33, hf⟩ := bnd hf
    refine call_vv (rest := []) (m_S_setBlock l ca ad bq nF nO nL nA nC nV nU nP_29 nE bF bO bL bA bC bV bU bP bE cT cK cO cQ cD pT pK pR pW pU pI pC uO uF uE uN wK jM jN jZ jB R _ p1 p2 r28 nC_31 nU_32 h33) ⟨hx, hb, hml, hown, hts⟩ (cwV 3 hts (gV q586 q481 q482 q25 q483) rfl rfl rfl (by decide +kernel) ⟨Nat.le_of_ble_eq_true rfl, Nat.le_of_ble_eq_true rfl⟩) (va_recv hK hP (ci := 6) (q0 := 1) rfl rfl) hE hP hD hS hA rfl hl.1 rfl (lv_room (Nat.le_of_ble_eq_true rfl)) dX3_write_85 ⟨Nat.le_of_ble_eq_true rfl, Nat.le_of_ble_eq_true rfl⟩ (fun H locs hP hD hS => ?_)
    refine lv_aload_n hx hb dX3_write_88 rfl (lv_at hl 2 rfl) ?_
    refine va_get (D := D) (ci := 7) (v := .ref (ad 1)) (C := RX3) (T := TX3) (N := 11) hx hb hts inX3 hown hK hP 0 rfl rfl 0 (by decide) (hts _ q182) (fun _ h9 => h9) rfl dX3_write_89 ?_
    refine lv_iload hx hb dX3_write_92 (lv_at hl 0 rfl) ?_
    refine lv_iload_n hx hb dX3_write_94 rfl (lv_at hl 5 rfl) ?_
    obtain ⟨nV_34, h35, hf⟩ := bnd hf
    refine call_vv (rest := []) (m_S_setValue l ca ad bq nF nO nL nA nC_31 nV nU_32 nP_29 nE bF bO bL bA bC bV bU bP bE cT cK cO cQ cD pT pK pR pW pU pI pC uO uF uE uN wK jM jN jZ jB R _ r28 p3 nV_34 h35) ⟨hx, hb, hml, hown, hts⟩ (cwV 2 hts (gV q587 q588 q589 q25 q590) rfl rfl rfl (by decide +kernel) ⟨Nat.le_of_ble_eq_true rfl, Nat.le_of_ble_eq_true rfl⟩) (va_recv hK hP (ci := 6) (q0 := 1) rfl rfl) hE hP hD hS hA rfl hl.1 rfl (lv_room (Nat.le_of_ble_eq_true rfl)) dX3_write_95 ⟨Nat.le_of_ble_eq_true rfl, Nat.le_of_ble_eq_true rfl⟩ (fun H locs hP hD hS => ?_)
    refine lv_aload_n hx hb dX3_write_98 rfl (lv_at hl 2 rfl) ?_
    refine lv_bipush (v := 119) hx hb dX3_write_99 (by decide) ?_
    obtain ⟨⟨nE_36, cK_37⟩, h38, hf⟩ := bnd hf
    refine call_vv (rest := []) (m_C_note l ca ad bq nF nO nL nA nC_31 nV_34 nU_32 nP_29 nE bF bO bL bA bC bV bU bP bE cT cK cO cQ cD pT pK pR pW pU pI pC uO uF uE uN wK jM jN jZ jB R _ 119 nE_36 cK_37 h38) ⟨hx, hb, hml, hown, hts⟩ (cwV 1 hts (gV q408 q410 q4 q24 q411) rfl rfl rfl (by decide +kernel) ⟨Nat.le_of_ble_eq_true rfl, Nat.le_of_ble_eq_true rfl⟩) (va_recv hK hP (ci := 7) (q0 := 0) rfl rfl) hE hP hD hS hA rfl hl.1 rfl (lv_room (Nat.le_of_ble_eq_true rfl)) dX3_write_101 ⟨Nat.le_of_ble_eq_true rfl, Nat.le_of_ble_eq_true rfl⟩ (fun H locs hP hD hS => ?_)
    refine lv_iload hx hb dX3_write_104 (lv_at hl 0 rfl) ?_
    cases hf
    exact endx_i hAe hQm hx hb hr hlocks rfl hP hD hS dX3_write_106 (Nat.le_of_ble_eq_true rfl) (Nat.le_of_ble_eq_true rfl)
def f_C_punch (p1 : Int32) (p2 : Int32) (nF : Int32) (nL : Nat → Int32) (nC : Nat → Int32) (nU : Nat → Int32) (nE : Int32) (cK : Nat → Int32) : Option (Except Nat Int32 × (Nat → Int32) × (Nat → Int32) × Int32 × (Nat → Int32)) :=
  (f_C_requireFile p1 nF).bind fun x1 =>
  match x1 with
  | .error n3 => some ((.error n3), nC, nU, nE, cK)
  | .ok _ =>
  (f_C_requirePlace p2).bind fun x4 =>
  match x4 with
  | .error n6 => some ((.error n6), nC, nU, nE, cK)
  | .ok _ =>
  (f_C_requireLinks p1 nF nL).bind fun x7 =>
  match x7 with
  | .error n9 => some ((.error n9), nC, nU, nE, cK)
  | .ok _ =>
  (f_S_blockIn p1 p2 nF nC).bind fun r10 =>
  if r10 = (-1) then
    some ((.error 2), nC, nU, nE, cK)
  else
    (f_S_setBlock p1 p2 (-1) nF nC nU).bind fun (nC_13, nU_14) =>
    (f_C_note 104 nE cK).bind fun (nE_16, cK_17) =>
    some ((.ok r10), nC_13, nU_14, nE_16, cK_17)
set_option maxHeartbeats 4000000 in
set_option maxRecDepth 100000 in
theorem m_C_punch (l : Launch) (hst : l.stackTraces = false) {D : va_G} (ca : Nat → ClassId) (ad : Nat → Nat) (bq : Nat) (nF : Int32) (nO : Nat → Int32) (nL : Nat → Int32) (nA : Nat → Int32) (nC : Nat → Int32) (nV : Nat → Int32) (nU : Nat → Int32) (nP : Nat → Int32) (nE : Int32) (bF : Int32) (bO : Nat → Int32) (bL : Nat → Int32) (bA : Nat → Int32) (bC : Nat → Int32) (bV : Nat → Int32) (bU : Nat → Int32) (bP : Nat → Int32) (bE : Int32) (cT : Int32) (cK : Nat → Int32) (cO : Int32) (cQ : Nat → Int32) (cD : Int32) (pT : Int32) (pK : Int32) (pR : Nat → Int32) (pW : Nat → Int32) (pU : Nat → Int32) (pI : Nat → Int32) (pC : Nat → Nat → Int32) (uO : Int32) (uF : Nat → Int32) (uE : Nat → Int32) (uN : Nat → Int32) (wK : Nat → Int32) (jM : Int32) (jN : Int32) (jZ : Nat) (jB : Nat → Int32) (R : va_W) (sz : Nat) (p1 : Int32) (p2 : Int32) (ro : Except Nat Int32) (onC : Nat → Int32) (onU : Nat → Int32) (onE : Int32) (ocK : Nat → Int32) (hf : f_C_punch p1 p2 nF nL nC nU nE cK = some (ro, onC, onU, onE, ocK)) : vx_Met l yX3_punch (wm yX3_punch cX3_punch 4 (some .int)) ({ frames := 7, cells := 4, slots := 24, locals := 111 } : Room) (PREX [.ref (ad 0), .int p1, .int p2] D ca SL0 (WC ca ad bq nF nO nL nA nC nV nU nP nE bF bO bL bA bC bV bU bP bE cT cK cO cQ cD pT pK pR pW pU pI pC uO uF uE uN wK jM jN jZ jB ++ R) sz) (QXI ro D (WC ca ad bq nF nO nL nA onC nV onU nP onE bF bO bL bA bC bV bU bP bE cT ocK cO cQ cD pT pK pR pW pU pI pC uO uF uE uN wK jM jN jZ jB ++ R) (WC ca ad bq nF nO nL nA nC nV nU nP nE bF bO bL bA bC bV bU bP bE cT cK cO cQ cD pT pK pR pW pU pI pC uO uF uE uN wK jM jN jZ jB ++ R) sz) (QXE ro D (WC ca ad bq nF nO nL nA onC nV onU nP onE bF bO bL bA bC bV bU bP bE cT ocK cO cQ cD pT pK pR pW pU pI pC uO uF uE uN wK jM jN jZ jB ++ R) (WC ca ad bq nF nO nL nA nC nV nU nP nE bF bO bL bA bC bV bU bP bE cT cK cO cQ cD pT pK pR pW pU pI pC uO uF uE uN wK jM jN jZ jB ++ R) sz) 4 24 (va_A (WC ca ad bq nF nO nL nA nC nV nU nP nE bF bO bL bA bC bV bU bP bE cT cK cO cQ cD pT pK pR pW pU pI pC uO uF uE uN wK jM jN jZ jB ++ R) sz) := by
  refine vx_ofW (cc := cX3_punch) (maxL := 4) (ret := (some .int)) (by decide) rfl ?_
  intro p e s m args below meth c s₁ B hml htab hv
  obtain ⟨rfl, rfl, hP, hE, hD0, hZ⟩ := hv
  have hx := B.exec
  have hb := B.bytes
  have hr := B.returns
  have hts := wm_ww (atoms_spec (ws := wm yX3_punch cX3_punch 4 (some .int)) B.pre)
  have hown : s.vm.findClass RX3 = some m.cls := findClass_of_methodNamed B.named
  have hlocks := B.notSynchronized
  have hK := hE.1
  have hD := hD0.self (sz := s.heap.size)
  generalize hAe : va_A (WC ca ad bq nF nO nL nA nC nV nU nP nE bF bO bL bA bC bV bU bP bE cT cK cO cQ cD pT pK pR pW pU pI pC uO uF uE uN wK jM jN jZ jB ++ R) s.heap.size = A at hD hZ ⊢
  have hA : ∀ q : Nat, s.heap.size ≤ q → A q := fun q h => by rw [← hAe]; exact Or.inr h
  have hS : va_S A s.heap s.heap [] := va_S.rf
  have hl := lv_entry ([.ref (ad 0), .int p1, .int p2]) (n := 4) (Nat.le_of_ble_eq_true rfl)
  rw [lg_entry_eq]
  generalize (lg_sl ([.ref (ad 0), .int p1, .int p2]) ++ List.replicate (4 - (lg_sl ([.ref (ad 0), .int p1, .int p2])).length) Slot.unset).toArray = ls at hl ⊢
  have hl : lv_has ls 4 [(0, .ref (ad 0)), (1, .int p1), (2, .int p2)] := hl
  change W p l e ({ frames := 7, cells := 4, slots := 24, locals := 111 } : Room) s m _ below meth c s.heap [] 0 0 _ _
  generalize hQm : vx_MQ below (QXI ro D (WC ca ad bq nF nO nL nA onC nV onU nP onE bF bO bL bA bC bV bU bP bE cT ocK cO cQ cD pT pK pR pW pU pI pC uO uF uE uN wK jM jN jZ jB ++ R) (WC ca ad bq nF nO nL nA nC nV nU nP nE bF bO bL bA bC bV bU bP bE cT cK cO cQ cD pT pK pR pW pU pI pC uO uF uE uN wK jM jN jZ jB ++ R) s.heap.size) (QXE ro D (WC ca ad bq nF nO nL nA onC nV onU nP onE bF bO bL bA bC bV bU bP bE cT ocK cO cQ cD pT pK pR pW pU pI pC uO uF uE uN wK jM jN jZ jB ++ R) (WC ca ad bq nF nO nL nA nC nV nU nP nE bF bO bL bA bC bV bU bP bE cT cK cO cQ cD pT pK pR pW pU pI pC uO uF uE uN wK jM jN jZ jB ++ R) s.heap.size) _ s 4 24 A = Qm
  have hP : va_P D vwCl (WC ca ad bq nF nO nL nA nC nV nU nP nE bF bO bL bA bC bV bU bP bE cT cK cO cQ cD pT pK pR pW pU pI pC uO uF uE uN wK jM jN jZ jB ++ R) s.heap := hP
  generalize hae : ([.ref (ad 0), .int p1, .int p2] : List Value).toArray = args at hts hQm ⊢
  refine lv_aload_n hx hb dX3_punch_0 rfl (lv_at hl 0 rfl) ?_
  refine lv_iload_n hx hb dX3_punch_1 rfl (lv_at hl 1 rfl) ?_
  obtain ⟨x1, h2, hf⟩ := bnd hf
  rcases x1 with n3 | _
  · have hf : some ((.error n3), nC, nU, nE, cK) = some (ro, onC, onU, onE, ocK) := hf
    cases hf
    exact cx_vv_err (rest := []) (m_C_requireFile l hst ca ad bq nF nO nL nA nC nV nU nP nE bF bO bL bA bC bV bU bP bE cT cK cO cQ cD pT pK pR pW pU pI pC uO uF uE uN wK jM jN jZ jB R _ p1 (.error n3) h2) ⟨hx, hb, hml, hown, hts⟩ (cwV 1 hts (gV q420 q422 q5 q24 q423) rfl rfl rfl (by decide +kernel) ⟨Nat.le_of_ble_eq_true rfl, Nat.le_of_ble_eq_true rfl⟩) (va_recv hK hP (ci := 7) (q0 := 0) rfl rfl) hE hP hD hS hA hZ rfl hl.1 rfl (lv_room (Nat.le_of_ble_eq_true rfl)) dX3_punch_2 ⟨Nat.le_of_ble_eq_true rfl, Nat.le_of_ble_eq_true rfl⟩ hAe hQm htab hlocks (Nat.le_of_ble_eq_true rfl) (Nat.le_of_ble_eq_true rfl)
  refine cx_vv_ok (rest := []) (m_C_requireFile l hst ca ad bq nF nO nL nA nC nV nU nP nE bF bO bL bA bC bV bU bP bE cT cK cO cQ cD pT pK pR pW pU pI pC uO uF uE uN wK jM jN jZ jB R _ p1 (.ok ()) h2) ⟨hx, hb, hml, hown, hts⟩ (cwV 1 hts (gV q420 q422 q5 q24 q423) rfl rfl rfl (by decide +kernel) ⟨Nat.le_of_ble_eq_true rfl, Nat.le_of_ble_eq_true rfl⟩) (va_recv hK hP (ci := 7) (q0 := 0) rfl rfl) hE hP hD hS hA hZ rfl hl.1 rfl (lv_room (Nat.le_of_ble_eq_true rfl)) dX3_punch_2 ⟨Nat.le_of_ble_eq_true rfl, Nat.le_of_ble_eq_true rfl⟩ (fun H locs hP hD hS => ?_)
  refine lv_aload_n hx hb dX3_punch_5 rfl (lv_at hl 0 rfl) ?_
  refine lv_iload_n hx hb dX3_punch_6 rfl (lv_at hl 2 rfl) ?_
  obtain ⟨x4, h5, hf⟩ := bnd hf
  rcases x4 with n6 | _
  · have hf : some ((.error n6), nC, nU, nE, cK) = some (ro, onC, onU, onE, ocK) := hf
    cases hf
    exact cx_vv_err (rest := []) (m_C_requirePlace l hst ca ad bq nF nO nL nA nC nV nU nP nE bF bO bL bA bC bV bU bP bE cT cK cO cQ cD pT pK pR pW pU pI pC uO uF uE uN wK jM jN jZ jB R _ p2 (.error n6) h5) ⟨hx, hb, hml, hown, hts⟩ (cwV 1 hts (gV q502 q504 q8 q24 q505) rfl rfl rfl (by decide +kernel) ⟨Nat.le_of_ble_eq_true rfl, Nat.le_of_ble_eq_true rfl⟩) (va_recv hK hP (ci := 7) (q0 := 0) rfl rfl) hE hP hD hS hA hZ rfl hl.1 rfl (lv_room (Nat.le_of_ble_eq_true rfl)) dX3_punch_7 ⟨Nat.le_of_ble_eq_true rfl, Nat.le_of_ble_eq_true rfl⟩ hAe hQm htab hlocks (Nat.le_of_ble_eq_true rfl) (Nat.le_of_ble_eq_true rfl)
  refine cx_vv_ok (rest := []) (m_C_requirePlace l hst ca ad bq nF nO nL nA nC nV nU nP nE bF bO bL bA bC bV bU bP bE cT cK cO cQ cD pT pK pR pW pU pI pC uO uF uE uN wK jM jN jZ jB R _ p2 (.ok ()) h5) ⟨hx, hb, hml, hown, hts⟩ (cwV 1 hts (gV q502 q504 q8 q24 q505) rfl rfl rfl (by decide +kernel) ⟨Nat.le_of_ble_eq_true rfl, Nat.le_of_ble_eq_true rfl⟩) (va_recv hK hP (ci := 7) (q0 := 0) rfl rfl) hE hP hD hS hA hZ rfl hl.1 rfl (lv_room (Nat.le_of_ble_eq_true rfl)) dX3_punch_7 ⟨Nat.le_of_ble_eq_true rfl, Nat.le_of_ble_eq_true rfl⟩ (fun H locs hP hD hS => ?_)
  refine lv_aload_n hx hb dX3_punch_10 rfl (lv_at hl 0 rfl) ?_
  refine lv_iload_n hx hb dX3_punch_11 rfl (lv_at hl 1 rfl) ?_
  obtain ⟨x7, h8, hf⟩ := bnd hf
  rcases x7 with n9 | _
  · have hf : some ((.error n9), nC, nU, nE, cK) = some (ro, onC, onU, onE, ocK) := hf
    cases hf
    exact cx_vv_err (rest := []) (m_C_requireLinks l hst ca ad bq nF nO nL nA nC nV nU nP nE bF bO bL bA bC bV bU bP bE cT cK cO cQ cD pT pK pR pW pU pI pC uO uF uE uN wK jM jN jZ jB R _ p1 (.error n9) h8) ⟨hx, hb, hml, hown, hts⟩ (cwV 1 hts (gV q446 q448 q6 q24 q449) rfl rfl rfl (by decide +kernel) ⟨Nat.le_of_ble_eq_true rfl, Nat.le_of_ble_eq_true rfl⟩) (va_recv hK hP (ci := 7) (q0 := 0) rfl rfl) hE hP hD hS hA hZ rfl hl.1 rfl (lv_room (Nat.le_of_ble_eq_true rfl)) dX3_punch_12 ⟨Nat.le_of_ble_eq_true rfl, Nat.le_of_ble_eq_true rfl⟩ hAe hQm htab hlocks (Nat.le_of_ble_eq_true rfl) (Nat.le_of_ble_eq_true rfl)
  refine cx_vv_ok (rest := []) (m_C_requireLinks l hst ca ad bq nF nO nL nA nC nV nU nP nE bF bO bL bA bC bV bU bP bE cT cK cO cQ cD pT pK pR pW pU pI pC uO uF uE uN wK jM jN jZ jB R _ p1 (.ok ()) h8) ⟨hx, hb, hml, hown, hts⟩ (cwV 1 hts (gV q446 q448 q6 q24 q449) rfl rfl rfl (by decide +kernel) ⟨Nat.le_of_ble_eq_true rfl, Nat.le_of_ble_eq_true rfl⟩) (va_recv hK hP (ci := 7) (q0 := 0) rfl rfl) hE hP hD hS hA hZ rfl hl.1 rfl (lv_room (Nat.le_of_ble_eq_true rfl)) dX3_punch_12 ⟨Nat.le_of_ble_eq_true rfl, Nat.le_of_ble_eq_true rfl⟩ (fun H locs hP hD hS => ?_)
  refine lv_aload_n hx hb dX3_punch_15 rfl (lv_at hl 0 rfl) ?_
  refine va_get (D := D) (ci := 7) (v := .ref (ad 1)) (C := RX3) (T := TX3) (N := 11) hx hb hts inX3 hown hK hP 0 rfl rfl 0 (by decide) (hts _ q182) (fun _ h9 => h9) rfl dX3_punch_16 ?_
  refine lv_iload_n hx hb dX3_punch_19 rfl (lv_at hl 1 rfl) ?_
  refine lv_iload_n hx hb dX3_punch_20 rfl (lv_at hl 2 rfl) ?_
  obtain ⟨r10, h11, hf⟩ := bnd hf
  refine call_vi (rest := []) (m_S_blockIn l ca ad bq nF nO nL nA nC nV nU nP nE bF bO bL bA bC bV bU bP bE cT cK cO cQ cD pT pK pR pW pU pI pC uO uF uE uN wK jM jN jZ jB R _ p1 p2 r10 h11) ⟨hx, hb, hml, hown, hts⟩ (cwV 2 hts (gV q508 q509 q510 q25 q511) rfl rfl rfl (by decide +kernel) ⟨Nat.le_of_ble_eq_true rfl, Nat.le_of_ble_eq_true rfl⟩) (va_recv hK hP (ci := 6) (q0 := 1) rfl rfl) hE hP hD hS hA rfl hl.1 rfl (lv_room (Nat.le_of_ble_eq_true rfl)) dX3_punch_21 ⟨Nat.le_of_ble_eq_true rfl, Nat.le_of_ble_eq_true rfl⟩ (fun H locs hP hD hS => ?_)
  refine lv_istore_n (lv' := [(3, .int r10), (0, .ref (ad 0)), (1, .int p1), (2, .int p2)]) hx hb dX3_punch_24 rfl hl (by decide) rfl (fun ls hl => ?_)
  refine lv_iload_n hx hb dX3_punch_25 rfl (lv_at hl 0 rfl) ?_
  refine lv_iconst (v := (-1)) hx hb dX3_punch_26 (by decide) ?_
  refine lv_icmp_ne (tgt := 40) hx hb dX3_punch_27 (by decide) (fun c12 => ?_) (fun c12 => ?_)
  · have hf := br_neg c12 hf
    refine lv_aload_n hx hb dX3_punch_40 rfl (lv_at hl 1 rfl) ?_
    refine va_get (D := D) (ci := 7) (v := .ref (ad 1)) (C := RX3) (T := TX3) (N := 11) hx hb hts inX3 hown hK hP 0 rfl rfl 0 (by decide) (hts _ q182) (fun _ h9 => h9) rfl dX3_punch_41 ?_
    refine lv_iload_n hx hb dX3_punch_44 rfl (lv_at hl 2 rfl) ?_
    refine lv_iload_n hx hb dX3_punch_45 rfl (lv_at hl 3 rfl) ?_
    refine lv_iconst (v := (-1)) hx hb dX3_punch_46 (by decide) ?_
    obtain ⟨⟨nC_13, nU_14⟩, h15, hf⟩ := bnd hf
    refine call_vv (rest := []) (m_S_setBlock l ca ad bq nF nO nL nA nC nV nU nP nE bF bO bL bA bC bV bU bP bE cT cK cO cQ cD pT pK pR pW pU pI pC uO uF uE uN wK jM jN jZ jB R _ p1 p2 (-1) nC_13 nU_14 h15) ⟨hx, hb, hml, hown, hts⟩ (cwV 3 hts (gV q586 q481 q482 q25 q483) rfl rfl rfl (by decide +kernel) ⟨Nat.le_of_ble_eq_true rfl, Nat.le_of_ble_eq_true rfl⟩) (va_recv hK hP (ci := 6) (q0 := 1) rfl rfl) hE hP hD hS hA rfl hl.1 rfl (lv_room (Nat.le_of_ble_eq_true rfl)) dX3_punch_47 ⟨Nat.le_of_ble_eq_true rfl, Nat.le_of_ble_eq_true rfl⟩ (fun H locs hP hD hS => ?_)
    refine lv_aload_n hx hb dX3_punch_50 rfl (lv_at hl 1 rfl) ?_
    refine lv_bipush (v := 104) hx hb dX3_punch_51 (by decide) ?_
    obtain ⟨⟨nE_16, cK_17⟩, h18, hf⟩ := bnd hf
    refine call_vv (rest := []) (m_C_note l ca ad bq nF nO nL nA nC_13 nV nU_14 nP nE bF bO bL bA bC bV bU bP bE cT cK cO cQ cD pT pK pR pW pU pI pC uO uF uE uN wK jM jN jZ jB R _ 104 nE_16 cK_17 h18) ⟨hx, hb, hml, hown, hts⟩ (cwV 1 hts (gV q408 q410 q4 q24 q411) rfl rfl rfl (by decide +kernel) ⟨Nat.le_of_ble_eq_true rfl, Nat.le_of_ble_eq_true rfl⟩) (va_recv hK hP (ci := 7) (q0 := 0) rfl rfl) hE hP hD hS hA rfl hl.1 rfl (lv_room (Nat.le_of_ble_eq_true rfl)) dX3_punch_53 ⟨Nat.le_of_ble_eq_true rfl, Nat.le_of_ble_eq_true rfl⟩ (fun H locs hP hD hS => ?_)
    refine lv_iload_n hx hb dX3_punch_56 rfl (lv_at hl 0 rfl) ?_
    cases hf
    exact endx_i hAe hQm hx hb hr hlocks rfl hP hD hS dX3_punch_57 (Nat.le_of_ble_eq_true rfl) (Nat.le_of_ble_eq_true rfl)
  · have hf := br_pos c12 hf
    cases hf
    exact endx_throw 2 rfl hAe hQm hst hx hb hts hE hown htab hlocks (by decide +kernel) q365 q39 sl3 at73 hZ (hl.1.trans hml.symm) hP hD hS dX3_punch_30 dX3_punch_33 dX3_punch_34 dX3_punch_36 dX3_punch_39 (Nat.le_of_ble_eq_true rfl) (Nat.le_of_ble_eq_true rfl) (Nat.le_of_ble_eq_true rfl) (Nat.le_of_ble_eq_true rfl) (Nat.le_of_ble_eq_true rfl) (Nat.le_of_ble_eq_true rfl)
def f_C_blockOrThrow (p1 : Int32) (p2 : Int32) (nF : Int32) (nC : Nat → Int32) : Option (Except Nat Int32) :=
  (f_C_requireFile p1 nF).bind fun x1 =>
  match x1 with
  | .error n3 => some (.error n3)
  | .ok _ =>
  (f_C_requirePlace p2).bind fun x4 =>
  match x4 with
  | .error n6 => some (.error n6)
  | .ok _ =>
  (f_S_blockIn p1 p2 nF nC).bind fun r7 =>
  if r7 = (-1) then
    some (.error 5)
  else
    some (.ok r7)
set_option maxHeartbeats 4000000 in
set_option maxRecDepth 100000 in
theorem m_C_blockOrThrow (l : Launch) (hst : l.stackTraces = false) {D : va_G} (ca : Nat → ClassId) (ad : Nat → Nat) (bq : Nat) (nF : Int32) (nO : Nat → Int32) (nL : Nat → Int32) (nA : Nat → Int32) (nC : Nat → Int32) (nV : Nat → Int32) (nU : Nat → Int32) (nP : Nat → Int32) (nE : Int32) (bF : Int32) (bO : Nat → Int32) (bL : Nat → Int32) (bA : Nat → Int32) (bC : Nat → Int32) (bV : Nat → Int32) (bU : Nat → Int32) (bP : Nat → Int32) (bE : Int32) (cT : Int32) (cK : Nat → Int32) (cO : Int32) (cQ : Nat → Int32) (cD : Int32) (pT : Int32) (pK : Int32) (pR : Nat → Int32) (pW : Nat → Int32) (pU : Nat → Int32) (pI : Nat → Int32) (pC : Nat → Nat → Int32) (uO : Int32) (uF : Nat → Int32) (uE : Nat → Int32) (uN : Nat → Int32) (wK : Nat → Int32) (jM : Int32) (jN : Int32) (jZ : Nat) (jB : Nat → Int32) (R : va_W) (sz : Nat) (p1 : Int32) (p2 : Int32) (ro : Except Nat Int32) (hf : f_C_blockOrThrow p1 p2 nF nC = some ro) : vx_Met l yX3_blockOrThrow (wm yX3_blockOrThrow cX3_blockOrThrow 4 (some .int)) ({ frames := 7, cells := 3, slots := 18, locals := 111 } : Room) (PREX [.ref (ad 0), .int p1, .int p2] D ca SL0 (WC ca ad bq nF nO nL nA nC nV nU nP nE bF bO bL bA bC bV bU bP bE cT cK cO cQ cD pT pK pR pW pU pI pC uO uF uE uN wK jM jN jZ jB ++ R) sz) (QXI ro D (WC ca ad bq nF nO nL nA nC nV nU nP nE bF bO bL bA bC bV bU bP bE cT cK cO cQ cD pT pK pR pW pU pI pC uO uF uE uN wK jM jN jZ jB ++ R) (WC ca ad bq nF nO nL nA nC nV nU nP nE bF bO bL bA bC bV bU bP bE cT cK cO cQ cD pT pK pR pW pU pI pC uO uF uE uN wK jM jN jZ jB ++ R) sz) (QXE ro D (WC ca ad bq nF nO nL nA nC nV nU nP nE bF bO bL bA bC bV bU bP bE cT cK cO cQ cD pT pK pR pW pU pI pC uO uF uE uN wK jM jN jZ jB ++ R) (WC ca ad bq nF nO nL nA nC nV nU nP nE bF bO bL bA bC bV bU bP bE cT cK cO cQ cD pT pK pR pW pU pI pC uO uF uE uN wK jM jN jZ jB ++ R) sz) 3 18 (va_A (WC ca ad bq nF nO nL nA nC nV nU nP nE bF bO bL bA bC bV bU bP bE cT cK cO cQ cD pT pK pR pW pU pI pC uO uF uE uN wK jM jN jZ jB ++ R) sz) := by
  refine vx_ofW (cc := cX3_blockOrThrow) (maxL := 4) (ret := (some .int)) (by decide) rfl ?_
  intro p e s m args below meth c s₁ B hml htab hv
  obtain ⟨rfl, rfl, hP, hE, hD0, hZ⟩ := hv
  have hx := B.exec
  have hb := B.bytes
  have hr := B.returns
  have hts := wm_ww (atoms_spec (ws := wm yX3_blockOrThrow cX3_blockOrThrow 4 (some .int)) B.pre)
  have hown : s.vm.findClass RX3 = some m.cls := findClass_of_methodNamed B.named
  have hlocks := B.notSynchronized
  have hK := hE.1
  have hD := hD0.self (sz := s.heap.size)
  generalize hAe : va_A (WC ca ad bq nF nO nL nA nC nV nU nP nE bF bO bL bA bC bV bU bP bE cT cK cO cQ cD pT pK pR pW pU pI pC uO uF uE uN wK jM jN jZ jB ++ R) s.heap.size = A at hD hZ ⊢
  have hA : ∀ q : Nat, s.heap.size ≤ q → A q := fun q h => by rw [← hAe]; exact Or.inr h
  have hS : va_S A s.heap s.heap [] := va_S.rf
  have hl := lv_entry ([.ref (ad 0), .int p1, .int p2]) (n := 4) (Nat.le_of_ble_eq_true rfl)
  rw [lg_entry_eq]
  generalize (lg_sl ([.ref (ad 0), .int p1, .int p2]) ++ List.replicate (4 - (lg_sl ([.ref (ad 0), .int p1, .int p2])).length) Slot.unset).toArray = ls at hl ⊢
  have hl : lv_has ls 4 [(0, .ref (ad 0)), (1, .int p1), (2, .int p2)] := hl
  change W p l e ({ frames := 7, cells := 3, slots := 18, locals := 111 } : Room) s m _ below meth c s.heap [] 0 0 _ _
  generalize hQm : vx_MQ below (QXI ro D (WC ca ad bq nF nO nL nA nC nV nU nP nE bF bO bL bA bC bV bU bP bE cT cK cO cQ cD pT pK pR pW pU pI pC uO uF uE uN wK jM jN jZ jB ++ R) (WC ca ad bq nF nO nL nA nC nV nU nP nE bF bO bL bA bC bV bU bP bE cT cK cO cQ cD pT pK pR pW pU pI pC uO uF uE uN wK jM jN jZ jB ++ R) s.heap.size) (QXE ro D (WC ca ad bq nF nO nL nA nC nV nU nP nE bF bO bL bA bC bV bU bP bE cT cK cO cQ cD pT pK pR pW pU pI pC uO uF uE uN wK jM jN jZ jB ++ R) (WC ca ad bq nF nO nL nA nC nV nU nP nE bF bO bL bA bC bV bU bP bE cT cK cO cQ cD pT pK pR pW pU pI pC uO uF uE uN wK jM jN jZ jB ++ R) s.heap.size) _ s 3 18 A = Qm
  have hP : va_P D vwCl (WC ca ad bq nF nO nL nA nC nV nU nP nE bF bO bL bA bC bV bU bP bE cT cK cO cQ cD pT pK pR pW pU pI pC uO uF uE uN wK jM jN jZ jB ++ R) s.heap := hP
  generalize hae : ([.ref (ad 0), .int p1, .int p2] : List Value).toArray = args at hts hQm ⊢
  refine lv_aload_n hx hb dX3_blockOrThrow_0 rfl (lv_at hl 0 rfl) ?_
  refine lv_iload_n hx hb dX3_blockOrThrow_1 rfl (lv_at hl 1 rfl) ?_
  obtain ⟨x1, h2, hf⟩ := bnd hf
  rcases x1 with n3 | _
  · have hf : some (.error n3) = some ro := hf
    cases hf
    exact cx_vv_err (rest := []) (m_C_requireFile l hst ca ad bq nF nO nL nA nC nV nU nP nE bF bO bL bA bC bV bU bP bE cT cK cO cQ cD pT pK pR pW pU pI pC uO uF uE uN wK jM jN jZ jB R _ p1 (.error n3) h2) ⟨hx, hb, hml, hown, hts⟩ (cwV 1 hts (gV q420 q422 q5 q24 q423) rfl rfl rfl (by decide +kernel) ⟨Nat.le_of_ble_eq_true rfl, Nat.le_of_ble_eq_true rfl⟩) (va_recv hK hP (ci := 7) (q0 := 0) rfl rfl) hE hP hD hS hA hZ rfl hl.1 rfl (lv_room (Nat.le_of_ble_eq_true rfl)) dX3_blockOrThrow_2 ⟨Nat.le_of_ble_eq_true rfl, Nat.le_of_ble_eq_true rfl⟩ hAe hQm htab hlocks (Nat.le_of_ble_eq_true rfl) (Nat.le_of_ble_eq_true rfl)
  refine cx_vv_ok (rest := []) (m_C_requireFile l hst ca ad bq nF nO nL nA nC nV nU nP nE bF bO bL bA bC bV bU bP bE cT cK cO cQ cD pT pK pR pW pU pI pC uO uF uE uN wK jM jN jZ jB R _ p1 (.ok ()) h2) ⟨hx, hb, hml, hown, hts⟩ (cwV 1 hts (gV q420 q422 q5 q24 q423) rfl rfl rfl (by decide +kernel) ⟨Nat.le_of_ble_eq_true rfl, Nat.le_of_ble_eq_true rfl⟩) (va_recv hK hP (ci := 7) (q0 := 0) rfl rfl) hE hP hD hS hA hZ rfl hl.1 rfl (lv_room (Nat.le_of_ble_eq_true rfl)) dX3_blockOrThrow_2 ⟨Nat.le_of_ble_eq_true rfl, Nat.le_of_ble_eq_true rfl⟩ (fun H locs hP hD hS => ?_)
  refine lv_aload_n hx hb dX3_blockOrThrow_5 rfl (lv_at hl 0 rfl) ?_
  refine lv_iload_n hx hb dX3_blockOrThrow_6 rfl (lv_at hl 2 rfl) ?_
  obtain ⟨x4, h5, hf⟩ := bnd hf
  rcases x4 with n6 | _
  · have hf : some (.error n6) = some ro := hf
    cases hf
    exact cx_vv_err (rest := []) (m_C_requirePlace l hst ca ad bq nF nO nL nA nC nV nU nP nE bF bO bL bA bC bV bU bP bE cT cK cO cQ cD pT pK pR pW pU pI pC uO uF uE uN wK jM jN jZ jB R _ p2 (.error n6) h5) ⟨hx, hb, hml, hown, hts⟩ (cwV 1 hts (gV q502 q504 q8 q24 q505) rfl rfl rfl (by decide +kernel) ⟨Nat.le_of_ble_eq_true rfl, Nat.le_of_ble_eq_true rfl⟩) (va_recv hK hP (ci := 7) (q0 := 0) rfl rfl) hE hP hD hS hA hZ rfl hl.1 rfl (lv_room (Nat.le_of_ble_eq_true rfl)) dX3_blockOrThrow_7 ⟨Nat.le_of_ble_eq_true rfl, Nat.le_of_ble_eq_true rfl⟩ hAe hQm htab hlocks (Nat.le_of_ble_eq_true rfl) (Nat.le_of_ble_eq_true rfl)
  refine cx_vv_ok (rest := []) (m_C_requirePlace l hst ca ad bq nF nO nL nA nC nV nU nP nE bF bO bL bA bC bV bU bP bE cT cK cO cQ cD pT pK pR pW pU pI pC uO uF uE uN wK jM jN jZ jB R _ p2 (.ok ()) h5) ⟨hx, hb, hml, hown, hts⟩ (cwV 1 hts (gV q502 q504 q8 q24 q505) rfl rfl rfl (by decide +kernel) ⟨Nat.le_of_ble_eq_true rfl, Nat.le_of_ble_eq_true rfl⟩) (va_recv hK hP (ci := 7) (q0 := 0) rfl rfl) hE hP hD hS hA hZ rfl hl.1 rfl (lv_room (Nat.le_of_ble_eq_true rfl)) dX3_blockOrThrow_7 ⟨Nat.le_of_ble_eq_true rfl, Nat.le_of_ble_eq_true rfl⟩ (fun H locs hP hD hS => ?_)
  refine lv_aload_n hx hb dX3_blockOrThrow_10 rfl (lv_at hl 0 rfl) ?_
  refine va_get (D := D) (ci := 7) (v := .ref (ad 1)) (C := RX3) (T := TX3) (N := 11) hx hb hts inX3 hown hK hP 0 rfl rfl 0 (by decide) (hts _ q182) (fun _ h9 => h9) rfl dX3_blockOrThrow_11 ?_
  refine lv_iload_n hx hb dX3_blockOrThrow_14 rfl (lv_at hl 1 rfl) ?_
  refine lv_iload_n hx hb dX3_blockOrThrow_15 rfl (lv_at hl 2 rfl) ?_
  obtain ⟨r7, h8, hf⟩ := bnd hf
  refine call_vi (rest := []) (m_S_blockIn l ca ad bq nF nO nL nA nC nV nU nP nE bF bO bL bA bC bV bU bP bE cT cK cO cQ cD pT pK pR pW pU pI pC uO uF uE uN wK jM jN jZ jB R _ p1 p2 r7 h8) ⟨hx, hb, hml, hown, hts⟩ (cwV 2 hts (gV q508 q509 q510 q25 q511) rfl rfl rfl (by decide +kernel) ⟨Nat.le_of_ble_eq_true rfl, Nat.le_of_ble_eq_true rfl⟩) (va_recv hK hP (ci := 6) (q0 := 1) rfl rfl) hE hP hD hS hA rfl hl.1 rfl (lv_room (Nat.le_of_ble_eq_true rfl)) dX3_blockOrThrow_16 ⟨Nat.le_of_ble_eq_true rfl, Nat.le_of_ble_eq_true rfl⟩ (fun H locs hP hD hS => ?_)
  refine lv_istore_n (lv' := [(3, .int r7), (0, .ref (ad 0)), (1, .int p1), (2, .int p2)]) hx hb dX3_blockOrThrow_19 rfl hl (by decide) rfl (fun ls hl => ?_)
  refine lv_iload_n hx hb dX3_blockOrThrow_20 rfl (lv_at hl 0 rfl) ?_
  refine lv_iconst (v := (-1)) hx hb dX3_blockOrThrow_21 (by decide) ?_
  refine lv_icmp_ne (tgt := 36) hx hb dX3_blockOrThrow_22 (by decide) (fun c9 => ?_) (fun c9 => ?_)
  · have hf := br_neg c9 hf
    refine lv_iload_n hx hb dX3_blockOrThrow_36 rfl (lv_at hl 0 rfl) ?_
    cases hf
    exact endx_i hAe hQm hx hb hr hlocks rfl hP hD hS dX3_blockOrThrow_37 (Nat.le_of_ble_eq_true rfl) (Nat.le_of_ble_eq_true rfl)
  · have hf := br_pos c9 hf
    cases hf
    exact endn_throwW 5 rfl hAe hQm hst hx hb hts hE hown htab hlocks (by decide +kernel) q604 q44 sl30 at214 hZ (hl.1.trans hml.symm) hP hD hS dX3_blockOrThrow_25 dX3_blockOrThrow_28 dX3_blockOrThrow_29 dX3_blockOrThrow_32 dX3_blockOrThrow_35 (Nat.le_of_ble_eq_true rfl) (Nat.le_of_ble_eq_true rfl) (Nat.le_of_ble_eq_true rfl) (Nat.le_of_ble_eq_true rfl) (Nat.le_of_ble_eq_true rfl) (Nat.le_of_ble_eq_true rfl)
def f_C_read (p1 : Int32) (p2 : Int32) (nF : Int32) (nC : Nat → Int32) (nV : Nat → Int32) : Option (Except Nat Int32) :=
  (f_C_blockOrThrow p1 p2 nF nC).bind fun x1 =>
  match x1 with
  | .error n3 => some (.error n3)
  | .ok r4 =>
  (f_S_valueIn r4 nV).bind fun r5 =>
  some (.ok r5)
set_option maxHeartbeats 4000000 in
set_option maxRecDepth 100000 in
theorem m_C_read (l : Launch) (hst : l.stackTraces = false) {D : va_G} (ca : Nat → ClassId) (ad : Nat → Nat) (bq : Nat) (nF : Int32) (nO : Nat → Int32) (nL : Nat → Int32) (nA : Nat → Int32) (nC : Nat → Int32) (nV : Nat → Int32) (nU : Nat → Int32) (nP : Nat → Int32) (nE : Int32) (bF : Int32) (bO : Nat → Int32) (bL : Nat → Int32) (bA : Nat → Int32) (bC : Nat → Int32) (bV : Nat → Int32) (bU : Nat → Int32) (bP : Nat → Int32) (bE : Int32) (cT : Int32) (cK : Nat → Int32) (cO : Int32) (cQ : Nat → Int32) (cD : Int32) (pT : Int32) (pK : Int32) (pR : Nat → Int32) (pW : Nat → Int32) (pU : Nat → Int32) (pI : Nat → Int32) (pC : Nat → Nat → Int32) (uO : Int32) (uF : Nat → Int32) (uE : Nat → Int32) (uN : Nat → Int32) (wK : Nat → Int32) (jM : Int32) (jN : Int32) (jZ : Nat) (jB : Nat → Int32) (R : va_W) (sz : Nat) (p1 : Int32) (p2 : Int32) (ro : Except Nat Int32) (hf : f_C_read p1 p2 nF nC nV = some ro) : vx_Met l yX3_read (wm yX3_read cX3_read 3 (some .int)) ({ frames := 8, cells := 3, slots := 18, locals := 134 } : Room) (PREX [.ref (ad 0), .int p1, .int p2] D ca SL0 (WC ca ad bq nF nO nL nA nC nV nU nP nE bF bO bL bA bC bV bU bP bE cT cK cO cQ cD pT pK pR pW pU pI pC uO uF uE uN wK jM jN jZ jB ++ R) sz) (QXI ro D (WC ca ad bq nF nO nL nA nC nV nU nP nE bF bO bL bA bC bV bU bP bE cT cK cO cQ cD pT pK pR pW pU pI pC uO uF uE uN wK jM jN jZ jB ++ R) (WC ca ad bq nF nO nL nA nC nV nU nP nE bF bO bL bA bC bV bU bP bE cT cK cO cQ cD pT pK pR pW pU pI pC uO uF uE uN wK jM jN jZ jB ++ R) sz) (QXE ro D (WC ca ad bq nF nO nL nA nC nV nU nP nE bF bO bL bA bC bV bU bP bE cT cK cO cQ cD pT pK pR pW pU pI pC uO uF uE uN wK jM jN jZ jB ++ R) (WC ca ad bq nF nO nL nA nC nV nU nP nE bF bO bL bA bC bV bU bP bE cT cK cO cQ cD pT pK pR pW pU pI pC uO uF uE uN wK jM jN jZ jB ++ R) sz) 3 18 (va_A (WC ca ad bq nF nO nL nA nC nV nU nP nE bF bO bL bA bC bV bU bP bE cT cK cO cQ cD pT pK pR pW pU pI pC uO uF uE uN wK jM jN jZ jB ++ R) sz) := by
  refine vx_ofW (cc := cX3_read) (maxL := 3) (ret := (some .int)) (by decide) rfl ?_
  intro p e s m args below meth c s₁ B hml htab hv
  obtain ⟨rfl, rfl, hP, hE, hD0, hZ⟩ := hv
  have hx := B.exec
  have hb := B.bytes
  have hr := B.returns
  have hts := wm_ww (atoms_spec (ws := wm yX3_read cX3_read 3 (some .int)) B.pre)
  have hown : s.vm.findClass RX3 = some m.cls := findClass_of_methodNamed B.named
  have hlocks := B.notSynchronized
  have hK := hE.1
  have hD := hD0.self (sz := s.heap.size)
  generalize hAe : va_A (WC ca ad bq nF nO nL nA nC nV nU nP nE bF bO bL bA bC bV bU bP bE cT cK cO cQ cD pT pK pR pW pU pI pC uO uF uE uN wK jM jN jZ jB ++ R) s.heap.size = A at hD hZ ⊢
  have hA : ∀ q : Nat, s.heap.size ≤ q → A q := fun q h => by rw [← hAe]; exact Or.inr h
  have hS : va_S A s.heap s.heap [] := va_S.rf
  have hl := lv_entry ([.ref (ad 0), .int p1, .int p2]) (n := 3) (Nat.le_of_ble_eq_true rfl)
  rw [lg_entry_eq]
  generalize (lg_sl ([.ref (ad 0), .int p1, .int p2]) ++ List.replicate (3 - (lg_sl ([.ref (ad 0), .int p1, .int p2])).length) Slot.unset).toArray = ls at hl ⊢
  have hl : lv_has ls 3 [(0, .ref (ad 0)), (1, .int p1), (2, .int p2)] := hl
  change W p l e ({ frames := 8, cells := 3, slots := 18, locals := 134 } : Room) s m _ below meth c s.heap [] 0 0 _ _
  generalize hQm : vx_MQ below (QXI ro D (WC ca ad bq nF nO nL nA nC nV nU nP nE bF bO bL bA bC bV bU bP bE cT cK cO cQ cD pT pK pR pW pU pI pC uO uF uE uN wK jM jN jZ jB ++ R) (WC ca ad bq nF nO nL nA nC nV nU nP nE bF bO bL bA bC bV bU bP bE cT cK cO cQ cD pT pK pR pW pU pI pC uO uF uE uN wK jM jN jZ jB ++ R) s.heap.size) (QXE ro D (WC ca ad bq nF nO nL nA nC nV nU nP nE bF bO bL bA bC bV bU bP bE cT cK cO cQ cD pT pK pR pW pU pI pC uO uF uE uN wK jM jN jZ jB ++ R) (WC ca ad bq nF nO nL nA nC nV nU nP nE bF bO bL bA bC bV bU bP bE cT cK cO cQ cD pT pK pR pW pU pI pC uO uF uE uN wK jM jN jZ jB ++ R) s.heap.size) _ s 3 18 A = Qm
  have hP : va_P D vwCl (WC ca ad bq nF nO nL nA nC nV nU nP nE bF bO bL bA bC bV bU bP bE cT cK cO cQ cD pT pK pR pW pU pI pC uO uF uE uN wK jM jN jZ jB ++ R) s.heap := hP
  generalize hae : ([.ref (ad 0), .int p1, .int p2] : List Value).toArray = args at hts hQm ⊢
  refine lv_aload_n hx hb dX3_read_0 rfl (lv_at hl 0 rfl) ?_
  refine va_get (D := D) (ci := 7) (v := .ref (ad 1)) (C := RX3) (T := TX3) (N := 11) hx hb hts inX3 hown hK hP 0 rfl rfl 0 (by decide) (hts _ q182) (fun _ h9 => h9) rfl dX3_read_1 ?_
  refine lv_aload_n hx hb dX3_read_4 rfl (lv_at hl 0 rfl) ?_
  refine lv_iload_n hx hb dX3_read_5 rfl (lv_at hl 1 rfl) ?_
  refine lv_iload_n hx hb dX3_read_6 rfl (lv_at hl 2 rfl) ?_
  obtain ⟨x1, h2, hf⟩ := bnd hf
  rcases x1 with n3 | r4
  · have hf : some (.error n3) = some ro := hf
    cases hf
    exact cx_vi_err (rest := [.ref (ad 1)]) (m_C_blockOrThrow l hst ca ad bq nF nO nL nA nC nV nU nP nE bF bO bL bA bC bV bU bP bE cT cK cO cQ cD pT pK pR pW pU pI pC uO uF uE uN wK jM jN jZ jB R _ p1 p2 (.error n3) h2) ⟨hx, hb, hml, hown, hts⟩ (cwV 2 hts (gV q600 q602 q11 q24 q603) rfl rfl rfl (by decide +kernel) ⟨Nat.le_of_ble_eq_true rfl, Nat.le_of_ble_eq_true rfl⟩) (va_recv hK hP (ci := 7) (q0 := 0) rfl rfl) hE hP hD hS hA hZ rfl hl.1 rfl (lv_room (Nat.le_of_ble_eq_true rfl)) dX3_read_7 ⟨Nat.le_of_ble_eq_true rfl, Nat.le_of_ble_eq_true rfl⟩ hAe hQm htab hlocks (Nat.le_of_ble_eq_true rfl) (Nat.le_of_ble_eq_true rfl)
  refine cx_vi_ok (rest := [.ref (ad 1)]) (m_C_blockOrThrow l hst ca ad bq nF nO nL nA nC nV nU nP nE bF bO bL bA bC bV bU bP bE cT cK cO cQ cD pT pK pR pW pU pI pC uO uF uE uN wK jM jN jZ jB R _ p1 p2 (.ok r4) h2) ⟨hx, hb, hml, hown, hts⟩ (cwV 2 hts (gV q600 q602 q11 q24 q603) rfl rfl rfl (by decide +kernel) ⟨Nat.le_of_ble_eq_true rfl, Nat.le_of_ble_eq_true rfl⟩) (va_recv hK hP (ci := 7) (q0 := 0) rfl rfl) hE hP hD hS hA hZ rfl hl.1 rfl (lv_room (Nat.le_of_ble_eq_true rfl)) dX3_read_7 ⟨Nat.le_of_ble_eq_true rfl, Nat.le_of_ble_eq_true rfl⟩ (fun H locs hP hD hS => ?_)
  obtain ⟨r5, h6, hf⟩ := bnd hf
  refine call_vi (rest := []) (m_S_valueIn l ca ad bq nF nO nL nA nC nV nU nP nE bF bO bL bA bC bV bU bP bE cT cK cO cQ cD pT pK pR pW pU pI pC uO uF uE uN wK jM jN jZ jB R _ r4 r5 h6) ⟨hx, hb, hml, hown, hts⟩ (cwV 1 hts (gV q620 q621 q622 q25 q623) rfl rfl rfl (by decide +kernel) ⟨Nat.le_of_ble_eq_true rfl, Nat.le_of_ble_eq_true rfl⟩) (va_recv hK hP (ci := 6) (q0 := 1) rfl rfl) hE hP hD hS hA rfl hl.1 rfl (lv_room (Nat.le_of_ble_eq_true rfl)) dX3_read_10 ⟨Nat.le_of_ble_eq_true rfl, Nat.le_of_ble_eq_true rfl⟩ (fun H locs hP hD hS => ?_)
  cases hf
  exact endx_i hAe hQm hx hb hr hlocks rfl hP hD hS dX3_read_13 (Nat.le_of_ble_eq_true rfl) (Nat.le_of_ble_eq_true rfl)
def f_C_blockAt (p1 : Int32) (p2 : Int32) (nF : Int32) (nC : Nat → Int32) : Option (Except Nat Int32) :=
  (f_C_blockOrThrow p1 p2 nF nC).bind fun x1 =>
  match x1 with
  | .error n3 => some (.error n3)
  | .ok r4 =>
  some (.ok r4)
set_option maxHeartbeats 4000000 in
set_option maxRecDepth 100000 in
theorem m_C_blockAt (l : Launch) (hst : l.stackTraces = false) {D : va_G} (ca : Nat → ClassId) (ad : Nat → Nat) (bq : Nat) (nF : Int32) (nO : Nat → Int32) (nL : Nat → Int32) (nA : Nat → Int32) (nC : Nat → Int32) (nV : Nat → Int32) (nU : Nat → Int32) (nP : Nat → Int32) (nE : Int32) (bF : Int32) (bO : Nat → Int32) (bL : Nat → Int32) (bA : Nat → Int32) (bC : Nat → Int32) (bV : Nat → Int32) (bU : Nat → Int32) (bP : Nat → Int32) (bE : Int32) (cT : Int32) (cK : Nat → Int32) (cO : Int32) (cQ : Nat → Int32) (cD : Int32) (pT : Int32) (pK : Int32) (pR : Nat → Int32) (pW : Nat → Int32) (pU : Nat → Int32) (pI : Nat → Int32) (pC : Nat → Nat → Int32) (uO : Int32) (uF : Nat → Int32) (uE : Nat → Int32) (uN : Nat → Int32) (wK : Nat → Int32) (jM : Int32) (jN : Int32) (jZ : Nat) (jB : Nat → Int32) (R : va_W) (sz : Nat) (p1 : Int32) (p2 : Int32) (ro : Except Nat Int32) (hf : f_C_blockAt p1 p2 nF nC = some ro) : vx_Met l yX3_blockAt (wm yX3_blockAt cX3_blockAt 3 (some .int)) ({ frames := 8, cells := 3, slots := 18, locals := 134 } : Room) (PREX [.ref (ad 0), .int p1, .int p2] D ca SL0 (WC ca ad bq nF nO nL nA nC nV nU nP nE bF bO bL bA bC bV bU bP bE cT cK cO cQ cD pT pK pR pW pU pI pC uO uF uE uN wK jM jN jZ jB ++ R) sz) (QXI ro D (WC ca ad bq nF nO nL nA nC nV nU nP nE bF bO bL bA bC bV bU bP bE cT cK cO cQ cD pT pK pR pW pU pI pC uO uF uE uN wK jM jN jZ jB ++ R) (WC ca ad bq nF nO nL nA nC nV nU nP nE bF bO bL bA bC bV bU bP bE cT cK cO cQ cD pT pK pR pW pU pI pC uO uF uE uN wK jM jN jZ jB ++ R) sz) (QXE ro D (WC ca ad bq nF nO nL nA nC nV nU nP nE bF bO bL bA bC bV bU bP bE cT cK cO cQ cD pT pK pR pW pU pI pC uO uF uE uN wK jM jN jZ jB ++ R) (WC ca ad bq nF nO nL nA nC nV nU nP nE bF bO bL bA bC bV bU bP bE cT cK cO cQ cD pT pK pR pW pU pI pC uO uF uE uN wK jM jN jZ jB ++ R) sz) 3 18 (va_A (WC ca ad bq nF nO nL nA nC nV nU nP nE bF bO bL bA bC bV bU bP bE cT cK cO cQ cD pT pK pR pW pU pI pC uO uF uE uN wK jM jN jZ jB ++ R) sz) := by
  refine vx_ofW (cc := cX3_blockAt) (maxL := 3) (ret := (some .int)) (by decide) rfl ?_
  intro p e s m args below meth c s₁ B hml htab hv
  obtain ⟨rfl, rfl, hP, hE, hD0, hZ⟩ := hv
  have hx := B.exec
  have hb := B.bytes
  have hr := B.returns
  have hts := wm_ww (atoms_spec (ws := wm yX3_blockAt cX3_blockAt 3 (some .int)) B.pre)
  have hown : s.vm.findClass RX3 = some m.cls := findClass_of_methodNamed B.named
  have hlocks := B.notSynchronized
  have hK := hE.1
  have hD := hD0.self (sz := s.heap.size)
  generalize hAe : va_A (WC ca ad bq nF nO nL nA nC nV nU nP nE bF bO bL bA bC bV bU bP bE cT cK cO cQ cD pT pK pR pW pU pI pC uO uF uE uN wK jM jN jZ jB ++ R) s.heap.size = A at hD hZ ⊢
  have hA : ∀ q : Nat, s.heap.size ≤ q → A q := fun q h => by rw [← hAe]; exact Or.inr h
  have hS : va_S A s.heap s.heap [] := va_S.rf
  have hl := lv_entry ([.ref (ad 0), .int p1, .int p2]) (n := 3) (Nat.le_of_ble_eq_true rfl)
  rw [lg_entry_eq]
  generalize (lg_sl ([.ref (ad 0), .int p1, .int p2]) ++ List.replicate (3 - (lg_sl ([.ref (ad 0), .int p1, .int p2])).length) Slot.unset).toArray = ls at hl ⊢
  have hl : lv_has ls 3 [(0, .ref (ad 0)), (1, .int p1), (2, .int p2)] := hl
  change W p l e ({ frames := 8, cells := 3, slots := 18, locals := 134 } : Room) s m _ below meth c s.heap [] 0 0 _ _
  generalize hQm : vx_MQ below (QXI ro D (WC ca ad bq nF nO nL nA nC nV nU nP nE bF bO bL bA bC bV bU bP bE cT cK cO cQ cD pT pK pR pW pU pI pC uO uF uE uN wK jM jN jZ jB ++ R) (WC ca ad bq nF nO nL nA nC nV nU nP nE bF bO bL bA bC bV bU bP bE cT cK cO cQ cD pT pK pR pW pU pI pC uO uF uE uN wK jM jN jZ jB ++ R) s.heap.size) (QXE ro D (WC ca ad bq nF nO nL nA nC nV nU nP nE bF bO bL bA bC bV bU bP bE cT cK cO cQ cD pT pK pR pW pU pI pC uO uF uE uN wK jM jN jZ jB ++ R) (WC ca ad bq nF nO nL nA nC nV nU nP nE bF bO bL bA bC bV bU bP bE cT cK cO cQ cD pT pK pR pW pU pI pC uO uF uE uN wK jM jN jZ jB ++ R) s.heap.size) _ s 3 18 A = Qm
  have hP : va_P D vwCl (WC ca ad bq nF nO nL nA nC nV nU nP nE bF bO bL bA bC bV bU bP bE cT cK cO cQ cD pT pK pR pW pU pI pC uO uF uE uN wK jM jN jZ jB ++ R) s.heap := hP
  generalize hae : ([.ref (ad 0), .int p1, .int p2] : List Value).toArray = args at hts hQm ⊢
  refine lv_aload_n hx hb dX3_blockAt_0 rfl (lv_at hl 0 rfl) ?_
  refine lv_iload_n hx hb dX3_blockAt_1 rfl (lv_at hl 1 rfl) ?_
  refine lv_iload_n hx hb dX3_blockAt_2 rfl (lv_at hl 2 rfl) ?_
  obtain ⟨x1, h2, hf⟩ := bnd hf
  rcases x1 with n3 | r4
  · have hf : some (.error n3) = some ro := hf
    cases hf
    exact cx_vi_err (rest := []) (m_C_blockOrThrow l hst ca ad bq nF nO nL nA nC nV nU nP nE bF bO bL bA bC bV bU bP bE cT cK cO cQ cD pT pK pR pW pU pI pC uO uF uE uN wK jM jN jZ jB R _ p1 p2 (.error n3) h2) ⟨hx, hb, hml, hown, hts⟩ (cwV 2 hts (gV q600 q602 q11 q24 q603) rfl rfl rfl (by decide +kernel) ⟨Nat.le_of_ble_eq_true rfl, Nat.le_of_ble_eq_true rfl⟩) (va_recv hK hP (ci := 7) (q0 := 0) rfl rfl) hE hP hD hS hA hZ rfl hl.1 rfl (lv_room (Nat.le_of_ble_eq_true rfl)) dX3_blockAt_3 ⟨Nat.le_of_ble_eq_true rfl, Nat.le_of_ble_eq_true rfl⟩ hAe hQm htab hlocks (Nat.le_of_ble_eq_true rfl) (Nat.le_of_ble_eq_true rfl)
  refine cx_vi_ok (rest := []) (m_C_blockOrThrow l hst ca ad bq nF nO nL nA nC nV nU nP nE bF bO bL bA bC bV bU bP bE cT cK cO cQ cD pT pK pR pW pU pI pC uO uF uE uN wK jM jN jZ jB R _ p1 p2 (.ok r4) h2) ⟨hx, hb, hml, hown, hts⟩ (cwV 2 hts (gV q600 q602 q11 q24 q603) rfl rfl rfl (by decide +kernel) ⟨Nat.le_of_ble_eq_true rfl, Nat.le_of_ble_eq_true rfl⟩) (va_recv hK hP (ci := 7) (q0 := 0) rfl rfl) hE hP hD hS hA hZ rfl hl.1 rfl (lv_room (Nat.le_of_ble_eq_true rfl)) dX3_blockAt_3 ⟨Nat.le_of_ble_eq_true rfl, Nat.le_of_ble_eq_true rfl⟩ (fun H locs hP hD hS => ?_)
  cases hf
  exact endx_i hAe hQm hx hb hr hlocks rfl hP hD hS dX3_blockAt_6 (Nat.le_of_ble_eq_true rfl) (Nat.le_of_ble_eq_true rfl)
def f_C_blocksOf_L9 : Nat → Int32 → Int32 → Int32 → Int32 → (Nat → Int32) → Option (Int32)
  | 0, _, _, _, _, _ => none
  | fuel + 1, v1, v2, v3, nF, nC =>
    if 16 ≤ v3 then
      some v2
    else
      (f_S_blockIn v1 v3 nF nC).bind fun r9 =>
      if r9 = (-1) then
        f_C_blocksOf_L9 fuel v1 v2 (v3 + 1) nF nC
      else
        f_C_blocksOf_L9 fuel v1 (v2 + 1) (v3 + 1) nF nC
def f_C_blocksOf (p1 : Int32) (nF : Int32) (nC : Nat → Int32) : Option (Except Nat Int32) :=
  (f_C_requireFile p1 nF).bind fun x1 =>
  match x1 with
  | .error n3 => some (.error n3)
  | .ok _ =>
  (f_C_blocksOf_L9 FU p1 0 0 nF nC).bind fun x13 =>
  some (.ok x13)
set_option maxHeartbeats 4000000 in
set_option maxRecDepth 100000 in
theorem m_C_blocksOf (l : Launch) (hst : l.stackTraces = false) {D : va_G} (ca : Nat → ClassId) (ad : Nat → Nat) (bq : Nat) (nF : Int32) (nO : Nat → Int32) (nL : Nat → Int32) (nA : Nat → Int32) (nC : Nat → Int32) (nV : Nat → Int32) (nU : Nat → Int32) (nP : Nat → Int32) (nE : Int32) (bF : Int32) (bO : Nat → Int32) (bL : Nat → Int32) (bA : Nat → Int32) (bC : Nat → Int32) (bV : Nat → Int32) (bU : Nat → Int32) (bP : Nat → Int32) (bE : Int32) (cT : Int32) (cK : Nat → Int32) (cO : Int32) (cQ : Nat → Int32) (cD : Int32) (pT : Int32) (pK : Int32) (pR : Nat → Int32) (pW : Nat → Int32) (pU : Nat → Int32) (pI : Nat → Int32) (pC : Nat → Nat → Int32) (uO : Int32) (uF : Nat → Int32) (uE : Nat → Int32) (uN : Nat → Int32) (wK : Nat → Int32) (jM : Int32) (jN : Int32) (jZ : Nat) (jB : Nat → Int32) (R : va_W) (sz : Nat) (p1 : Int32) (ro : Except Nat Int32) (hf : f_C_blocksOf p1 nF nC = some ro) : vx_Met l yX3_blocksOf (wm yX3_blocksOf cX3_blocksOf 4 (some .int)) ({ frames := 7, cells := 1, slots := 6, locals := 111 } : Room) (PREX [.ref (ad 0), .int p1] D ca SL0 (WC ca ad bq nF nO nL nA nC nV nU nP nE bF bO bL bA bC bV bU bP bE cT cK cO cQ cD pT pK pR pW pU pI pC uO uF uE uN wK jM jN jZ jB ++ R) sz) (QXI ro D (WC ca ad bq nF nO nL nA nC nV nU nP nE bF bO bL bA bC bV bU bP bE cT cK cO cQ cD pT pK pR pW pU pI pC uO uF uE uN wK jM jN jZ jB ++ R) (WC ca ad bq nF nO nL nA nC nV nU nP nE bF bO bL bA bC bV bU bP bE cT cK cO cQ cD pT pK pR pW pU pI pC uO uF uE uN wK jM jN jZ jB ++ R) sz) (QXE ro D (WC ca ad bq nF nO nL nA nC nV nU nP nE bF bO bL bA bC bV bU bP bE cT cK cO cQ cD pT pK pR pW pU pI pC uO uF uE uN wK jM jN jZ jB ++ R) (WC ca ad bq nF nO nL nA nC nV nU nP nE bF bO bL bA bC bV bU bP bE cT cK cO cQ cD pT pK pR pW pU pI pC uO uF uE uN wK jM jN jZ jB ++ R) sz) 1 6 (va_A (WC ca ad bq nF nO nL nA nC nV nU nP nE bF bO bL bA bC bV bU bP bE cT cK cO cQ cD pT pK pR pW pU pI pC uO uF uE uN wK jM jN jZ jB ++ R) sz) := by
  refine vx_ofW (cc := cX3_blocksOf) (maxL := 4) (ret := (some .int)) (by decide) rfl ?_
  intro p e s m args below meth c s₁ B hml htab hv
  obtain ⟨rfl, rfl, hP, hE, hD0, hZ⟩ := hv
  have hx := B.exec
  have hb := B.bytes
  have hr := B.returns
  have hts := wm_ww (atoms_spec (ws := wm yX3_blocksOf cX3_blocksOf 4 (some .int)) B.pre)
  have hown : s.vm.findClass RX3 = some m.cls := findClass_of_methodNamed B.named
  have hlocks := B.notSynchronized
  have hK := hE.1
  have hD := hD0.self (sz := s.heap.size)
  generalize hAe : va_A (WC ca ad bq nF nO nL nA nC nV nU nP nE bF bO bL bA bC bV bU bP bE cT cK cO cQ cD pT pK pR pW pU pI pC uO uF uE uN wK jM jN jZ jB ++ R) s.heap.size = A at hD hZ ⊢
  have hA : ∀ q : Nat, s.heap.size ≤ q → A q := fun q h => by rw [← hAe]; exact Or.inr h
  have hS : va_S A s.heap s.heap [] := va_S.rf
  have hl := lv_entry ([.ref (ad 0), .int p1]) (n := 4) (Nat.le_of_ble_eq_true rfl)
  rw [lg_entry_eq]
  generalize (lg_sl ([.ref (ad 0), .int p1]) ++ List.replicate (4 - (lg_sl ([.ref (ad 0), .int p1])).length) Slot.unset).toArray = ls at hl ⊢
  have hl : lv_has ls 4 [(0, .ref (ad 0)), (1, .int p1)] := hl
  change W p l e ({ frames := 7, cells := 1, slots := 6, locals := 111 } : Room) s m _ below meth c s.heap [] 0 0 _ _
  generalize hQm : vx_MQ below (QXI ro D (WC ca ad bq nF nO nL nA nC nV nU nP nE bF bO bL bA bC bV bU bP bE cT cK cO cQ cD pT pK pR pW pU pI pC uO uF uE uN wK jM jN jZ jB ++ R) (WC ca ad bq nF nO nL nA nC nV nU nP nE bF bO bL bA bC bV bU bP bE cT cK cO cQ cD pT pK pR pW pU pI pC uO uF uE uN wK jM jN jZ jB ++ R) s.heap.size) (QXE ro D (WC ca ad bq nF nO nL nA nC nV nU nP nE bF bO bL bA bC bV bU bP bE cT cK cO cQ cD pT pK pR pW pU pI pC uO uF uE uN wK jM jN jZ jB ++ R) (WC ca ad bq nF nO nL nA nC nV nU nP nE bF bO bL bA bC bV bU bP bE cT cK cO cQ cD pT pK pR pW pU pI pC uO uF uE uN wK jM jN jZ jB ++ R) s.heap.size) _ s 1 6 A = Qm
  have hP : va_P D vwCl (WC ca ad bq nF nO nL nA nC nV nU nP nE bF bO bL bA bC bV bU bP bE cT cK cO cQ cD pT pK pR pW pU pI pC uO uF uE uN wK jM jN jZ jB ++ R) s.heap := hP
  generalize hae : ([.ref (ad 0), .int p1] : List Value).toArray = args at hts hQm ⊢
  have L9 : ∀ (n : Nat) (v1 : Int32) (v2 : Int32) (v3 : Int32) (y2 : Int32), f_C_blocksOf_L9 n v1 v2 v3 nF nC = some y2 → ∀ (H : Heap) (locs : List Loc) (ls : Array Slot), va_P D vwCl (WC ca ad bq nF nO nL nA nC nV nU nP nE bF bO bL bA bC bV bU bP bE cT cK cO cQ cD pT pK pR pW pU pI pC uO uF uE uN wK jM jN jZ jB ++ R) H → va_D A (WC ca ad bq nF nO nL nA nC nV nU nP nE bF bO bL bA bC bV bU bP bE cT cK cO cQ cD pT pK pR pW pU pI pC uO uF uE uN wK jM jN jZ jB ++ R) → va_S A s.heap H locs → lv_has ls 4 [(0, .ref (ad 0)), (1, .int v1), (2, .int v2), (3, .int v3)] → (∀ (H : Heap) (locs : List Loc) (ls : Array Slot), va_P D vwCl (WC ca ad bq nF nO nL nA nC nV nU nP nE bF bO bL bA bC bV bU bP bE cT cK cO cQ cD pT pK pR pW pU pI pC uO uF uE uN wK jM jN jZ jB ++ R) H → va_D A (WC ca ad bq nF nO nL nA nC nV nU nP nE bF bO bL bA bC bV bU bP bE cT cK cO cQ cD pT pK pR pW pU pI pC uO uF uE uN wK jM jN jZ jB ++ R) → va_S A s.heap H locs → lv_has ls 4 [(2, .int y2)] → W p l e ({ frames := 7, cells := 1, slots := 6, locals := 111 } : Room) s m args below meth c H locs 1 6 Qm (F0 m 37 ls [])) → W p l e ({ frames := 7, cells := 1, slots := 6, locals := 111 } : Room) s m args below meth c H locs 1 6 Qm (F0 m 9 ls []) := by
    intro n
    induction n with
    | zero => intro v1 v2 v3 y2 hf; cases hf
    | succ n ih =>
      intro v1 v2 v3 y2 hf H locs ls hP hD hS hl kk
      unfold f_C_blocksOf_L9 at hf
      refine lv_iload_n hx hb dX3_blocksOf_9 rfl (lv_at hl 3 rfl) ?_
      refine lv_bipush (v := 16) hx hb dX3_blocksOf_10 (by decide) ?_
      refine lv_icmp_ge (tgt := 37) hx hb dX3_blocksOf_12 (by decide) (fun c8 => ?_) (fun c8 => ?_)
      · have hf := br_pos c8 hf
        cases hf
        exact kk _ _ _ hP hD hS (lv_sub hl [2] rfl)
      · have hf := br_neg c8 hf
        refine lv_aload_n hx hb dX3_blocksOf_15 rfl (lv_at hl 0 rfl) ?_
        refine va_get (D := D) (ci := 7) (v := .ref (ad 1)) (C := RX3) (T := TX3) (N := 11) hx hb hts inX3 hown hK hP 0 rfl rfl 0 (by decide) (hts _ q182) (fun _ h9 => h9) rfl dX3_blocksOf_16 ?_
        refine lv_iload_n hx hb dX3_blocksOf_19 rfl (lv_at hl 1 rfl) ?_
        refine lv_iload_n hx hb dX3_blocksOf_20 rfl (lv_at hl 3 rfl) ?_
        obtain ⟨r9, h10, hf⟩ := bnd hf
        refine call_vi (rest := []) (m_S_blockIn l ca ad bq nF nO nL nA nC nV nU nP nE bF bO bL bA bC bV bU bP bE cT cK cO cQ cD pT pK pR pW pU pI pC uO uF uE uN wK jM jN jZ jB R _ v1 v3 r9 h10) ⟨hx, hb, hml, hown, hts⟩ (cwV 2 hts (gV q508 q509 q510 q25 q511) rfl rfl rfl (by decide +kernel) ⟨Nat.le_of_ble_eq_true rfl, Nat.le_of_ble_eq_true rfl⟩) (va_recv hK hP (ci := 6) (q0 := 1) rfl rfl) hE hP hD hS hA rfl hl.1 rfl (lv_room (Nat.le_of_ble_eq_true rfl)) dX3_blocksOf_21 ⟨Nat.le_of_ble_eq_true rfl, Nat.le_of_ble_eq_true rfl⟩ (fun H locs hP hD hS => ?_)
        refine lv_iconst (v := (-1)) hx hb dX3_blocksOf_24 (by decide) ?_
        refine lv_icmp_eq (tgt := 31) hx hb dX3_blocksOf_25 (by decide) (fun c11 => ?_) (fun c11 => ?_)
        · have hf := br_pos c11 hf
          refine lv_iinc (v := (v3 + 1)) (lv' := [(3, .int (v3 + 1)), (0, .ref (ad 0)), (1, .int v1), (2, .int v2)]) hx hb dX3_blocksOf_31 hl (k := 3) rfl rfl (by decide) rfl (fun ls hl => ?_)
          refine lv_goto (tgt := 9) hx hb dX3_blocksOf_34 (by decide) ?_
          exact ih v1 v2 (v3 + 1) _ hf _ _ _ hP hD hS (lv_sub hl [1, 2, 3, 0] rfl) kk
        · have hf := br_neg c11 hf
          refine lv_iinc (v := (v2 + 1)) (lv' := [(2, .int (v2 + 1)), (0, .ref (ad 0)), (1, .int v1), (3, .int v3)]) hx hb dX3_blocksOf_28 hl (k := 2) rfl rfl (by decide) rfl (fun ls hl => ?_)
          refine lv_iinc (v := (v3 + 1)) (lv' := [(3, .int (v3 + 1)), (2, .int (v2 + 1)), (0, .ref (ad 0)), (1, .int v1)]) hx hb dX3_blocksOf_31 hl (k := 3) rfl rfl (by decide) rfl (fun ls hl => ?_)
          refine lv_goto (tgt := 9) hx hb dX3_blocksOf_34 (by decide) ?_
          exact ih v1 (v2 + 1) (v3 + 1) _ hf _ _ _ hP hD hS (lv_sub hl [2, 3, 1, 0] rfl) kk
  refine lv_aload_n hx hb dX3_blocksOf_0 rfl (lv_at hl 0 rfl) ?_
  refine lv_iload_n hx hb dX3_blocksOf_1 rfl (lv_at hl 1 rfl) ?_
  obtain ⟨x1, h2, hf⟩ := bnd hf
  rcases x1 with n3 | _
  · have hf : some (.error n3) = some ro := hf
    cases hf
    exact cx_vv_err (rest := []) (m_C_requireFile l hst ca ad bq nF nO nL nA nC nV nU nP nE bF bO bL bA bC bV bU bP bE cT cK cO cQ cD pT pK pR pW pU pI pC uO uF uE uN wK jM jN jZ jB R _ p1 (.error n3) h2) ⟨hx, hb, hml, hown, hts⟩ (cwV 1 hts (gV q420 q422 q5 q24 q423) rfl rfl rfl (by decide +kernel) ⟨Nat.le_of_ble_eq_true rfl, Nat.le_of_ble_eq_true rfl⟩) (va_recv hK hP (ci := 7) (q0 := 0) rfl rfl) hE hP hD hS hA hZ rfl hl.1 rfl (lv_room (Nat.le_of_ble_eq_true rfl)) dX3_blocksOf_2 ⟨Nat.le_of_ble_eq_true rfl, Nat.le_of_ble_eq_true rfl⟩ hAe hQm htab hlocks (Nat.le_of_ble_eq_true rfl) (Nat.le_of_ble_eq_true rfl)
  refine cx_vv_ok (rest := []) (m_C_requireFile l hst ca ad bq nF nO nL nA nC nV nU nP nE bF bO bL bA bC bV bU bP bE cT cK cO cQ cD pT pK pR pW pU pI pC uO uF uE uN wK jM jN jZ jB R _ p1 (.ok ()) h2) ⟨hx, hb, hml, hown, hts⟩ (cwV 1 hts (gV q420 q422 q5 q24 q423) rfl rfl rfl (by decide +kernel) ⟨Nat.le_of_ble_eq_true rfl, Nat.le_of_ble_eq_true rfl⟩) (va_recv hK hP (ci := 7) (q0 := 0) rfl rfl) hE hP hD hS hA hZ rfl hl.1 rfl (lv_room (Nat.le_of_ble_eq_true rfl)) dX3_blocksOf_2 ⟨Nat.le_of_ble_eq_true rfl, Nat.le_of_ble_eq_true rfl⟩ (fun H locs hP hD hS => ?_)
  refine lv_iconst (v := 0) hx hb dX3_blocksOf_5 (by decide) ?_
  refine lv_istore_n (lv' := [(2, .int 0), (0, .ref (ad 0)), (1, .int p1)]) hx hb dX3_blocksOf_6 rfl hl (by decide) rfl (fun ls hl => ?_)
  refine lv_iconst (v := 0) hx hb dX3_blocksOf_7 (by decide) ?_
  refine lv_istore_n (lv' := [(3, .int 0), (2, .int 0), (0, .ref (ad 0)), (1, .int p1)]) hx hb dX3_blocksOf_8 rfl hl (by decide) rfl (fun ls hl => ?_)
  obtain ⟨x13, h12, hf⟩ := bnd hf
  refine L9 FU p1 0 0 x13 h12 _ _ _ hP hD hS (lv_sub hl [2, 3, 1, 0] rfl) (fun H locs ls hP hD hS hl => ?_)
  refine lv_iload_n hx hb dX3_blocksOf_37 rfl (lv_at hl 0 rfl) ?_
  cases hf
  exact endx_i hAe hQm hx hb hr hlocks rfl hP hD hS dX3_blocksOf_38 (Nat.le_of_ble_eq_true rfl) (Nat.le_of_ble_eq_true rfl)
def f_C_usedBy (p1 : Int32) (nF : Int32) (nO : Nat → Int32) (nC : Nat → Int32) (cO : Int32) : Option (Except Nat Int32) :=
  (f_C_requireOwner p1 cO).bind fun x1 =>
  match x1 with
  | .error n3 => some (.error n3)
  | .ok _ =>
  (f_S_blocksOfOwner p1 (-1) nF nO nC).bind fun r4 =>
  (f_J13_bitCount_95d88 r4).bind fun r6 =>
  some (.ok r6)
set_option maxHeartbeats 4000000 in
set_option maxRecDepth 100000 in
theorem m_C_usedBy (l : Launch) (hst : l.stackTraces = false) {D : va_G} (ca : Nat → ClassId) (ad : Nat → Nat) (bq : Nat) (nF : Int32) (nO : Nat → Int32) (nL : Nat → Int32) (nA : Nat → Int32) (nC : Nat → Int32) (nV : Nat → Int32) (nU : Nat → Int32) (nP : Nat → Int32) (nE : Int32) (bF : Int32) (bO : Nat → Int32) (bL : Nat → Int32) (bA : Nat → Int32) (bC : Nat → Int32) (bV : Nat → Int32) (bU : Nat → Int32) (bP : Nat → Int32) (bE : Int32) (cT : Int32) (cK : Nat → Int32) (cO : Int32) (cQ : Nat → Int32) (cD : Int32) (pT : Int32) (pK : Int32) (pR : Nat → Int32) (pW : Nat → Int32) (pU : Nat → Int32) (pI : Nat → Int32) (pC : Nat → Nat → Int32) (uO : Int32) (uF : Nat → Int32) (uE : Nat → Int32) (uN : Nat → Int32) (wK : Nat → Int32) (jM : Int32) (jN : Int32) (jZ : Nat) (jB : Nat → Int32) (R : va_W) (sz : Nat) (p1 : Int32) (ro : Except Nat Int32) (hf : f_C_usedBy p1 nF nO nC cO = some ro) : vx_Met l yX3_usedBy (wm yX3_usedBy cX3_usedBy 2 (some .int)) ({ frames := 7, cells := 1, slots := 6, locals := 111 } : Room) (PREX [.ref (ad 0), .int p1] D ca SL0 (WC ca ad bq nF nO nL nA nC nV nU nP nE bF bO bL bA bC bV bU bP bE cT cK cO cQ cD pT pK pR pW pU pI pC uO uF uE uN wK jM jN jZ jB ++ R) sz) (QXI ro D (WC ca ad bq nF nO nL nA nC nV nU nP nE bF bO bL bA bC bV bU bP bE cT cK cO cQ cD pT pK pR pW pU pI pC uO uF uE uN wK jM jN jZ jB ++ R) (WC ca ad bq nF nO nL nA nC nV nU nP nE bF bO bL bA bC bV bU bP bE cT cK cO cQ cD pT pK pR pW pU pI pC uO uF uE uN wK jM jN jZ jB ++ R) sz) (QXE ro D (WC ca ad bq nF nO nL nA nC nV nU nP nE bF bO bL bA bC bV bU bP bE cT cK cO cQ cD pT pK pR pW pU pI pC uO uF uE uN wK jM jN jZ jB ++ R) (WC ca ad bq nF nO nL nA nC nV nU nP nE bF bO bL bA bC bV bU bP bE cT cK cO cQ cD pT pK pR pW pU pI pC uO uF uE uN wK jM jN jZ jB ++ R) sz) 1 6 (va_A (WC ca ad bq nF nO nL nA nC nV nU nP nE bF bO bL bA bC bV bU bP bE cT cK cO cQ cD pT pK pR pW pU pI pC uO uF uE uN wK jM jN jZ jB ++ R) sz) := by
  refine vx_ofW (cc := cX3_usedBy) (maxL := 2) (ret := (some .int)) (by decide) rfl ?_
  intro p e s m args below meth c s₁ B hml htab hv
  obtain ⟨rfl, rfl, hP, hE, hD0, hZ⟩ := hv
  have hx := B.exec
  have hb := B.bytes
  have hr := B.returns
  have hts := wm_ww (atoms_spec (ws := wm yX3_usedBy cX3_usedBy 2 (some .int)) B.pre)
  have hown : s.vm.findClass RX3 = some m.cls := findClass_of_methodNamed B.named
  have hlocks := B.notSynchronized
  have hK := hE.1
  have hD := hD0.self (sz := s.heap.size)
  generalize hAe : va_A (WC ca ad bq nF nO nL nA nC nV nU nP nE bF bO bL bA bC bV bU bP bE cT cK cO cQ cD pT pK pR pW pU pI pC uO uF uE uN wK jM jN jZ jB ++ R) s.heap.size = A at hD hZ ⊢
  have hA : ∀ q : Nat, s.heap.size ≤ q → A q := fun q h => by rw [← hAe]; exact Or.inr h
  have hS : va_S A s.heap s.heap [] := va_S.rf
  have hl := lv_entry ([.ref (ad 0), .int p1]) (n := 2) (Nat.le_of_ble_eq_true rfl)
  rw [lg_entry_eq]
  generalize (lg_sl ([.ref (ad 0), .int p1]) ++ List.replicate (2 - (lg_sl ([.ref (ad 0), .int p1])).length) Slot.unset).toArray = ls at hl ⊢
  have hl : lv_has ls 2 [(0, .ref (ad 0)), (1, .int p1)] := hl
  change W p l e ({ frames := 7, cells := 1, slots := 6, locals := 111 } : Room) s m _ below meth c s.heap [] 0 0 _ _
  generalize hQm : vx_MQ below (QXI ro D (WC ca ad bq nF nO nL nA nC nV nU nP nE bF bO bL bA bC bV bU bP bE cT cK cO cQ cD pT pK pR pW pU pI pC uO uF uE uN wK jM jN jZ jB ++ R) (WC ca ad bq nF nO nL nA nC nV nU nP nE bF bO bL bA bC bV bU bP bE cT cK cO cQ cD pT pK pR pW pU pI pC uO uF uE uN wK jM jN jZ jB ++ R) s.heap.size) (QXE ro D (WC ca ad bq nF nO nL nA nC nV nU nP nE bF bO bL bA bC bV bU bP bE cT cK cO cQ cD pT pK pR pW pU pI pC uO uF uE uN wK jM jN jZ jB ++ R) (WC ca ad bq nF nO nL nA nC nV nU nP nE bF bO bL bA bC bV bU bP bE cT cK cO cQ cD pT pK pR pW pU pI pC uO uF uE uN wK jM jN jZ jB ++ R) s.heap.size) _ s 1 6 A = Qm
  have hP : va_P D vwCl (WC ca ad bq nF nO nL nA nC nV nU nP nE bF bO bL bA bC bV bU bP bE cT cK cO cQ cD pT pK pR pW pU pI pC uO uF uE uN wK jM jN jZ jB ++ R) s.heap := hP
  generalize hae : ([.ref (ad 0), .int p1] : List Value).toArray = args at hts hQm ⊢
  refine lv_aload_n hx hb dX3_usedBy_0 rfl (lv_at hl 0 rfl) ?_
  refine lv_iload_n hx hb dX3_usedBy_1 rfl (lv_at hl 1 rfl) ?_
  obtain ⟨x1, h2, hf⟩ := bnd hf
  rcases x1 with n3 | _
  · have hf : some (.error n3) = some ro := hf
    cases hf
    exact cx_vv_err (rest := []) (m_C_requireOwner l hst ca ad bq nF nO nL nA nC nV nU nP nE bF bO bL bA bC bV bU bP bE cT cK cO cQ cD pT pK pR pW pU pI pC uO uF uE uN wK jM jN jZ jB R _ p1 (.error n3) h2) ⟨hx, hb, hml, hown, hts⟩ (cwV 1 hts (gV q386 q388 q3 q24 q389) rfl rfl rfl (by decide +kernel) ⟨Nat.le_of_ble_eq_true rfl, Nat.le_of_ble_eq_true rfl⟩) (va_recv hK hP (ci := 7) (q0 := 0) rfl rfl) hE hP hD hS hA hZ rfl hl.1 rfl (lv_room (Nat.le_of_ble_eq_true rfl)) dX3_usedBy_2 ⟨Nat.le_of_ble_eq_true rfl, Nat.le_of_ble_eq_true rfl⟩ hAe hQm htab hlocks (Nat.le_of_ble_eq_true rfl) (Nat.le_of_ble_eq_true rfl)
  refine cx_vv_ok (rest := []) (m_C_requireOwner l hst ca ad bq nF nO nL nA nC nV nU nP nE bF bO bL bA bC bV bU bP bE cT cK cO cQ cD pT pK pR pW pU pI pC uO uF uE uN wK jM jN jZ jB R _ p1 (.ok ()) h2) ⟨hx, hb, hml, hown, hts⟩ (cwV 1 hts (gV q386 q388 q3 q24 q389) rfl rfl rfl (by decide +kernel) ⟨Nat.le_of_ble_eq_true rfl, Nat.le_of_ble_eq_true rfl⟩) (va_recv hK hP (ci := 7) (q0 := 0) rfl rfl) hE hP hD hS hA hZ rfl hl.1 rfl (lv_room (Nat.le_of_ble_eq_true rfl)) dX3_usedBy_2 ⟨Nat.le_of_ble_eq_true rfl, Nat.le_of_ble_eq_true rfl⟩ (fun H locs hP hD hS => ?_)
  refine lv_aload_n hx hb dX3_usedBy_5 rfl (lv_at hl 0 rfl) ?_
  refine va_get (D := D) (ci := 7) (v := .ref (ad 1)) (C := RX3) (T := TX3) (N := 11) hx hb hts inX3 hown hK hP 0 rfl rfl 0 (by decide) (hts _ q182) (fun _ h9 => h9) rfl dX3_usedBy_6 ?_
  refine lv_iload_n hx hb dX3_usedBy_9 rfl (lv_at hl 1 rfl) ?_
  refine lv_iconst (v := (-1)) hx hb dX3_usedBy_10 (by decide) ?_
  obtain ⟨r4, h5, hf⟩ := bnd hf
  refine call_vl (rest := []) (m_S_blocksOfOwner l ca ad bq nF nO nL nA nC nV nU nP nE bF bO bL bA bC bV bU bP bE cT cK cO cQ cD pT pK pR pW pU pI pC uO uF uE uN wK jM jN jZ jB R _ p1 (-1) r4 h5) ⟨hx, hb, hml, hown, hts⟩ (cwV 2 hts (gV q524 q525 q526 q25 q527) rfl rfl rfl (by decide +kernel) ⟨Nat.le_of_ble_eq_true rfl, Nat.le_of_ble_eq_true rfl⟩) (va_recv hK hP (ci := 6) (q0 := 1) rfl rfl) hE hP hD hS hA rfl hl.1 rfl (lv_room (Nat.le_of_ble_eq_true rfl)) dX3_usedBy_11 ⟨Nat.le_of_ble_eq_true rfl, Nat.le_of_ble_eq_true rfl⟩ (fun H locs hP hD hS => ?_)
  obtain ⟨r6, h7, hf⟩ := bnd hf
  refine call_si (rest := []) (m_J13_bitCount_95d88 l ca ad bq nF nO nL nA nC nV nU nP nE bF bO bL bA bC bV bU bP bE cT cK cO cQ cD pT pK pR pW pU pI pC uO uF uE uN wK jM jN jZ jB R _ r4 r6 h7) ⟨hx, hb, hml, hown, hts⟩ (va_cwS 1 hts (gS q535 q536 q41 q537) rfl rfl rfl (by decide +kernel) ⟨Nat.le_of_ble_eq_true rfl, Nat.le_of_ble_eq_true rfl⟩) hE hP hD hS hA rfl hl.1 rfl (lv_room (Nat.le_of_ble_eq_true rfl)) dX3_usedBy_14 ⟨Nat.le_of_ble_eq_true rfl, Nat.le_of_ble_eq_true rfl⟩ (fun H locs hP hD hS => ?_)
  cases hf
  exact endx_i hAe hQm hx hb hr hlocks rfl hP hD hS dX3_usedBy_17 (Nat.le_of_ble_eq_true rfl) (Nat.le_of_ble_eq_true rfl)
def f_C_free (nU : Nat → Int32) : Option (Int32) :=
  (f_S_freeTotal nU).bind fun r1 =>
  some r1
set_option maxHeartbeats 4000000 in
set_option maxRecDepth 100000 in
theorem m_C_free (l : Launch) {D : va_G} {sl : List (String × Nat × String)} (ca : Nat → ClassId) (ad : Nat → Nat) (bq : Nat) (nF : Int32) (nO : Nat → Int32) (nL : Nat → Int32) (nA : Nat → Int32) (nC : Nat → Int32) (nV : Nat → Int32) (nU : Nat → Int32) (nP : Nat → Int32) (nE : Int32) (bF : Int32) (bO : Nat → Int32) (bL : Nat → Int32) (bA : Nat → Int32) (bC : Nat → Int32) (bV : Nat → Int32) (bU : Nat → Int32) (bP : Nat → Int32) (bE : Int32) (cT : Int32) (cK : Nat → Int32) (cO : Int32) (cQ : Nat → Int32) (cD : Int32) (pT : Int32) (pK : Int32) (pR : Nat → Int32) (pW : Nat → Int32) (pU : Nat → Int32) (pI : Nat → Int32) (pC : Nat → Nat → Int32) (uO : Int32) (uF : Nat → Int32) (uE : Nat → Int32) (uN : Nat → Int32) (wK : Nat → Int32) (jM : Int32) (jN : Int32) (jZ : Nat) (jB : Nat → Int32) (R : va_W) (sz : Nat) (ro : Int32) (hf : f_C_free nU = some ro) : Met l yX3_free (wm yX3_free cX3_free 1 (some .int)) ({ frames := 1, cells := 0, slots := 0, locals := 22 } : Room) (PRE [.ref (ad 0)] D ca sl (WC ca ad bq nF nO nL nA nC nV nU nP nE bF bO bL bA bC bV bU bP bE cT cK cO cQ cD pT pK pR pW pU pI pC uO uF uE uN wK jM jN jZ jB ++ R) sz) (QI ro D (WC ca ad bq nF nO nL nA nC nV nU nP nE bF bO bL bA bC bV bU bP bE cT cK cO cQ cD pT pK pR pW pU pI pC uO uF uE uN wK jM jN jZ jB ++ R) (WC ca ad bq nF nO nL nA nC nV nU nP nE bF bO bL bA bC bV bU bP bE cT cK cO cQ cD pT pK pR pW pU pI pC uO uF uE uN wK jM jN jZ jB ++ R) sz) 0 0 (va_A (WC ca ad bq nF nO nL nA nC nV nU nP nE bF bO bL bA bC bV bU bP bE cT cK cO cQ cD pT pK pR pW pU pI pC uO uF uE uN wK jM jN jZ jB ++ R) sz) := by
  refine Met.ofW (cc := cX3_free) (maxL := 1) (ret := (some .int)) (by decide) rfl ?_
  intro p e s m args below meth c s₁ B hml hv
  obtain ⟨rfl, rfl, hP, hE, hD0⟩ := hv
  have hx := B.exec
  have hb := B.bytes
  have hr := B.returns
  have hts := wm_ww (atoms_spec (ws := wm yX3_free cX3_free 1 (some .int)) B.pre)
  have hown : s.vm.findClass RX3 = some m.cls := findClass_of_methodNamed B.named
  have hlocks := B.notSynchronized
  have hK := hE.1
  have hD := hD0.self (sz := s.heap.size)
  generalize hAe : va_A (WC ca ad bq nF nO nL nA nC nV nU nP nE bF bO bL bA bC bV bU bP bE cT cK cO cQ cD pT pK pR pW pU pI pC uO uF uE uN wK jM jN jZ jB ++ R) s.heap.size = A at hD ⊢
  have hA : ∀ q : Nat, s.heap.size ≤ q → A q := fun q h => by rw [← hAe]; exact Or.inr h
  have hS : va_S A s.heap s.heap [] := va_S.rf
  have hl := lv_entry ([.ref (ad 0)]) (n := 1) (Nat.le_of_ble_eq_true rfl)
  rw [lg_entry_eq]
  generalize (lg_sl ([.ref (ad 0)]) ++ List.replicate (1 - (lg_sl ([.ref (ad 0)])).length) Slot.unset).toArray = ls at hl ⊢
  have hl : lv_has ls 1 [(0, .ref (ad 0))] := hl
  change W p l e ({ frames := 1, cells := 0, slots := 0, locals := 22 } : Room) s m _ below meth c s.heap [] 0 0 _ _
  generalize hQm : MQ below (QI ro D (WC ca ad bq nF nO nL nA nC nV nU nP nE bF bO bL bA bC bV bU bP bE cT cK cO cQ cD pT pK pR pW pU pI pC uO uF uE uN wK jM jN jZ jB ++ R) (WC ca ad bq nF nO nL nA nC nV nU nP nE bF bO bL bA bC bV bU bP bE cT cK cO cQ cD pT pK pR pW pU pI pC uO uF uE uN wK jM jN jZ jB ++ R) s.heap.size) _ s 0 0 A = Qm
  have hP : va_P D vwCl (WC ca ad bq nF nO nL nA nC nV nU nP nE bF bO bL bA bC bV bU bP bE cT cK cO cQ cD pT pK pR pW pU pI pC uO uF uE uN wK jM jN jZ jB ++ R) s.heap := hP
  generalize hae : ([.ref (ad 0)] : List Value).toArray = args at hts hQm ⊢
  refine lv_aload_n hx hb dX3_free_0 rfl (lv_at hl 0 rfl) ?_
  refine va_get (D := D) (ci := 7) (v := .ref (ad 1)) (C := RX3) (T := TX3) (N := 11) hx hb hts inX3 hown hK hP 0 rfl rfl 0 (by decide) (hts _ q182) (fun _ h9 => h9) rfl dX3_free_1 ?_
  obtain ⟨r1, h2, hf⟩ := bnd hf
  refine call_vi (rest := []) (m_S_freeTotal l ca ad bq nF nO nL nA nC nV nU nP nE bF bO bL bA bC bV bU bP bE cT cK cO cQ cD pT pK pR pW pU pI pC uO uF uE uN wK jM jN jZ jB R _ r1 h2) ⟨hx, hb, hml, hown, hts⟩ (cwV 0 hts (gV q561 q562 q563 q25 q564) rfl rfl rfl (by decide +kernel) ⟨Nat.le_of_ble_eq_true rfl, Nat.le_of_ble_eq_true rfl⟩) (va_recv hK hP (ci := 6) (q0 := 1) rfl rfl) hE hP hD hS hA rfl hl.1 rfl (lv_room (Nat.le_of_ble_eq_true rfl)) dX3_free_4 ⟨Nat.le_of_ble_eq_true rfl, Nat.le_of_ble_eq_true rfl⟩ (fun H locs hP hD hS => ?_)
  cases hf
  exact end_i hAe hQm hx hb hr hlocks rfl hP hD hS dX3_free_7
def f_C_requireBlock (p1 : Int32) : Option (Except Nat Unit) :=
  (f_C_isBlock p1).bind fun r1 =>
  if r1 = 0 then
    some (.error 3)
  else
    some (.ok ())
set_option maxHeartbeats 4000000 in
set_option maxRecDepth 100000 in
theorem m_C_requireBlock (l : Launch) (hst : l.stackTraces = false) {D : va_G} (ca : Nat → ClassId) (ad : Nat → Nat) (bq : Nat) (nF : Int32) (nO : Nat → Int32) (nL : Nat → Int32) (nA : Nat → Int32) (nC : Nat → Int32) (nV : Nat → Int32) (nU : Nat → Int32) (nP : Nat → Int32) (nE : Int32) (bF : Int32) (bO : Nat → Int32) (bL : Nat → Int32) (bA : Nat → Int32) (bC : Nat → Int32) (bV : Nat → Int32) (bU : Nat → Int32) (bP : Nat → Int32) (bE : Int32) (cT : Int32) (cK : Nat → Int32) (cO : Int32) (cQ : Nat → Int32) (cD : Int32) (pT : Int32) (pK : Int32) (pR : Nat → Int32) (pW : Nat → Int32) (pU : Nat → Int32) (pI : Nat → Int32) (pC : Nat → Nat → Int32) (uO : Int32) (uF : Nat → Int32) (uE : Nat → Int32) (uN : Nat → Int32) (wK : Nat → Int32) (jM : Int32) (jN : Int32) (jZ : Nat) (jB : Nat → Int32) (R : va_W) (sz : Nat) (p1 : Int32) (ro : Except Nat Unit) (hf : f_C_requireBlock p1 = some ro) : vx_Met l yX3_requireBlock (wm yX3_requireBlock cX3_requireBlock 2 none) ({ frames := 6, cells := 1, slots := 6, locals := 90 } : Room) (PREX [.ref (ad 0), .int p1] D ca SL0 (WC ca ad bq nF nO nL nA nC nV nU nP nE bF bO bL bA bC bV bU bP bE cT cK cO cQ cD pT pK pR pW pU pI pC uO uF uE uN wK jM jN jZ jB ++ R) sz) (QXV ro D (WC ca ad bq nF nO nL nA nC nV nU nP nE bF bO bL bA bC bV bU bP bE cT cK cO cQ cD pT pK pR pW pU pI pC uO uF uE uN wK jM jN jZ jB ++ R) (WC ca ad bq nF nO nL nA nC nV nU nP nE bF bO bL bA bC bV bU bP bE cT cK cO cQ cD pT pK pR pW pU pI pC uO uF uE uN wK jM jN jZ jB ++ R) sz) (QXE ro D (WC ca ad bq nF nO nL nA nC nV nU nP nE bF bO bL bA bC bV bU bP bE cT cK cO cQ cD pT pK pR pW pU pI pC uO uF uE uN wK jM jN jZ jB ++ R) (WC ca ad bq nF nO nL nA nC nV nU nP nE bF bO bL bA bC bV bU bP bE cT cK cO cQ cD pT pK pR pW pU pI pC uO uF uE uN wK jM jN jZ jB ++ R) sz) 1 6 (va_A (WC ca ad bq nF nO nL nA nC nV nU nP nE bF bO bL bA bC bV bU bP bE cT cK cO cQ cD pT pK pR pW pU pI pC uO uF uE uN wK jM jN jZ jB ++ R) sz) := by
  refine vx_ofW (cc := cX3_requireBlock) (maxL := 2) (ret := none) (by decide) rfl ?_
  intro p e s m args below meth c s₁ B hml htab hv
  obtain ⟨rfl, rfl, hP, hE, hD0, hZ⟩ := hv
  have hx := B.exec
  have hb := B.bytes
  have hr := B.returns
  have hts := wm_ww (atoms_spec (ws := wm yX3_requireBlock cX3_requireBlock 2 none) B.pre)
  have hown : s.vm.findClass RX3 = some m.cls := findClass_of_methodNamed B.named
  have hlocks := B.notSynchronized
  have hK := hE.1
  have hD := hD0.self (sz := s.heap.size)
  generalize hAe : va_A (WC ca ad bq nF nO nL nA nC nV nU nP nE bF bO bL bA bC bV bU bP bE cT cK cO cQ cD pT pK pR pW pU pI pC uO uF uE uN wK jM jN jZ jB ++ R) s.heap.size = A at hD hZ ⊢
  have hA : ∀ q : Nat, s.heap.size ≤ q → A q := fun q h => by rw [← hAe]; exact Or.inr h
  have hS : va_S A s.heap s.heap [] := va_S.rf
  have hl := lv_entry ([.ref (ad 0), .int p1]) (n := 2) (Nat.le_of_ble_eq_true rfl)
  rw [lg_entry_eq]
  generalize (lg_sl ([.ref (ad 0), .int p1]) ++ List.replicate (2 - (lg_sl ([.ref (ad 0), .int p1])).length) Slot.unset).toArray = ls at hl ⊢
  have hl : lv_has ls 2 [(0, .ref (ad 0)), (1, .int p1)] := hl
  change W p l e ({ frames := 6, cells := 1, slots := 6, locals := 90 } : Room) s m _ below meth c s.heap [] 0 0 _ _
  generalize hQm : vx_MQ below (QXV ro D (WC ca ad bq nF nO nL nA nC nV nU nP nE bF bO bL bA bC bV bU bP bE cT cK cO cQ cD pT pK pR pW pU pI pC uO uF uE uN wK jM jN jZ jB ++ R) (WC ca ad bq nF nO nL nA nC nV nU nP nE bF bO bL bA bC bV bU bP bE cT cK cO cQ cD pT pK pR pW pU pI pC uO uF uE uN wK jM jN jZ jB ++ R) s.heap.size) (QXE ro D (WC ca ad bq nF nO nL nA nC nV nU nP nE bF bO bL bA bC bV bU bP bE cT cK cO cQ cD pT pK pR pW pU pI pC uO uF uE uN wK jM jN jZ jB ++ R) (WC ca ad bq nF nO nL nA nC nV nU nP nE bF bO bL bA bC bV bU bP bE cT cK cO cQ cD pT pK pR pW pU pI pC uO uF uE uN wK jM jN jZ jB ++ R) s.heap.size) _ s 1 6 A = Qm
  have hP : va_P D vwCl (WC ca ad bq nF nO nL nA nC nV nU nP nE bF bO bL bA bC bV bU bP bE cT cK cO cQ cD pT pK pR pW pU pI pC uO uF uE uN wK jM jN jZ jB ++ R) s.heap := hP
  generalize hae : ([.ref (ad 0), .int p1] : List Value).toArray = args at hts hQm ⊢
  refine lv_iload_n hx hb dX3_requireBlock_0 rfl (lv_at hl 1 rfl) ?_
  obtain ⟨r1, h2, hf⟩ := bnd hf
  refine call_si (rest := []) (m_C_isBlock l ca ad bq nF nO nL nA nC nV nU nP nE bF bO bL bA bC bV bU bP bE cT cK cO cQ cD pT pK pR pW pU pI pC uO uF uE uN wK jM jN jZ jB R _ p1 r1 h2) ⟨hx, hb, hml, hown, hts⟩ (va_cwS 1 hts (gS q644 q492 q24 q493) rfl rfl rfl (by decide +kernel) ⟨Nat.le_of_ble_eq_true rfl, Nat.le_of_ble_eq_true rfl⟩) hE hP hD hS hA rfl hl.1 rfl (lv_room (Nat.le_of_ble_eq_true rfl)) dX3_requireBlock_1 ⟨Nat.le_of_ble_eq_true rfl, Nat.le_of_ble_eq_true rfl⟩ (fun H locs hP hD hS => ?_)
  refine lv_if_ne (tgt := 18) hx hb dX3_requireBlock_4 (by decide) (fun c3 => ?_) (fun c3 => ?_)
  · have hf := br_neg c3 hf
    cases hf
    exact endx_v hAe hQm hx hb hr hlocks hP hD hS dX3_requireBlock_18 (Nat.le_of_ble_eq_true rfl) (Nat.le_of_ble_eq_true rfl)
  · have hf := br_pos c3 hf
    cases hf
    exact endx_throwW 3 rfl hAe hQm hst hx hb hts hE hown htab hlocks (by decide +kernel) q390 q36 sl23 at283 hZ (hl.1.trans hml.symm) hP hD hS dX3_requireBlock_7 dX3_requireBlock_10 dX3_requireBlock_11 dX3_requireBlock_14 dX3_requireBlock_17 (Nat.le_of_ble_eq_true rfl) (Nat.le_of_ble_eq_true rfl) (Nat.le_of_ble_eq_true rfl) (Nat.le_of_ble_eq_true rfl) (Nat.le_of_ble_eq_true rfl) (Nat.le_of_ble_eq_true rfl)
def f_C_usersOf (p1 : Int32) (nU : Nat → Int32) : Option (Except Nat Int32) :=
  (f_C_requireBlock p1).bind fun x1 =>
  match x1 with
  | .error n3 => some (.error n3)
  | .ok _ =>
  (f_S_userTotal p1 nU).bind fun r4 =>
  some (.ok r4)
set_option maxHeartbeats 4000000 in
set_option maxRecDepth 100000 in
theorem m_C_usersOf (l : Launch) (hst : l.stackTraces = false) {D : va_G} (ca : Nat → ClassId) (ad : Nat → Nat) (bq : Nat) (nF : Int32) (nO : Nat → Int32) (nL : Nat → Int32) (nA : Nat → Int32) (nC : Nat → Int32) (nV : Nat → Int32) (nU : Nat → Int32) (nP : Nat → Int32) (nE : Int32) (bF : Int32) (bO : Nat → Int32) (bL : Nat → Int32) (bA : Nat → Int32) (bC : Nat → Int32) (bV : Nat → Int32) (bU : Nat → Int32) (bP : Nat → Int32) (bE : Int32) (cT : Int32) (cK : Nat → Int32) (cO : Int32) (cQ : Nat → Int32) (cD : Int32) (pT : Int32) (pK : Int32) (pR : Nat → Int32) (pW : Nat → Int32) (pU : Nat → Int32) (pI : Nat → Int32) (pC : Nat → Nat → Int32) (uO : Int32) (uF : Nat → Int32) (uE : Nat → Int32) (uN : Nat → Int32) (wK : Nat → Int32) (jM : Int32) (jN : Int32) (jZ : Nat) (jB : Nat → Int32) (R : va_W) (sz : Nat) (p1 : Int32) (ro : Except Nat Int32) (hf : f_C_usersOf p1 nU = some ro) : vx_Met l yX3_usersOf (wm yX3_usersOf cX3_usersOf 2 (some .int)) ({ frames := 7, cells := 1, slots := 6, locals := 111 } : Room) (PREX [.ref (ad 0), .int p1] D ca SL0 (WC ca ad bq nF nO nL nA nC nV nU nP nE bF bO bL bA bC bV bU bP bE cT cK cO cQ cD pT pK pR pW pU pI pC uO uF uE uN wK jM jN jZ jB ++ R) sz) (QXI ro D (WC ca ad bq nF nO nL nA nC nV nU nP nE bF bO bL bA bC bV bU bP bE cT cK cO cQ cD pT pK pR pW pU pI pC uO uF uE uN wK jM jN jZ jB ++ R) (WC ca ad bq nF nO nL nA nC nV nU nP nE bF bO bL bA bC bV bU bP bE cT cK cO cQ cD pT pK pR pW pU pI pC uO uF uE uN wK jM jN jZ jB ++ R) sz) (QXE ro D (WC ca ad bq nF nO nL nA nC nV nU nP nE bF bO bL bA bC bV bU bP bE cT cK cO cQ cD pT pK pR pW pU pI pC uO uF uE uN wK jM jN jZ jB ++ R) (WC ca ad bq nF nO nL nA nC nV nU nP nE bF bO bL bA bC bV bU bP bE cT cK cO cQ cD pT pK pR pW pU pI pC uO uF uE uN wK jM jN jZ jB ++ R) sz) 1 6 (va_A (WC ca ad bq nF nO nL nA nC nV nU nP nE bF bO bL bA bC bV bU bP bE cT cK cO cQ cD pT pK pR pW pU pI pC uO uF uE uN wK jM jN jZ jB ++ R) sz) := by
  refine vx_ofW (cc := cX3_usersOf) (maxL := 2) (ret := (some .int)) (by decide) rfl ?_
  intro p e s m args below meth c s₁ B hml htab hv
  obtain ⟨rfl, rfl, hP, hE, hD0, hZ⟩ := hv
  have hx := B.exec
  have hb := B.bytes
  have hr := B.returns
  have hts := wm_ww (atoms_spec (ws := wm yX3_usersOf cX3_usersOf 2 (some .int)) B.pre)
  have hown : s.vm.findClass RX3 = some m.cls := findClass_of_methodNamed B.named
  have hlocks := B.notSynchronized
  have hK := hE.1
  have hD := hD0.self (sz := s.heap.size)
  generalize hAe : va_A (WC ca ad bq nF nO nL nA nC nV nU nP nE bF bO bL bA bC bV bU bP bE cT cK cO cQ cD pT pK pR pW pU pI pC uO uF uE uN wK jM jN jZ jB ++ R) s.heap.size = A at hD hZ ⊢
  have hA : ∀ q : Nat, s.heap.size ≤ q → A q := fun q h => by rw [← hAe]; exact Or.inr h
  have hS : va_S A s.heap s.heap [] := va_S.rf
  have hl := lv_entry ([.ref (ad 0), .int p1]) (n := 2) (Nat.le_of_ble_eq_true rfl)
  rw [lg_entry_eq]
  generalize (lg_sl ([.ref (ad 0), .int p1]) ++ List.replicate (2 - (lg_sl ([.ref (ad 0), .int p1])).length) Slot.unset).toArray = ls at hl ⊢
  have hl : lv_has ls 2 [(0, .ref (ad 0)), (1, .int p1)] := hl
  change W p l e ({ frames := 7, cells := 1, slots := 6, locals := 111 } : Room) s m _ below meth c s.heap [] 0 0 _ _
  generalize hQm : vx_MQ below (QXI ro D (WC ca ad bq nF nO nL nA nC nV nU nP nE bF bO bL bA bC bV bU bP bE cT cK cO cQ cD pT pK pR pW pU pI pC uO uF uE uN wK jM jN jZ jB ++ R) (WC ca ad bq nF nO nL nA nC nV nU nP nE bF bO bL bA bC bV bU bP bE cT cK cO cQ cD pT pK pR pW pU pI pC uO uF uE uN wK jM jN jZ jB ++ R) s.heap.size) (QXE ro D (WC ca ad bq nF nO nL nA nC nV nU nP nE bF bO bL bA bC bV bU bP bE cT cK cO cQ cD pT pK pR pW pU pI pC uO uF uE uN wK jM jN jZ jB ++ R) (WC ca ad bq nF nO nL nA nC nV nU nP nE bF bO bL bA bC bV bU bP bE cT cK cO cQ cD pT pK pR pW pU pI pC uO uF uE uN wK jM jN jZ jB ++ R) s.heap.size) _ s 1 6 A = Qm
  have hP : va_P D vwCl (WC ca ad bq nF nO nL nA nC nV nU nP nE bF bO bL bA bC bV bU bP bE cT cK cO cQ cD pT pK pR pW pU pI pC uO uF uE uN wK jM jN jZ jB ++ R) s.heap := hP
  generalize hae : ([.ref (ad 0), .int p1] : List Value).toArray = args at hts hQm ⊢
  refine lv_aload_n hx hb dX3_usersOf_0 rfl (lv_at hl 0 rfl) ?_
  refine lv_iload_n hx hb dX3_usersOf_1 rfl (lv_at hl 1 rfl) ?_
  obtain ⟨x1, h2, hf⟩ := bnd hf
  rcases x1 with n3 | _
  · have hf : some (.error n3) = some ro := hf
    cases hf
    exact cx_vv_err (rest := []) (m_C_requireBlock l hst ca ad bq nF nO nL nA nC nV nU nP nE bF bO bL bA bC bV bU bP bE cT cK cO cQ cD pT pK pR pW pU pI pC uO uF uE uN wK jM jN jZ jB R _ p1 (.error n3) h2) ⟨hx, hb, hml, hown, hts⟩ (cwV 1 hts (gV q640 q642 q12 q24 q643) rfl rfl rfl (by decide +kernel) ⟨Nat.le_of_ble_eq_true rfl, Nat.le_of_ble_eq_true rfl⟩) (va_recv hK hP (ci := 7) (q0 := 0) rfl rfl) hE hP hD hS hA hZ rfl hl.1 rfl (lv_room (Nat.le_of_ble_eq_true rfl)) dX3_usersOf_2 ⟨Nat.le_of_ble_eq_true rfl, Nat.le_of_ble_eq_true rfl⟩ hAe hQm htab hlocks (Nat.le_of_ble_eq_true rfl) (Nat.le_of_ble_eq_true rfl)
  refine cx_vv_ok (rest := []) (m_C_requireBlock l hst ca ad bq nF nO nL nA nC nV nU nP nE bF bO bL bA bC bV bU bP bE cT cK cO cQ cD pT pK pR pW pU pI pC uO uF uE uN wK jM jN jZ jB R _ p1 (.ok ()) h2) ⟨hx, hb, hml, hown, hts⟩ (cwV 1 hts (gV q640 q642 q12 q24 q643) rfl rfl rfl (by decide +kernel) ⟨Nat.le_of_ble_eq_true rfl, Nat.le_of_ble_eq_true rfl⟩) (va_recv hK hP (ci := 7) (q0 := 0) rfl rfl) hE hP hD hS hA hZ rfl hl.1 rfl (lv_room (Nat.le_of_ble_eq_true rfl)) dX3_usersOf_2 ⟨Nat.le_of_ble_eq_true rfl, Nat.le_of_ble_eq_true rfl⟩ (fun H locs hP hD hS => ?_)
  refine lv_aload_n hx hb dX3_usersOf_5 rfl (lv_at hl 0 rfl) ?_
  refine va_get (D := D) (ci := 7) (v := .ref (ad 1)) (C := RX3) (T := TX3) (N := 11) hx hb hts inX3 hown hK hP 0 rfl rfl 0 (by decide) (hts _ q182) (fun _ h9 => h9) rfl dX3_usersOf_6 ?_
  refine lv_iload_n hx hb dX3_usersOf_9 rfl (lv_at hl 1 rfl) ?_
  obtain ⟨r4, h5, hf⟩ := bnd hf
  refine call_vi (rest := []) (m_S_userTotal l ca ad bq nF nO nL nA nC nV nU nP nE bF bO bL bA bC bV bU bP bE cT cK cO cQ cD pT pK pR pW pU pI pC uO uF uE uN wK jM jN jZ jB R _ p1 r4 h5) ⟨hx, hb, hml, hown, hts⟩ (cwV 1 hts (gV q512 q513 q514 q25 q515) rfl rfl rfl (by decide +kernel) ⟨Nat.le_of_ble_eq_true rfl, Nat.le_of_ble_eq_true rfl⟩) (va_recv hK hP (ci := 6) (q0 := 1) rfl rfl) hE hP hD hS hA rfl hl.1 rfl (lv_room (Nat.le_of_ble_eq_true rfl)) dX3_usersOf_10 ⟨Nat.le_of_ble_eq_true rfl, Nat.le_of_ble_eq_true rfl⟩ (fun H locs hP hD hS => ?_)
  cases hf
  exact endx_i hAe hQm hx hb hr hlocks rfl hP hD hS dX3_usersOf_13 (Nat.le_of_ble_eq_true rfl) (Nat.le_of_ble_eq_true rfl)
def f_J7_fill_53178_L5 : Nat → Int32 → Int32 → Int32 → (Nat → Int32) → Option ((Nat → Int32))
  | 0, _, _, _, _ => none
  | fuel + 1, v1, v2, v3, wK =>
    if v3 ≤ v2 then
      some wK
    else
      if v2 < 0 ∨ 64 ≤ v2.toNatClampNeg then none else
        f_J7_fill_53178_L5 fuel v1 (v2 + 1) v3 (upd wK v2.toNatClampNeg v1)
def f_J7_fill_53178 (p1 : Int32) (wK : Nat → Int32) : Option ((Nat → Int32)) :=
  (f_J7_fill_53178_L5 FU p1 0 64 wK).bind fun wK_6 =>
  some wK_6
set_option maxHeartbeats 4000000 in
set_option maxRecDepth 100000 in
theorem m_J7_fill_53178 (l : Launch) {D : va_G} {sl : List (String × Nat × String)} (ca : Nat → ClassId) (ad : Nat → Nat) (bq : Nat) (nF : Int32) (nO : Nat → Int32) (nL : Nat → Int32) (nA : Nat → Int32) (nC : Nat → Int32) (nV : Nat → Int32) (nU : Nat → Int32) (nP : Nat → Int32) (nE : Int32) (bF : Int32) (bO : Nat → Int32) (bL : Nat → Int32) (bA : Nat → Int32) (bC : Nat → Int32) (bV : Nat → Int32) (bU : Nat → Int32) (bP : Nat → Int32) (bE : Int32) (cT : Int32) (cK : Nat → Int32) (cO : Int32) (cQ : Nat → Int32) (cD : Int32) (pT : Int32) (pK : Int32) (pR : Nat → Int32) (pW : Nat → Int32) (pU : Nat → Int32) (pI : Nat → Int32) (pC : Nat → Nat → Int32) (uO : Int32) (uF : Nat → Int32) (uE : Nat → Int32) (uN : Nat → Int32) (wK : Nat → Int32) (jM : Int32) (jN : Int32) (jZ : Nat) (jB : Nat → Int32) (R : va_W) (sz : Nat) (p1 : Int32) (owK : Nat → Int32) (hf : f_J7_fill_53178 p1 wK = some owK) : Met l yJ7_fill_53178 (wm yJ7_fill_53178 cJ7_fill_53178 4 none) ({ frames := 0, cells := 0, slots := 0, locals := 0 } : Room) (PRE [.ref (ad 8), .int p1] D ca sl (WC ca ad bq nF nO nL nA nC nV nU nP nE bF bO bL bA bC bV bU bP bE cT cK cO cQ cD pT pK pR pW pU pI pC uO uF uE uN wK jM jN jZ jB ++ R) sz) (QV D (WC ca ad bq nF nO nL nA nC nV nU nP nE bF bO bL bA bC bV bU bP bE cT cK cO cQ cD pT pK pR pW pU pI pC uO uF uE uN owK jM jN jZ jB ++ R) (WC ca ad bq nF nO nL nA nC nV nU nP nE bF bO bL bA bC bV bU bP bE cT cK cO cQ cD pT pK pR pW pU pI pC uO uF uE uN wK jM jN jZ jB ++ R) sz) 0 0 (va_A (WC ca ad bq nF nO nL nA nC nV nU nP nE bF bO bL bA bC bV bU bP bE cT cK cO cQ cD pT pK pR pW pU pI pC uO uF uE uN wK jM jN jZ jB ++ R) sz) := by
  refine Met.ofW (cc := cJ7_fill_53178) (maxL := 4) (ret := none) (by decide) rfl ?_
  intro p e s m args below meth c s₁ B hml hv
  obtain ⟨rfl, rfl, hP, hE, hD0⟩ := hv
  have hx := B.exec
  have hb := B.bytes
  have hr := B.returns
  have hts := wm_ww (atoms_spec (ws := wm yJ7_fill_53178 cJ7_fill_53178 4 none) B.pre)
  have hown : s.vm.findClass RJ7 = some m.cls := findClass_of_methodNamed B.named
  have hlocks := B.notSynchronized
  have hK := hE.1
  have hD := hD0.self (sz := s.heap.size)
  generalize hAe : va_A (WC ca ad bq nF nO nL nA nC nV nU nP nE bF bO bL bA bC bV bU bP bE cT cK cO cQ cD pT pK pR pW pU pI pC uO uF uE uN wK jM jN jZ jB ++ R) s.heap.size = A at hD ⊢
  have hA : ∀ q : Nat, s.heap.size ≤ q → A q := fun q h => by rw [← hAe]; exact Or.inr h
  have hS : va_S A s.heap s.heap [] := va_S.rf
  have hl := lv_entry ([.ref (ad 8), .int p1]) (n := 4) (Nat.le_of_ble_eq_true rfl)
  rw [lg_entry_eq]
  generalize (lg_sl ([.ref (ad 8), .int p1]) ++ List.replicate (4 - (lg_sl ([.ref (ad 8), .int p1])).length) Slot.unset).toArray = ls at hl ⊢
  have hl : lv_has ls 4 [(0, .ref (ad 8)), (1, .int p1)] := hl
  change W p l e ({ frames := 0, cells := 0, slots := 0, locals := 0 } : Room) s m _ below meth c s.heap [] 0 0 _ _
  generalize hQm : MQ below (QV D (WC ca ad bq nF nO nL nA nC nV nU nP nE bF bO bL bA bC bV bU bP bE cT cK cO cQ cD pT pK pR pW pU pI pC uO uF uE uN owK jM jN jZ jB ++ R) (WC ca ad bq nF nO nL nA nC nV nU nP nE bF bO bL bA bC bV bU bP bE cT cK cO cQ cD pT pK pR pW pU pI pC uO uF uE uN wK jM jN jZ jB ++ R) s.heap.size) _ s 0 0 A = Qm
  have hP : va_P D vwCl (WC ca ad bq nF nO nL nA nC nV nU nP nE bF bO bL bA bC bV bU bP bE cT cK cO cQ cD pT pK pR pW pU pI pC uO uF uE uN wK jM jN jZ jB ++ R) s.heap := hP
  generalize hae : ([.ref (ad 8), .int p1] : List Value).toArray = args at hts hQm ⊢
  have L5 : ∀ (n : Nat) (v1 : Int32) (v2 : Int32) (v3 : Int32) (wK : Nat → Int32) (zwK : Nat → Int32), f_J7_fill_53178_L5 n v1 v2 v3 wK = some zwK → ∀ (H : Heap) (locs : List Loc) (ls : Array Slot), va_P D vwCl (WC ca ad bq nF nO nL nA nC nV nU nP nE bF bO bL bA bC bV bU bP bE cT cK cO cQ cD pT pK pR pW pU pI pC uO uF uE uN wK jM jN jZ jB ++ R) H → va_D A (WC ca ad bq nF nO nL nA nC nV nU nP nE bF bO bL bA bC bV bU bP bE cT cK cO cQ cD pT pK pR pW pU pI pC uO uF uE uN wK jM jN jZ jB ++ R) → va_S A s.heap H locs → lv_has ls 4 [(0, .ref (ad 8)), (1, .int v1), (2, .int v2), (3, .int v3)] → (∀ (H : Heap) (locs : List Loc) (ls : Array Slot), va_P D vwCl (WC ca ad bq nF nO nL nA nC nV nU nP nE bF bO bL bA bC bV bU bP bE cT cK cO cQ cD pT pK pR pW pU pI pC uO uF uE uN zwK jM jN jZ jB ++ R) H → va_D A (WC ca ad bq nF nO nL nA nC nV nU nP nE bF bO bL bA bC bV bU bP bE cT cK cO cQ cD pT pK pR pW pU pI pC uO uF uE uN zwK jM jN jZ jB ++ R) → va_S A s.heap H locs → lv_has ls 4 [] → W p l e ({ frames := 0, cells := 0, slots := 0, locals := 0 } : Room) s m args below meth c H locs 0 0 Qm (F0 m 20 ls [])) → W p l e ({ frames := 0, cells := 0, slots := 0, locals := 0 } : Room) s m args below meth c H locs 0 0 Qm (F0 m 5 ls []) := by
    intro n
    induction n with
    | zero => intro v1 v2 v3 wK zwK hf; cases hf
    | succ n ih =>
      intro v1 v2 v3 wK zwK hf H locs ls hP hD hS hl kk
      unfold f_J7_fill_53178_L5 at hf
      refine lv_iload_n hx hb dJ7_fill_53178_5 rfl (lv_at hl 2 rfl) ?_
      refine lv_iload_n hx hb dJ7_fill_53178_6 rfl (lv_at hl 3 rfl) ?_
      refine lv_icmp_ge (tgt := 20) hx hb dJ7_fill_53178_7 (by decide) (fun c3 => ?_) (fun c3 => ?_)
      · have hf := br_pos c3 hf
        cases hf
        exact kk _ _ _ hP hD hS (lv_sub hl [] rfl)
      · have hf := br_neg c3 hf
        refine lv_aload_n hx hb dJ7_fill_53178_10 rfl (lv_at hl 0 rfl) ?_
        refine lv_iload_n hx hb dJ7_fill_53178_11 rfl (lv_at hl 2 rfl) ?_
        refine lv_iload_n hx hb dJ7_fill_53178_12 rfl (lv_at hl 1 rfl) ?_
        obtain ⟨k4, hf⟩ := ck_not hf
        refine va_iast (D := D) hx hb hK hP hD hS 39 0 rfl rfl k4 dJ7_fill_53178_13 (fun H locs hP hD hS => ?_)
        have hP : va_P D vwCl (WC ca ad bq nF nO nL nA nC nV nU nP nE bF bO bL bA bC bV bU bP bE cT cK cO cQ cD pT pK pR pW pU pI pC uO uF uE uN (upd wK v2.toNatClampNeg v1) jM jN jZ jB ++ R) H := hP
        have hD : va_D A (WC ca ad bq nF nO nL nA nC nV nU nP nE bF bO bL bA bC bV bU bP bE cT cK cO cQ cD pT pK pR pW pU pI pC uO uF uE uN (upd wK v2.toNatClampNeg v1) jM jN jZ jB ++ R) := hD
        refine lv_iinc (v := (v2 + 1)) (lv' := [(2, .int (v2 + 1)), (0, .ref (ad 8)), (1, .int v1), (3, .int v3)]) hx hb dJ7_fill_53178_14 hl (k := 2) rfl rfl (by decide) rfl (fun ls hl => ?_)
        refine lv_goto (tgt := 5) hx hb dJ7_fill_53178_17 (by decide) ?_
        exact ih v1 (v2 + 1) v3 (upd wK v2.toNatClampNeg v1) _ hf _ _ _ hP hD hS (lv_sub hl [1, 2, 0, 3] rfl) kk
  refine lv_iconst (v := 0) hx hb dJ7_fill_53178_0 (by decide) ?_
  refine lv_istore_n (lv' := [(2, .int 0), (0, .ref (ad 8)), (1, .int p1)]) hx hb dJ7_fill_53178_1 rfl hl (by decide) rfl (fun ls hl => ?_)
  refine lv_aload_n hx hb dJ7_fill_53178_2 rfl (lv_at hl 1 rfl) ?_
  refine va_alen (D := D) (v := 64) hx hb hK hP 39 0 rfl rfl rfl dJ7_fill_53178_3 ?_
  refine lv_istore_n (lv' := [(3, .int 64), (2, .int 0), (0, .ref (ad 8)), (1, .int p1)]) hx hb dJ7_fill_53178_4 rfl hl (by decide) rfl (fun ls hl => ?_)
  obtain ⟨wK_6, h5, hf⟩ := bnd hf
  refine L5 FU p1 0 64 wK wK_6 h5 _ _ _ hP hD hS (lv_sub hl [2, 3, 1, 0] rfl) (fun H locs ls hP hD hS hl => ?_)
  cases hf
  exact end_v hAe hQm hx hb hr hlocks hP hD hS dJ7_fill_53178_20
def f_C_walkUsers (nF : Int32) (nC : Nat → Int32) (pU : Nat → Int32) (pI : Nat → Int32) (pC : Nat → Nat → Int32) (wK : Nat → Int32) : Option ((Nat → Int32)) :=
  (f_J7_fill_53178 0 wK).bind fun wK_1 =>
  (f_S_walkFiles nF nC wK_1).bind fun wK_3 =>
  (f_P_walkKept pU pI pC wK_3).bind fun wK_5 =>
  some wK_5
set_option maxHeartbeats 4000000 in
set_option maxRecDepth 100000 in
theorem m_C_walkUsers (l : Launch) {D : va_G} {sl : List (String × Nat × String)} (ca : Nat → ClassId) (ad : Nat → Nat) (bq : Nat) (nF : Int32) (nO : Nat → Int32) (nL : Nat → Int32) (nA : Nat → Int32) (nC : Nat → Int32) (nV : Nat → Int32) (nU : Nat → Int32) (nP : Nat → Int32) (nE : Int32) (bF : Int32) (bO : Nat → Int32) (bL : Nat → Int32) (bA : Nat → Int32) (bC : Nat → Int32) (bV : Nat → Int32) (bU : Nat → Int32) (bP : Nat → Int32) (bE : Int32) (cT : Int32) (cK : Nat → Int32) (cO : Int32) (cQ : Nat → Int32) (cD : Int32) (pT : Int32) (pK : Int32) (pR : Nat → Int32) (pW : Nat → Int32) (pU : Nat → Int32) (pI : Nat → Int32) (pC : Nat → Nat → Int32) (uO : Int32) (uF : Nat → Int32) (uE : Nat → Int32) (uN : Nat → Int32) (wK : Nat → Int32) (jM : Int32) (jN : Int32) (jZ : Nat) (jB : Nat → Int32) (R : va_W) (sz : Nat) (owK : Nat → Int32) (hf : f_C_walkUsers nF nC pU pI pC wK = some owK) : Met l yX3_walkUsers (wm yX3_walkUsers cX3_walkUsers 1 none) ({ frames := 3, cells := 0, slots := 0, locals := 66 } : Room) (PRE [.ref (ad 0)] D ca sl (WC ca ad bq nF nO nL nA nC nV nU nP nE bF bO bL bA bC bV bU bP bE cT cK cO cQ cD pT pK pR pW pU pI pC uO uF uE uN wK jM jN jZ jB ++ R) sz) (QV D (WC ca ad bq nF nO nL nA nC nV nU nP nE bF bO bL bA bC bV bU bP bE cT cK cO cQ cD pT pK pR pW pU pI pC uO uF uE uN owK jM jN jZ jB ++ R) (WC ca ad bq nF nO nL nA nC nV nU nP nE bF bO bL bA bC bV bU bP bE cT cK cO cQ cD pT pK pR pW pU pI pC uO uF uE uN wK jM jN jZ jB ++ R) sz) 0 0 (va_A (WC ca ad bq nF nO nL nA nC nV nU nP nE bF bO bL bA bC bV bU bP bE cT cK cO cQ cD pT pK pR pW pU pI pC uO uF uE uN wK jM jN jZ jB ++ R) sz) := by
  refine Met.ofW (cc := cX3_walkUsers) (maxL := 1) (ret := none) (by decide) rfl ?_
  intro p e s m args below meth c s₁ B hml hv
  obtain ⟨rfl, rfl, hP, hE, hD0⟩ := hv
  have hx := B.exec
  have hb := B.bytes
  have hr := B.returns
  have hts := wm_ww (atoms_spec (ws := wm yX3_walkUsers cX3_walkUsers 1 none) B.pre)
  have hown : s.vm.findClass RX3 = some m.cls := findClass_of_methodNamed B.named
  have hlocks := B.notSynchronized
  have hK := hE.1
  have hD := hD0.self (sz := s.heap.size)
  generalize hAe : va_A (WC ca ad bq nF nO nL nA nC nV nU nP nE bF bO bL bA bC bV bU bP bE cT cK cO cQ cD pT pK pR pW pU pI pC uO uF uE uN wK jM jN jZ jB ++ R) s.heap.size = A at hD ⊢
  have hA : ∀ q : Nat, s.heap.size ≤ q → A q := fun q h => by rw [← hAe]; exact Or.inr h
  have hS : va_S A s.heap s.heap [] := va_S.rf
  have hl := lv_entry ([.ref (ad 0)]) (n := 1) (Nat.le_of_ble_eq_true rfl)
  rw [lg_entry_eq]
  generalize (lg_sl ([.ref (ad 0)]) ++ List.replicate (1 - (lg_sl ([.ref (ad 0)])).length) Slot.unset).toArray = ls at hl ⊢
  have hl : lv_has ls 1 [(0, .ref (ad 0))] := hl
  change W p l e ({ frames := 3, cells := 0, slots := 0, locals := 66 } : Room) s m _ below meth c s.heap [] 0 0 _ _
  generalize hQm : MQ below (QV D (WC ca ad bq nF nO nL nA nC nV nU nP nE bF bO bL bA bC bV bU bP bE cT cK cO cQ cD pT pK pR pW pU pI pC uO uF uE uN owK jM jN jZ jB ++ R) (WC ca ad bq nF nO nL nA nC nV nU nP nE bF bO bL bA bC bV bU bP bE cT cK cO cQ cD pT pK pR pW pU pI pC uO uF uE uN wK jM jN jZ jB ++ R) s.heap.size) _ s 0 0 A = Qm
  have hP : va_P D vwCl (WC ca ad bq nF nO nL nA nC nV nU nP nE bF bO bL bA bC bV bU bP bE cT cK cO cQ cD pT pK pR pW pU pI pC uO uF uE uN wK jM jN jZ jB ++ R) s.heap := hP
  generalize hae : ([.ref (ad 0)] : List Value).toArray = args at hts hQm ⊢
  refine lv_aload_n hx hb dX3_walkUsers_0 rfl (lv_at hl 0 rfl) ?_
  refine va_get (D := D) (ci := 7) (v := .ref (ad 8)) (C := RX3) (T := TX3) (N := 11) hx hb hts inX3 hown hK hP 0 rfl rfl 10 (by decide) (hts _ q192) (fun _ h9 => h9) rfl dX3_walkUsers_1 ?_
  refine lv_iconst (v := 0) hx hb dX3_walkUsers_4 (by decide) ?_
  obtain ⟨wK_1, h2, hf⟩ := bnd hf
  refine call_sv (rest := []) (m_J7_fill_53178 l ca ad bq nF nO nL nA nC nV nU nP nE bF bO bL bA bC bV bU bP bE cT cK cO cQ cD pT pK pR pW pU pI pC uO uF uE uN wK jM jN jZ jB R _ 0 wK_1 h2) ⟨hx, hb, hml, hown, hts⟩ (va_cwS 2 hts (gS q654 q66 q26 q67) rfl rfl rfl (by decide +kernel) ⟨Nat.le_of_ble_eq_true rfl, Nat.le_of_ble_eq_true rfl⟩) hE hP hD hS hA rfl hl.1 rfl (lv_room (Nat.le_of_ble_eq_true rfl)) dX3_walkUsers_5 ⟨Nat.le_of_ble_eq_true rfl, Nat.le_of_ble_eq_true rfl⟩ (fun H locs hP hD hS => ?_)
  refine lv_aload_n hx hb dX3_walkUsers_8 rfl (lv_at hl 0 rfl) ?_
  refine va_get (D := D) (ci := 7) (v := .ref (ad 1)) (C := RX3) (T := TX3) (N := 11) hx hb hts inX3 hown hK hP 0 rfl rfl 0 (by decide) (hts _ q182) (fun _ h9 => h9) rfl dX3_walkUsers_9 ?_
  refine lv_aload_n hx hb dX3_walkUsers_12 rfl (lv_at hl 0 rfl) ?_
  refine va_get (D := D) (ci := 7) (v := .ref (ad 8)) (C := RX3) (T := TX3) (N := 11) hx hb hts inX3 hown hK hP 0 rfl rfl 10 (by decide) (hts _ q192) (fun _ h9 => h9) rfl dX3_walkUsers_13 ?_
  obtain ⟨wK_3, h4, hf⟩ := bnd hf
  refine call_vv (rest := []) (m_S_walkFiles l ca ad bq nF nO nL nA nC nV nU nP nE bF bO bL bA bC bV bU bP bE cT cK cO cQ cD pT pK pR pW pU pI pC uO uF uE uN wK_1 jM jN jZ jB R _ wK_3 h4) ⟨hx, hb, hml, hown, hts⟩ (cwV 1 hts (gV q655 q656 q657 q25 q658) rfl rfl rfl (by decide +kernel) ⟨Nat.le_of_ble_eq_true rfl, Nat.le_of_ble_eq_true rfl⟩) (va_recv hK hP (ci := 6) (q0 := 1) rfl rfl) hE hP hD hS hA rfl hl.1 rfl (lv_room (Nat.le_of_ble_eq_true rfl)) dX3_walkUsers_16 ⟨Nat.le_of_ble_eq_true rfl, Nat.le_of_ble_eq_true rfl⟩ (fun H locs hP hD hS => ?_)
  refine lv_aload_n hx hb dX3_walkUsers_19 rfl (lv_at hl 0 rfl) ?_
  refine va_get (D := D) (ci := 7) (v := .ref (ad 5)) (C := RX3) (T := TX3) (N := 11) hx hb hts inX3 hown hK hP 0 rfl rfl 6 (by decide) (hts _ q188) (fun _ h9 => h9) rfl dX3_walkUsers_20 ?_
  refine lv_aload_n hx hb dX3_walkUsers_23 rfl (lv_at hl 0 rfl) ?_
  refine va_get (D := D) (ci := 7) (v := .ref (ad 8)) (C := RX3) (T := TX3) (N := 11) hx hb hts inX3 hown hK hP 0 rfl rfl 10 (by decide) (hts _ q192) (fun _ h9 => h9) rfl dX3_walkUsers_24 ?_
  obtain ⟨wK_5, h6, hf⟩ := bnd hf
  refine call_vv (rest := []) (m_P_walkKept l ca ad bq nF nO nL nA nC nV nU nP nE bF bO bL bA bC bV bU bP bE cT cK cO cQ cD pT pK pR pW pU pI pC uO uF uE uN wK_3 jM jN jZ jB R _ wK_5 h6) ⟨hx, hb, hml, hown, hts⟩ (cwV 1 hts (gV q662 q663 q664 q27 q665) rfl rfl rfl (by decide +kernel) ⟨Nat.le_of_ble_eq_true rfl, Nat.le_of_ble_eq_true rfl⟩) (va_recv hK hP (ci := 5) (q0 := 19) rfl rfl) hE hP hD hS hA rfl hl.1 rfl (lv_room (Nat.le_of_ble_eq_true rfl)) dX3_walkUsers_27 ⟨Nat.le_of_ble_eq_true rfl, Nat.le_of_ble_eq_true rfl⟩ (fun H locs hP hD hS => ?_)
  cases hf
  exact end_v hAe hQm hx hb hr hlocks hP hD hS dX3_walkUsers_30
def f_C_usersByWalk (p1 : Int32) (nF : Int32) (nC : Nat → Int32) (pU : Nat → Int32) (pI : Nat → Int32) (pC : Nat → Nat → Int32) (wK : Nat → Int32) : Option (Except Nat Int32 × (Nat → Int32)) :=
  (f_C_requireBlock p1).bind fun x1 =>
  match x1 with
  | .error n3 => some ((.error n3), wK)
  | .ok _ =>
  (f_C_walkUsers nF nC pU pI pC wK).bind fun wK_4 =>
  if p1 < 0 ∨ 64 ≤ p1.toNatClampNeg then none else
    some ((.ok (wK_4 p1.toNatClampNeg)), wK_4)
set_option maxHeartbeats 4000000 in
set_option maxRecDepth 100000 in
theorem m_C_usersByWalk (l : Launch) (hst : l.stackTraces = false) {D : va_G} (ca : Nat → ClassId) (ad : Nat → Nat) (bq : Nat) (nF : Int32) (nO : Nat → Int32) (nL : Nat → Int32) (nA : Nat → Int32) (nC : Nat → Int32) (nV : Nat → Int32) (nU : Nat → Int32) (nP : Nat → Int32) (nE : Int32) (bF : Int32) (bO : Nat → Int32) (bL : Nat → Int32) (bA : Nat → Int32) (bC : Nat → Int32) (bV : Nat → Int32) (bU : Nat → Int32) (bP : Nat → Int32) (bE : Int32) (cT : Int32) (cK : Nat → Int32) (cO : Int32) (cQ : Nat → Int32) (cD : Int32) (pT : Int32) (pK : Int32) (pR : Nat → Int32) (pW : Nat → Int32) (pU : Nat → Int32) (pI : Nat → Int32) (pC : Nat → Nat → Int32) (uO : Int32) (uF : Nat → Int32) (uE : Nat → Int32) (uN : Nat → Int32) (wK : Nat → Int32) (jM : Int32) (jN : Int32) (jZ : Nat) (jB : Nat → Int32) (R : va_W) (sz : Nat) (p1 : Int32) (ro : Except Nat Int32) (owK : Nat → Int32) (hf : f_C_usersByWalk p1 nF nC pU pI pC wK = some (ro, owK)) : vx_Met l yX3_usersByWalk (wm yX3_usersByWalk cX3_usersByWalk 2 (some .int)) ({ frames := 7, cells := 1, slots := 6, locals := 111 } : Room) (PREX [.ref (ad 0), .int p1] D ca SL0 (WC ca ad bq nF nO nL nA nC nV nU nP nE bF bO bL bA bC bV bU bP bE cT cK cO cQ cD pT pK pR pW pU pI pC uO uF uE uN wK jM jN jZ jB ++ R) sz) (QXI ro D (WC ca ad bq nF nO nL nA nC nV nU nP nE bF bO bL bA bC bV bU bP bE cT cK cO cQ cD pT pK pR pW pU pI pC uO uF uE uN owK jM jN jZ jB ++ R) (WC ca ad bq nF nO nL nA nC nV nU nP nE bF bO bL bA bC bV bU bP bE cT cK cO cQ cD pT pK pR pW pU pI pC uO uF uE uN wK jM jN jZ jB ++ R) sz) (QXE ro D (WC ca ad bq nF nO nL nA nC nV nU nP nE bF bO bL bA bC bV bU bP bE cT cK cO cQ cD pT pK pR pW pU pI pC uO uF uE uN owK jM jN jZ jB ++ R) (WC ca ad bq nF nO nL nA nC nV nU nP nE bF bO bL bA bC bV bU bP bE cT cK cO cQ cD pT pK pR pW pU pI pC uO uF uE uN wK jM jN jZ jB ++ R) sz) 1 6 (va_A (WC ca ad bq nF nO nL nA nC nV nU nP nE bF bO bL bA bC bV bU bP bE cT cK cO cQ cD pT pK pR pW pU pI pC uO uF uE uN wK jM jN jZ jB ++ R) sz) := by
  refine vx_ofW (cc := cX3_usersByWalk) (maxL := 2) (ret := (some .int)) (by decide) rfl ?_
  intro p e s m args below meth c s₁ B hml htab hv
  obtain ⟨rfl, rfl, hP, hE, hD0, hZ⟩ := hv
  have hx := B.exec
  have hb := B.bytes
  have hr := B.returns
  have hts := wm_ww (atoms_spec (ws := wm yX3_usersByWalk cX3_usersByWalk 2 (some .int)) B.pre)
  have hown : s.vm.findClass RX3 = some m.cls := findClass_of_methodNamed B.named
  have hlocks := B.notSynchronized
  have hK := hE.1
  have hD := hD0.self (sz := s.heap.size)
  generalize hAe : va_A (WC ca ad bq nF nO nL nA nC nV nU nP nE bF bO bL bA bC bV bU bP bE cT cK cO cQ cD pT pK pR pW pU pI pC uO uF uE uN wK jM jN jZ jB ++ R) s.heap.size = A at hD hZ ⊢
  have hA : ∀ q : Nat, s.heap.size ≤ q → A q := fun q h => by rw [← hAe]; exact Or.inr h
  have hS : va_S A s.heap s.heap [] := va_S.rf
  have hl := lv_entry ([.ref (ad 0), .int p1]) (n := 2) (Nat.le_of_ble_eq_true rfl)
  rw [lg_entry_eq]
  generalize (lg_sl ([.ref (ad 0), .int p1]) ++ List.replicate (2 - (lg_sl ([.ref (ad 0), .int p1])).length) Slot.unset).toArray = ls at hl ⊢
  have hl : lv_has ls 2 [(0, .ref (ad 0)), (1, .int p1)] := hl
  change W p l e ({ frames := 7, cells := 1, slots := 6, locals := 111 } : Room) s m _ below meth c s.heap [] 0 0 _ _
  generalize hQm : vx_MQ below (QXI ro D (WC ca ad bq nF nO nL nA nC nV nU nP nE bF bO bL bA bC bV bU bP bE cT cK cO cQ cD pT pK pR pW pU pI pC uO uF uE uN owK jM jN jZ jB ++ R) (WC ca ad bq nF nO nL nA nC nV nU nP nE bF bO bL bA bC bV bU bP bE cT cK cO cQ cD pT pK pR pW pU pI pC uO uF uE uN wK jM jN jZ jB ++ R) s.heap.size) (QXE ro D (WC ca ad bq nF nO nL nA nC nV nU nP nE bF bO bL bA bC bV bU bP bE cT cK cO cQ cD pT pK pR pW pU pI pC uO uF uE uN owK jM jN jZ jB ++ R) (WC ca ad bq nF nO nL nA nC nV nU nP nE bF bO bL bA bC bV bU bP bE cT cK cO cQ cD pT pK pR pW pU pI pC uO uF uE uN wK jM jN jZ jB ++ R) s.heap.size) _ s 1 6 A = Qm
  have hP : va_P D vwCl (WC ca ad bq nF nO nL nA nC nV nU nP nE bF bO bL bA bC bV bU bP bE cT cK cO cQ cD pT pK pR pW pU pI pC uO uF uE uN wK jM jN jZ jB ++ R) s.heap := hP
  generalize hae : ([.ref (ad 0), .int p1] : List Value).toArray = args at hts hQm ⊢
  refine lv_aload_n hx hb dX3_usersByWalk_0 rfl (lv_at hl 0 rfl) ?_
  refine lv_iload_n hx hb dX3_usersByWalk_1 rfl (lv_at hl 1 rfl) ?_
  obtain ⟨x1, h2, hf⟩ := bnd hf
  rcases x1 with n3 | _
  · have hf : some ((.error n3), wK) = some (ro, owK) := hf
    cases hf
    exact cx_vv_err (rest := []) (m_C_requireBlock l hst ca ad bq nF nO nL nA nC nV nU nP nE bF bO bL bA bC bV bU bP bE cT cK cO cQ cD pT pK pR pW pU pI pC uO uF uE uN wK jM jN jZ jB R _ p1 (.error n3) h2) ⟨hx, hb, hml, hown, hts⟩ (cwV 1 hts (gV q640 q642 q12 q24 q643) rfl rfl rfl (by decide +kernel) ⟨Nat.le_of_ble_eq_true rfl, Nat.le_of_ble_eq_true rfl⟩) (va_recv hK hP (ci := 7) (q0 := 0) rfl rfl) hE hP hD hS hA hZ rfl hl.1 rfl (lv_room (Nat.le_of_ble_eq_true rfl)) dX3_usersByWalk_2 ⟨Nat.le_of_ble_eq_true rfl, Nat.le_of_ble_eq_true rfl⟩ hAe hQm htab hlocks (Nat.le_of_ble_eq_true rfl) (Nat.le_of_ble_eq_true rfl)
  refine cx_vv_ok (rest := []) (m_C_requireBlock l hst ca ad bq nF nO nL nA nC nV nU nP nE bF bO bL bA bC bV bU bP bE cT cK cO cQ cD pT pK pR pW pU pI pC uO uF uE uN wK jM jN jZ jB R _ p1 (.ok ()) h2) ⟨hx, hb, hml, hown, hts⟩ (cwV 1 hts (gV q640 q642 q12 q24 q643) rfl rfl rfl (by decide +kernel) ⟨Nat.le_of_ble_eq_true rfl, Nat.le_of_ble_eq_true rfl⟩) (va_recv hK hP (ci := 7) (q0 := 0) rfl rfl) hE hP hD hS hA hZ rfl hl.1 rfl (lv_room (Nat.le_of_ble_eq_true rfl)) dX3_usersByWalk_2 ⟨Nat.le_of_ble_eq_true rfl, Nat.le_of_ble_eq_true rfl⟩ (fun H locs hP hD hS => ?_)
  refine lv_aload_n hx hb dX3_usersByWalk_5 rfl (lv_at hl 0 rfl) ?_
  obtain ⟨wK_4, h5, hf⟩ := bnd hf
  refine call_vv (rest := []) (m_C_walkUsers l ca ad bq nF nO nL nA nC nV nU nP nE bF bO bL bA bC bV bU bP bE cT cK cO cQ cD pT pK pR pW pU pI pC uO uF uE uN wK jM jN jZ jB R _ wK_4 h5) ⟨hx, hb, hml, hown, hts⟩ (cwV 0 hts (gV q650 q652 q13 q24 q653) rfl rfl rfl (by decide +kernel) ⟨Nat.le_of_ble_eq_true rfl, Nat.le_of_ble_eq_true rfl⟩) (va_recv hK hP (ci := 7) (q0 := 0) rfl rfl) hE hP hD hS hA rfl hl.1 rfl (lv_room (Nat.le_of_ble_eq_true rfl)) dX3_usersByWalk_6 ⟨Nat.le_of_ble_eq_true rfl, Nat.le_of_ble_eq_true rfl⟩ (fun H locs hP hD hS => ?_)
  refine lv_aload_n hx hb dX3_usersByWalk_9 rfl (lv_at hl 0 rfl) ?_
  refine va_get (D := D) (ci := 7) (v := .ref (ad 8)) (C := RX3) (T := TX3) (N := 11) hx hb hts inX3 hown hK hP 0 rfl rfl 10 (by decide) (hts _ q192) (fun _ h9 => h9) rfl dX3_usersByWalk_10 ?_
  refine lv_iload_n hx hb dX3_usersByWalk_13 rfl (lv_at hl 1 rfl) ?_
  obtain ⟨k6, hf⟩ := ck_not hf
  refine va_iald (D := D) hx hb hK hP 39 0 rfl rfl k6 dX3_usersByWalk_14 ?_
  cases hf
  exact endx_i hAe hQm hx hb hr hlocks rfl hP hD hS dX3_usersByWalk_15 (Nat.le_of_ble_eq_true rfl) (Nat.le_of_ble_eq_true rfl)
def f_C_promise (p1 : Int32) (p2 : Int32) (nU : Nat → Int32) (nP : Nat → Int32) (nE : Int32) (cK : Nat → Int32) (cO : Int32) : Option (Except Nat Int32 × (Nat → Int32) × Int32 × (Nat → Int32)) :=
  (f_C_requireOwner p1 cO).bind fun x1 =>
  match x1 with
  | .error n3 => some ((.error n3), nP, nE, cK)
  | .ok _ =>
  (f_C_requireWithin p2 1 64).bind fun x4 =>
  match x4 with
  | .error n6 => some ((.error n6), nP, nE, cK)
  | .ok _ =>
  (f_S_freeTotal nU).bind fun r7 =>
  (f_S_promisedInAll nP).bind fun r9 =>
  if p2 ≤ (r7 - r9) then
    (f_S_promisedFor p1 nP).bind fun r12 =>
    (f_S_setPromised p1 (r12 + p2) nP).bind fun nP_14 =>
    (f_C_note 112 nE cK).bind fun (nE_16, cK_17) =>
    some ((.ok (r12 + p2)), nP_14, nE_16, cK_17)
  else
    some ((.error 4), nP, nE, cK)
set_option maxHeartbeats 4000000 in
set_option maxRecDepth 100000 in
theorem m_C_promise (l : Launch) (hst : l.stackTraces = false) {D : va_G} (ca : Nat → ClassId) (ad : Nat → Nat) (bq : Nat) (nF : Int32) (nO : Nat → Int32) (nL : Nat → Int32) (nA : Nat → Int32) (nC : Nat → Int32) (nV : Nat → Int32) (nU : Nat → Int32) (nP : Nat → Int32) (nE : Int32) (bF : Int32) (bO : Nat → Int32) (bL : Nat → Int32) (bA : Nat → Int32) (bC : Nat → Int32) (bV : Nat → Int32) (bU : Nat → Int32) (bP : Nat → Int32) (bE : Int32) (cT : Int32) (cK : Nat → Int32) (cO : Int32) (cQ : Nat → Int32) (cD : Int32) (pT : Int32) (pK : Int32) (pR : Nat → Int32) (pW : Nat → Int32) (pU : Nat → Int32) (pI : Nat → Int32) (pC : Nat → Nat → Int32) (uO : Int32) (uF : Nat → Int32) (uE : Nat → Int32) (uN : Nat → Int32) (wK : Nat → Int32) (jM : Int32) (jN : Int32) (jZ : Nat) (jB : Nat → Int32) (R : va_W) (sz : Nat) (p1 : Int32) (p2 : Int32) (ro : Except Nat Int32) (onP : Nat → Int32) (onE : Int32) (ocK : Nat → Int32) (hf : f_C_promise p1 p2 nU nP nE cK cO = some (ro, onP, onE, ocK)) : vx_Met l yX3_promise (wm yX3_promise cX3_promise 4 (some .int)) ({ frames := 7, cells := 3, slots := 18, locals := 113 } : Room) (PREX [.ref (ad 0), .int p1, .int p2] D ca SL0 (WC ca ad bq nF nO nL nA nC nV nU nP nE bF bO bL bA bC bV bU bP bE cT cK cO cQ cD pT pK pR pW pU pI pC uO uF uE uN wK jM jN jZ jB ++ R) sz) (QXI ro D (WC ca ad bq nF nO nL nA nC nV nU onP onE bF bO bL bA bC bV bU bP bE cT ocK cO cQ cD pT pK pR pW pU pI pC uO uF uE uN wK jM jN jZ jB ++ R) (WC ca ad bq nF nO nL nA nC nV nU nP nE bF bO bL bA bC bV bU bP bE cT cK cO cQ cD pT pK pR pW pU pI pC uO uF uE uN wK jM jN jZ jB ++ R) sz) (QXE ro D (WC ca ad bq nF nO nL nA nC nV nU onP onE bF bO bL bA bC bV bU bP bE cT ocK cO cQ cD pT pK pR pW pU pI pC uO uF uE uN wK jM jN jZ jB ++ R) (WC ca ad bq nF nO nL nA nC nV nU nP nE bF bO bL bA bC bV bU bP bE cT cK cO cQ cD pT pK pR pW pU pI pC uO uF uE uN wK jM jN jZ jB ++ R) sz) 3 18 (va_A (WC ca ad bq nF nO nL nA nC nV nU nP nE bF bO bL bA bC bV bU bP bE cT cK cO cQ cD pT pK pR pW pU pI pC uO uF uE uN wK jM jN jZ jB ++ R) sz) := by
  refine vx_ofW (cc := cX3_promise) (maxL := 4) (ret := (some .int)) (by decide) rfl ?_
  intro p e s m args below meth c s₁ B hml htab hv
  obtain ⟨rfl, rfl, hP, hE, hD0, hZ⟩ := hv
  have hx := B.exec
  have hb := B.bytes
  have hr := B.returns
  have hts := wm_ww (atoms_spec (ws := wm yX3_promise cX3_promise 4 (some .int)) B.pre)
  have hown : s.vm.findClass RX3 = some m.cls := findClass_of_methodNamed B.named
  have hlocks := B.notSynchronized
  have hK := hE.1
  have hD := hD0.self (sz := s.heap.size)
  generalize hAe : va_A (WC ca ad bq nF nO nL nA nC nV nU nP nE bF bO bL bA bC bV bU bP bE cT cK cO cQ cD pT pK pR pW pU pI pC uO uF uE uN wK jM jN jZ jB ++ R) s.heap.size = A at hD hZ ⊢
  have hA : ∀ q : Nat, s.heap.size ≤ q → A q := fun q h => by rw [← hAe]; exact Or.inr h
  have hS : va_S A s.heap s.heap [] := va_S.rf
  have hl := lv_entry ([.ref (ad 0), .int p1, .int p2]) (n := 4) (Nat.le_of_ble_eq_true rfl)
  rw [lg_entry_eq]
  generalize (lg_sl ([.ref (ad 0), .int p1, .int p2]) ++ List.replicate (4 - (lg_sl ([.ref (ad 0), .int p1, .int p2])).length) Slot.unset).toArray = ls at hl ⊢
  have hl : lv_has ls 4 [(0, .ref (ad 0)), (1, .int p1), (2, .int p2)] := hl
  change W p l e ({ frames := 7, cells := 3, slots := 18, locals := 113 } : Room) s m _ below meth c s.heap [] 0 0 _ _
  generalize hQm : vx_MQ below (QXI ro D (WC ca ad bq nF nO nL nA nC nV nU onP onE bF bO bL bA bC bV bU bP bE cT ocK cO cQ cD pT pK pR pW pU pI pC uO uF uE uN wK jM jN jZ jB ++ R) (WC ca ad bq nF nO nL nA nC nV nU nP nE bF bO bL bA bC bV bU bP bE cT cK cO cQ cD pT pK pR pW pU pI pC uO uF uE uN wK jM jN jZ jB ++ R) s.heap.size) (QXE ro D (WC ca ad bq nF nO nL nA nC nV nU onP onE bF bO bL bA bC bV bU bP bE cT ocK cO cQ cD pT pK pR pW pU pI pC uO uF uE uN wK jM jN jZ jB ++ R) (WC ca ad bq nF nO nL nA nC nV nU nP nE bF bO bL bA bC bV bU bP bE cT cK cO cQ cD pT pK pR pW pU pI pC uO uF uE uN wK jM jN jZ jB ++ R) s.heap.size) _ s 3 18 A = Qm
  have hP : va_P D vwCl (WC ca ad bq nF nO nL nA nC nV nU nP nE bF bO bL bA bC bV bU bP bE cT cK cO cQ cD pT pK pR pW pU pI pC uO uF uE uN wK jM jN jZ jB ++ R) s.heap := hP
  generalize hae : ([.ref (ad 0), .int p1, .int p2] : List Value).toArray = args at hts hQm ⊢
  refine lv_aload_n hx hb dX3_promise_0 rfl (lv_at hl 0 rfl) ?_
  refine lv_iload_n hx hb dX3_promise_1 rfl (lv_at hl 1 rfl) ?_
  obtain ⟨x1, h2, hf⟩ := bnd hf
  rcases x1 with n3 | _
  · have hf : some ((.error n3), nP, nE, cK) = some (ro, onP, onE, ocK) := hf
    cases hf
    exact cx_vv_err (rest := []) (m_C_requireOwner l hst ca ad bq nF nO nL nA nC nV nU nP nE bF bO bL bA bC bV bU bP bE cT cK cO cQ cD pT pK pR pW pU pI pC uO uF uE uN wK jM jN jZ jB R _ p1 (.error n3) h2) ⟨hx, hb, hml, hown, hts⟩ (cwV 1 hts (gV q386 q388 q3 q24 q389) rfl rfl rfl (by decide +kernel) ⟨Nat.le_of_ble_eq_true rfl, Nat.le_of_ble_eq_true rfl⟩) (va_recv hK hP (ci := 7) (q0 := 0) rfl rfl) hE hP hD hS hA hZ rfl hl.1 rfl (lv_room (Nat.le_of_ble_eq_true rfl)) dX3_promise_2 ⟨Nat.le_of_ble_eq_true rfl, Nat.le_of_ble_eq_true rfl⟩ hAe hQm htab hlocks (Nat.le_of_ble_eq_true rfl) (Nat.le_of_ble_eq_true rfl)
  refine cx_vv_ok (rest := []) (m_C_requireOwner l hst ca ad bq nF nO nL nA nC nV nU nP nE bF bO bL bA bC bV bU bP bE cT cK cO cQ cD pT pK pR pW pU pI pC uO uF uE uN wK jM jN jZ jB R _ p1 (.ok ()) h2) ⟨hx, hb, hml, hown, hts⟩ (cwV 1 hts (gV q386 q388 q3 q24 q389) rfl rfl rfl (by decide +kernel) ⟨Nat.le_of_ble_eq_true rfl, Nat.le_of_ble_eq_true rfl⟩) (va_recv hK hP (ci := 7) (q0 := 0) rfl rfl) hE hP hD hS hA hZ rfl hl.1 rfl (lv_room (Nat.le_of_ble_eq_true rfl)) dX3_promise_2 ⟨Nat.le_of_ble_eq_true rfl, Nat.le_of_ble_eq_true rfl⟩ (fun H locs hP hD hS => ?_)
  refine lv_aload_n hx hb dX3_promise_5 rfl (lv_at hl 0 rfl) ?_
  refine lv_iload_n hx hb dX3_promise_6 rfl (lv_at hl 2 rfl) ?_
  refine lv_iconst (v := 1) hx hb dX3_promise_7 (by decide) ?_
  refine lv_bipush (v := 64) hx hb dX3_promise_8 (by decide) ?_
  obtain ⟨x4, h5, hf⟩ := bnd hf
  rcases x4 with n6 | _
  · have hf : some ((.error n6), nP, nE, cK) = some (ro, onP, onE, ocK) := hf
    cases hf
    exact cx_vv_err (rest := []) (m_C_requireWithin l hst ca ad bq nF nO nL nA nC nV nU nP nE bF bO bL bA bC bV bU bP bE cT cK cO cQ cD pT pK pR pW pU pI pC uO uF uE uN wK jM jN jZ jB R _ p2 1 64 (.error n6) h5) ⟨hx, hb, hml, hown, hts⟩ (cwV 3 hts (gV q341 q343 q1 q24 q344) rfl rfl rfl (by decide +kernel) ⟨Nat.le_of_ble_eq_true rfl, Nat.le_of_ble_eq_true rfl⟩) (va_recv hK hP (ci := 7) (q0 := 0) rfl rfl) hE hP hD hS hA hZ rfl hl.1 rfl (lv_room (Nat.le_of_ble_eq_true rfl)) dX3_promise_10 ⟨Nat.le_of_ble_eq_true rfl, Nat.le_of_ble_eq_true rfl⟩ hAe hQm htab hlocks (Nat.le_of_ble_eq_true rfl) (Nat.le_of_ble_eq_true rfl)
  refine cx_vv_ok (rest := []) (m_C_requireWithin l hst ca ad bq nF nO nL nA nC nV nU nP nE bF bO bL bA bC bV bU bP bE cT cK cO cQ cD pT pK pR pW pU pI pC uO uF uE uN wK jM jN jZ jB R _ p2 1 64 (.ok ()) h5) ⟨hx, hb, hml, hown, hts⟩ (cwV 3 hts (gV q341 q343 q1 q24 q344) rfl rfl rfl (by decide +kernel) ⟨Nat.le_of_ble_eq_true rfl, Nat.le_of_ble_eq_true rfl⟩) (va_recv hK hP (ci := 7) (q0 := 0) rfl rfl) hE hP hD hS hA hZ rfl hl.1 rfl (lv_room (Nat.le_of_ble_eq_true rfl)) dX3_promise_10 ⟨Nat.le_of_ble_eq_true rfl, Nat.le_of_ble_eq_true rfl⟩ (fun H locs hP hD hS => ?_)
  refine lv_iload_n hx hb dX3_promise_13 rfl (lv_at hl 2 rfl) ?_
  refine lv_aload_n hx hb dX3_promise_14 rfl (lv_at hl 0 rfl) ?_
  refine va_get (D := D) (ci := 7) (v := .ref (ad 1)) (C := RX3) (T := TX3) (N := 11) hx hb hts inX3 hown hK hP 0 rfl rfl 0 (by decide) (hts _ q182) (fun _ h9 => h9) rfl dX3_promise_15 ?_
  obtain ⟨r7, h8, hf⟩ := bnd hf
  refine call_vi (rest := [.int p2]) (m_S_freeTotal l ca ad bq nF nO nL nA nC nV nU nP nE bF bO bL bA bC bV bU bP bE cT cK cO cQ cD pT pK pR pW pU pI pC uO uF uE uN wK jM jN jZ jB R _ r7 h8) ⟨hx, hb, hml, hown, hts⟩ (cwV 0 hts (gV q561 q562 q563 q25 q564) rfl rfl rfl (by decide +kernel) ⟨Nat.le_of_ble_eq_true rfl, Nat.le_of_ble_eq_true rfl⟩) (va_recv hK hP (ci := 6) (q0 := 1) rfl rfl) hE hP hD hS hA rfl hl.1 rfl (lv_room (Nat.le_of_ble_eq_true rfl)) dX3_promise_18 ⟨Nat.le_of_ble_eq_true rfl, Nat.le_of_ble_eq_true rfl⟩ (fun H locs hP hD hS => ?_)
  refine lv_aload_n hx hb dX3_promise_21 rfl (lv_at hl 0 rfl) ?_
  refine va_get (D := D) (ci := 7) (v := .ref (ad 1)) (C := RX3) (T := TX3) (N := 11) hx hb hts inX3 hown hK hP 0 rfl rfl 0 (by decide) (hts _ q182) (fun _ h9 => h9) rfl dX3_promise_22 ?_
  obtain ⟨r9, h10, hf⟩ := bnd hf
  refine call_vi (rest := [.int r7, .int p2]) (m_S_promisedInAll l ca ad bq nF nO nL nA nC nV nU nP nE bF bO bL bA bC bV bU bP bE cT cK cO cQ cD pT pK pR pW pU pI pC uO uF uE uN wK jM jN jZ jB R _ r9 h10) ⟨hx, hb, hml, hown, hts⟩ (cwV 0 hts (gV q565 q566 q567 q25 q568) rfl rfl rfl (by decide +kernel) ⟨Nat.le_of_ble_eq_true rfl, Nat.le_of_ble_eq_true rfl⟩) (va_recv hK hP (ci := 6) (q0 := 1) rfl rfl) hE hP hD hS hA rfl hl.1 rfl (lv_room (Nat.le_of_ble_eq_true rfl)) dX3_promise_25 ⟨Nat.le_of_ble_eq_true rfl, Nat.le_of_ble_eq_true rfl⟩ (fun H locs hP hD hS => ?_)
  refine lv_isub hx hb dX3_promise_28 ?_
  refine lv_icmp_le (tgt := 42) hx hb dX3_promise_29 (by decide) (fun c11 => ?_) (fun c11 => ?_)
  · have hf := br_pos c11 hf
    refine lv_aload_n hx hb dX3_promise_42 rfl (lv_at hl 0 rfl) ?_
    refine va_get (D := D) (ci := 7) (v := .ref (ad 1)) (C := RX3) (T := TX3) (N := 11) hx hb hts inX3 hown hK hP 0 rfl rfl 0 (by decide) (hts _ q182) (fun _ h9 => h9) rfl dX3_promise_43 ?_
    refine lv_iload_n hx hb dX3_promise_46 rfl (lv_at hl 1 rfl) ?_
    obtain ⟨r12, h13, hf⟩ := bnd hf
    refine call_vi (rest := []) (m_S_promisedFor l ca ad bq nF nO nL nA nC nV nU nP nE bF bO bL bA bC bV bU bP bE cT cK cO cQ cD pT pK pR pW pU pI pC uO uF uE uN wK jM jN jZ jB R _ p1 r12 h13) ⟨hx, hb, hml, hown, hts⟩ (cwV 1 hts (gV q569 q570 q571 q25 q572) rfl rfl rfl (by decide +kernel) ⟨Nat.le_of_ble_eq_true rfl, Nat.le_of_ble_eq_true rfl⟩) (va_recv hK hP (ci := 6) (q0 := 1) rfl rfl) hE hP hD hS hA rfl hl.1 rfl (lv_room (Nat.le_of_ble_eq_true rfl)) dX3_promise_47 ⟨Nat.le_of_ble_eq_true rfl, Nat.le_of_ble_eq_true rfl⟩ (fun H locs hP hD hS => ?_)
    refine lv_iload_n hx hb dX3_promise_50 rfl (lv_at hl 2 rfl) ?_
    refine lv_iadd hx hb dX3_promise_51 ?_
    refine lv_istore_n (lv' := [(3, .int (r12 + p2)), (0, .ref (ad 0)), (1, .int p1), (2, .int p2)]) hx hb dX3_promise_52 rfl hl (by decide) rfl (fun ls hl => ?_)
    refine lv_aload_n hx hb dX3_promise_53 rfl (lv_at hl 1 rfl) ?_
    refine va_get (D := D) (ci := 7) (v := .ref (ad 1)) (C := RX3) (T := TX3) (N := 11) hx hb hts inX3 hown hK hP 0 rfl rfl 0 (by decide) (hts _ q182) (fun _ h9 => h9) rfl dX3_promise_54 ?_
    refine lv_iload_n hx hb dX3_promise_57 rfl (lv_at hl 2 rfl) ?_
    refine lv_iload_n hx hb dX3_promise_58 rfl (lv_at hl 0 rfl) ?_
    obtain ⟨nP_14, h15, hf⟩ := bnd hf
    refine call_vv (rest := []) (m_S_setPromised l ca ad bq nF nO nL nA nC nV nU nP nE bF bO bL bA bC bV bU bP bE cT cK cO cQ cD pT pK pR pW pU pI pC uO uF uE uN wK jM jN jZ jB R _ p1 (r12 + p2) nP_14 h15) ⟨hx, hb, hml, hown, hts⟩ (cwV 2 hts (gV q679 q583 q584 q25 q585) rfl rfl rfl (by decide +kernel) ⟨Nat.le_of_ble_eq_true rfl, Nat.le_of_ble_eq_true rfl⟩) (va_recv hK hP (ci := 6) (q0 := 1) rfl rfl) hE hP hD hS hA rfl hl.1 rfl (lv_room (Nat.le_of_ble_eq_true rfl)) dX3_promise_59 ⟨Nat.le_of_ble_eq_true rfl, Nat.le_of_ble_eq_true rfl⟩ (fun H locs hP hD hS => ?_)
    refine lv_aload_n hx hb dX3_promise_62 rfl (lv_at hl 1 rfl) ?_
    refine lv_bipush (v := 112) hx hb dX3_promise_63 (by decide) ?_
    obtain ⟨⟨nE_16, cK_17⟩, h18, hf⟩ := bnd hf
    refine call_vv (rest := []) (m_C_note l ca ad bq nF nO nL nA nC nV nU nP_14 nE bF bO bL bA bC bV bU bP bE cT cK cO cQ cD pT pK pR pW pU pI pC uO uF uE uN wK jM jN jZ jB R _ 112 nE_16 cK_17 h18) ⟨hx, hb, hml, hown, hts⟩ (cwV 1 hts (gV q408 q410 q4 q24 q411) rfl rfl rfl (by decide +kernel) ⟨Nat.le_of_ble_eq_true rfl, Nat.le_of_ble_eq_true rfl⟩) (va_recv hK hP (ci := 7) (q0 := 0) rfl rfl) hE hP hD hS hA rfl hl.1 rfl (lv_room (Nat.le_of_ble_eq_true rfl)) dX3_promise_65 ⟨Nat.le_of_ble_eq_true rfl, Nat.le_of_ble_eq_true rfl⟩ (fun H locs hP hD hS => ?_)
    refine lv_iload_n hx hb dX3_promise_68 rfl (lv_at hl 0 rfl) ?_
    cases hf
    exact endx_i hAe hQm hx hb hr hlocks rfl hP hD hS dX3_promise_69 (Nat.le_of_ble_eq_true rfl) (Nat.le_of_ble_eq_true rfl)
  · have hf := br_neg c11 hf
    cases hf
    exact endx_throw 4 rfl hAe hQm hst hx hb hts hE hown htab hlocks (by decide +kernel) q545 q42 sl4 at175 hZ (hl.1.trans hml.symm) hP hD hS dX3_promise_32 dX3_promise_35 dX3_promise_36 dX3_promise_38 dX3_promise_41 (Nat.le_of_ble_eq_true rfl) (Nat.le_of_ble_eq_true rfl) (Nat.le_of_ble_eq_true rfl) (Nat.le_of_ble_eq_true rfl) (Nat.le_of_ble_eq_true rfl) (Nat.le_of_ble_eq_true rfl)
def f_C_promisedTo (p1 : Int32) (nP : Nat → Int32) (cO : Int32) : Option (Except Nat Int32) :=
  (f_C_requireOwner p1 cO).bind fun x1 =>
  match x1 with
  | .error n3 => some (.error n3)
  | .ok _ =>
  (f_S_promisedFor p1 nP).bind fun r4 =>
  some (.ok r4)
set_option maxHeartbeats 4000000 in
set_option maxRecDepth 100000 in
theorem m_C_promisedTo (l : Launch) (hst : l.stackTraces = false) {D : va_G} (ca : Nat → ClassId) (ad : Nat → Nat) (bq : Nat) (nF : Int32) (nO : Nat → Int32) (nL : Nat → Int32) (nA : Nat → Int32) (nC : Nat → Int32) (nV : Nat → Int32) (nU : Nat → Int32) (nP : Nat → Int32) (nE : Int32) (bF : Int32) (bO : Nat → Int32) (bL : Nat → Int32) (bA : Nat → Int32) (bC : Nat → Int32) (bV : Nat → Int32) (bU : Nat → Int32) (bP : Nat → Int32) (bE : Int32) (cT : Int32) (cK : Nat → Int32) (cO : Int32) (cQ : Nat → Int32) (cD : Int32) (pT : Int32) (pK : Int32) (pR : Nat → Int32) (pW : Nat → Int32) (pU : Nat → Int32) (pI : Nat → Int32) (pC : Nat → Nat → Int32) (uO : Int32) (uF : Nat → Int32) (uE : Nat → Int32) (uN : Nat → Int32) (wK : Nat → Int32) (jM : Int32) (jN : Int32) (jZ : Nat) (jB : Nat → Int32) (R : va_W) (sz : Nat) (p1 : Int32) (ro : Except Nat Int32) (hf : f_C_promisedTo p1 nP cO = some ro) : vx_Met l yX3_promisedTo (wm yX3_promisedTo cX3_promisedTo 2 (some .int)) ({ frames := 7, cells := 1, slots := 6, locals := 111 } : Room) (PREX [.ref (ad 0), .int p1] D ca SL0 (WC ca ad bq nF nO nL nA nC nV nU nP nE bF bO bL bA bC bV bU bP bE cT cK cO cQ cD pT pK pR pW pU pI pC uO uF uE uN wK jM jN jZ jB ++ R) sz) (QXI ro D (WC ca ad bq nF nO nL nA nC nV nU nP nE bF bO bL bA bC bV bU bP bE cT cK cO cQ cD pT pK pR pW pU pI pC uO uF uE uN wK jM jN jZ jB ++ R) (WC ca ad bq nF nO nL nA nC nV nU nP nE bF bO bL bA bC bV bU bP bE cT cK cO cQ cD pT pK pR pW pU pI pC uO uF uE uN wK jM jN jZ jB ++ R) sz) (QXE ro D (WC ca ad bq nF nO nL nA nC nV nU nP nE bF bO bL bA bC bV bU bP bE cT cK cO cQ cD pT pK pR pW pU pI pC uO uF uE uN wK jM jN jZ jB ++ R) (WC ca ad bq nF nO nL nA nC nV nU nP nE bF bO bL bA bC bV bU bP bE cT cK cO cQ cD pT pK pR pW pU pI pC uO uF uE uN wK jM jN jZ jB ++ R) sz) 1 6 (va_A (WC ca ad bq nF nO nL nA nC nV nU nP nE bF bO bL bA bC bV bU bP bE cT cK cO cQ cD pT pK pR pW pU pI pC uO uF uE uN wK jM jN jZ jB ++ R) sz) := by
  refine vx_ofW (cc := cX3_promisedTo) (maxL := 2) (ret := (some .int)) (by decide) rfl ?_
  intro p e s m args below meth c s₁ B hml htab hv
  obtain ⟨rfl, rfl, hP, hE, hD0, hZ⟩ := hv
  have hx := B.exec
  have hb := B.bytes
  have hr := B.returns
  have hts := wm_ww (atoms_spec (ws := wm yX3_promisedTo cX3_promisedTo 2 (some .int)) B.pre)
  have hown : s.vm.findClass RX3 = some m.cls := findClass_of_methodNamed B.named
  have hlocks := B.notSynchronized
  have hK := hE.1
  have hD := hD0.self (sz := s.heap.size)
  generalize hAe : va_A (WC ca ad bq nF nO nL nA nC nV nU nP nE bF bO bL bA bC bV bU bP bE cT cK cO cQ cD pT pK pR pW pU pI pC uO uF uE uN wK jM jN jZ jB ++ R) s.heap.size = A at hD hZ ⊢
  have hA : ∀ q : Nat, s.heap.size ≤ q → A q := fun q h => by rw [← hAe]; exact Or.inr h
  have hS : va_S A s.heap s.heap [] := va_S.rf
  have hl := lv_entry ([.ref (ad 0), .int p1]) (n := 2) (Nat.le_of_ble_eq_true rfl)
  rw [lg_entry_eq]
  generalize (lg_sl ([.ref (ad 0), .int p1]) ++ List.replicate (2 - (lg_sl ([.ref (ad 0), .int p1])).length) Slot.unset).toArray = ls at hl ⊢
  have hl : lv_has ls 2 [(0, .ref (ad 0)), (1, .int p1)] := hl
  change W p l e ({ frames := 7, cells := 1, slots := 6, locals := 111 } : Room) s m _ below meth c s.heap [] 0 0 _ _
  generalize hQm : vx_MQ below (QXI ro D (WC ca ad bq nF nO nL nA nC nV nU nP nE bF bO bL bA bC bV bU bP bE cT cK cO cQ cD pT pK pR pW pU pI pC uO uF uE uN wK jM jN jZ jB ++ R) (WC ca ad bq nF nO nL nA nC nV nU nP nE bF bO bL bA bC bV bU bP bE cT cK cO cQ cD pT pK pR pW pU pI pC uO uF uE uN wK jM jN jZ jB ++ R) s.heap.size) (QXE ro D (WC ca ad bq nF nO nL nA nC nV nU nP nE bF bO bL bA bC bV bU bP bE cT cK cO cQ cD pT pK pR pW pU pI pC uO uF uE uN wK jM jN jZ jB ++ R) (WC ca ad bq nF nO nL nA nC nV nU nP nE bF bO bL bA bC bV bU bP bE cT cK cO cQ cD pT pK pR pW pU pI pC uO uF uE uN wK jM jN jZ jB ++ R) s.heap.size) _ s 1 6 A = Qm
  have hP : va_P D vwCl (WC ca ad bq nF nO nL nA nC nV nU nP nE bF bO bL bA bC bV bU bP bE cT cK cO cQ cD pT pK pR pW pU pI pC uO uF uE uN wK jM jN jZ jB ++ R) s.heap := hP
  generalize hae : ([.ref (ad 0), .int p1] : List Value).toArray = args at hts hQm ⊢
  refine lv_aload_n hx hb dX3_promisedTo_0 rfl (lv_at hl 0 rfl) ?_
  refine lv_iload_n hx hb dX3_promisedTo_1 rfl (lv_at hl 1 rfl) ?_
  obtain ⟨x1, h2, hf⟩ := bnd hf
  rcases x1 with n3 | _
  · have hf : some (.error n3) = some ro := hf
    cases hf
    exact cx_vv_err (rest := []) (m_C_requireOwner l hst ca ad bq nF nO nL nA nC nV nU nP nE bF bO bL bA bC bV bU bP bE cT cK cO cQ cD pT pK pR pW pU pI pC uO uF uE uN wK jM jN jZ jB R _ p1 (.error n3) h2) ⟨hx, hb, hml, hown, hts⟩ (cwV 1 hts (gV q386 q388 q3 q24 q389) rfl rfl rfl (by decide +kernel) ⟨Nat.le_of_ble_eq_true rfl, Nat.le_of_ble_eq_true rfl⟩) (va_recv hK hP (ci := 7) (q0 := 0) rfl rfl) hE hP hD hS hA hZ rfl hl.1 rfl (lv_room (Nat.le_of_ble_eq_true rfl)) dX3_promisedTo_2 ⟨Nat.le_of_ble_eq_true rfl, Nat.le_of_ble_eq_true rfl⟩ hAe hQm htab hlocks (Nat.le_of_ble_eq_true rfl) (Nat.le_of_ble_eq_true rfl)
  refine cx_vv_ok (rest := []) (m_C_requireOwner l hst ca ad bq nF nO nL nA nC nV nU nP nE bF bO bL bA bC bV bU bP bE cT cK cO cQ cD pT pK pR pW pU pI pC uO uF uE uN wK jM jN jZ jB R _ p1 (.ok ()) h2) ⟨hx, hb, hml, hown, hts⟩ (cwV 1 hts (gV q386 q388 q3 q24 q389) rfl rfl rfl (by decide +kernel) ⟨Nat.le_of_ble_eq_true rfl, Nat.le_of_ble_eq_true rfl⟩) (va_recv hK hP (ci := 7) (q0 := 0) rfl rfl) hE hP hD hS hA hZ rfl hl.1 rfl (lv_room (Nat.le_of_ble_eq_true rfl)) dX3_promisedTo_2 ⟨Nat.le_of_ble_eq_true rfl, Nat.le_of_ble_eq_true rfl⟩ (fun H locs hP hD hS => ?_)
  refine lv_aload_n hx hb dX3_promisedTo_5 rfl (lv_at hl 0 rfl) ?_
  refine va_get (D := D) (ci := 7) (v := .ref (ad 1)) (C := RX3) (T := TX3) (N := 11) hx hb hts inX3 hown hK hP 0 rfl rfl 0 (by decide) (hts _ q182) (fun _ h9 => h9) rfl dX3_promisedTo_6 ?_
  refine lv_iload_n hx hb dX3_promisedTo_9 rfl (lv_at hl 1 rfl) ?_
  obtain ⟨r4, h5, hf⟩ := bnd hf
  refine call_vi (rest := []) (m_S_promisedFor l ca ad bq nF nO nL nA nC nV nU nP nE bF bO bL bA bC bV bU bP bE cT cK cO cQ cD pT pK pR pW pU pI pC uO uF uE uN wK jM jN jZ jB R _ p1 r4 h5) ⟨hx, hb, hml, hown, hts⟩ (cwV 1 hts (gV q569 q570 q571 q25 q572) rfl rfl rfl (by decide +kernel) ⟨Nat.le_of_ble_eq_true rfl, Nat.le_of_ble_eq_true rfl⟩) (va_recv hK hP (ci := 6) (q0 := 1) rfl rfl) hE hP hD hS hA rfl hl.1 rfl (lv_room (Nat.le_of_ble_eq_true rfl)) dX3_promisedTo_10 ⟨Nat.le_of_ble_eq_true rfl, Nat.le_of_ble_eq_true rfl⟩ (fun H locs hP hD hS => ?_)
  cases hf
  exact endx_i hAe hQm hx hb hr hlocks rfl hP hD hS dX3_promisedTo_13 (Nat.le_of_ble_eq_true rfl) (Nat.le_of_ble_eq_true rfl)
def f_C_giveBack (p1 : Int32) (nP : Nat → Int32) (nE : Int32) (cK : Nat → Int32) (cO : Int32) : Option (Except Nat Int32 × (Nat → Int32) × Int32 × (Nat → Int32)) :=
  (f_C_requireOwner p1 cO).bind fun x1 =>
  match x1 with
  | .error n3 => some ((.error n3), nP, nE, cK)
  | .ok _ =>
  (f_S_promisedFor p1 nP).bind fun r4 =>
  if r4 = 0 then
    some ((.error 2), nP, nE, cK)
  else
    (f_S_setPromised p1 0 nP).bind fun nP_7 =>
    (f_C_note 103 nE cK).bind fun (nE_9, cK_10) =>
    some ((.ok r4), nP_7, nE_9, cK_10)
set_option maxHeartbeats 4000000 in
set_option maxRecDepth 100000 in
theorem m_C_giveBack (l : Launch) (hst : l.stackTraces = false) {D : va_G} (ca : Nat → ClassId) (ad : Nat → Nat) (bq : Nat) (nF : Int32) (nO : Nat → Int32) (nL : Nat → Int32) (nA : Nat → Int32) (nC : Nat → Int32) (nV : Nat → Int32) (nU : Nat → Int32) (nP : Nat → Int32) (nE : Int32) (bF : Int32) (bO : Nat → Int32) (bL : Nat → Int32) (bA : Nat → Int32) (bC : Nat → Int32) (bV : Nat → Int32) (bU : Nat → Int32) (bP : Nat → Int32) (bE : Int32) (cT : Int32) (cK : Nat → Int32) (cO : Int32) (cQ : Nat → Int32) (cD : Int32) (pT : Int32) (pK : Int32) (pR : Nat → Int32) (pW : Nat → Int32) (pU : Nat → Int32) (pI : Nat → Int32) (pC : Nat → Nat → Int32) (uO : Int32) (uF : Nat → Int32) (uE : Nat → Int32) (uN : Nat → Int32) (wK : Nat → Int32) (jM : Int32) (jN : Int32) (jZ : Nat) (jB : Nat → Int32) (R : va_W) (sz : Nat) (p1 : Int32) (ro : Except Nat Int32) (onP : Nat → Int32) (onE : Int32) (ocK : Nat → Int32) (hf : f_C_giveBack p1 nP nE cK cO = some (ro, onP, onE, ocK)) : vx_Met l yX3_giveBack (wm yX3_giveBack cX3_giveBack 3 (some .int)) ({ frames := 7, cells := 2, slots := 12, locals := 111 } : Room) (PREX [.ref (ad 0), .int p1] D ca SL0 (WC ca ad bq nF nO nL nA nC nV nU nP nE bF bO bL bA bC bV bU bP bE cT cK cO cQ cD pT pK pR pW pU pI pC uO uF uE uN wK jM jN jZ jB ++ R) sz) (QXI ro D (WC ca ad bq nF nO nL nA nC nV nU onP onE bF bO bL bA bC bV bU bP bE cT ocK cO cQ cD pT pK pR pW pU pI pC uO uF uE uN wK jM jN jZ jB ++ R) (WC ca ad bq nF nO nL nA nC nV nU nP nE bF bO bL bA bC bV bU bP bE cT cK cO cQ cD pT pK pR pW pU pI pC uO uF uE uN wK jM jN jZ jB ++ R) sz) (QXE ro D (WC ca ad bq nF nO nL nA nC nV nU onP onE bF bO bL bA bC bV bU bP bE cT ocK cO cQ cD pT pK pR pW pU pI pC uO uF uE uN wK jM jN jZ jB ++ R) (WC ca ad bq nF nO nL nA nC nV nU nP nE bF bO bL bA bC bV bU bP bE cT cK cO cQ cD pT pK pR pW pU pI pC uO uF uE uN wK jM jN jZ jB ++ R) sz) 2 12 (va_A (WC ca ad bq nF nO nL nA nC nV nU nP nE bF bO bL bA bC bV bU bP bE cT cK cO cQ cD pT pK pR pW pU pI pC uO uF uE uN wK jM jN jZ jB ++ R) sz) := by
  refine vx_ofW (cc := cX3_giveBack) (maxL := 3) (ret := (some .int)) (by decide) rfl ?_
  intro p e s m args below meth c s₁ B hml htab hv
  obtain ⟨rfl, rfl, hP, hE, hD0, hZ⟩ := hv
  have hx := B.exec
  have hb := B.bytes
  have hr := B.returns
  have hts := wm_ww (atoms_spec (ws := wm yX3_giveBack cX3_giveBack 3 (some .int)) B.pre)
  have hown : s.vm.findClass RX3 = some m.cls := findClass_of_methodNamed B.named
  have hlocks := B.notSynchronized
  have hK := hE.1
  have hD := hD0.self (sz := s.heap.size)
  generalize hAe : va_A (WC ca ad bq nF nO nL nA nC nV nU nP nE bF bO bL bA bC bV bU bP bE cT cK cO cQ cD pT pK pR pW pU pI pC uO uF uE uN wK jM jN jZ jB ++ R) s.heap.size = A at hD hZ ⊢
  have hA : ∀ q : Nat, s.heap.size ≤ q → A q := fun q h => by rw [← hAe]; exact Or.inr h
  have hS : va_S A s.heap s.heap [] := va_S.rf
  have hl := lv_entry ([.ref (ad 0), .int p1]) (n := 3) (Nat.le_of_ble_eq_true rfl)
  rw [lg_entry_eq]
  generalize (lg_sl ([.ref (ad 0), .int p1]) ++ List.replicate (3 - (lg_sl ([.ref (ad 0), .int p1])).length) Slot.unset).toArray = ls at hl ⊢
  have hl : lv_has ls 3 [(0, .ref (ad 0)), (1, .int p1)] := hl
  change W p l e ({ frames := 7, cells := 2, slots := 12, locals := 111 } : Room) s m _ below meth c s.heap [] 0 0 _ _
  generalize hQm : vx_MQ below (QXI ro D (WC ca ad bq nF nO nL nA nC nV nU onP onE bF bO bL bA bC bV bU bP bE cT ocK cO cQ cD pT pK pR pW pU pI pC uO uF uE uN wK jM jN jZ jB ++ R) (WC ca ad bq nF nO nL nA nC nV nU nP nE bF bO bL bA bC bV bU bP bE cT cK cO cQ cD pT pK pR pW pU pI pC uO uF uE uN wK jM jN jZ jB ++ R) s.heap.size) (QXE ro D (WC ca ad bq nF nO nL nA nC nV nU onP onE bF bO bL bA bC bV bU bP bE cT ocK cO cQ cD pT pK pR pW pU pI pC uO uF uE uN wK jM jN jZ jB ++ R) (WC ca ad bq nF nO nL nA nC nV nU nP nE bF bO bL bA bC bV bU bP bE cT cK cO cQ cD pT pK pR pW pU pI pC uO uF uE uN wK jM jN jZ jB ++ R) s.heap.size) _ s 2 12 A = Qm
  have hP : va_P D vwCl (WC ca ad bq nF nO nL nA nC nV nU nP nE bF bO bL bA bC bV bU bP bE cT cK cO cQ cD pT pK pR pW pU pI pC uO uF uE uN wK jM jN jZ jB ++ R) s.heap := hP
  generalize hae : ([.ref (ad 0), .int p1] : List Value).toArray = args at hts hQm ⊢
  refine lv_aload_n hx hb dX3_giveBack_0 rfl (lv_at hl 0 rfl) ?_
  refine lv_iload_n hx hb dX3_giveBack_1 rfl (lv_at hl 1 rfl) ?_
  obtain ⟨x1, h2, hf⟩ := bnd hf
  rcases x1 with n3 | _
  · have hf : some ((.error n3), nP, nE, cK) = some (ro, onP, onE, ocK) := hf
    cases hf
    exact cx_vv_err (rest := []) (m_C_requireOwner l hst ca ad bq nF nO nL nA nC nV nU nP nE bF bO bL bA bC bV bU bP bE cT cK cO cQ cD pT pK pR pW pU pI pC uO uF uE uN wK jM jN jZ jB R _ p1 (.error n3) h2) ⟨hx, hb, hml, hown, hts⟩ (cwV 1 hts (gV q386 q388 q3 q24 q389) rfl rfl rfl (by decide +kernel) ⟨Nat.le_of_ble_eq_true rfl, Nat.le_of_ble_eq_true rfl⟩) (va_recv hK hP (ci := 7) (q0 := 0) rfl rfl) hE hP hD hS hA hZ rfl hl.1 rfl (lv_room (Nat.le_of_ble_eq_true rfl)) dX3_giveBack_2 ⟨Nat.le_of_ble_eq_true rfl, Nat.le_of_ble_eq_true rfl⟩ hAe hQm htab hlocks (Nat.le_of_ble_eq_true rfl) (Nat.le_of_ble_eq_true rfl)
  refine cx_vv_ok (rest := []) (m_C_requireOwner l hst ca ad bq nF nO nL nA nC nV nU nP nE bF bO bL bA bC bV bU bP bE cT cK cO cQ cD pT pK pR pW pU pI pC uO uF uE uN wK jM jN jZ jB R _ p1 (.ok ()) h2) ⟨hx, hb, hml, hown, hts⟩ (cwV 1 hts (gV q386 q388 q3 q24 q389) rfl rfl rfl (by decide +kernel) ⟨Nat.le_of_ble_eq_true rfl, Nat.le_of_ble_eq_true rfl⟩) (va_recv hK hP (ci := 7) (q0 := 0) rfl rfl) hE hP hD hS hA hZ rfl hl.1 rfl (lv_room (Nat.le_of_ble_eq_true rfl)) dX3_giveBack_2 ⟨Nat.le_of_ble_eq_true rfl, Nat.le_of_ble_eq_true rfl⟩ (fun H locs hP hD hS => ?_)
  refine lv_aload_n hx hb dX3_giveBack_5 rfl (lv_at hl 0 rfl) ?_
  refine va_get (D := D) (ci := 7) (v := .ref (ad 1)) (C := RX3) (T := TX3) (N := 11) hx hb hts inX3 hown hK hP 0 rfl rfl 0 (by decide) (hts _ q182) (fun _ h9 => h9) rfl dX3_giveBack_6 ?_
  refine lv_iload_n hx hb dX3_giveBack_9 rfl (lv_at hl 1 rfl) ?_
  obtain ⟨r4, h5, hf⟩ := bnd hf
  refine call_vi (rest := []) (m_S_promisedFor l ca ad bq nF nO nL nA nC nV nU nP nE bF bO bL bA bC bV bU bP bE cT cK cO cQ cD pT pK pR pW pU pI pC uO uF uE uN wK jM jN jZ jB R _ p1 r4 h5) ⟨hx, hb, hml, hown, hts⟩ (cwV 1 hts (gV q569 q570 q571 q25 q572) rfl rfl rfl (by decide +kernel) ⟨Nat.le_of_ble_eq_true rfl, Nat.le_of_ble_eq_true rfl⟩) (va_recv hK hP (ci := 6) (q0 := 1) rfl rfl) hE hP hD hS hA rfl hl.1 rfl (lv_room (Nat.le_of_ble_eq_true rfl)) dX3_giveBack_10 ⟨Nat.le_of_ble_eq_true rfl, Nat.le_of_ble_eq_true rfl⟩ (fun H locs hP hD hS => ?_)
  refine lv_istore_n (lv' := [(2, .int r4), (0, .ref (ad 0)), (1, .int p1)]) hx hb dX3_giveBack_13 rfl hl (by decide) rfl (fun ls hl => ?_)
  refine lv_iload_n hx hb dX3_giveBack_14 rfl (lv_at hl 0 rfl) ?_
  refine lv_if_ne (tgt := 28) hx hb dX3_giveBack_15 (by decide) (fun c6 => ?_) (fun c6 => ?_)
  · have hf := br_neg c6 hf
    refine lv_aload_n hx hb dX3_giveBack_28 rfl (lv_at hl 1 rfl) ?_
    refine va_get (D := D) (ci := 7) (v := .ref (ad 1)) (C := RX3) (T := TX3) (N := 11) hx hb hts inX3 hown hK hP 0 rfl rfl 0 (by decide) (hts _ q182) (fun _ h9 => h9) rfl dX3_giveBack_29 ?_
    refine lv_iload_n hx hb dX3_giveBack_32 rfl (lv_at hl 2 rfl) ?_
    refine lv_iconst (v := 0) hx hb dX3_giveBack_33 (by decide) ?_
    obtain ⟨nP_7, h8, hf⟩ := bnd hf
    refine call_vv (rest := []) (m_S_setPromised l ca ad bq nF nO nL nA nC nV nU nP nE bF bO bL bA bC bV bU bP bE cT cK cO cQ cD pT pK pR pW pU pI pC uO uF uE uN wK jM jN jZ jB R _ p1 0 nP_7 h8) ⟨hx, hb, hml, hown, hts⟩ (cwV 2 hts (gV q679 q583 q584 q25 q585) rfl rfl rfl (by decide +kernel) ⟨Nat.le_of_ble_eq_true rfl, Nat.le_of_ble_eq_true rfl⟩) (va_recv hK hP (ci := 6) (q0 := 1) rfl rfl) hE hP hD hS hA rfl hl.1 rfl (lv_room (Nat.le_of_ble_eq_true rfl)) dX3_giveBack_34 ⟨Nat.le_of_ble_eq_true rfl, Nat.le_of_ble_eq_true rfl⟩ (fun H locs hP hD hS => ?_)
    refine lv_aload_n hx hb dX3_giveBack_37 rfl (lv_at hl 1 rfl) ?_
    refine lv_bipush (v := 103) hx hb dX3_giveBack_38 (by decide) ?_
    obtain ⟨⟨nE_9, cK_10⟩, h11, hf⟩ := bnd hf
    refine call_vv (rest := []) (m_C_note l ca ad bq nF nO nL nA nC nV nU nP_7 nE bF bO bL bA bC bV bU bP bE cT cK cO cQ cD pT pK pR pW pU pI pC uO uF uE uN wK jM jN jZ jB R _ 103 nE_9 cK_10 h11) ⟨hx, hb, hml, hown, hts⟩ (cwV 1 hts (gV q408 q410 q4 q24 q411) rfl rfl rfl (by decide +kernel) ⟨Nat.le_of_ble_eq_true rfl, Nat.le_of_ble_eq_true rfl⟩) (va_recv hK hP (ci := 7) (q0 := 0) rfl rfl) hE hP hD hS hA rfl hl.1 rfl (lv_room (Nat.le_of_ble_eq_true rfl)) dX3_giveBack_40 ⟨Nat.le_of_ble_eq_true rfl, Nat.le_of_ble_eq_true rfl⟩ (fun H locs hP hD hS => ?_)
    refine lv_iload_n hx hb dX3_giveBack_43 rfl (lv_at hl 0 rfl) ?_
    cases hf
    exact endx_i hAe hQm hx hb hr hlocks rfl hP hD hS dX3_giveBack_44 (Nat.le_of_ble_eq_true rfl) (Nat.le_of_ble_eq_true rfl)
  · have hf := br_pos c6 hf
    cases hf
    exact endx_throw 2 rfl hAe hQm hst hx hb hts hE hown htab hlocks (by decide +kernel) q365 q39 sl5 at73 hZ (hl.1.trans hml.symm) hP hD hS dX3_giveBack_18 dX3_giveBack_21 dX3_giveBack_22 dX3_giveBack_24 dX3_giveBack_27 (Nat.le_of_ble_eq_true rfl) (Nat.le_of_ble_eq_true rfl) (Nat.le_of_ble_eq_true rfl) (Nat.le_of_ble_eq_true rfl) (Nat.le_of_ble_eq_true rfl) (Nat.le_of_ble_eq_true rfl)
def f_C_takeSnapshot (p1 : Int32) (nF : Int32) (nA : Nat → Int32) (nC : Nat → Int32) (nU : Nat → Int32) (cT : Int32) (pT : Int32) (pK : Int32) (pR : Nat → Int32) (pW : Nat → Int32) (pU : Nat → Int32) (pI : Nat → Int32) (pC : Nat → Nat → Int32) : Option (Except Nat Int32 × (Nat → Int32) × Int32 × Int32 × (Nat → Int32) × (Nat → Int32) × (Nat → Int32) × (Nat → Int32) × (Nat → Nat → Int32)) :=
  (f_C_requireWithin p1 0 9).bind fun x1 =>
  match x1 with
  | .error n3 => some ((.error n3), nU, pT, pK, pR, pW, pU, pI, pC)
  | .ok _ =>
  (f_C_requireNoTransaction cT).bind fun x4 =>
  match x4 with
  | .error n6 => some ((.error n6), nU, pT, pK, pR, pW, pU, pI, pC)
  | .ok _ =>
  (f_P_keptTotal pK).bind fun r7 =>
  if r7 < 8 then
    (f_P_takenTotal pT).bind fun r10 =>
    if r10 < 30 then
      (f_P_add p1 nF nA nC nU pT pK pR pW pU pI pC).bind fun (r13, nU_14, pT_15, pK_16, pR_17, pW_18, pU_19, pI_20, pC_21) =>
      some ((.ok r13), nU_14, pT_15, pK_16, pR_17, pW_18, pU_19, pI_20, pC_21)
    else
      some ((.error 2), nU, pT, pK, pR, pW, pU, pI, pC)
  else
    some ((.error 2), nU, pT, pK, pR, pW, pU, pI, pC)
set_option maxHeartbeats 4000000 in
set_option maxRecDepth 100000 in
theorem m_C_takeSnapshot (l : Launch) (hst : l.stackTraces = false) {D : va_G} (ca : Nat → ClassId) (ad : Nat → Nat) (bq : Nat) (nF : Int32) (nO : Nat → Int32) (nL : Nat → Int32) (nA : Nat → Int32) (nC : Nat → Int32) (nV : Nat → Int32) (nU : Nat → Int32) (nP : Nat → Int32) (nE : Int32) (bF : Int32) (bO : Nat → Int32) (bL : Nat → Int32) (bA : Nat → Int32) (bC : Nat → Int32) (bV : Nat → Int32) (bU : Nat → Int32) (bP : Nat → Int32) (bE : Int32) (cT : Int32) (cK : Nat → Int32) (cO : Int32) (cQ : Nat → Int32) (cD : Int32) (pT : Int32) (pK : Int32) (pR : Nat → Int32) (pW : Nat → Int32) (pU : Nat → Int32) (pI : Nat → Int32) (pC : Nat → Nat → Int32) (uO : Int32) (uF : Nat → Int32) (uE : Nat → Int32) (uN : Nat → Int32) (wK : Nat → Int32) (jM : Int32) (jN : Int32) (jZ : Nat) (jB : Nat → Int32) (R : va_W) (sz : Nat) (p1 : Int32) (ro : Except Nat Int32) (onU : Nat → Int32) (opT : Int32) (opK : Int32) (opR : Nat → Int32) (opW : Nat → Int32) (opU : Nat → Int32) (opI : Nat → Int32) (opC : Nat → Nat → Int32) (hf : f_C_takeSnapshot p1 nF nA nC nU cT pT pK pR pW pU pI pC = some (ro, onU, opT, opK, opR, opW, opU, opI, opC)) : vx_Met l yX3_takeSnapshot (wm yX3_takeSnapshot cX3_takeSnapshot 2 (some .int)) ({ frames := 7, cells := 3, slots := 18, locals := 113 } : Room) (PREX [.ref (ad 0), .int p1] D ca SL0 (WC ca ad bq nF nO nL nA nC nV nU nP nE bF bO bL bA bC bV bU bP bE cT cK cO cQ cD pT pK pR pW pU pI pC uO uF uE uN wK jM jN jZ jB ++ R) sz) (QXI ro D (WC ca ad bq nF nO nL nA nC nV onU nP nE bF bO bL bA bC bV bU bP bE cT cK cO cQ cD opT opK opR opW opU opI opC uO uF uE uN wK jM jN jZ jB ++ R) (WC ca ad bq nF nO nL nA nC nV nU nP nE bF bO bL bA bC bV bU bP bE cT cK cO cQ cD pT pK pR pW pU pI pC uO uF uE uN wK jM jN jZ jB ++ R) sz) (QXE ro D (WC ca ad bq nF nO nL nA nC nV onU nP nE bF bO bL bA bC bV bU bP bE cT cK cO cQ cD opT opK opR opW opU opI opC uO uF uE uN wK jM jN jZ jB ++ R) (WC ca ad bq nF nO nL nA nC nV nU nP nE bF bO bL bA bC bV bU bP bE cT cK cO cQ cD pT pK pR pW pU pI pC uO uF uE uN wK jM jN jZ jB ++ R) sz) 3 18 (va_A (WC ca ad bq nF nO nL nA nC nV nU nP nE bF bO bL bA bC bV bU bP bE cT cK cO cQ cD pT pK pR pW pU pI pC uO uF uE uN wK jM jN jZ jB ++ R) sz) := by
  refine vx_ofW (cc := cX3_takeSnapshot) (maxL := 2) (ret := (some .int)) (by decide) rfl ?_
  intro p e s m args below meth c s₁ B hml htab hv
  obtain ⟨rfl, rfl, hP, hE, hD0, hZ⟩ := hv
  have hx := B.exec
  have hb := B.bytes
  have hr := B.returns
  have hts := wm_ww (atoms_spec (ws := wm yX3_takeSnapshot cX3_takeSnapshot 2 (some .int)) B.pre)
  have hown : s.vm.findClass RX3 = some m.cls := findClass_of_methodNamed B.named
  have hlocks := B.notSynchronized
  have hK := hE.1
  have hD := hD0.self (sz := s.heap.size)
  generalize hAe : va_A (WC ca ad bq nF nO nL nA nC nV nU nP nE bF bO bL bA bC bV bU bP bE cT cK cO cQ cD pT pK pR pW pU pI pC uO uF uE uN wK jM jN jZ jB ++ R) s.heap.size = A at hD hZ ⊢
  have hA : ∀ q : Nat, s.heap.size ≤ q → A q := fun q h => by rw [← hAe]; exact Or.inr h
  have hS : va_S A s.heap s.heap [] := va_S.rf
  have hl := lv_entry ([.ref (ad 0), .int p1]) (n := 2) (Nat.le_of_ble_eq_true rfl)
  rw [lg_entry_eq]
  generalize (lg_sl ([.ref (ad 0), .int p1]) ++ List.replicate (2 - (lg_sl ([.ref (ad 0), .int p1])).length) Slot.unset).toArray = ls at hl ⊢
  have hl : lv_has ls 2 [(0, .ref (ad 0)), (1, .int p1)] := hl
  change W p l e ({ frames := 7, cells := 3, slots := 18, locals := 113 } : Room) s m _ below meth c s.heap [] 0 0 _ _
  generalize hQm : vx_MQ below (QXI ro D (WC ca ad bq nF nO nL nA nC nV onU nP nE bF bO bL bA bC bV bU bP bE cT cK cO cQ cD opT opK opR opW opU opI opC uO uF uE uN wK jM jN jZ jB ++ R) (WC ca ad bq nF nO nL nA nC nV nU nP nE bF bO bL bA bC bV bU bP bE cT cK cO cQ cD pT pK pR pW pU pI pC uO uF uE uN wK jM jN jZ jB ++ R) s.heap.size) (QXE ro D (WC ca ad bq nF nO nL nA nC nV onU nP nE bF bO bL bA bC bV bU bP bE cT cK cO cQ cD opT opK opR opW opU opI opC uO uF uE uN wK jM jN jZ jB ++ R) (WC ca ad bq nF nO nL nA nC nV nU nP nE bF bO bL bA bC bV bU bP bE cT cK cO cQ cD pT pK pR pW pU pI pC uO uF uE uN wK jM jN jZ jB ++ R) s.heap.size) _ s 3 18 A = Qm
  have hP : va_P D vwCl (WC ca ad bq nF nO nL nA nC nV nU nP nE bF bO bL bA bC bV bU bP bE cT cK cO cQ cD pT pK pR pW pU pI pC uO uF uE uN wK jM jN jZ jB ++ R) s.heap := hP
  generalize hae : ([.ref (ad 0), .int p1] : List Value).toArray = args at hts hQm ⊢
  refine lv_aload_n hx hb dX3_takeSnapshot_0 rfl (lv_at hl 0 rfl) ?_
  refine lv_iload_n hx hb dX3_takeSnapshot_1 rfl (lv_at hl 1 rfl) ?_
  refine lv_iconst (v := 0) hx hb dX3_takeSnapshot_2 (by decide) ?_
  refine lv_bipush (v := 9) hx hb dX3_takeSnapshot_3 (by decide) ?_
  obtain ⟨x1, h2, hf⟩ := bnd hf
  rcases x1 with n3 | _
  · have hf : some ((.error n3), nU, pT, pK, pR, pW, pU, pI, pC) = some (ro, onU, opT, opK, opR, opW, opU, opI, opC) := hf
    cases hf
    exact cx_vv_err (rest := []) (m_C_requireWithin l hst ca ad bq nF nO nL nA nC nV nU nP nE bF bO bL bA bC bV bU bP bE cT cK cO cQ cD pT pK pR pW pU pI pC uO uF uE uN wK jM jN jZ jB R _ p1 0 9 (.error n3) h2) ⟨hx, hb, hml, hown, hts⟩ (cwV 3 hts (gV q341 q343 q1 q24 q344) rfl rfl rfl (by decide +kernel) ⟨Nat.le_of_ble_eq_true rfl, Nat.le_of_ble_eq_true rfl⟩) (va_recv hK hP (ci := 7) (q0 := 0) rfl rfl) hE hP hD hS hA hZ rfl hl.1 rfl (lv_room (Nat.le_of_ble_eq_true rfl)) dX3_takeSnapshot_5 ⟨Nat.le_of_ble_eq_true rfl, Nat.le_of_ble_eq_true rfl⟩ hAe hQm htab hlocks (Nat.le_of_ble_eq_true rfl) (Nat.le_of_ble_eq_true rfl)
  refine cx_vv_ok (rest := []) (m_C_requireWithin l hst ca ad bq nF nO nL nA nC nV nU nP nE bF bO bL bA bC bV bU bP bE cT cK cO cQ cD pT pK pR pW pU pI pC uO uF uE uN wK jM jN jZ jB R _ p1 0 9 (.ok ()) h2) ⟨hx, hb, hml, hown, hts⟩ (cwV 3 hts (gV q341 q343 q1 q24 q344) rfl rfl rfl (by decide +kernel) ⟨Nat.le_of_ble_eq_true rfl, Nat.le_of_ble_eq_true rfl⟩) (va_recv hK hP (ci := 7) (q0 := 0) rfl rfl) hE hP hD hS hA hZ rfl hl.1 rfl (lv_room (Nat.le_of_ble_eq_true rfl)) dX3_takeSnapshot_5 ⟨Nat.le_of_ble_eq_true rfl, Nat.le_of_ble_eq_true rfl⟩ (fun H locs hP hD hS => ?_)
  refine lv_aload_n hx hb dX3_takeSnapshot_8 rfl (lv_at hl 0 rfl) ?_
  obtain ⟨x4, h5, hf⟩ := bnd hf
  rcases x4 with n6 | _
  · have hf : some ((.error n6), nU, pT, pK, pR, pW, pU, pI, pC) = some (ro, onU, opT, opK, opR, opW, opU, opI, opC) := hf
    cases hf
    exact cx_vv_err (rest := []) (m_C_requireNoTransaction l hst ca ad bq nF nO nL nA nC nV nU nP nE bF bO bL bA bC bV bU bP bE cT cK cO cQ cD pT pK pR pW pU pI pC uO uF uE uN wK jM jN jZ jB R _ (.error n6) h5) ⟨hx, hb, hml, hown, hts⟩ (cwV 0 hts (gV q361 q363 q2 q24 q364) rfl rfl rfl (by decide +kernel) ⟨Nat.le_of_ble_eq_true rfl, Nat.le_of_ble_eq_true rfl⟩) (va_recv hK hP (ci := 7) (q0 := 0) rfl rfl) hE hP hD hS hA hZ rfl hl.1 rfl (lv_room (Nat.le_of_ble_eq_true rfl)) dX3_takeSnapshot_9 ⟨Nat.le_of_ble_eq_true rfl, Nat.le_of_ble_eq_true rfl⟩ hAe hQm htab hlocks (Nat.le_of_ble_eq_true rfl) (Nat.le_of_ble_eq_true rfl)
  refine cx_vv_ok (rest := []) (m_C_requireNoTransaction l hst ca ad bq nF nO nL nA nC nV nU nP nE bF bO bL bA bC bV bU bP bE cT cK cO cQ cD pT pK pR pW pU pI pC uO uF uE uN wK jM jN jZ jB R _ (.ok ()) h5) ⟨hx, hb, hml, hown, hts⟩ (cwV 0 hts (gV q361 q363 q2 q24 q364) rfl rfl rfl (by decide +kernel) ⟨Nat.le_of_ble_eq_true rfl, Nat.le_of_ble_eq_true rfl⟩) (va_recv hK hP (ci := 7) (q0 := 0) rfl rfl) hE hP hD hS hA hZ rfl hl.1 rfl (lv_room (Nat.le_of_ble_eq_true rfl)) dX3_takeSnapshot_9 ⟨Nat.le_of_ble_eq_true rfl, Nat.le_of_ble_eq_true rfl⟩ (fun H locs hP hD hS => ?_)
  refine lv_aload_n hx hb dX3_takeSnapshot_12 rfl (lv_at hl 0 rfl) ?_
  refine va_get (D := D) (ci := 7) (v := .ref (ad 5)) (C := RX3) (T := TX3) (N := 11) hx hb hts inX3 hown hK hP 0 rfl rfl 6 (by decide) (hts _ q188) (fun _ h9 => h9) rfl dX3_takeSnapshot_13 ?_
  obtain ⟨r7, h8, hf⟩ := bnd hf
  refine call_vi (rest := []) (m_P_keptTotal l ca ad bq nF nO nL nA nC nV nU nP nE bF bO bL bA bC bV bU bP bE cT cK cO cQ cD pT pK pR pW pU pI pC uO uF uE uN wK jM jN jZ jB R _ r7 h8) ⟨hx, hb, hml, hown, hts⟩ (cwV 0 hts (gV q693 q694 q695 q27 q696) rfl rfl rfl (by decide +kernel) ⟨Nat.le_of_ble_eq_true rfl, Nat.le_of_ble_eq_true rfl⟩) (va_recv hK hP (ci := 5) (q0 := 19) rfl rfl) hE hP hD hS hA rfl hl.1 rfl (lv_room (Nat.le_of_ble_eq_true rfl)) dX3_takeSnapshot_16 ⟨Nat.le_of_ble_eq_true rfl, Nat.le_of_ble_eq_true rfl⟩ (fun H locs hP hD hS => ?_)
  refine lv_bipush (v := 8) hx hb dX3_takeSnapshot_19 (by decide) ?_
  refine lv_icmp_lt (tgt := 34) hx hb dX3_takeSnapshot_21 (by decide) (fun c9 => ?_) (fun c9 => ?_)
  · have hf := br_pos c9 hf
    refine lv_aload_n hx hb dX3_takeSnapshot_34 rfl (lv_at hl 0 rfl) ?_
    refine va_get (D := D) (ci := 7) (v := .ref (ad 5)) (C := RX3) (T := TX3) (N := 11) hx hb hts inX3 hown hK hP 0 rfl rfl 6 (by decide) (hts _ q188) (fun _ h9 => h9) rfl dX3_takeSnapshot_35 ?_
    obtain ⟨r10, h11, hf⟩ := bnd hf
    refine call_vi (rest := []) (m_P_takenTotal l ca ad bq nF nO nL nA nC nV nU nP nE bF bO bL bA bC bV bU bP bE cT cK cO cQ cD pT pK pR pW pU pI pC uO uF uE uN wK jM jN jZ jB R _ r10 h11) ⟨hx, hb, hml, hown, hts⟩ (cwV 0 hts (gV q698 q699 q700 q27 q701) rfl rfl rfl (by decide +kernel) ⟨Nat.le_of_ble_eq_true rfl, Nat.le_of_ble_eq_true rfl⟩) (va_recv hK hP (ci := 5) (q0 := 19) rfl rfl) hE hP hD hS hA rfl hl.1 rfl (lv_room (Nat.le_of_ble_eq_true rfl)) dX3_takeSnapshot_38 ⟨Nat.le_of_ble_eq_true rfl, Nat.le_of_ble_eq_true rfl⟩ (fun H locs hP hD hS => ?_)
    refine lv_bipush (v := 30) hx hb dX3_takeSnapshot_41 (by decide) ?_
    refine lv_icmp_lt (tgt := 56) hx hb dX3_takeSnapshot_43 (by decide) (fun c12 => ?_) (fun c12 => ?_)
    · have hf := br_pos c12 hf
      refine lv_aload_n hx hb dX3_takeSnapshot_56 rfl (lv_at hl 0 rfl) ?_
      refine va_get (D := D) (ci := 7) (v := .ref (ad 5)) (C := RX3) (T := TX3) (N := 11) hx hb hts inX3 hown hK hP 0 rfl rfl 6 (by decide) (hts _ q188) (fun _ h9 => h9) rfl dX3_takeSnapshot_57 ?_
      refine lv_iload_n hx hb dX3_takeSnapshot_60 rfl (lv_at hl 1 rfl) ?_
      refine lv_aload_n hx hb dX3_takeSnapshot_61 rfl (lv_at hl 0 rfl) ?_
      refine va_get (D := D) (ci := 7) (v := .ref (ad 1)) (C := RX3) (T := TX3) (N := 11) hx hb hts inX3 hown hK hP 0 rfl rfl 0 (by decide) (hts _ q182) (fun _ h9 => h9) rfl dX3_takeSnapshot_62 ?_
      obtain ⟨⟨r13, nU_14, pT_15, pK_16, pR_17, pW_18, pU_19, pI_20, pC_21⟩, h22, hf⟩ := bnd hf
      refine call_vi (rest := []) (m_P_add l ca ad bq nF nO nL nA nC nV nU nP nE bF bO bL bA bC bV bU bP bE cT cK cO cQ cD pT pK pR pW pU pI pC uO uF uE uN wK jM jN jZ jB R _ p1 r13 nU_14 pT_15 pK_16 pR_17 pW_18 pU_19 pI_20 pC_21 h22) ⟨hx, hb, hml, hown, hts⟩ (cwV 2 hts (gV q703 q704 q705 q27 q706) rfl rfl rfl (by decide +kernel) ⟨Nat.le_of_ble_eq_true rfl, Nat.le_of_ble_eq_true rfl⟩) (va_recv hK hP (ci := 5) (q0 := 19) rfl rfl) hE hP hD hS hA rfl hl.1 rfl (lv_room (Nat.le_of_ble_eq_true rfl)) dX3_takeSnapshot_65 ⟨Nat.le_of_ble_eq_true rfl, Nat.le_of_ble_eq_true rfl⟩ (fun H locs hP hD hS => ?_)
      cases hf
      exact endx_i hAe hQm hx hb hr hlocks rfl hP hD hS dX3_takeSnapshot_68 (Nat.le_of_ble_eq_true rfl) (Nat.le_of_ble_eq_true rfl)
    · have hf := br_neg c12 hf
      cases hf
      exact endx_throw 2 rfl hAe hQm hst hx hb hts hE hown htab hlocks (by decide +kernel) q365 q39 sl7 at73 hZ (hl.1.trans hml.symm) hP hD hS dX3_takeSnapshot_46 dX3_takeSnapshot_49 dX3_takeSnapshot_50 dX3_takeSnapshot_52 dX3_takeSnapshot_55 (Nat.le_of_ble_eq_true rfl) (Nat.le_of_ble_eq_true rfl) (Nat.le_of_ble_eq_true rfl) (Nat.le_of_ble_eq_true rfl) (Nat.le_of_ble_eq_true rfl) (Nat.le_of_ble_eq_true rfl)
  · have hf := br_neg c9 hf
    cases hf
    exact endx_throw 2 rfl hAe hQm hst hx hb hts hE hown htab hlocks (by decide +kernel) q365 q39 sl6 at73 hZ (hl.1.trans hml.symm) hP hD hS dX3_takeSnapshot_24 dX3_takeSnapshot_27 dX3_takeSnapshot_28 dX3_takeSnapshot_30 dX3_takeSnapshot_33 (Nat.le_of_ble_eq_true rfl) (Nat.le_of_ble_eq_true rfl) (Nat.le_of_ble_eq_true rfl) (Nat.le_of_ble_eq_true rfl) (Nat.le_of_ble_eq_true rfl) (Nat.le_of_ble_eq_true rfl)
def f_C_requireSnapshot (p1 : Int32) (pT : Int32) : Option (Except Nat Unit) :=
  (f_P_wasTaken p1 pT).bind fun r1 =>
  if r1 = 0 then
    some (.error 3)
  else
    some (.ok ())
set_option maxHeartbeats 4000000 in
set_option maxRecDepth 100000 in
theorem m_C_requireSnapshot (l : Launch) (hst : l.stackTraces = false) {D : va_G} (ca : Nat → ClassId) (ad : Nat → Nat) (bq : Nat) (nF : Int32) (nO : Nat → Int32) (nL : Nat → Int32) (nA : Nat → Int32) (nC : Nat → Int32) (nV : Nat → Int32) (nU : Nat → Int32) (nP : Nat → Int32) (nE : Int32) (bF : Int32) (bO : Nat → Int32) (bL : Nat → Int32) (bA : Nat → Int32) (bC : Nat → Int32) (bV : Nat → Int32) (bU : Nat → Int32) (bP : Nat → Int32) (bE : Int32) (cT : Int32) (cK : Nat → Int32) (cO : Int32) (cQ : Nat → Int32) (cD : Int32) (pT : Int32) (pK : Int32) (pR : Nat → Int32) (pW : Nat → Int32) (pU : Nat → Int32) (pI : Nat → Int32) (pC : Nat → Nat → Int32) (uO : Int32) (uF : Nat → Int32) (uE : Nat → Int32) (uN : Nat → Int32) (wK : Nat → Int32) (jM : Int32) (jN : Int32) (jZ : Nat) (jB : Nat → Int32) (R : va_W) (sz : Nat) (p1 : Int32) (ro : Except Nat Unit) (hf : f_C_requireSnapshot p1 pT = some ro) : vx_Met l yX3_requireSnapshot (wm yX3_requireSnapshot cX3_requireSnapshot 2 none) ({ frames := 6, cells := 1, slots := 6, locals := 90 } : Room) (PREX [.ref (ad 0), .int p1] D ca SL0 (WC ca ad bq nF nO nL nA nC nV nU nP nE bF bO bL bA bC bV bU bP bE cT cK cO cQ cD pT pK pR pW pU pI pC uO uF uE uN wK jM jN jZ jB ++ R) sz) (QXV ro D (WC ca ad bq nF nO nL nA nC nV nU nP nE bF bO bL bA bC bV bU bP bE cT cK cO cQ cD pT pK pR pW pU pI pC uO uF uE uN wK jM jN jZ jB ++ R) (WC ca ad bq nF nO nL nA nC nV nU nP nE bF bO bL bA bC bV bU bP bE cT cK cO cQ cD pT pK pR pW pU pI pC uO uF uE uN wK jM jN jZ jB ++ R) sz) (QXE ro D (WC ca ad bq nF nO nL nA nC nV nU nP nE bF bO bL bA bC bV bU bP bE cT cK cO cQ cD pT pK pR pW pU pI pC uO uF uE uN wK jM jN jZ jB ++ R) (WC ca ad bq nF nO nL nA nC nV nU nP nE bF bO bL bA bC bV bU bP bE cT cK cO cQ cD pT pK pR pW pU pI pC uO uF uE uN wK jM jN jZ jB ++ R) sz) 1 6 (va_A (WC ca ad bq nF nO nL nA nC nV nU nP nE bF bO bL bA bC bV bU bP bE cT cK cO cQ cD pT pK pR pW pU pI pC uO uF uE uN wK jM jN jZ jB ++ R) sz) := by
  refine vx_ofW (cc := cX3_requireSnapshot) (maxL := 2) (ret := none) (by decide) rfl ?_
  intro p e s m args below meth c s₁ B hml htab hv
  obtain ⟨rfl, rfl, hP, hE, hD0, hZ⟩ := hv
  have hx := B.exec
  have hb := B.bytes
  have hr := B.returns
  have hts := wm_ww (atoms_spec (ws := wm yX3_requireSnapshot cX3_requireSnapshot 2 none) B.pre)
  have hown : s.vm.findClass RX3 = some m.cls := findClass_of_methodNamed B.named
  have hlocks := B.notSynchronized
  have hK := hE.1
  have hD := hD0.self (sz := s.heap.size)
  generalize hAe : va_A (WC ca ad bq nF nO nL nA nC nV nU nP nE bF bO bL bA bC bV bU bP bE cT cK cO cQ cD pT pK pR pW pU pI pC uO uF uE uN wK jM jN jZ jB ++ R) s.heap.size = A at hD hZ ⊢
  have hA : ∀ q : Nat, s.heap.size ≤ q → A q := fun q h => by rw [← hAe]; exact Or.inr h
  have hS : va_S A s.heap s.heap [] := va_S.rf
  have hl := lv_entry ([.ref (ad 0), .int p1]) (n := 2) (Nat.le_of_ble_eq_true rfl)
  rw [lg_entry_eq]
  generalize (lg_sl ([.ref (ad 0), .int p1]) ++ List.replicate (2 - (lg_sl ([.ref (ad 0), .int p1])).length) Slot.unset).toArray = ls at hl ⊢
  have hl : lv_has ls 2 [(0, .ref (ad 0)), (1, .int p1)] := hl
  change W p l e ({ frames := 6, cells := 1, slots := 6, locals := 90 } : Room) s m _ below meth c s.heap [] 0 0 _ _
  generalize hQm : vx_MQ below (QXV ro D (WC ca ad bq nF nO nL nA nC nV nU nP nE bF bO bL bA bC bV bU bP bE cT cK cO cQ cD pT pK pR pW pU pI pC uO uF uE uN wK jM jN jZ jB ++ R) (WC ca ad bq nF nO nL nA nC nV nU nP nE bF bO bL bA bC bV bU bP bE cT cK cO cQ cD pT pK pR pW pU pI pC uO uF uE uN wK jM jN jZ jB ++ R) s.heap.size) (QXE ro D (WC ca ad bq nF nO nL nA nC nV nU nP nE bF bO bL bA bC bV bU bP bE cT cK cO cQ cD pT pK pR pW pU pI pC uO uF uE uN wK jM jN jZ jB ++ R) (WC ca ad bq nF nO nL nA nC nV nU nP nE bF bO bL bA bC bV bU bP bE cT cK cO cQ cD pT pK pR pW pU pI pC uO uF uE uN wK jM jN jZ jB ++ R) s.heap.size) _ s 1 6 A = Qm
  have hP : va_P D vwCl (WC ca ad bq nF nO nL nA nC nV nU nP nE bF bO bL bA bC bV bU bP bE cT cK cO cQ cD pT pK pR pW pU pI pC uO uF uE uN wK jM jN jZ jB ++ R) s.heap := hP
  generalize hae : ([.ref (ad 0), .int p1] : List Value).toArray = args at hts hQm ⊢
  refine lv_aload_n hx hb dX3_requireSnapshot_0 rfl (lv_at hl 0 rfl) ?_
  refine va_get (D := D) (ci := 7) (v := .ref (ad 5)) (C := RX3) (T := TX3) (N := 11) hx hb hts inX3 hown hK hP 0 rfl rfl 6 (by decide) (hts _ q188) (fun _ h9 => h9) rfl dX3_requireSnapshot_1 ?_
  refine lv_iload_n hx hb dX3_requireSnapshot_4 rfl (lv_at hl 1 rfl) ?_
  obtain ⟨r1, h2, hf⟩ := bnd hf
  refine call_vi (rest := []) (m_P_wasTaken l ca ad bq nF nO nL nA nC nV nU nP nE bF bO bL bA bC bV bU bP bE cT cK cO cQ cD pT pK pR pW pU pI pC uO uF uE uN wK jM jN jZ jB R _ p1 r1 h2) ⟨hx, hb, hml, hown, hts⟩ (cwV 1 hts (gV q726 q727 q728 q27 q729) rfl rfl rfl (by decide +kernel) ⟨Nat.le_of_ble_eq_true rfl, Nat.le_of_ble_eq_true rfl⟩) (va_recv hK hP (ci := 5) (q0 := 19) rfl rfl) hE hP hD hS hA rfl hl.1 rfl (lv_room (Nat.le_of_ble_eq_true rfl)) dX3_requireSnapshot_5 ⟨Nat.le_of_ble_eq_true rfl, Nat.le_of_ble_eq_true rfl⟩ (fun H locs hP hD hS => ?_)
  refine lv_if_ne (tgt := 22) hx hb dX3_requireSnapshot_8 (by decide) (fun c3 => ?_) (fun c3 => ?_)
  · have hf := br_neg c3 hf
    cases hf
    exact endx_v hAe hQm hx hb hr hlocks hP hD hS dX3_requireSnapshot_22 (Nat.le_of_ble_eq_true rfl) (Nat.le_of_ble_eq_true rfl)
  · have hf := br_pos c3 hf
    cases hf
    exact endx_throwW 3 rfl hAe hQm hst hx hb hts hE hown htab hlocks (by decide +kernel) q390 q36 sl24 at283 hZ (hl.1.trans hml.symm) hP hD hS dX3_requireSnapshot_11 dX3_requireSnapshot_14 dX3_requireSnapshot_15 dX3_requireSnapshot_18 dX3_requireSnapshot_21 (Nat.le_of_ble_eq_true rfl) (Nat.le_of_ble_eq_true rfl) (Nat.le_of_ble_eq_true rfl) (Nat.le_of_ble_eq_true rfl) (Nat.le_of_ble_eq_true rfl) (Nat.le_of_ble_eq_true rfl)
def f_C_isKept (p1 : Int32) (pT : Int32) (pW : Nat → Int32) : Option (Except Nat Int32) :=
  (f_C_requireSnapshot p1 pT).bind fun x1 =>
  match x1 with
  | .error n3 => some (.error n3)
  | .ok _ =>
  (f_P_rowOf p1 pT pW).bind fun r4 =>
  if r4 = (-1) then
    some (.ok 0)
  else
    some (.ok 1)
set_option maxHeartbeats 4000000 in
set_option maxRecDepth 100000 in
theorem m_C_isKept (l : Launch) (hst : l.stackTraces = false) {D : va_G} (ca : Nat → ClassId) (ad : Nat → Nat) (bq : Nat) (nF : Int32) (nO : Nat → Int32) (nL : Nat → Int32) (nA : Nat → Int32) (nC : Nat → Int32) (nV : Nat → Int32) (nU : Nat → Int32) (nP : Nat → Int32) (nE : Int32) (bF : Int32) (bO : Nat → Int32) (bL : Nat → Int32) (bA : Nat → Int32) (bC : Nat → Int32) (bV : Nat → Int32) (bU : Nat → Int32) (bP : Nat → Int32) (bE : Int32) (cT : Int32) (cK : Nat → Int32) (cO : Int32) (cQ : Nat → Int32) (cD : Int32) (pT : Int32) (pK : Int32) (pR : Nat → Int32) (pW : Nat → Int32) (pU : Nat → Int32) (pI : Nat → Int32) (pC : Nat → Nat → Int32) (uO : Int32) (uF : Nat → Int32) (uE : Nat → Int32) (uN : Nat → Int32) (wK : Nat → Int32) (jM : Int32) (jN : Int32) (jZ : Nat) (jB : Nat → Int32) (R : va_W) (sz : Nat) (p1 : Int32) (ro : Except Nat Int32) (hf : f_C_isKept p1 pT pW = some ro) : vx_Met l yX3_isKept (wm yX3_isKept cX3_isKept 2 (some .boolean)) ({ frames := 7, cells := 1, slots := 6, locals := 111 } : Room) (PREX [.ref (ad 0), .int p1] D ca SL0 (WC ca ad bq nF nO nL nA nC nV nU nP nE bF bO bL bA bC bV bU bP bE cT cK cO cQ cD pT pK pR pW pU pI pC uO uF uE uN wK jM jN jZ jB ++ R) sz) (QXI ro D (WC ca ad bq nF nO nL nA nC nV nU nP nE bF bO bL bA bC bV bU bP bE cT cK cO cQ cD pT pK pR pW pU pI pC uO uF uE uN wK jM jN jZ jB ++ R) (WC ca ad bq nF nO nL nA nC nV nU nP nE bF bO bL bA bC bV bU bP bE cT cK cO cQ cD pT pK pR pW pU pI pC uO uF uE uN wK jM jN jZ jB ++ R) sz) (QXE ro D (WC ca ad bq nF nO nL nA nC nV nU nP nE bF bO bL bA bC bV bU bP bE cT cK cO cQ cD pT pK pR pW pU pI pC uO uF uE uN wK jM jN jZ jB ++ R) (WC ca ad bq nF nO nL nA nC nV nU nP nE bF bO bL bA bC bV bU bP bE cT cK cO cQ cD pT pK pR pW pU pI pC uO uF uE uN wK jM jN jZ jB ++ R) sz) 1 6 (va_A (WC ca ad bq nF nO nL nA nC nV nU nP nE bF bO bL bA bC bV bU bP bE cT cK cO cQ cD pT pK pR pW pU pI pC uO uF uE uN wK jM jN jZ jB ++ R) sz) := by
  refine vx_ofW (cc := cX3_isKept) (maxL := 2) (ret := (some .boolean)) (by decide) rfl ?_
  intro p e s m args below meth c s₁ B hml htab hv
  obtain ⟨rfl, rfl, hP, hE, hD0, hZ⟩ := hv
  have hx := B.exec
  have hb := B.bytes
  have hr := B.returns
  have hts := wm_ww (atoms_spec (ws := wm yX3_isKept cX3_isKept 2 (some .boolean)) B.pre)
  have hown : s.vm.findClass RX3 = some m.cls := findClass_of_methodNamed B.named
  have hlocks := B.notSynchronized
  have hK := hE.1
  have hD := hD0.self (sz := s.heap.size)
  generalize hAe : va_A (WC ca ad bq nF nO nL nA nC nV nU nP nE bF bO bL bA bC bV bU bP bE cT cK cO cQ cD pT pK pR pW pU pI pC uO uF uE uN wK jM jN jZ jB ++ R) s.heap.size = A at hD hZ ⊢
  have hA : ∀ q : Nat, s.heap.size ≤ q → A q := fun q h => by rw [← hAe]; exact Or.inr h
  have hS : va_S A s.heap s.heap [] := va_S.rf
  have hl := lv_entry ([.ref (ad 0), .int p1]) (n := 2) (Nat.le_of_ble_eq_true rfl)
  rw [lg_entry_eq]
  generalize (lg_sl ([.ref (ad 0), .int p1]) ++ List.replicate (2 - (lg_sl ([.ref (ad 0), .int p1])).length) Slot.unset).toArray = ls at hl ⊢
  have hl : lv_has ls 2 [(0, .ref (ad 0)), (1, .int p1)] := hl
  change W p l e ({ frames := 7, cells := 1, slots := 6, locals := 111 } : Room) s m _ below meth c s.heap [] 0 0 _ _
  generalize hQm : vx_MQ below (QXI ro D (WC ca ad bq nF nO nL nA nC nV nU nP nE bF bO bL bA bC bV bU bP bE cT cK cO cQ cD pT pK pR pW pU pI pC uO uF uE uN wK jM jN jZ jB ++ R) (WC ca ad bq nF nO nL nA nC nV nU nP nE bF bO bL bA bC bV bU bP bE cT cK cO cQ cD pT pK pR pW pU pI pC uO uF uE uN wK jM jN jZ jB ++ R) s.heap.size) (QXE ro D (WC ca ad bq nF nO nL nA nC nV nU nP nE bF bO bL bA bC bV bU bP bE cT cK cO cQ cD pT pK pR pW pU pI pC uO uF uE uN wK jM jN jZ jB ++ R) (WC ca ad bq nF nO nL nA nC nV nU nP nE bF bO bL bA bC bV bU bP bE cT cK cO cQ cD pT pK pR pW pU pI pC uO uF uE uN wK jM jN jZ jB ++ R) s.heap.size) _ s 1 6 A = Qm
  have hP : va_P D vwCl (WC ca ad bq nF nO nL nA nC nV nU nP nE bF bO bL bA bC bV bU bP bE cT cK cO cQ cD pT pK pR pW pU pI pC uO uF uE uN wK jM jN jZ jB ++ R) s.heap := hP
  generalize hae : ([.ref (ad 0), .int p1] : List Value).toArray = args at hts hQm ⊢
  refine lv_aload_n hx hb dX3_isKept_0 rfl (lv_at hl 0 rfl) ?_
  refine lv_iload_n hx hb dX3_isKept_1 rfl (lv_at hl 1 rfl) ?_
  obtain ⟨x1, h2, hf⟩ := bnd hf
  rcases x1 with n3 | _
  · have hf : some (.error n3) = some ro := hf
    cases hf
    exact cx_vv_err (rest := []) (m_C_requireSnapshot l hst ca ad bq nF nO nL nA nC nV nU nP nE bF bO bL bA bC bV bU bP bE cT cK cO cQ cD pT pK pR pW pU pI pC uO uF uE uN wK jM jN jZ jB R _ p1 (.error n3) h2) ⟨hx, hb, hml, hown, hts⟩ (cwV 1 hts (gV q722 q724 q17 q24 q725) rfl rfl rfl (by decide +kernel) ⟨Nat.le_of_ble_eq_true rfl, Nat.le_of_ble_eq_true rfl⟩) (va_recv hK hP (ci := 7) (q0 := 0) rfl rfl) hE hP hD hS hA hZ rfl hl.1 rfl (lv_room (Nat.le_of_ble_eq_true rfl)) dX3_isKept_2 ⟨Nat.le_of_ble_eq_true rfl, Nat.le_of_ble_eq_true rfl⟩ hAe hQm htab hlocks (Nat.le_of_ble_eq_true rfl) (Nat.le_of_ble_eq_true rfl)
  refine cx_vv_ok (rest := []) (m_C_requireSnapshot l hst ca ad bq nF nO nL nA nC nV nU nP nE bF bO bL bA bC bV bU bP bE cT cK cO cQ cD pT pK pR pW pU pI pC uO uF uE uN wK jM jN jZ jB R _ p1 (.ok ()) h2) ⟨hx, hb, hml, hown, hts⟩ (cwV 1 hts (gV q722 q724 q17 q24 q725) rfl rfl rfl (by decide +kernel) ⟨Nat.le_of_ble_eq_true rfl, Nat.le_of_ble_eq_true rfl⟩) (va_recv hK hP (ci := 7) (q0 := 0) rfl rfl) hE hP hD hS hA hZ rfl hl.1 rfl (lv_room (Nat.le_of_ble_eq_true rfl)) dX3_isKept_2 ⟨Nat.le_of_ble_eq_true rfl, Nat.le_of_ble_eq_true rfl⟩ (fun H locs hP hD hS => ?_)
  refine lv_aload_n hx hb dX3_isKept_5 rfl (lv_at hl 0 rfl) ?_
  refine va_get (D := D) (ci := 7) (v := .ref (ad 5)) (C := RX3) (T := TX3) (N := 11) hx hb hts inX3 hown hK hP 0 rfl rfl 6 (by decide) (hts _ q188) (fun _ h9 => h9) rfl dX3_isKept_6 ?_
  refine lv_iload_n hx hb dX3_isKept_9 rfl (lv_at hl 1 rfl) ?_
  obtain ⟨r4, h5, hf⟩ := bnd hf
  refine call_vi (rest := []) (m_P_rowOf l ca ad bq nF nO nL nA nC nV nU nP nE bF bO bL bA bC bV bU bP bE cT cK cO cQ cD pT pK pR pW pU pI pC uO uF uE uN wK jM jN jZ jB R _ p1 r4 h5) ⟨hx, hb, hml, hown, hts⟩ (cwV 1 hts (gV q731 q732 q733 q27 q734) rfl rfl rfl (by decide +kernel) ⟨Nat.le_of_ble_eq_true rfl, Nat.le_of_ble_eq_true rfl⟩) (va_recv hK hP (ci := 5) (q0 := 19) rfl rfl) hE hP hD hS hA rfl hl.1 rfl (lv_room (Nat.le_of_ble_eq_true rfl)) dX3_isKept_10 ⟨Nat.le_of_ble_eq_true rfl, Nat.le_of_ble_eq_true rfl⟩ (fun H locs hP hD hS => ?_)
  refine lv_iconst (v := (-1)) hx hb dX3_isKept_13 (by decide) ?_
  refine lv_icmp_eq (tgt := 21) hx hb dX3_isKept_14 (by decide) (fun c6 => ?_) (fun c6 => ?_)
  · have hf := br_pos c6 hf
    refine lv_iconst (v := 0) hx hb dX3_isKept_21 (by decide) ?_
    cases hf
    exact endx_i hAe hQm hx hb hr hlocks rfl hP hD hS dX3_isKept_22 (Nat.le_of_ble_eq_true rfl) (Nat.le_of_ble_eq_true rfl)
  · have hf := br_neg c6 hf
    refine lv_iconst (v := 1) hx hb dX3_isKept_17 (by decide) ?_
    refine lv_goto (tgt := 22) hx hb dX3_isKept_18 (by decide) ?_
    cases hf
    exact endx_i hAe hQm hx hb hr hlocks rfl hP hD hS dX3_isKept_22 (Nat.le_of_ble_eq_true rfl) (Nat.le_of_ble_eq_true rfl)
def f_C_requireInSnapshot (p1 : Int32) (p2 : Int32) (pT : Int32) (pW : Nat → Int32) (pI : Nat → Int32) : Option (Except Nat Unit) :=
  (f_P_includes p1 p2 pT pW pI).bind fun r1 =>
  if r1 = 0 then
    some (.error 5)
  else
    some (.ok ())
set_option maxHeartbeats 4000000 in
set_option maxRecDepth 100000 in
theorem m_C_requireInSnapshot (l : Launch) (hst : l.stackTraces = false) {D : va_G} (ca : Nat → ClassId) (ad : Nat → Nat) (bq : Nat) (nF : Int32) (nO : Nat → Int32) (nL : Nat → Int32) (nA : Nat → Int32) (nC : Nat → Int32) (nV : Nat → Int32) (nU : Nat → Int32) (nP : Nat → Int32) (nE : Int32) (bF : Int32) (bO : Nat → Int32) (bL : Nat → Int32) (bA : Nat → Int32) (bC : Nat → Int32) (bV : Nat → Int32) (bU : Nat → Int32) (bP : Nat → Int32) (bE : Int32) (cT : Int32) (cK : Nat → Int32) (cO : Int32) (cQ : Nat → Int32) (cD : Int32) (pT : Int32) (pK : Int32) (pR : Nat → Int32) (pW : Nat → Int32) (pU : Nat → Int32) (pI : Nat → Int32) (pC : Nat → Nat → Int32) (uO : Int32) (uF : Nat → Int32) (uE : Nat → Int32) (uN : Nat → Int32) (wK : Nat → Int32) (jM : Int32) (jN : Int32) (jZ : Nat) (jB : Nat → Int32) (R : va_W) (sz : Nat) (p1 : Int32) (p2 : Int32) (ro : Except Nat Unit) (hf : f_C_requireInSnapshot p1 p2 pT pW pI = some ro) : vx_Met l yX3_requireInSnapshot (wm yX3_requireInSnapshot cX3_requireInSnapshot 3 none) ({ frames := 6, cells := 1, slots := 6, locals := 90 } : Room) (PREX [.ref (ad 0), .int p1, .int p2] D ca SL0 (WC ca ad bq nF nO nL nA nC nV nU nP nE bF bO bL bA bC bV bU bP bE cT cK cO cQ cD pT pK pR pW pU pI pC uO uF uE uN wK jM jN jZ jB ++ R) sz) (QXV ro D (WC ca ad bq nF nO nL nA nC nV nU nP nE bF bO bL bA bC bV bU bP bE cT cK cO cQ cD pT pK pR pW pU pI pC uO uF uE uN wK jM jN jZ jB ++ R) (WC ca ad bq nF nO nL nA nC nV nU nP nE bF bO bL bA bC bV bU bP bE cT cK cO cQ cD pT pK pR pW pU pI pC uO uF uE uN wK jM jN jZ jB ++ R) sz) (QXE ro D (WC ca ad bq nF nO nL nA nC nV nU nP nE bF bO bL bA bC bV bU bP bE cT cK cO cQ cD pT pK pR pW pU pI pC uO uF uE uN wK jM jN jZ jB ++ R) (WC ca ad bq nF nO nL nA nC nV nU nP nE bF bO bL bA bC bV bU bP bE cT cK cO cQ cD pT pK pR pW pU pI pC uO uF uE uN wK jM jN jZ jB ++ R) sz) 1 6 (va_A (WC ca ad bq nF nO nL nA nC nV nU nP nE bF bO bL bA bC bV bU bP bE cT cK cO cQ cD pT pK pR pW pU pI pC uO uF uE uN wK jM jN jZ jB ++ R) sz) := by
  refine vx_ofW (cc := cX3_requireInSnapshot) (maxL := 3) (ret := none) (by decide) rfl ?_
  intro p e s m args below meth c s₁ B hml htab hv
  obtain ⟨rfl, rfl, hP, hE, hD0, hZ⟩ := hv
  have hx := B.exec
  have hb := B.bytes
  have hr := B.returns
  have hts := wm_ww (atoms_spec (ws := wm yX3_requireInSnapshot cX3_requireInSnapshot 3 none) B.pre)
  have hown : s.vm.findClass RX3 = some m.cls := findClass_of_methodNamed B.named
  have hlocks := B.notSynchronized
  have hK := hE.1
  have hD := hD0.self (sz := s.heap.size)
  generalize hAe : va_A (WC ca ad bq nF nO nL nA nC nV nU nP nE bF bO bL bA bC bV bU bP bE cT cK cO cQ cD pT pK pR pW pU pI pC uO uF uE uN wK jM jN jZ jB ++ R) s.heap.size = A at hD hZ ⊢
  have hA : ∀ q : Nat, s.heap.size ≤ q → A q := fun q h => by rw [← hAe]; exact Or.inr h
  have hS : va_S A s.heap s.heap [] := va_S.rf
  have hl := lv_entry ([.ref (ad 0), .int p1, .int p2]) (n := 3) (Nat.le_of_ble_eq_true rfl)
  rw [lg_entry_eq]
  generalize (lg_sl ([.ref (ad 0), .int p1, .int p2]) ++ List.replicate (3 - (lg_sl ([.ref (ad 0), .int p1, .int p2])).length) Slot.unset).toArray = ls at hl ⊢
  have hl : lv_has ls 3 [(0, .ref (ad 0)), (1, .int p1), (2, .int p2)] := hl
  change W p l e ({ frames := 6, cells := 1, slots := 6, locals := 90 } : Room) s m _ below meth c s.heap [] 0 0 _ _
  generalize hQm : vx_MQ below (QXV ro D (WC ca ad bq nF nO nL nA nC nV nU nP nE bF bO bL bA bC bV bU bP bE cT cK cO cQ cD pT pK pR pW pU pI pC uO uF uE uN wK jM jN jZ jB ++ R) (WC ca ad bq nF nO nL nA nC nV nU nP nE bF bO bL bA bC bV bU bP bE cT cK cO cQ cD pT pK pR pW pU pI pC uO uF uE uN wK jM jN jZ jB ++ R) s.heap.size) (QXE ro D (WC ca ad bq nF nO nL nA nC nV nU nP nE bF bO bL bA bC bV bU bP bE cT cK cO cQ cD pT pK pR pW pU pI pC uO uF uE uN wK jM jN jZ jB ++ R) (WC ca ad bq nF nO nL nA nC nV nU nP nE bF bO bL bA bC bV bU bP bE cT cK cO cQ cD pT pK pR pW pU pI pC uO uF uE uN wK jM jN jZ jB ++ R) s.heap.size) _ s 1 6 A = Qm
  have hP : va_P D vwCl (WC ca ad bq nF nO nL nA nC nV nU nP nE bF bO bL bA bC bV bU bP bE cT cK cO cQ cD pT pK pR pW pU pI pC uO uF uE uN wK jM jN jZ jB ++ R) s.heap := hP
  generalize hae : ([.ref (ad 0), .int p1, .int p2] : List Value).toArray = args at hts hQm ⊢
  refine lv_aload_n hx hb dX3_requireInSnapshot_0 rfl (lv_at hl 0 rfl) ?_
  refine va_get (D := D) (ci := 7) (v := .ref (ad 5)) (C := RX3) (T := TX3) (N := 11) hx hb hts inX3 hown hK hP 0 rfl rfl 6 (by decide) (hts _ q188) (fun _ h9 => h9) rfl dX3_requireInSnapshot_1 ?_
  refine lv_iload_n hx hb dX3_requireInSnapshot_4 rfl (lv_at hl 1 rfl) ?_
  refine lv_iload_n hx hb dX3_requireInSnapshot_5 rfl (lv_at hl 2 rfl) ?_
  obtain ⟨r1, h2, hf⟩ := bnd hf
  refine call_vi (rest := []) (m_P_includes l ca ad bq nF nO nL nA nC nV nU nP nE bF bO bL bA bC bV bU bP bE cT cK cO cQ cD pT pK pR pW pU pI pC uO uF uE uN wK jM jN jZ jB R _ p1 p2 r1 h2) ⟨hx, hb, hml, hown, hts⟩ (cwV 2 hts (gV q744 q745 q746 q27 q747) rfl rfl rfl (by decide +kernel) ⟨Nat.le_of_ble_eq_true rfl, Nat.le_of_ble_eq_true rfl⟩) (va_recv hK hP (ci := 5) (q0 := 19) rfl rfl) hE hP hD hS hA rfl hl.1 rfl (lv_room (Nat.le_of_ble_eq_true rfl)) dX3_requireInSnapshot_6 ⟨Nat.le_of_ble_eq_true rfl, Nat.le_of_ble_eq_true rfl⟩ (fun H locs hP hD hS => ?_)
  refine lv_if_ne (tgt := 23) hx hb dX3_requireInSnapshot_9 (by decide) (fun c3 => ?_) (fun c3 => ?_)
  · have hf := br_neg c3 hf
    cases hf
    exact endx_v hAe hQm hx hb hr hlocks hP hD hS dX3_requireInSnapshot_23 (Nat.le_of_ble_eq_true rfl) (Nat.le_of_ble_eq_true rfl)
  · have hf := br_pos c3 hf
    cases hf
    exact endn_throwW 5 rfl hAe hQm hst hx hb hts hE hown htab hlocks (by decide +kernel) q604 q44 sl25 at214 hZ (hl.1.trans hml.symm) hP hD hS dX3_requireInSnapshot_12 dX3_requireInSnapshot_15 dX3_requireInSnapshot_16 dX3_requireInSnapshot_19 dX3_requireInSnapshot_22 (Nat.le_of_ble_eq_true rfl) (Nat.le_of_ble_eq_true rfl) (Nat.le_of_ble_eq_true rfl) (Nat.le_of_ble_eq_true rfl) (Nat.le_of_ble_eq_true rfl) (Nat.le_of_ble_eq_true rfl)
def f_C_readFrom (p1 : Int32) (p2 : Int32) (p3 : Int32) (nF : Int32) (nV : Nat → Int32) (pT : Int32) (pW : Nat → Int32) (pI : Nat → Int32) (pC : Nat → Nat → Int32) : Option (Except Nat Int32) :=
  (f_C_requireSnapshot p1 pT).bind fun x1 =>
  match x1 with
  | .error n3 => some (.error n3)
  | .ok _ =>
  (f_C_requireFile p2 nF).bind fun x4 =>
  match x4 with
  | .error n6 => some (.error n6)
  | .ok _ =>
  (f_C_requirePlace p3).bind fun x7 =>
  match x7 with
  | .error n9 => some (.error n9)
  | .ok _ =>
  (f_C_requireInSnapshot p1 p2 pT pW pI).bind fun x10 =>
  match x10 with
  | .error n12 => some (.error n12)
  | .ok _ =>
  (f_P_blockIn p1 p2 p3 pT pW pI pC).bind fun r13 =>
  if r13 = (-1) then
    some (.error 5)
  else
    (f_S_valueIn r13 nV).bind fun r16 =>
    some (.ok r16)
set_option maxHeartbeats 4000000 in
set_option maxRecDepth 100000 in
theorem m_C_readFrom (l : Launch) (hst : l.stackTraces = false) {D : va_G} (ca : Nat → ClassId) (ad : Nat → Nat) (bq : Nat) (nF : Int32) (nO : Nat → Int32) (nL : Nat → Int32) (nA : Nat → Int32) (nC : Nat → Int32) (nV : Nat → Int32) (nU : Nat → Int32) (nP : Nat → Int32) (nE : Int32) (bF : Int32) (bO : Nat → Int32) (bL : Nat → Int32) (bA : Nat → Int32) (bC : Nat → Int32) (bV : Nat → Int32) (bU : Nat → Int32) (bP : Nat → Int32) (bE : Int32) (cT : Int32) (cK : Nat → Int32) (cO : Int32) (cQ : Nat → Int32) (cD : Int32) (pT : Int32) (pK : Int32) (pR : Nat → Int32) (pW : Nat → Int32) (pU : Nat → Int32) (pI : Nat → Int32) (pC : Nat → Nat → Int32) (uO : Int32) (uF : Nat → Int32) (uE : Nat → Int32) (uN : Nat → Int32) (wK : Nat → Int32) (jM : Int32) (jN : Int32) (jZ : Nat) (jB : Nat → Int32) (R : va_W) (sz : Nat) (p1 : Int32) (p2 : Int32) (p3 : Int32) (ro : Except Nat Int32) (hf : f_C_readFrom p1 p2 p3 nF nV pT pW pI pC = some ro) : vx_Met l yX3_readFrom (wm yX3_readFrom cX3_readFrom 5 (some .int)) ({ frames := 7, cells := 5, slots := 30, locals := 112 } : Room) (PREX [.ref (ad 0), .int p1, .int p2, .int p3] D ca SL0 (WC ca ad bq nF nO nL nA nC nV nU nP nE bF bO bL bA bC bV bU bP bE cT cK cO cQ cD pT pK pR pW pU pI pC uO uF uE uN wK jM jN jZ jB ++ R) sz) (QXI ro D (WC ca ad bq nF nO nL nA nC nV nU nP nE bF bO bL bA bC bV bU bP bE cT cK cO cQ cD pT pK pR pW pU pI pC uO uF uE uN wK jM jN jZ jB ++ R) (WC ca ad bq nF nO nL nA nC nV nU nP nE bF bO bL bA bC bV bU bP bE cT cK cO cQ cD pT pK pR pW pU pI pC uO uF uE uN wK jM jN jZ jB ++ R) sz) (QXE ro D (WC ca ad bq nF nO nL nA nC nV nU nP nE bF bO bL bA bC bV bU bP bE cT cK cO cQ cD pT pK pR pW pU pI pC uO uF uE uN wK jM jN jZ jB ++ R) (WC ca ad bq nF nO nL nA nC nV nU nP nE bF bO bL bA bC bV bU bP bE cT cK cO cQ cD pT pK pR pW pU pI pC uO uF uE uN wK jM jN jZ jB ++ R) sz) 5 30 (va_A (WC ca ad bq nF nO nL nA nC nV nU nP nE bF bO bL bA bC bV bU bP bE cT cK cO cQ cD pT pK pR pW pU pI pC uO uF uE uN wK jM jN jZ jB ++ R) sz) := by
  refine vx_ofW (cc := cX3_readFrom) (maxL := 5) (ret := (some .int)) (by decide) rfl ?_
  intro p e s m args below meth c s₁ B hml htab hv
  obtain ⟨rfl, rfl, hP, hE, hD0, hZ⟩ := hv
  have hx := B.exec
  have hb := B.bytes
  have hr := B.returns
  have hts := wm_ww (atoms_spec (ws := wm yX3_readFrom cX3_readFrom 5 (some .int)) B.pre)
  have hown : s.vm.findClass RX3 = some m.cls := findClass_of_methodNamed B.named
  have hlocks := B.notSynchronized
  have hK := hE.1
  have hD := hD0.self (sz := s.heap.size)
  generalize hAe : va_A (WC ca ad bq nF nO nL nA nC nV nU nP nE bF bO bL bA bC bV bU bP bE cT cK cO cQ cD pT pK pR pW pU pI pC uO uF uE uN wK jM jN jZ jB ++ R) s.heap.size = A at hD hZ ⊢
  have hA : ∀ q : Nat, s.heap.size ≤ q → A q := fun q h => by rw [← hAe]; exact Or.inr h
  have hS : va_S A s.heap s.heap [] := va_S.rf
  have hl := lv_entry ([.ref (ad 0), .int p1, .int p2, .int p3]) (n := 5) (Nat.le_of_ble_eq_true rfl)
  rw [lg_entry_eq]
  generalize (lg_sl ([.ref (ad 0), .int p1, .int p2, .int p3]) ++ List.replicate (5 - (lg_sl ([.ref (ad 0), .int p1, .int p2, .int p3])).length) Slot.unset).toArray = ls at hl ⊢
  have hl : lv_has ls 5 [(0, .ref (ad 0)), (1, .int p1), (2, .int p2), (3, .int p3)] := hl
  change W p l e ({ frames := 7, cells := 5, slots := 30, locals := 112 } : Room) s m _ below meth c s.heap [] 0 0 _ _
  generalize hQm : vx_MQ below (QXI ro D (WC ca ad bq nF nO nL nA nC nV nU nP nE bF bO bL bA bC bV bU bP bE cT cK cO cQ cD pT pK pR pW pU pI pC uO uF uE uN wK jM jN jZ jB ++ R) (WC ca ad bq nF nO nL nA nC nV nU nP nE bF bO bL bA bC bV bU bP bE cT cK cO cQ cD pT pK pR pW pU pI pC uO uF uE uN wK jM jN jZ jB ++ R) s.heap.size) (QXE ro D (WC ca ad bq nF nO nL nA nC nV nU nP nE bF bO bL bA bC bV bU bP bE cT cK cO cQ cD pT pK pR pW pU pI pC uO uF uE uN wK jM jN jZ jB ++ R) (WC ca ad bq nF nO nL nA nC nV nU nP nE bF bO bL bA bC bV bU bP bE cT cK cO cQ cD pT pK pR pW pU pI pC uO uF uE uN wK jM jN jZ jB ++ R) s.heap.size) _ s 5 30 A = Qm
  have hP : va_P D vwCl (WC ca ad bq nF nO nL nA nC nV nU nP nE bF bO bL bA bC bV bU bP bE cT cK cO cQ cD pT pK pR pW pU pI pC uO uF uE uN wK jM jN jZ jB ++ R) s.heap := hP
  generalize hae : ([.ref (ad 0), .int p1, .int p2, .int p3] : List Value).toArray = args at hts hQm ⊢
  refine lv_aload_n hx hb dX3_readFrom_0 rfl (lv_at hl 0 rfl) ?_
  refine lv_iload_n hx hb dX3_readFrom_1 rfl (lv_at hl 1 rfl) ?_
  obtain ⟨x1, h2, hf⟩ := bnd hf
  rcases x1 with n3 | _
  · have hf : some (.error n3) = some ro := hf
    cases hf
    exact cx_vv_err (rest := []) (m_C_requireSnapshot l hst ca ad bq nF nO nL nA nC nV nU nP nE bF bO bL bA bC bV bU bP bE cT cK cO cQ cD pT pK pR pW pU pI pC uO uF uE uN wK jM jN jZ jB R _ p1 (.error n3) h2) ⟨hx, hb, hml, hown, hts⟩ (cwV 1 hts (gV q722 q724 q17 q24 q725) rfl rfl rfl (by decide +kernel) ⟨Nat.le_of_ble_eq_true rfl, Nat.le_of_ble_eq_true rfl⟩) (va_recv hK hP (ci := 7) (q0 := 0) rfl rfl) hE hP hD hS hA hZ rfl hl.1 rfl (lv_room (Nat.le_of_ble_eq_true rfl)) dX3_readFrom_2 ⟨Nat.le_of_ble_eq_true rfl, Nat.le_of_ble_eq_true rfl⟩ hAe hQm htab hlocks (Nat.le_of_ble_eq_true rfl) (Nat.le_of_ble_eq_true rfl)
  refine cx_vv_ok (rest := []) (m_C_requireSnapshot l hst ca ad bq nF nO nL nA nC nV nU nP nE bF bO bL bA bC bV bU bP bE cT cK cO cQ cD pT pK pR pW pU pI pC uO uF uE uN wK jM jN jZ jB R _ p1 (.ok ()) h2) ⟨hx, hb, hml, hown, hts⟩ (cwV 1 hts (gV q722 q724 q17 q24 q725) rfl rfl rfl (by decide +kernel) ⟨Nat.le_of_ble_eq_true rfl, Nat.le_of_ble_eq_true rfl⟩) (va_recv hK hP (ci := 7) (q0 := 0) rfl rfl) hE hP hD hS hA hZ rfl hl.1 rfl (lv_room (Nat.le_of_ble_eq_true rfl)) dX3_readFrom_2 ⟨Nat.le_of_ble_eq_true rfl, Nat.le_of_ble_eq_true rfl⟩ (fun H locs hP hD hS => ?_)
  refine lv_aload_n hx hb dX3_readFrom_5 rfl (lv_at hl 0 rfl) ?_
  refine lv_iload_n hx hb dX3_readFrom_6 rfl (lv_at hl 2 rfl) ?_
  obtain ⟨x4, h5, hf⟩ := bnd hf
  rcases x4 with n6 | _
  · have hf : some (.error n6) = some ro := hf
    cases hf
    exact cx_vv_err (rest := []) (m_C_requireFile l hst ca ad bq nF nO nL nA nC nV nU nP nE bF bO bL bA bC bV bU bP bE cT cK cO cQ cD pT pK pR pW pU pI pC uO uF uE uN wK jM jN jZ jB R _ p2 (.error n6) h5) ⟨hx, hb, hml, hown, hts⟩ (cwV 1 hts (gV q420 q422 q5 q24 q423) rfl rfl rfl (by decide +kernel) ⟨Nat.le_of_ble_eq_true rfl, Nat.le_of_ble_eq_true rfl⟩) (va_recv hK hP (ci := 7) (q0 := 0) rfl rfl) hE hP hD hS hA hZ rfl hl.1 rfl (lv_room (Nat.le_of_ble_eq_true rfl)) dX3_readFrom_7 ⟨Nat.le_of_ble_eq_true rfl, Nat.le_of_ble_eq_true rfl⟩ hAe hQm htab hlocks (Nat.le_of_ble_eq_true rfl) (Nat.le_of_ble_eq_true rfl)
  refine cx_vv_ok (rest := []) (m_C_requireFile l hst ca ad bq nF nO nL nA nC nV nU nP nE bF bO bL bA bC bV bU bP bE cT cK cO cQ cD pT pK pR pW pU pI pC uO uF uE uN wK jM jN jZ jB R _ p2 (.ok ()) h5) ⟨hx, hb, hml, hown, hts⟩ (cwV 1 hts (gV q420 q422 q5 q24 q423) rfl rfl rfl (by decide +kernel) ⟨Nat.le_of_ble_eq_true rfl, Nat.le_of_ble_eq_true rfl⟩) (va_recv hK hP (ci := 7) (q0 := 0) rfl rfl) hE hP hD hS hA hZ rfl hl.1 rfl (lv_room (Nat.le_of_ble_eq_true rfl)) dX3_readFrom_7 ⟨Nat.le_of_ble_eq_true rfl, Nat.le_of_ble_eq_true rfl⟩ (fun H locs hP hD hS => ?_)
  refine lv_aload_n hx hb dX3_readFrom_10 rfl (lv_at hl 0 rfl) ?_
  refine lv_iload_n hx hb dX3_readFrom_11 rfl (lv_at hl 3 rfl) ?_
  obtain ⟨x7, h8, hf⟩ := bnd hf
  rcases x7 with n9 | _
  · have hf : some (.error n9) = some ro := hf
    cases hf
    exact cx_vv_err (rest := []) (m_C_requirePlace l hst ca ad bq nF nO nL nA nC nV nU nP nE bF bO bL bA bC bV bU bP bE cT cK cO cQ cD pT pK pR pW pU pI pC uO uF uE uN wK jM jN jZ jB R _ p3 (.error n9) h8) ⟨hx, hb, hml, hown, hts⟩ (cwV 1 hts (gV q502 q504 q8 q24 q505) rfl rfl rfl (by decide +kernel) ⟨Nat.le_of_ble_eq_true rfl, Nat.le_of_ble_eq_true rfl⟩) (va_recv hK hP (ci := 7) (q0 := 0) rfl rfl) hE hP hD hS hA hZ rfl hl.1 rfl (lv_room (Nat.le_of_ble_eq_true rfl)) dX3_readFrom_12 ⟨Nat.le_of_ble_eq_true rfl, Nat.le_of_ble_eq_true rfl⟩ hAe hQm htab hlocks (Nat.le_of_ble_eq_true rfl) (Nat.le_of_ble_eq_true rfl)
  refine cx_vv_ok (rest := []) (m_C_requirePlace l hst ca ad bq nF nO nL nA nC nV nU nP nE bF bO bL bA bC bV bU bP bE cT cK cO cQ cD pT pK pR pW pU pI pC uO uF uE uN wK jM jN jZ jB R _ p3 (.ok ()) h8) ⟨hx, hb, hml, hown, hts⟩ (cwV 1 hts (gV q502 q504 q8 q24 q505) rfl rfl rfl (by decide +kernel) ⟨Nat.le_of_ble_eq_true rfl, Nat.le_of_ble_eq_true rfl⟩) (va_recv hK hP (ci := 7) (q0 := 0) rfl rfl) hE hP hD hS hA hZ rfl hl.1 rfl (lv_room (Nat.le_of_ble_eq_true rfl)) dX3_readFrom_12 ⟨Nat.le_of_ble_eq_true rfl, Nat.le_of_ble_eq_true rfl⟩ (fun H locs hP hD hS => ?_)
  refine lv_aload_n hx hb dX3_readFrom_15 rfl (lv_at hl 0 rfl) ?_
  refine lv_iload_n hx hb dX3_readFrom_16 rfl (lv_at hl 1 rfl) ?_
  refine lv_iload_n hx hb dX3_readFrom_17 rfl (lv_at hl 2 rfl) ?_
  obtain ⟨x10, h11, hf⟩ := bnd hf
  rcases x10 with n12 | _
  · have hf : some (.error n12) = some ro := hf
    cases hf
    exact cx_vv_err (rest := []) (m_C_requireInSnapshot l hst ca ad bq nF nO nL nA nC nV nU nP nE bF bO bL bA bC bV bU bP bE cT cK cO cQ cD pT pK pR pW pU pI pC uO uF uE uN wK jM jN jZ jB R _ p1 p2 (.error n12) h11) ⟨hx, hb, hml, hown, hts⟩ (cwV 2 hts (gV q740 q742 q18 q24 q743) rfl rfl rfl (by decide +kernel) ⟨Nat.le_of_ble_eq_true rfl, Nat.le_of_ble_eq_true rfl⟩) (va_recv hK hP (ci := 7) (q0 := 0) rfl rfl) hE hP hD hS hA hZ rfl hl.1 rfl (lv_room (Nat.le_of_ble_eq_true rfl)) dX3_readFrom_18 ⟨Nat.le_of_ble_eq_true rfl, Nat.le_of_ble_eq_true rfl⟩ hAe hQm htab hlocks (Nat.le_of_ble_eq_true rfl) (Nat.le_of_ble_eq_true rfl)
  refine cx_vv_ok (rest := []) (m_C_requireInSnapshot l hst ca ad bq nF nO nL nA nC nV nU nP nE bF bO bL bA bC bV bU bP bE cT cK cO cQ cD pT pK pR pW pU pI pC uO uF uE uN wK jM jN jZ jB R _ p1 p2 (.ok ()) h11) ⟨hx, hb, hml, hown, hts⟩ (cwV 2 hts (gV q740 q742 q18 q24 q743) rfl rfl rfl (by decide +kernel) ⟨Nat.le_of_ble_eq_true rfl, Nat.le_of_ble_eq_true rfl⟩) (va_recv hK hP (ci := 7) (q0 := 0) rfl rfl) hE hP hD hS hA hZ rfl hl.1 rfl (lv_room (Nat.le_of_ble_eq_true rfl)) dX3_readFrom_18 ⟨Nat.le_of_ble_eq_true rfl, Nat.le_of_ble_eq_true rfl⟩ (fun H locs hP hD hS => ?_)
  refine lv_aload_n hx hb dX3_readFrom_21 rfl (lv_at hl 0 rfl) ?_
  refine va_get (D := D) (ci := 7) (v := .ref (ad 5)) (C := RX3) (T := TX3) (N := 11) hx hb hts inX3 hown hK hP 0 rfl rfl 6 (by decide) (hts _ q188) (fun _ h9 => h9) rfl dX3_readFrom_22 ?_
  refine lv_iload_n hx hb dX3_readFrom_25 rfl (lv_at hl 1 rfl) ?_
  refine lv_iload_n hx hb dX3_readFrom_26 rfl (lv_at hl 2 rfl) ?_
  refine lv_iload_n hx hb dX3_readFrom_27 rfl (lv_at hl 3 rfl) ?_
  obtain ⟨r13, h14, hf⟩ := bnd hf
  refine call_vi (rest := []) (m_P_blockIn l ca ad bq nF nO nL nA nC nV nU nP nE bF bO bL bA bC bV bU bP bE cT cK cO cQ cD pT pK pR pW pU pI pC uO uF uE uN wK jM jN jZ jB R _ p1 p2 p3 r13 h14) ⟨hx, hb, hml, hown, hts⟩ (cwV 3 hts (gV q750 q751 q752 q27 q753) rfl rfl rfl (by decide +kernel) ⟨Nat.le_of_ble_eq_true rfl, Nat.le_of_ble_eq_true rfl⟩) (va_recv hK hP (ci := 5) (q0 := 19) rfl rfl) hE hP hD hS hA rfl hl.1 rfl (lv_room (Nat.le_of_ble_eq_true rfl)) dX3_readFrom_28 ⟨Nat.le_of_ble_eq_true rfl, Nat.le_of_ble_eq_true rfl⟩ (fun H locs hP hD hS => ?_)
  refine lv_istore (lv' := [(4, .int r13), (0, .ref (ad 0)), (1, .int p1), (2, .int p2), (3, .int p3)]) hx hb dX3_readFrom_31 hl (by decide) rfl (fun ls hl => ?_)
  refine lv_iload hx hb dX3_readFrom_33 (lv_at hl 0 rfl) ?_
  refine lv_iconst (v := (-1)) hx hb dX3_readFrom_35 (by decide) ?_
  refine lv_icmp_ne (tgt := 49) hx hb dX3_readFrom_36 (by decide) (fun c15 => ?_) (fun c15 => ?_)
  · have hf := br_neg c15 hf
    refine lv_aload_n hx hb dX3_readFrom_49 rfl (lv_at hl 1 rfl) ?_
    refine va_get (D := D) (ci := 7) (v := .ref (ad 1)) (C := RX3) (T := TX3) (N := 11) hx hb hts inX3 hown hK hP 0 rfl rfl 0 (by decide) (hts _ q182) (fun _ h9 => h9) rfl dX3_readFrom_50 ?_
    refine lv_iload hx hb dX3_readFrom_53 (lv_at hl 0 rfl) ?_
    obtain ⟨r16, h17, hf⟩ := bnd hf
    refine call_vi (rest := []) (m_S_valueIn l ca ad bq nF nO nL nA nC nV nU nP nE bF bO bL bA bC bV bU bP bE cT cK cO cQ cD pT pK pR pW pU pI pC uO uF uE uN wK jM jN jZ jB R _ r13 r16 h17) ⟨hx, hb, hml, hown, hts⟩ (cwV 1 hts (gV q620 q621 q622 q25 q623) rfl rfl rfl (by decide +kernel) ⟨Nat.le_of_ble_eq_true rfl, Nat.le_of_ble_eq_true rfl⟩) (va_recv hK hP (ci := 6) (q0 := 1) rfl rfl) hE hP hD hS hA rfl hl.1 rfl (lv_room (Nat.le_of_ble_eq_true rfl)) dX3_readFrom_55 ⟨Nat.le_of_ble_eq_true rfl, Nat.le_of_ble_eq_true rfl⟩ (fun H locs hP hD hS => ?_)
    cases hf
    exact endx_i hAe hQm hx hb hr hlocks rfl hP hD hS dX3_readFrom_58 (Nat.le_of_ble_eq_true rfl) (Nat.le_of_ble_eq_true rfl)
  · have hf := br_pos c15 hf
    cases hf
    exact endn_throw 5 rfl hAe hQm hst hx hb hts hE hown htab hlocks (by decide +kernel) q604 q44 sl8 at214 hZ (hl.1.trans hml.symm) hP hD hS dX3_readFrom_39 dX3_readFrom_42 dX3_readFrom_43 dX3_readFrom_45 dX3_readFrom_48 (Nat.le_of_ble_eq_true rfl) (Nat.le_of_ble_eq_true rfl) (Nat.le_of_ble_eq_true rfl) (Nat.le_of_ble_eq_true rfl) (Nat.le_of_ble_eq_true rfl) (Nat.le_of_ble_eq_true rfl)
def f_C_thin_L28 : Nat → Int32 → Int32 → (Nat → Int32) → Int32 → Int32 → (Nat → Int32) → (Nat → Int32) → (Nat → Int32) → (Nat → Int32) → (Nat → Nat → Int32) → Option ((Nat → Int32) × Int32 × (Nat → Int32) × (Nat → Int32))
  | 0, _, _, _, _, _, _, _, _, _, _ => none
  | fuel + 1, v2, v3, nU, pT, pK, pR, pW, pU, pI, pC =>
    if v2 ≤ v3 then
      some (nU, pK, pW, pU)
    else
      (f_P_leastKept pR pW).bind fun r18 =>
      (f_P_drop r18 nU pT pK pW pU pI pC).bind fun (nU_20, pK_21, pW_22, pU_23) =>
      f_C_thin_L28 fuel v2 (v3 + 1) nU_20 pT pK_21 pR pW_22 pU_23 pI pC
def f_C_thin (p1 : Int32) (nU : Nat → Int32) (cT : Int32) (pT : Int32) (pK : Int32) (pR : Nat → Int32) (pW : Nat → Int32) (pU : Nat → Int32) (pI : Nat → Int32) (pC : Nat → Nat → Int32) : Option (Except Nat Int32 × (Nat → Int32) × Int32 × (Nat → Int32) × (Nat → Int32)) :=
  (f_C_requireWithin p1 0 8).bind fun x1 =>
  match x1 with
  | .error n3 => some ((.error n3), nU, pK, pW, pU)
  | .ok _ =>
  (f_C_requireNoTransaction cT).bind fun x4 =>
  match x4 with
  | .error n6 => some ((.error n6), nU, pK, pW, pU)
  | .ok _ =>
  (f_P_keptTotal pK).bind fun r7 =>
  (f_C_thin_L28 FU (if 0 < (r7 - p1) then (r7 - p1) else 0) 0 nU pT pK pR pW pU pI pC).bind fun (nU_26, pK_27, pW_28, pU_29) =>
  some ((.ok (if 0 < (r7 - p1) then (r7 - p1) else 0)), nU_26, pK_27, pW_28, pU_29)
set_option maxHeartbeats 4000000 in
set_option maxRecDepth 100000 in
theorem m_C_thin (l : Launch) (hst : l.stackTraces = false) {D : va_G} (ca : Nat → ClassId) (ad : Nat → Nat) (bq : Nat) (nF : Int32) (nO : Nat → Int32) (nL : Nat → Int32) (nA : Nat → Int32) (nC : Nat → Int32) (nV : Nat → Int32) (nU : Nat → Int32) (nP : Nat → Int32) (nE : Int32) (bF : Int32) (bO : Nat → Int32) (bL : Nat → Int32) (bA : Nat → Int32) (bC : Nat → Int32) (bV : Nat → Int32) (bU : Nat → Int32) (bP : Nat → Int32) (bE : Int32) (cT : Int32) (cK : Nat → Int32) (cO : Int32) (cQ : Nat → Int32) (cD : Int32) (pT : Int32) (pK : Int32) (pR : Nat → Int32) (pW : Nat → Int32) (pU : Nat → Int32) (pI : Nat → Int32) (pC : Nat → Nat → Int32) (uO : Int32) (uF : Nat → Int32) (uE : Nat → Int32) (uN : Nat → Int32) (wK : Nat → Int32) (jM : Int32) (jN : Int32) (jZ : Nat) (jB : Nat → Int32) (R : va_W) (sz : Nat) (p1 : Int32) (ro : Except Nat Int32) (onU : Nat → Int32) (opK : Int32) (opW : Nat → Int32) (opU : Nat → Int32) (hf : f_C_thin p1 nU cT pT pK pR pW pU pI pC = some (ro, onU, opK, opW, opU)) : vx_Met l yX3_thin (wm yX3_thin cX3_thin 4 (some .int)) ({ frames := 7, cells := 2, slots := 12, locals := 113 } : Room) (PREX [.ref (ad 0), .int p1] D ca SL0 (WC ca ad bq nF nO nL nA nC nV nU nP nE bF bO bL bA bC bV bU bP bE cT cK cO cQ cD pT pK pR pW pU pI pC uO uF uE uN wK jM jN jZ jB ++ R) sz) (QXI ro D (WC ca ad bq nF nO nL nA nC nV onU nP nE bF bO bL bA bC bV bU bP bE cT cK cO cQ cD pT opK pR opW opU pI pC uO uF uE uN wK jM jN jZ jB ++ R) (WC ca ad bq nF nO nL nA nC nV nU nP nE bF bO bL bA bC bV bU bP bE cT cK cO cQ cD pT pK pR pW pU pI pC uO uF uE uN wK jM jN jZ jB ++ R) sz) (QXE ro D (WC ca ad bq nF nO nL nA nC nV onU nP nE bF bO bL bA bC bV bU bP bE cT cK cO cQ cD pT opK pR opW opU pI pC uO uF uE uN wK jM jN jZ jB ++ R) (WC ca ad bq nF nO nL nA nC nV nU nP nE bF bO bL bA bC bV bU bP bE cT cK cO cQ cD pT pK pR pW pU pI pC uO uF uE uN wK jM jN jZ jB ++ R) sz) 2 12 (va_A (WC ca ad bq nF nO nL nA nC nV nU nP nE bF bO bL bA bC bV bU bP bE cT cK cO cQ cD pT pK pR pW pU pI pC uO uF uE uN wK jM jN jZ jB ++ R) sz) := by
  refine vx_ofW (cc := cX3_thin) (maxL := 4) (ret := (some .int)) (by decide) rfl ?_
  intro p e s m args below meth c s₁ B hml htab hv
  obtain ⟨rfl, rfl, hP, hE, hD0, hZ⟩ := hv
  have hx := B.exec
  have hb := B.bytes
  have hr := B.returns
  have hts := wm_ww (atoms_spec (ws := wm yX3_thin cX3_thin 4 (some .int)) B.pre)
  have hown : s.vm.findClass RX3 = some m.cls := findClass_of_methodNamed B.named
  have hlocks := B.notSynchronized
  have hK := hE.1
  have hD := hD0.self (sz := s.heap.size)
  generalize hAe : va_A (WC ca ad bq nF nO nL nA nC nV nU nP nE bF bO bL bA bC bV bU bP bE cT cK cO cQ cD pT pK pR pW pU pI pC uO uF uE uN wK jM jN jZ jB ++ R) s.heap.size = A at hD hZ ⊢
  have hA : ∀ q : Nat, s.heap.size ≤ q → A q := fun q h => by rw [← hAe]; exact Or.inr h
  have hS : va_S A s.heap s.heap [] := va_S.rf
  have hl := lv_entry ([.ref (ad 0), .int p1]) (n := 4) (Nat.le_of_ble_eq_true rfl)
  rw [lg_entry_eq]
  generalize (lg_sl ([.ref (ad 0), .int p1]) ++ List.replicate (4 - (lg_sl ([.ref (ad 0), .int p1])).length) Slot.unset).toArray = ls at hl ⊢
  have hl : lv_has ls 4 [(0, .ref (ad 0)), (1, .int p1)] := hl
  change W p l e ({ frames := 7, cells := 2, slots := 12, locals := 113 } : Room) s m _ below meth c s.heap [] 0 0 _ _
  generalize hQm : vx_MQ below (QXI ro D (WC ca ad bq nF nO nL nA nC nV onU nP nE bF bO bL bA bC bV bU bP bE cT cK cO cQ cD pT opK pR opW opU pI pC uO uF uE uN wK jM jN jZ jB ++ R) (WC ca ad bq nF nO nL nA nC nV nU nP nE bF bO bL bA bC bV bU bP bE cT cK cO cQ cD pT pK pR pW pU pI pC uO uF uE uN wK jM jN jZ jB ++ R) s.heap.size) (QXE ro D (WC ca ad bq nF nO nL nA nC nV onU nP nE bF bO bL bA bC bV bU bP bE cT cK cO cQ cD pT opK pR opW opU pI pC uO uF uE uN wK jM jN jZ jB ++ R) (WC ca ad bq nF nO nL nA nC nV nU nP nE bF bO bL bA bC bV bU bP bE cT cK cO cQ cD pT pK pR pW pU pI pC uO uF uE uN wK jM jN jZ jB ++ R) s.heap.size) _ s 2 12 A = Qm
  have hP : va_P D vwCl (WC ca ad bq nF nO nL nA nC nV nU nP nE bF bO bL bA bC bV bU bP bE cT cK cO cQ cD pT pK pR pW pU pI pC uO uF uE uN wK jM jN jZ jB ++ R) s.heap := hP
  generalize hae : ([.ref (ad 0), .int p1] : List Value).toArray = args at hts hQm ⊢
  have L28 : ∀ (n : Nat) (v2 : Int32) (v3 : Int32) (nU : Nat → Int32) (pK : Int32) (pW : Nat → Int32) (pU : Nat → Int32) (znU : Nat → Int32) (zpK : Int32) (zpW : Nat → Int32) (zpU : Nat → Int32), f_C_thin_L28 n v2 v3 nU pT pK pR pW pU pI pC = some (znU, zpK, zpW, zpU) → ∀ (H : Heap) (locs : List Loc) (ls : Array Slot), va_P D vwCl (WC ca ad bq nF nO nL nA nC nV nU nP nE bF bO bL bA bC bV bU bP bE cT cK cO cQ cD pT pK pR pW pU pI pC uO uF uE uN wK jM jN jZ jB ++ R) H → va_D A (WC ca ad bq nF nO nL nA nC nV nU nP nE bF bO bL bA bC bV bU bP bE cT cK cO cQ cD pT pK pR pW pU pI pC uO uF uE uN wK jM jN jZ jB ++ R) → va_S A s.heap H locs → lv_has ls 4 [(0, .ref (ad 0)), (2, .int v2), (3, .int v3)] → (∀ (H : Heap) (locs : List Loc) (ls : Array Slot), va_P D vwCl (WC ca ad bq nF nO nL nA nC nV znU nP nE bF bO bL bA bC bV bU bP bE cT cK cO cQ cD pT zpK pR zpW zpU pI pC uO uF uE uN wK jM jN jZ jB ++ R) H → va_D A (WC ca ad bq nF nO nL nA nC nV znU nP nE bF bO bL bA bC bV bU bP bE cT cK cO cQ cD pT zpK pR zpW zpU pI pC uO uF uE uN wK jM jN jZ jB ++ R) → va_S A s.heap H locs → lv_has ls 4 [(2, .int v2)] → W p l e ({ frames := 7, cells := 2, slots := 12, locals := 113 } : Room) s m args below meth c H locs 2 12 Qm (F0 m 57 ls [])) → W p l e ({ frames := 7, cells := 2, slots := 12, locals := 113 } : Room) s m args below meth c H locs 2 12 Qm (F0 m 28 ls []) := by
    intro n
    induction n with
    | zero => intro v2 v3 nU pK pW pU znU zpK zpW zpU hf; cases hf
    | succ n ih =>
      intro v2 v3 nU pK pW pU znU zpK zpW zpU hf H locs ls hP hD hS hl kk
      unfold f_C_thin_L28 at hf
      refine lv_iload_n hx hb dX3_thin_28 rfl (lv_at hl 2 rfl) ?_
      refine lv_iload_n hx hb dX3_thin_29 rfl (lv_at hl 1 rfl) ?_
      refine lv_icmp_ge (tgt := 57) hx hb dX3_thin_30 (by decide) (fun c17 => ?_) (fun c17 => ?_)
      · have hf := br_pos c17 hf
        cases hf
        exact kk _ _ _ hP hD hS (lv_sub hl [1] rfl)
      · have hf := br_neg c17 hf
        refine lv_aload_n hx hb dX3_thin_33 rfl (lv_at hl 0 rfl) ?_
        refine va_get (D := D) (ci := 7) (v := .ref (ad 5)) (C := RX3) (T := TX3) (N := 11) hx hb hts inX3 hown hK hP 0 rfl rfl 6 (by decide) (hts _ q188) (fun _ h9 => h9) rfl dX3_thin_34 ?_
        refine lv_aload_n hx hb dX3_thin_37 rfl (lv_at hl 0 rfl) ?_
        refine va_get (D := D) (ci := 7) (v := .ref (ad 5)) (C := RX3) (T := TX3) (N := 11) hx hb hts inX3 hown hK hP 0 rfl rfl 6 (by decide) (hts _ q188) (fun _ h9 => h9) rfl dX3_thin_38 ?_
        obtain ⟨r18, h19, hf⟩ := bnd hf
        refine call_vi (rest := [.ref (ad 5)]) (m_P_leastKept l ca ad bq nF nO nL nA nC nV nU nP nE bF bO bL bA bC bV bU bP bE cT cK cO cQ cD pT pK pR pW pU pI pC uO uF uE uN wK jM jN jZ jB R _ r18 h19) ⟨hx, hb, hml, hown, hts⟩ (cwV 0 hts (gV q761 q762 q763 q27 q764) rfl rfl rfl (by decide +kernel) ⟨Nat.le_of_ble_eq_true rfl, Nat.le_of_ble_eq_true rfl⟩) (va_recv hK hP (ci := 5) (q0 := 19) rfl rfl) hE hP hD hS hA rfl hl.1 rfl (lv_room (Nat.le_of_ble_eq_true rfl)) dX3_thin_41 ⟨Nat.le_of_ble_eq_true rfl, Nat.le_of_ble_eq_true rfl⟩ (fun H locs hP hD hS => ?_)
        refine lv_aload_n hx hb dX3_thin_44 rfl (lv_at hl 0 rfl) ?_
        refine va_get (D := D) (ci := 7) (v := .ref (ad 1)) (C := RX3) (T := TX3) (N := 11) hx hb hts inX3 hown hK hP 0 rfl rfl 0 (by decide) (hts _ q182) (fun _ h9 => h9) rfl dX3_thin_45 ?_
        obtain ⟨⟨nU_20, pK_21, pW_22, pU_23⟩, h24, hf⟩ := bnd hf
        refine call_vv (rest := []) (m_P_drop l ca ad bq nF nO nL nA nC nV nU nP nE bF bO bL bA bC bV bU bP bE cT cK cO cQ cD pT pK pR pW pU pI pC uO uF uE uN wK jM jN jZ jB R _ r18 nU_20 pK_21 pW_22 pU_23 h24) ⟨hx, hb, hml, hown, hts⟩ (cwV 2 hts (gV q765 q766 q767 q27 q768) rfl rfl rfl (by decide +kernel) ⟨Nat.le_of_ble_eq_true rfl, Nat.le_of_ble_eq_true rfl⟩) (va_recv hK hP (ci := 5) (q0 := 19) rfl rfl) hE hP hD hS hA rfl hl.1 rfl (lv_room (Nat.le_of_ble_eq_true rfl)) dX3_thin_48 ⟨Nat.le_of_ble_eq_true rfl, Nat.le_of_ble_eq_true rfl⟩ (fun H locs hP hD hS => ?_)
        refine lv_iinc (v := (v3 + 1)) (lv' := [(3, .int (v3 + 1)), (0, .ref (ad 0)), (2, .int v2)]) hx hb dX3_thin_51 hl (k := 2) rfl rfl (by decide) rfl (fun ls hl => ?_)
        refine lv_goto (tgt := 28) hx hb dX3_thin_54 (by decide) ?_
        exact ih v2 (v3 + 1) nU_20 pK_21 pW_22 pU_23 _ _ _ _ hf _ _ _ hP hD hS (lv_sub hl [1, 2, 0] rfl) kk
  refine lv_aload_n hx hb dX3_thin_0 rfl (lv_at hl 0 rfl) ?_
  refine lv_iload_n hx hb dX3_thin_1 rfl (lv_at hl 1 rfl) ?_
  refine lv_iconst (v := 0) hx hb dX3_thin_2 (by decide) ?_
  refine lv_bipush (v := 8) hx hb dX3_thin_3 (by decide) ?_
  obtain ⟨x1, h2, hf⟩ := bnd hf
  rcases x1 with n3 | _
  · have hf : some ((.error n3), nU, pK, pW, pU) = some (ro, onU, opK, opW, opU) := hf
    cases hf
    exact cx_vv_err (rest := []) (m_C_requireWithin l hst ca ad bq nF nO nL nA nC nV nU nP nE bF bO bL bA bC bV bU bP bE cT cK cO cQ cD pT pK pR pW pU pI pC uO uF uE uN wK jM jN jZ jB R _ p1 0 8 (.error n3) h2) ⟨hx, hb, hml, hown, hts⟩ (cwV 3 hts (gV q341 q343 q1 q24 q344) rfl rfl rfl (by decide +kernel) ⟨Nat.le_of_ble_eq_true rfl, Nat.le_of_ble_eq_true rfl⟩) (va_recv hK hP (ci := 7) (q0 := 0) rfl rfl) hE hP hD hS hA hZ rfl hl.1 rfl (lv_room (Nat.le_of_ble_eq_true rfl)) dX3_thin_5 ⟨Nat.le_of_ble_eq_true rfl, Nat.le_of_ble_eq_true rfl⟩ hAe hQm htab hlocks (Nat.le_of_ble_eq_true rfl) (Nat.le_of_ble_eq_true rfl)
  refine cx_vv_ok (rest := []) (m_C_requireWithin l hst ca ad bq nF nO nL nA nC nV nU nP nE bF bO bL bA bC bV bU bP bE cT cK cO cQ cD pT pK pR pW pU pI pC uO uF uE uN wK jM jN jZ jB R _ p1 0 8 (.ok ()) h2) ⟨hx, hb, hml, hown, hts⟩ (cwV 3 hts (gV q341 q343 q1 q24 q344) rfl rfl rfl (by decide +kernel) ⟨Nat.le_of_ble_eq_true rfl, Nat.le_of_ble_eq_true rfl⟩) (va_recv hK hP (ci := 7) (q0 := 0) rfl rfl) hE hP hD hS hA hZ rfl hl.1 rfl (lv_room (Nat.le_of_ble_eq_true rfl)) dX3_thin_5 ⟨Nat.le_of_ble_eq_true rfl, Nat.le_of_ble_eq_true rfl⟩ (fun H locs hP hD hS => ?_)
  refine lv_aload_n hx hb dX3_thin_8 rfl (lv_at hl 0 rfl) ?_
  obtain ⟨x4, h5, hf⟩ := bnd hf
  rcases x4 with n6 | _
  · have hf : some ((.error n6), nU, pK, pW, pU) = some (ro, onU, opK, opW, opU) := hf
    cases hf
    exact cx_vv_err (rest := []) (m_C_requireNoTransaction l hst ca ad bq nF nO nL nA nC nV nU nP nE bF bO bL bA bC bV bU bP bE cT cK cO cQ cD pT pK pR pW pU pI pC uO uF uE uN wK jM jN jZ jB R _ (.error n6) h5) ⟨hx, hb, hml, hown, hts⟩ (cwV 0 hts (gV q361 q363 q2 q24 q364) rfl rfl rfl (by decide +kernel) ⟨Nat.le_of_ble_eq_true rfl, Nat.le_of_ble_eq_true rfl⟩) (va_recv hK hP (ci := 7) (q0 := 0) rfl rfl) hE hP hD hS hA hZ rfl hl.1 rfl (lv_room (Nat.le_of_ble_eq_true rfl)) dX3_thin_9 ⟨Nat.le_of_ble_eq_true rfl, Nat.le_of_ble_eq_true rfl⟩ hAe hQm htab hlocks (Nat.le_of_ble_eq_true rfl) (Nat.le_of_ble_eq_true rfl)
  refine cx_vv_ok (rest := []) (m_C_requireNoTransaction l hst ca ad bq nF nO nL nA nC nV nU nP nE bF bO bL bA bC bV bU bP bE cT cK cO cQ cD pT pK pR pW pU pI pC uO uF uE uN wK jM jN jZ jB R _ (.ok ()) h5) ⟨hx, hb, hml, hown, hts⟩ (cwV 0 hts (gV q361 q363 q2 q24 q364) rfl rfl rfl (by decide +kernel) ⟨Nat.le_of_ble_eq_true rfl, Nat.le_of_ble_eq_true rfl⟩) (va_recv hK hP (ci := 7) (q0 := 0) rfl rfl) hE hP hD hS hA hZ rfl hl.1 rfl (lv_room (Nat.le_of_ble_eq_true rfl)) dX3_thin_9 ⟨Nat.le_of_ble_eq_true rfl, Nat.le_of_ble_eq_true rfl⟩ (fun H locs hP hD hS => ?_)
  refine lv_iconst (v := 0) hx hb dX3_thin_12 (by decide) ?_
  refine lv_aload_n hx hb dX3_thin_13 rfl (lv_at hl 0 rfl) ?_
  refine va_get (D := D) (ci := 7) (v := .ref (ad 5)) (C := RX3) (T := TX3) (N := 11) hx hb hts inX3 hown hK hP 0 rfl rfl 6 (by decide) (hts _ q188) (fun _ h9 => h9) rfl dX3_thin_14 ?_
  obtain ⟨r7, h8, hf⟩ := bnd hf
  refine call_vi (rest := [.int 0]) (m_P_keptTotal l ca ad bq nF nO nL nA nC nV nU nP nE bF bO bL bA bC bV bU bP bE cT cK cO cQ cD pT pK pR pW pU pI pC uO uF uE uN wK jM jN jZ jB R _ r7 h8) ⟨hx, hb, hml, hown, hts⟩ (cwV 0 hts (gV q693 q694 q695 q27 q696) rfl rfl rfl (by decide +kernel) ⟨Nat.le_of_ble_eq_true rfl, Nat.le_of_ble_eq_true rfl⟩) (va_recv hK hP (ci := 5) (q0 := 19) rfl rfl) hE hP hD hS hA rfl hl.1 rfl (lv_room (Nat.le_of_ble_eq_true rfl)) dX3_thin_17 ⟨Nat.le_of_ble_eq_true rfl, Nat.le_of_ble_eq_true rfl⟩ (fun H locs hP hD hS => ?_)
  refine lv_iload_n hx hb dX3_thin_20 rfl (lv_at hl 1 rfl) ?_
  refine lv_isub hx hb dX3_thin_21 ?_
  refine va_mmax hx hb (hml.trans hl.1.symm) hown (hts _ q760) (hts _ q580) (hts _ q43) (hts _ q581) (Nat.le_of_ble_eq_true rfl) (Nat.le_of_ble_eq_true rfl) (Nat.le_of_ble_eq_true rfl) (Nat.le_of_ble_eq_true rfl) dX3_thin_22 ?_
  refine lv_istore_n (lv' := [(2, .int (if 0 < (r7 - p1) then (r7 - p1) else 0)), (0, .ref (ad 0)), (1, .int p1)]) hx hb dX3_thin_25 rfl hl (by decide) rfl (fun ls hl => ?_)
  refine lv_iconst (v := 0) hx hb dX3_thin_26 (by decide) ?_
  refine lv_istore_n (lv' := [(3, .int 0), (2, .int (if 0 < (r7 - p1) then (r7 - p1) else 0)), (0, .ref (ad 0)), (1, .int p1)]) hx hb dX3_thin_27 rfl hl (by decide) rfl (fun ls hl => ?_)
  obtain ⟨⟨nU_26, pK_27, pW_28, pU_29⟩, h25, hf⟩ := bnd hf
  refine L28 FU (if 0 < (r7 - p1) then (r7 - p1) else 0) 0 nU pK pW pU nU_26 pK_27 pW_28 pU_29 h25 _ _ _ hP hD hS (lv_sub hl [2, 1, 0] rfl) (fun H locs ls hP hD hS hl => ?_)
  refine lv_iload_n hx hb dX3_thin_57 rfl (lv_at hl 0 rfl) ?_
  cases hf
  exact endx_i hAe hQm hx hb hr hlocks rfl hP hD hS dX3_thin_58 (Nat.le_of_ble_eq_true rfl) (Nat.le_of_ble_eq_true rfl)
def f_C_nextToDrop (pR : Nat → Int32) (pW : Nat → Int32) : Option (Except Nat Int32) :=
  (f_P_leastKept pR pW).bind fun r1 =>
  if r1 = (-1) then
    some (.error 5)
  else
    some (.ok r1)
set_option maxHeartbeats 4000000 in
set_option maxRecDepth 100000 in
theorem m_C_nextToDrop (l : Launch) (hst : l.stackTraces = false) {D : va_G} (ca : Nat → ClassId) (ad : Nat → Nat) (bq : Nat) (nF : Int32) (nO : Nat → Int32) (nL : Nat → Int32) (nA : Nat → Int32) (nC : Nat → Int32) (nV : Nat → Int32) (nU : Nat → Int32) (nP : Nat → Int32) (nE : Int32) (bF : Int32) (bO : Nat → Int32) (bL : Nat → Int32) (bA : Nat → Int32) (bC : Nat → Int32) (bV : Nat → Int32) (bU : Nat → Int32) (bP : Nat → Int32) (bE : Int32) (cT : Int32) (cK : Nat → Int32) (cO : Int32) (cQ : Nat → Int32) (cD : Int32) (pT : Int32) (pK : Int32) (pR : Nat → Int32) (pW : Nat → Int32) (pU : Nat → Int32) (pI : Nat → Int32) (pC : Nat → Nat → Int32) (uO : Int32) (uF : Nat → Int32) (uE : Nat → Int32) (uN : Nat → Int32) (wK : Nat → Int32) (jM : Int32) (jN : Int32) (jZ : Nat) (jB : Nat → Int32) (R : va_W) (sz : Nat) (ro : Except Nat Int32) (hf : f_C_nextToDrop pR pW = some ro) : vx_Met l yX3_nextToDrop (wm yX3_nextToDrop cX3_nextToDrop 2 (some .int)) ({ frames := 6, cells := 1, slots := 6, locals := 90 } : Room) (PREX [.ref (ad 0)] D ca SL0 (WC ca ad bq nF nO nL nA nC nV nU nP nE bF bO bL bA bC bV bU bP bE cT cK cO cQ cD pT pK pR pW pU pI pC uO uF uE uN wK jM jN jZ jB ++ R) sz) (QXI ro D (WC ca ad bq nF nO nL nA nC nV nU nP nE bF bO bL bA bC bV bU bP bE cT cK cO cQ cD pT pK pR pW pU pI pC uO uF uE uN wK jM jN jZ jB ++ R) (WC ca ad bq nF nO nL nA nC nV nU nP nE bF bO bL bA bC bV bU bP bE cT cK cO cQ cD pT pK pR pW pU pI pC uO uF uE uN wK jM jN jZ jB ++ R) sz) (QXE ro D (WC ca ad bq nF nO nL nA nC nV nU nP nE bF bO bL bA bC bV bU bP bE cT cK cO cQ cD pT pK pR pW pU pI pC uO uF uE uN wK jM jN jZ jB ++ R) (WC ca ad bq nF nO nL nA nC nV nU nP nE bF bO bL bA bC bV bU bP bE cT cK cO cQ cD pT pK pR pW pU pI pC uO uF uE uN wK jM jN jZ jB ++ R) sz) 1 6 (va_A (WC ca ad bq nF nO nL nA nC nV nU nP nE bF bO bL bA bC bV bU bP bE cT cK cO cQ cD pT pK pR pW pU pI pC uO uF uE uN wK jM jN jZ jB ++ R) sz) := by
  refine vx_ofW (cc := cX3_nextToDrop) (maxL := 2) (ret := (some .int)) (by decide) rfl ?_
  intro p e s m args below meth c s₁ B hml htab hv
  obtain ⟨rfl, rfl, hP, hE, hD0, hZ⟩ := hv
  have hx := B.exec
  have hb := B.bytes
  have hr := B.returns
  have hts := wm_ww (atoms_spec (ws := wm yX3_nextToDrop cX3_nextToDrop 2 (some .int)) B.pre)
  have hown : s.vm.findClass RX3 = some m.cls := findClass_of_methodNamed B.named
  have hlocks := B.notSynchronized
  have hK := hE.1
  have hD := hD0.self (sz := s.heap.size)
  generalize hAe : va_A (WC ca ad bq nF nO nL nA nC nV nU nP nE bF bO bL bA bC bV bU bP bE cT cK cO cQ cD pT pK pR pW pU pI pC uO uF uE uN wK jM jN jZ jB ++ R) s.heap.size = A at hD hZ ⊢
  have hA : ∀ q : Nat, s.heap.size ≤ q → A q := fun q h => by rw [← hAe]; exact Or.inr h
  have hS : va_S A s.heap s.heap [] := va_S.rf
  have hl := lv_entry ([.ref (ad 0)]) (n := 2) (Nat.le_of_ble_eq_true rfl)
  rw [lg_entry_eq]
  generalize (lg_sl ([.ref (ad 0)]) ++ List.replicate (2 - (lg_sl ([.ref (ad 0)])).length) Slot.unset).toArray = ls at hl ⊢
  have hl : lv_has ls 2 [(0, .ref (ad 0))] := hl
  change W p l e ({ frames := 6, cells := 1, slots := 6, locals := 90 } : Room) s m _ below meth c s.heap [] 0 0 _ _
  generalize hQm : vx_MQ below (QXI ro D (WC ca ad bq nF nO nL nA nC nV nU nP nE bF bO bL bA bC bV bU bP bE cT cK cO cQ cD pT pK pR pW pU pI pC uO uF uE uN wK jM jN jZ jB ++ R) (WC ca ad bq nF nO nL nA nC nV nU nP nE bF bO bL bA bC bV bU bP bE cT cK cO cQ cD pT pK pR pW pU pI pC uO uF uE uN wK jM jN jZ jB ++ R) s.heap.size) (QXE ro D (WC ca ad bq nF nO nL nA nC nV nU nP nE bF bO bL bA bC bV bU bP bE cT cK cO cQ cD pT pK pR pW pU pI pC uO uF uE uN wK jM jN jZ jB ++ R) (WC ca ad bq nF nO nL nA nC nV nU nP nE bF bO bL bA bC bV bU bP bE cT cK cO cQ cD pT pK pR pW pU pI pC uO uF uE uN wK jM jN jZ jB ++ R) s.heap.size) _ s 1 6 A = Qm
  have hP : va_P D vwCl (WC ca ad bq nF nO nL nA nC nV nU nP nE bF bO bL bA bC bV bU bP bE cT cK cO cQ cD pT pK pR pW pU pI pC uO uF uE uN wK jM jN jZ jB ++ R) s.heap := hP
  generalize hae : ([.ref (ad 0)] : List Value).toArray = args at hts hQm ⊢
  refine lv_aload_n hx hb dX3_nextToDrop_0 rfl (lv_at hl 0 rfl) ?_
  refine va_get (D := D) (ci := 7) (v := .ref (ad 5)) (C := RX3) (T := TX3) (N := 11) hx hb hts inX3 hown hK hP 0 rfl rfl 6 (by decide) (hts _ q188) (fun _ h9 => h9) rfl dX3_nextToDrop_1 ?_
  obtain ⟨r1, h2, hf⟩ := bnd hf
  refine call_vi (rest := []) (m_P_leastKept l ca ad bq nF nO nL nA nC nV nU nP nE bF bO bL bA bC bV bU bP bE cT cK cO cQ cD pT pK pR pW pU pI pC uO uF uE uN wK jM jN jZ jB R _ r1 h2) ⟨hx, hb, hml, hown, hts⟩ (cwV 0 hts (gV q761 q762 q763 q27 q764) rfl rfl rfl (by decide +kernel) ⟨Nat.le_of_ble_eq_true rfl, Nat.le_of_ble_eq_true rfl⟩) (va_recv hK hP (ci := 5) (q0 := 19) rfl rfl) hE hP hD hS hA rfl hl.1 rfl (lv_room (Nat.le_of_ble_eq_true rfl)) dX3_nextToDrop_4 ⟨Nat.le_of_ble_eq_true rfl, Nat.le_of_ble_eq_true rfl⟩ (fun H locs hP hD hS => ?_)
  refine lv_istore_n (lv' := [(1, .int r1), (0, .ref (ad 0))]) hx hb dX3_nextToDrop_7 rfl hl (by decide) rfl (fun ls hl => ?_)
  refine lv_iload_n hx hb dX3_nextToDrop_8 rfl (lv_at hl 0 rfl) ?_
  refine lv_iconst (v := (-1)) hx hb dX3_nextToDrop_9 (by decide) ?_
  refine lv_icmp_ne (tgt := 23) hx hb dX3_nextToDrop_10 (by decide) (fun c3 => ?_) (fun c3 => ?_)
  · have hf := br_neg c3 hf
    refine lv_iload_n hx hb dX3_nextToDrop_23 rfl (lv_at hl 0 rfl) ?_
    cases hf
    exact endx_i hAe hQm hx hb hr hlocks rfl hP hD hS dX3_nextToDrop_24 (Nat.le_of_ble_eq_true rfl) (Nat.le_of_ble_eq_true rfl)
  · have hf := br_pos c3 hf
    cases hf
    exact endn_throw 5 rfl hAe hQm hst hx hb hts hE hown htab hlocks (by decide +kernel) q604 q44 sl9 at214 hZ (hl.1.trans hml.symm) hP hD hS dX3_nextToDrop_13 dX3_nextToDrop_16 dX3_nextToDrop_17 dX3_nextToDrop_19 dX3_nextToDrop_22 (Nat.le_of_ble_eq_true rfl) (Nat.le_of_ble_eq_true rfl) (Nat.le_of_ble_eq_true rfl) (Nat.le_of_ble_eq_true rfl) (Nat.le_of_ble_eq_true rfl) (Nat.le_of_ble_eq_true rfl)
def f_C_restore_L84 : Nat → Int32 → Int32 → Int32 → Int32 → Int32 → (Nat → Int32) → (Nat → Int32) → Int32 → (Nat → Int32) → (Nat → Int32) → (Nat → Nat → Int32) → Option (Int32 × (Nat → Int32) × (Nat → Int32))
  | 0, _, _, _, _, _, _, _, _, _, _, _ => none
  | fuel + 1, v1, v2, v6, v7, nF, nC, nU, pT, pW, pI, pC =>
    if 16 ≤ v7 then
      some (v6, nC, nU)
    else
      (f_P_blockIn v1 v2 v7 pT pW pI pC).bind fun r37 =>
      (f_S_blockIn v2 v7 nF nC).bind fun r39 =>
      if r37 = r39 then
        f_C_restore_L84 fuel v1 v2 v6 (v7 + 1) nF nC nU pT pW pI pC
      else
        (f_S_setBlock v2 v7 r37 nF nC nU).bind fun (nC_42, nU_43) =>
        f_C_restore_L84 fuel v1 v2 (v6 + 1) (v7 + 1) nF nC_42 nU_43 pT pW pI pC
def f_C_restore (p1 : Int32) (p2 : Int32) (nF : Int32) (nO : Nat → Int32) (nL : Nat → Int32) (nC : Nat → Int32) (nU : Nat → Int32) (cT : Int32) (cO : Int32) (cQ : Nat → Int32) (pT : Int32) (pW : Nat → Int32) (pI : Nat → Int32) (pC : Nat → Nat → Int32) : Option (Except Nat Int32 × (Nat → Int32) × (Nat → Int32)) :=
  (f_C_requireSnapshot p1 pT).bind fun x1 =>
  match x1 with
  | .error n3 => some ((.error n3), nC, nU)
  | .ok _ =>
  (f_C_requireFile p2 nF).bind fun x4 =>
  match x4 with
  | .error n6 => some ((.error n6), nC, nU)
  | .ok _ =>
  (f_C_requireInSnapshot p1 p2 pT pW pI).bind fun x7 =>
  match x7 with
  | .error n9 => some ((.error n9), nC, nU)
  | .ok _ =>
  (f_C_requireNoTransaction cT).bind fun x10 =>
  match x10 with
  | .error n12 => some ((.error n12), nC, nU)
  | .ok _ =>
  (f_C_requireLinks p2 nF nL).bind fun x13 =>
  match x13 with
  | .error n15 => some ((.error n15), nC, nU)
  | .ok _ =>
  (f_S_ownerIn p2 nF nO).bind fun r16 =>
  (f_S_blocksOfOwner r16 p2 nF nO nC).bind fun r18 =>
  (f_P_blocksInFile p1 p2 pT pW pI pC).bind fun r20 =>
  (f_J13_bitCount_95d88 (r18 ||| r20)).bind fun r22 =>
  (f_C_quotaOf r16 cO cQ).bind fun r24 =>
  if r22 ≤ r24 then
    (f_C_restore_L84 FU p1 p2 0 0 nF nC nU pT pW pI pC).bind fun (x46, nC_47, nU_48) =>
    some ((.ok x46), nC_47, nU_48)
  else
    some ((.error 4), nC, nU)
set_option maxHeartbeats 4000000 in
set_option maxRecDepth 100000 in
theorem m_C_restore (l : Launch) (hst : l.stackTraces = false) {D : va_G} (ca : Nat → ClassId) (ad : Nat → Nat) (bq : Nat) (nF : Int32) (nO : Nat → Int32) (nL : Nat → Int32) (nA : Nat → Int32) (nC : Nat → Int32) (nV : Nat → Int32) (nU : Nat → Int32) (nP : Nat → Int32) (nE : Int32) (bF : Int32) (bO : Nat → Int32) (bL : Nat → Int32) (bA : Nat → Int32) (bC : Nat → Int32) (bV : Nat → Int32) (bU : Nat → Int32) (bP : Nat → Int32) (bE : Int32) (cT : Int32) (cK : Nat → Int32) (cO : Int32) (cQ : Nat → Int32) (cD : Int32) (pT : Int32) (pK : Int32) (pR : Nat → Int32) (pW : Nat → Int32) (pU : Nat → Int32) (pI : Nat → Int32) (pC : Nat → Nat → Int32) (uO : Int32) (uF : Nat → Int32) (uE : Nat → Int32) (uN : Nat → Int32) (wK : Nat → Int32) (jM : Int32) (jN : Int32) (jZ : Nat) (jB : Nat → Int32) (R : va_W) (sz : Nat) (p1 : Int32) (p2 : Int32) (ro : Except Nat Int32) (onC : Nat → Int32) (onU : Nat → Int32) (hf : f_C_restore p1 p2 nF nO nL nC nU cT cO cQ pT pW pI pC = some (ro, onC, onU)) : vx_Met l yX3_restore (wm yX3_restore cX3_restore 9 (some .int)) ({ frames := 7, cells := 6, slots := 36, locals := 112 } : Room) (PREX [.ref (ad 0), .int p1, .int p2] D ca SL0 (WC ca ad bq nF nO nL nA nC nV nU nP nE bF bO bL bA bC bV bU bP bE cT cK cO cQ cD pT pK pR pW pU pI pC uO uF uE uN wK jM jN jZ jB ++ R) sz) (QXI ro D (WC ca ad bq nF nO nL nA onC nV onU nP nE bF bO bL bA bC bV bU bP bE cT cK cO cQ cD pT pK pR pW pU pI pC uO uF uE uN wK jM jN jZ jB ++ R) (WC ca ad bq nF nO nL nA nC nV nU nP nE bF bO bL bA bC bV bU bP bE cT cK cO cQ cD pT pK pR pW pU pI pC uO uF uE uN wK jM jN jZ jB ++ R) sz) (QXE ro D (WC ca ad bq nF nO nL nA onC nV onU nP nE bF bO bL bA bC bV bU bP bE cT cK cO cQ cD pT pK pR pW pU pI pC uO uF uE uN wK jM jN jZ jB ++ R) (WC ca ad bq nF nO nL nA nC nV nU nP nE bF bO bL bA bC bV bU bP bE cT cK cO cQ cD pT pK pR pW pU pI pC uO uF uE uN wK jM jN jZ jB ++ R) sz) 6 36 (va_A (WC ca ad bq nF nO nL nA nC nV nU nP nE bF bO bL bA bC bV bU bP bE cT cK cO cQ cD pT pK pR pW pU pI pC uO uF uE uN wK jM jN jZ jB ++ R) sz) := by
  refine vx_ofW (cc := cX3_restore) (maxL := 9) (ret := (some .int)) (by decide) rfl ?_
  intro p e s m args below meth c s₁ B hml htab hv
  obtain ⟨rfl, rfl, hP, hE, hD0, hZ⟩ := hv
  have hx := B.exec
  have hb := B.bytes
  have hr := B.returns
  have hts := wm_ww (atoms_spec (ws := wm yX3_restore cX3_restore 9 (some .int)) B.pre)
  have hown : s.vm.findClass RX3 = some m.cls := findClass_of_methodNamed B.named
  have hlocks := B.notSynchronized
  have hK := hE.1
  have hD := hD0.self (sz := s.heap.size)
  generalize hAe : va_A (WC ca ad bq nF nO nL nA nC nV nU nP nE bF bO bL bA bC bV bU bP bE cT cK cO cQ cD pT pK pR pW pU pI pC uO uF uE uN wK jM jN jZ jB ++ R) s.heap.size = A at hD hZ ⊢
  have hA : ∀ q : Nat, s.heap.size ≤ q → A q := fun q h => by rw [← hAe]; exact Or.inr h
  have hS : va_S A s.heap s.heap [] := va_S.rf
  have hl := lv_entry ([.ref (ad 0), .int p1, .int p2]) (n := 9) (Nat.le_of_ble_eq_true rfl)
  rw [lg_entry_eq]
  generalize (lg_sl ([.ref (ad 0), .int p1, .int p2]) ++ List.replicate (9 - (lg_sl ([.ref (ad 0), .int p1, .int p2])).length) Slot.unset).toArray = ls at hl ⊢
  have hl : lv_has ls 9 [(0, .ref (ad 0)), (1, .int p1), (2, .int p2)] := hl
  change W p l e ({ frames := 7, cells := 6, slots := 36, locals := 112 } : Room) s m _ below meth c s.heap [] 0 0 _ _
  generalize hQm : vx_MQ below (QXI ro D (WC ca ad bq nF nO nL nA onC nV onU nP nE bF bO bL bA bC bV bU bP bE cT cK cO cQ cD pT pK pR pW pU pI pC uO uF uE uN wK jM jN jZ jB ++ R) (WC ca ad bq nF nO nL nA nC nV nU nP nE bF bO bL bA bC bV bU bP bE cT cK cO cQ cD pT pK pR pW pU pI pC uO uF uE uN wK jM jN jZ jB ++ R) s.heap.size) (QXE ro D (WC ca ad bq nF nO nL nA onC nV onU nP nE bF bO bL bA bC bV bU bP bE cT cK cO cQ cD pT pK pR pW pU pI pC uO uF uE uN wK jM jN jZ jB ++ R) (WC ca ad bq nF nO nL nA nC nV nU nP nE bF bO bL bA bC bV bU bP bE cT cK cO cQ cD pT pK pR pW pU pI pC uO uF uE uN wK jM jN jZ jB ++ R) s.heap.size) _ s 6 36 A = Qm
  have hP : va_P D vwCl (WC ca ad bq nF nO nL nA nC nV nU nP nE bF bO bL bA bC bV bU bP bE cT cK cO cQ cD pT pK pR pW pU pI pC uO uF uE uN wK jM jN jZ jB ++ R) s.heap := hP
  generalize hae : ([.ref (ad 0), .int p1, .int p2] : List Value).toArray = args at hts hQm ⊢
  have L84 : ∀ (n : Nat) (v1 : Int32) (v2 : Int32) (v6 : Int32) (v7 : Int32) (nC : Nat → Int32) (nU : Nat → Int32) (y6 : Int32) (znC : Nat → Int32) (znU : Nat → Int32), f_C_restore_L84 n v1 v2 v6 v7 nF nC nU pT pW pI pC = some (y6, znC, znU) → ∀ (H : Heap) (locs : List Loc) (ls : Array Slot), va_P D vwCl (WC ca ad bq nF nO nL nA nC nV nU nP nE bF bO bL bA bC bV bU bP bE cT cK cO cQ cD pT pK pR pW pU pI pC uO uF uE uN wK jM jN jZ jB ++ R) H → va_D A (WC ca ad bq nF nO nL nA nC nV nU nP nE bF bO bL bA bC bV bU bP bE cT cK cO cQ cD pT pK pR pW pU pI pC uO uF uE uN wK jM jN jZ jB ++ R) → va_S A s.heap H locs → lv_has ls 9 [(0, .ref (ad 0)), (1, .int v1), (2, .int v2), (6, .int v6), (7, .int v7)] → (∀ (H : Heap) (locs : List Loc) (ls : Array Slot), va_P D vwCl (WC ca ad bq nF nO nL nA znC nV znU nP nE bF bO bL bA bC bV bU bP bE cT cK cO cQ cD pT pK pR pW pU pI pC uO uF uE uN wK jM jN jZ jB ++ R) H → va_D A (WC ca ad bq nF nO nL nA znC nV znU nP nE bF bO bL bA bC bV bU bP bE cT cK cO cQ cD pT pK pR pW pU pI pC uO uF uE uN wK jM jN jZ jB ++ R) → va_S A s.heap H locs → lv_has ls 9 [(6, .int y6)] → W p l e ({ frames := 7, cells := 6, slots := 36, locals := 112 } : Room) s m args below meth c H locs 5 30 Qm (F0 m 140 ls [])) → W p l e ({ frames := 7, cells := 6, slots := 36, locals := 112 } : Room) s m args below meth c H locs 5 30 Qm (F0 m 84 ls []) := by
    intro n
    induction n with
    | zero => intro v1 v2 v6 v7 nC nU y6 znC znU hf; cases hf
    | succ n ih =>
      intro v1 v2 v6 v7 nC nU y6 znC znU hf H locs ls hP hD hS hl kk
      unfold f_C_restore_L84 at hf
      refine lv_iload hx hb dX3_restore_84 (lv_at hl 4 rfl) ?_
      refine lv_bipush (v := 16) hx hb dX3_restore_86 (by decide) ?_
      refine lv_icmp_ge (tgt := 140) hx hb dX3_restore_88 (by decide) (fun c36 => ?_) (fun c36 => ?_)
      · have hf := br_pos c36 hf
        cases hf
        exact kk _ _ _ hP hD hS (lv_sub hl [3] rfl)
      · have hf := br_neg c36 hf
        refine lv_aload_n hx hb dX3_restore_91 rfl (lv_at hl 0 rfl) ?_
        refine va_get (D := D) (ci := 7) (v := .ref (ad 5)) (C := RX3) (T := TX3) (N := 11) hx hb hts inX3 hown hK hP 0 rfl rfl 6 (by decide) (hts _ q188) (fun _ h9 => h9) rfl dX3_restore_92 ?_
        refine lv_iload_n hx hb dX3_restore_95 rfl (lv_at hl 1 rfl) ?_
        refine lv_iload_n hx hb dX3_restore_96 rfl (lv_at hl 2 rfl) ?_
        refine lv_iload hx hb dX3_restore_97 (lv_at hl 4 rfl) ?_
        obtain ⟨r37, h38, hf⟩ := bnd hf
        refine call_vi (rest := []) (m_P_blockIn l ca ad bq nF nO nL nA nC nV nU nP nE bF bO bL bA bC bV bU bP bE cT cK cO cQ cD pT pK pR pW pU pI pC uO uF uE uN wK jM jN jZ jB R _ v1 v2 v7 r37 h38) ⟨hx, hb, hml, hown, hts⟩ (cwV 3 hts (gV q750 q751 q752 q27 q753) rfl rfl rfl (by decide +kernel) ⟨Nat.le_of_ble_eq_true rfl, Nat.le_of_ble_eq_true rfl⟩) (va_recv hK hP (ci := 5) (q0 := 19) rfl rfl) hE hP hD hS hA rfl hl.1 rfl (lv_room (Nat.le_of_ble_eq_true rfl)) dX3_restore_99 ⟨Nat.le_of_ble_eq_true rfl, Nat.le_of_ble_eq_true rfl⟩ (fun H locs hP hD hS => ?_)
        refine lv_istore (lv' := [(8, .int r37), (0, .ref (ad 0)), (1, .int v1), (2, .int v2), (6, .int v6), (7, .int v7)]) hx hb dX3_restore_102 hl (by decide) rfl (fun ls hl => ?_)
        refine lv_iload hx hb dX3_restore_104 (lv_at hl 0 rfl) ?_
        refine lv_aload_n hx hb dX3_restore_106 rfl (lv_at hl 1 rfl) ?_
        refine va_get (D := D) (ci := 7) (v := .ref (ad 1)) (C := RX3) (T := TX3) (N := 11) hx hb hts inX3 hown hK hP 0 rfl rfl 0 (by decide) (hts _ q182) (fun _ h9 => h9) rfl dX3_restore_107 ?_
        refine lv_iload_n hx hb dX3_restore_110 rfl (lv_at hl 3 rfl) ?_
        refine lv_iload hx hb dX3_restore_111 (lv_at hl 5 rfl) ?_
        obtain ⟨r39, h40, hf⟩ := bnd hf
        refine call_vi (rest := [.int r37]) (m_S_blockIn l ca ad bq nF nO nL nA nC nV nU nP nE bF bO bL bA bC bV bU bP bE cT cK cO cQ cD pT pK pR pW pU pI pC uO uF uE uN wK jM jN jZ jB R _ v2 v7 r39 h40) ⟨hx, hb, hml, hown, hts⟩ (cwV 2 hts (gV q508 q509 q510 q25 q511) rfl rfl rfl (by decide +kernel) ⟨Nat.le_of_ble_eq_true rfl, Nat.le_of_ble_eq_true rfl⟩) (va_recv hK hP (ci := 6) (q0 := 1) rfl rfl) hE hP hD hS hA rfl hl.1 rfl (lv_room (Nat.le_of_ble_eq_true rfl)) dX3_restore_113 ⟨Nat.le_of_ble_eq_true rfl, Nat.le_of_ble_eq_true rfl⟩ (fun H locs hP hD hS => ?_)
        refine lv_icmp_eq (tgt := 134) hx hb dX3_restore_116 (by decide) (fun c41 => ?_) (fun c41 => ?_)
        · have hf := br_pos c41 hf
          refine lv_iinc (v := (v7 + 1)) (lv' := [(7, .int (v7 + 1)), (8, .int r37), (0, .ref (ad 0)), (1, .int v1), (2, .int v2), (6, .int v6)]) hx hb dX3_restore_134 hl (k := 5) rfl rfl (by decide) rfl (fun ls hl => ?_)
          refine lv_goto (tgt := 84) hx hb dX3_restore_137 (by decide) ?_
          exact ih v1 v2 v6 (v7 + 1) nC nU _ _ _ hf _ _ _ hP hD hS (lv_sub hl [2, 3, 4, 5, 0] rfl) kk
        · have hf := br_neg c41 hf
          refine lv_aload_n hx hb dX3_restore_119 rfl (lv_at hl 1 rfl) ?_
          refine va_get (D := D) (ci := 7) (v := .ref (ad 1)) (C := RX3) (T := TX3) (N := 11) hx hb hts inX3 hown hK hP 0 rfl rfl 0 (by decide) (hts _ q182) (fun _ h9 => h9) rfl dX3_restore_120 ?_
          refine lv_iload_n hx hb dX3_restore_123 rfl (lv_at hl 3 rfl) ?_
          refine lv_iload hx hb dX3_restore_124 (lv_at hl 5 rfl) ?_
          refine lv_iload hx hb dX3_restore_126 (lv_at hl 0 rfl) ?_
          obtain ⟨⟨nC_42, nU_43⟩, h44, hf⟩ := bnd hf
          refine call_vv (rest := []) (m_S_setBlock l ca ad bq nF nO nL nA nC nV nU nP nE bF bO bL bA bC bV bU bP bE cT cK cO cQ cD pT pK pR pW pU pI pC uO uF uE uN wK jM jN jZ jB R _ v2 v7 r37 nC_42 nU_43 h44) ⟨hx, hb, hml, hown, hts⟩ (cwV 3 hts (gV q586 q481 q482 q25 q483) rfl rfl rfl (by decide +kernel) ⟨Nat.le_of_ble_eq_true rfl, Nat.le_of_ble_eq_true rfl⟩) (va_recv hK hP (ci := 6) (q0 := 1) rfl rfl) hE hP hD hS hA rfl hl.1 rfl (lv_room (Nat.le_of_ble_eq_true rfl)) dX3_restore_128 ⟨Nat.le_of_ble_eq_true rfl, Nat.le_of_ble_eq_true rfl⟩ (fun H locs hP hD hS => ?_)
          refine lv_iinc (v := (v6 + 1)) (lv' := [(6, .int (v6 + 1)), (8, .int r37), (0, .ref (ad 0)), (1, .int v1), (2, .int v2), (7, .int v7)]) hx hb dX3_restore_131 hl (k := 4) rfl rfl (by decide) rfl (fun ls hl => ?_)
          refine lv_iinc (v := (v7 + 1)) (lv' := [(7, .int (v7 + 1)), (6, .int (v6 + 1)), (8, .int r37), (0, .ref (ad 0)), (1, .int v1), (2, .int v2)]) hx hb dX3_restore_134 hl (k := 5) rfl rfl (by decide) rfl (fun ls hl => ?_)
          refine lv_goto (tgt := 84) hx hb dX3_restore_137 (by decide) ?_
          exact ih v1 v2 (v6 + 1) (v7 + 1) nC_42 nU_43 _ _ _ hf _ _ _ hP hD hS (lv_sub hl [3, 4, 5, 1, 0] rfl) kk
  refine lv_aload_n hx hb dX3_restore_0 rfl (lv_at hl 0 rfl) ?_
  refine lv_iload_n hx hb dX3_restore_1 rfl (lv_at hl 1 rfl) ?_
  obtain ⟨x1, h2, hf⟩ := bnd hf
  rcases x1 with n3 | _
  · have hf : some ((.error n3), nC, nU) = some (ro, onC, onU) := hf
    cases hf
    exact cx_vv_err (rest := []) (m_C_requireSnapshot l hst ca ad bq nF nO nL nA nC nV nU nP nE bF bO bL bA bC bV bU bP bE cT cK cO cQ cD pT pK pR pW pU pI pC uO uF uE uN wK jM jN jZ jB R _ p1 (.error n3) h2) ⟨hx, hb, hml, hown, hts⟩ (cwV 1 hts (gV q722 q724 q17 q24 q725) rfl rfl rfl (by decide +kernel) ⟨Nat.le_of_ble_eq_true rfl, Nat.le_of_ble_eq_true rfl⟩) (va_recv hK hP (ci := 7) (q0 := 0) rfl rfl) hE hP hD hS hA hZ rfl hl.1 rfl (lv_room (Nat.le_of_ble_eq_true rfl)) dX3_restore_2 ⟨Nat.le_of_ble_eq_true rfl, Nat.le_of_ble_eq_true rfl⟩ hAe hQm htab hlocks (Nat.le_of_ble_eq_true rfl) (Nat.le_of_ble_eq_true rfl)
  refine cx_vv_ok (rest := []) (m_C_requireSnapshot l hst ca ad bq nF nO nL nA nC nV nU nP nE bF bO bL bA bC bV bU bP bE cT cK cO cQ cD pT pK pR pW pU pI pC uO uF uE uN wK jM jN jZ jB R _ p1 (.ok ()) h2) ⟨hx, hb, hml, hown, hts⟩ (cwV 1 hts (gV q722 q724 q17 q24 q725) rfl rfl rfl (by decide +kernel) ⟨Nat.le_of_ble_eq_true rfl, Nat.le_of_ble_eq_true rfl⟩) (va_recv hK hP (ci := 7) (q0 := 0) rfl rfl) hE hP hD hS hA hZ rfl hl.1 rfl (lv_room (Nat.le_of_ble_eq_true rfl)) dX3_restore_2 ⟨Nat.le_of_ble_eq_true rfl, Nat.le_of_ble_eq_true rfl⟩ (fun H locs hP hD hS => ?_)
  refine lv_aload_n hx hb dX3_restore_5 rfl (lv_at hl 0 rfl) ?_
  refine lv_iload_n hx hb dX3_restore_6 rfl (lv_at hl 2 rfl) ?_
  obtain ⟨x4, h5, hf⟩ := bnd hf
  rcases x4 with n6 | _
  · have hf : some ((.error n6), nC, nU) = some (ro, onC, onU) := hf
    cases hf
    exact cx_vv_err (rest := []) (m_C_requireFile l hst ca ad bq nF nO nL nA nC nV nU nP nE bF bO bL bA bC bV bU bP bE cT cK cO cQ cD pT pK pR pW pU pI pC uO uF uE uN wK jM jN jZ jB R _ p2 (.error n6) h5) ⟨hx, hb, hml, hown, hts⟩ (cwV 1 hts (gV q420 q422 q5 q24 q423) rfl rfl rfl (by decide +kernel) ⟨Nat.le_of_ble_eq_true rfl, Nat.le_of_ble_eq_true rfl⟩) (va_recv hK hP (ci := 7) (q0 := 0) rfl rfl) hE hP hD hS hA hZ rfl hl.1 rfl (lv_room (Nat.le_of_ble_eq_true rfl)) dX3_restore_7 ⟨Nat.le_of_ble_eq_true rfl, Nat.le_of_ble_eq_true rfl⟩ hAe hQm htab hlocks (Nat.le_of_ble_eq_true rfl) (Nat.le_of_ble_eq_true rfl)
  refine cx_vv_ok (rest := []) (m_C_requireFile l hst ca ad bq nF nO nL nA nC nV nU nP nE bF bO bL bA bC bV bU bP bE cT cK cO cQ cD pT pK pR pW pU pI pC uO uF uE uN wK jM jN jZ jB R _ p2 (.ok ()) h5) ⟨hx, hb, hml, hown, hts⟩ (cwV 1 hts (gV q420 q422 q5 q24 q423) rfl rfl rfl (by decide +kernel) ⟨Nat.le_of_ble_eq_true rfl, Nat.le_of_ble_eq_true rfl⟩) (va_recv hK hP (ci := 7) (q0 := 0) rfl rfl) hE hP hD hS hA hZ rfl hl.1 rfl (lv_room (Nat.le_of_ble_eq_true rfl)) dX3_restore_7 ⟨Nat.le_of_ble_eq_true rfl, Nat.le_of_ble_eq_true rfl⟩ (fun H locs hP hD hS => ?_)
  refine lv_aload_n hx hb dX3_restore_10 rfl (lv_at hl 0 rfl) ?_
  refine lv_iload_n hx hb dX3_restore_11 rfl (lv_at hl 1 rfl) ?_
  refine lv_iload_n hx hb dX3_restore_12 rfl (lv_at hl 2 rfl) ?_
  obtain ⟨x7, h8, hf⟩ := bnd hf
  rcases x7 with n9 | _
  · have hf : some ((.error n9), nC, nU) = some (ro, onC, onU) := hf
    cases hf
    exact cx_vv_err (rest := []) (m_C_requireInSnapshot l hst ca ad bq nF nO nL nA nC nV nU nP nE bF bO bL bA bC bV bU bP bE cT cK cO cQ cD pT pK pR pW pU pI pC uO uF uE uN wK jM jN jZ jB R _ p1 p2 (.error n9) h8) ⟨hx, hb, hml, hown, hts⟩ (cwV 2 hts (gV q740 q742 q18 q24 q743) rfl rfl rfl (by decide +kernel) ⟨Nat.le_of_ble_eq_true rfl, Nat.le_of_ble_eq_true rfl⟩) (va_recv hK hP (ci := 7) (q0 := 0) rfl rfl) hE hP hD hS hA hZ rfl hl.1 rfl (lv_room (Nat.le_of_ble_eq_true rfl)) dX3_restore_13 ⟨Nat.le_of_ble_eq_true rfl, Nat.le_of_ble_eq_true rfl⟩ hAe hQm htab hlocks (Nat.le_of_ble_eq_true rfl) (Nat.le_of_ble_eq_true rfl)
  refine cx_vv_ok (rest := []) (m_C_requireInSnapshot l hst ca ad bq nF nO nL nA nC nV nU nP nE bF bO bL bA bC bV bU bP bE cT cK cO cQ cD pT pK pR pW pU pI pC uO uF uE uN wK jM jN jZ jB R _ p1 p2 (.ok ()) h8) ⟨hx, hb, hml, hown, hts⟩ (cwV 2 hts (gV q740 q742 q18 q24 q743) rfl rfl rfl (by decide +kernel) ⟨Nat.le_of_ble_eq_true rfl, Nat.le_of_ble_eq_true rfl⟩) (va_recv hK hP (ci := 7) (q0 := 0) rfl rfl) hE hP hD hS hA hZ rfl hl.1 rfl (lv_room (Nat.le_of_ble_eq_true rfl)) dX3_restore_13 ⟨Nat.le_of_ble_eq_true rfl, Nat.le_of_ble_eq_true rfl⟩ (fun H locs hP hD hS => ?_)
  refine lv_aload_n hx hb dX3_restore_16 rfl (lv_at hl 0 rfl) ?_
  obtain ⟨x10, h11, hf⟩ := bnd hf
  rcases x10 with n12 | _
  · have hf : some ((.error n12), nC, nU) = some (ro, onC, onU) := hf
    cases hf
    exact cx_vv_err (rest := []) (m_C_requireNoTransaction l hst ca ad bq nF nO nL nA nC nV nU nP nE bF bO bL bA bC bV bU bP bE cT cK cO cQ cD pT pK pR pW pU pI pC uO uF uE uN wK jM jN jZ jB R _ (.error n12) h11) ⟨hx, hb, hml, hown, hts⟩ (cwV 0 hts (gV q361 q363 q2 q24 q364) rfl rfl rfl (by decide +kernel) ⟨Nat.le_of_ble_eq_true rfl, Nat.le_of_ble_eq_true rfl⟩) (va_recv hK hP (ci := 7) (q0 := 0) rfl rfl) hE hP hD hS hA hZ rfl hl.1 rfl (lv_room (Nat.le_of_ble_eq_true rfl)) dX3_restore_17 ⟨Nat.le_of_ble_eq_true rfl, Nat.le_of_ble_eq_true rfl⟩ hAe hQm htab hlocks (Nat.le_of_ble_eq_true rfl) (Nat.le_of_ble_eq_true rfl)
  refine cx_vv_ok (rest := []) (m_C_requireNoTransaction l hst ca ad bq nF nO nL nA nC nV nU nP nE bF bO bL bA bC bV bU bP bE cT cK cO cQ cD pT pK pR pW pU pI pC uO uF uE uN wK jM jN jZ jB R _ (.ok ()) h11) ⟨hx, hb, hml, hown, hts⟩ (cwV 0 hts (gV q361 q363 q2 q24 q364) rfl rfl rfl (by decide +kernel) ⟨Nat.le_of_ble_eq_true rfl, Nat.le_of_ble_eq_true rfl⟩) (va_recv hK hP (ci := 7) (q0 := 0) rfl rfl) hE hP hD hS hA hZ rfl hl.1 rfl (lv_room (Nat.le_of_ble_eq_true rfl)) dX3_restore_17 ⟨Nat.le_of_ble_eq_true rfl, Nat.le_of_ble_eq_true rfl⟩ (fun H locs hP hD hS => ?_)
  refine lv_aload_n hx hb dX3_restore_20 rfl (lv_at hl 0 rfl) ?_
  refine lv_iload_n hx hb dX3_restore_21 rfl (lv_at hl 2 rfl) ?_
  obtain ⟨x13, h14, hf⟩ := bnd hf
  rcases x13 with n15 | _
  · have hf : some ((.error n15), nC, nU) = some (ro, onC, onU) := hf
    cases hf
    exact cx_vv_err (rest := []) (m_C_requireLinks l hst ca ad bq nF nO nL nA nC nV nU nP nE bF bO bL bA bC bV bU bP bE cT cK cO cQ cD pT pK pR pW pU pI pC uO uF uE uN wK jM jN jZ jB R _ p2 (.error n15) h14) ⟨hx, hb, hml, hown, hts⟩ (cwV 1 hts (gV q446 q448 q6 q24 q449) rfl rfl rfl (by decide +kernel) ⟨Nat.le_of_ble_eq_true rfl, Nat.le_of_ble_eq_true rfl⟩) (va_recv hK hP (ci := 7) (q0 := 0) rfl rfl) hE hP hD hS hA hZ rfl hl.1 rfl (lv_room (Nat.le_of_ble_eq_true rfl)) dX3_restore_22 ⟨Nat.le_of_ble_eq_true rfl, Nat.le_of_ble_eq_true rfl⟩ hAe hQm htab hlocks (Nat.le_of_ble_eq_true rfl) (Nat.le_of_ble_eq_true rfl)
  refine cx_vv_ok (rest := []) (m_C_requireLinks l hst ca ad bq nF nO nL nA nC nV nU nP nE bF bO bL bA bC bV bU bP bE cT cK cO cQ cD pT pK pR pW pU pI pC uO uF uE uN wK jM jN jZ jB R _ p2 (.ok ()) h14) ⟨hx, hb, hml, hown, hts⟩ (cwV 1 hts (gV q446 q448 q6 q24 q449) rfl rfl rfl (by decide +kernel) ⟨Nat.le_of_ble_eq_true rfl, Nat.le_of_ble_eq_true rfl⟩) (va_recv hK hP (ci := 7) (q0 := 0) rfl rfl) hE hP hD hS hA hZ rfl hl.1 rfl (lv_room (Nat.le_of_ble_eq_true rfl)) dX3_restore_22 ⟨Nat.le_of_ble_eq_true rfl, Nat.le_of_ble_eq_true rfl⟩ (fun H locs hP hD hS => ?_)
  refine lv_aload_n hx hb dX3_restore_25 rfl (lv_at hl 0 rfl) ?_
  refine va_get (D := D) (ci := 7) (v := .ref (ad 1)) (C := RX3) (T := TX3) (N := 11) hx hb hts inX3 hown hK hP 0 rfl rfl 0 (by decide) (hts _ q182) (fun _ h9 => h9) rfl dX3_restore_26 ?_
  refine lv_iload_n hx hb dX3_restore_29 rfl (lv_at hl 2 rfl) ?_
  obtain ⟨r16, h17, hf⟩ := bnd hf
  refine call_vi (rest := []) (m_S_ownerIn l ca ad bq nF nO nL nA nC nV nU nP nE bF bO bL bA bC bV bU bP bE cT cK cO cQ cD pT pK pR pW pU pI pC uO uF uE uN wK jM jN jZ jB R _ p2 r16 h17) ⟨hx, hb, hml, hown, hts⟩ (cwV 1 hts (gV q516 q517 q518 q25 q519) rfl rfl rfl (by decide +kernel) ⟨Nat.le_of_ble_eq_true rfl, Nat.le_of_ble_eq_true rfl⟩) (va_recv hK hP (ci := 6) (q0 := 1) rfl rfl) hE hP hD hS hA rfl hl.1 rfl (lv_room (Nat.le_of_ble_eq_true rfl)) dX3_restore_30 ⟨Nat.le_of_ble_eq_true rfl, Nat.le_of_ble_eq_true rfl⟩ (fun H locs hP hD hS => ?_)
  refine lv_istore_n (lv' := [(3, .int r16), (0, .ref (ad 0)), (1, .int p1), (2, .int p2)]) hx hb dX3_restore_33 rfl hl (by decide) rfl (fun ls hl => ?_)
  refine lv_aload_n hx hb dX3_restore_34 rfl (lv_at hl 1 rfl) ?_
  refine va_get (D := D) (ci := 7) (v := .ref (ad 1)) (C := RX3) (T := TX3) (N := 11) hx hb hts inX3 hown hK hP 0 rfl rfl 0 (by decide) (hts _ q182) (fun _ h9 => h9) rfl dX3_restore_35 ?_
  refine lv_iload_n hx hb dX3_restore_38 rfl (lv_at hl 0 rfl) ?_
  refine lv_iload_n hx hb dX3_restore_39 rfl (lv_at hl 3 rfl) ?_
  obtain ⟨r18, h19, hf⟩ := bnd hf
  refine call_vl (rest := []) (m_S_blocksOfOwner l ca ad bq nF nO nL nA nC nV nU nP nE bF bO bL bA bC bV bU bP bE cT cK cO cQ cD pT pK pR pW pU pI pC uO uF uE uN wK jM jN jZ jB R _ r16 p2 r18 h19) ⟨hx, hb, hml, hown, hts⟩ (cwV 2 hts (gV q524 q525 q526 q25 q527) rfl rfl rfl (by decide +kernel) ⟨Nat.le_of_ble_eq_true rfl, Nat.le_of_ble_eq_true rfl⟩) (va_recv hK hP (ci := 6) (q0 := 1) rfl rfl) hE hP hD hS hA rfl hl.1 rfl (lv_room (Nat.le_of_ble_eq_true rfl)) dX3_restore_40 ⟨Nat.le_of_ble_eq_true rfl, Nat.le_of_ble_eq_true rfl⟩ (fun H locs hP hD hS => ?_)
  refine lv_aload_n hx hb dX3_restore_43 rfl (lv_at hl 1 rfl) ?_
  refine va_get (D := D) (ci := 7) (v := .ref (ad 5)) (C := RX3) (T := TX3) (N := 11) hx hb hts inX3 hown hK hP 0 rfl rfl 6 (by decide) (hts _ q188) (fun _ h9 => h9) rfl dX3_restore_44 ?_
  refine lv_iload_n hx hb dX3_restore_47 rfl (lv_at hl 2 rfl) ?_
  refine lv_iload_n hx hb dX3_restore_48 rfl (lv_at hl 3 rfl) ?_
  obtain ⟨r20, h21, hf⟩ := bnd hf
  refine call_vl (rest := [.long r18]) (m_P_blocksInFile l ca ad bq nF nO nL nA nC nV nU nP nE bF bO bL bA bC bV bU bP bE cT cK cO cQ cD pT pK pR pW pU pI pC uO uF uE uN wK jM jN jZ jB R _ p1 p2 r20 h21) ⟨hx, hb, hml, hown, hts⟩ (cwV 2 hts (gV q779 q780 q781 q27 q782) rfl rfl rfl (by decide +kernel) ⟨Nat.le_of_ble_eq_true rfl, Nat.le_of_ble_eq_true rfl⟩) (va_recv hK hP (ci := 5) (q0 := 19) rfl rfl) hE hP hD hS hA rfl hl.1 rfl (lv_room (Nat.le_of_ble_eq_true rfl)) dX3_restore_49 ⟨Nat.le_of_ble_eq_true rfl, Nat.le_of_ble_eq_true rfl⟩ (fun H locs hP hD hS => ?_)
  refine lv_lor hx hb dX3_restore_52 ?_
  refine lv_lstore (lv' := [(4, .long (r18 ||| r20)), (3, .int r16), (0, .ref (ad 0)), (1, .int p1), (2, .int p2)]) hx hb dX3_restore_53 hl (by decide) rfl (fun ls hl => ?_)
  refine lv_lload hx hb dX3_restore_55 (lv_at hl 0 rfl) ?_
  obtain ⟨r22, h23, hf⟩ := bnd hf
  refine call_si (rest := []) (m_J13_bitCount_95d88 l ca ad bq nF nO nL nA nC nV nU nP nE bF bO bL bA bC bV bU bP bE cT cK cO cQ cD pT pK pR pW pU pI pC uO uF uE uN wK jM jN jZ jB R _ (r18 ||| r20) r22 h23) ⟨hx, hb, hml, hown, hts⟩ (va_cwS 1 hts (gS q535 q536 q41 q537) rfl rfl rfl (by decide +kernel) ⟨Nat.le_of_ble_eq_true rfl, Nat.le_of_ble_eq_true rfl⟩) hE hP hD hS hA rfl hl.1 rfl (lv_room (Nat.le_of_ble_eq_true rfl)) dX3_restore_57 ⟨Nat.le_of_ble_eq_true rfl, Nat.le_of_ble_eq_true rfl⟩ (fun H locs hP hD hS => ?_)
  refine lv_aload_n hx hb dX3_restore_60 rfl (lv_at hl 2 rfl) ?_
  refine lv_iload_n hx hb dX3_restore_61 rfl (lv_at hl 1 rfl) ?_
  obtain ⟨r24, h25, hf⟩ := bnd hf
  refine call_vi (rest := [.int r22]) (m_C_quotaOf l ca ad bq nF nO nL nA nC nV nU nP nE bF bO bL bA bC bV bU bP bE cT cK cO cQ cD pT pK pR pW pU pI pC uO uF uE uN wK jM jN jZ jB R _ r16 r24 h25) ⟨hx, hb, hml, hown, hts⟩ (cwV 1 hts (gV q541 q543 q10 q24 q544) rfl rfl rfl (by decide +kernel) ⟨Nat.le_of_ble_eq_true rfl, Nat.le_of_ble_eq_true rfl⟩) (va_recv hK hP (ci := 7) (q0 := 0) rfl rfl) hE hP hD hS hA rfl hl.1 rfl (lv_room (Nat.le_of_ble_eq_true rfl)) dX3_restore_62 ⟨Nat.le_of_ble_eq_true rfl, Nat.le_of_ble_eq_true rfl⟩ (fun H locs hP hD hS => ?_)
  refine lv_icmp_le (tgt := 78) hx hb dX3_restore_65 (by decide) (fun c26 => ?_) (fun c26 => ?_)
  · have hf := br_pos c26 hf
    refine lv_iconst (v := 0) hx hb dX3_restore_78 (by decide) ?_
    refine lv_istore (lv' := [(6, .int 0), (4, .long (r18 ||| r20)), (3, .int r16), (0, .ref (ad 0)), (1, .int p1), (2, .int p2)]) hx hb dX3_restore_79 hl (by decide) rfl (fun ls hl => ?_)
    refine lv_iconst (v := 0) hx hb dX3_restore_81 (by decide) ?_
    refine lv_istore (lv' := [(7, .int 0), (6, .int 0), (4, .long (r18 ||| r20)), (3, .int r16), (0, .ref (ad 0)), (1, .int p1), (2, .int p2)]) hx hb dX3_restore_82 hl (by decide) rfl (fun ls hl => ?_)
    obtain ⟨⟨x46, nC_47, nU_48⟩, h45, hf⟩ := bnd hf
    refine L84 FU p1 p2 0 0 nC nU x46 nC_47 nU_48 h45 _ _ _ hP hD hS (lv_sub hl [4, 5, 6, 1, 0] rfl) (fun H locs ls hP hD hS hl => ?_)
    refine lv_iload hx hb dX3_restore_140 (lv_at hl 0 rfl) ?_
    cases hf
    exact endx_i hAe hQm hx hb hr hlocks rfl hP hD hS dX3_restore_142 (Nat.le_of_ble_eq_true rfl) (Nat.le_of_ble_eq_true rfl)
  · have hf := br_neg c26 hf
    cases hf
    exact endx_throw 4 rfl hAe hQm hst hx hb hts hE hown htab hlocks (by decide +kernel) q545 q42 sl10 at175 hZ (hl.1.trans hml.symm) hP hD hS dX3_restore_68 dX3_restore_71 dX3_restore_72 dX3_restore_74 dX3_restore_77 (Nat.le_of_ble_eq_true rfl) (Nat.le_of_ble_eq_true rfl) (Nat.le_of_ble_eq_true rfl) (Nat.le_of_ble_eq_true rfl) (Nat.le_of_ble_eq_true rfl) (Nat.le_of_ble_eq_true rfl)
def f_C_openHold (p1 : Int32) (p2 : Int32) (nF : Int32) (nA : Nat → Int32) (cT : Int32) (cD : Int32) (uO : Int32) (uF : Nat → Int32) (uE : Nat → Int32) (uN : Nat → Int32) : Option (Except Nat Int32 × Int32 × (Nat → Int32) × (Nat → Int32) × (Nat → Int32)) :=
  (f_C_requireFile p1 nF).bind fun x1 =>
  match x1 with
  | .error n3 => some ((.error n3), uO, uF, uE, uN)
  | .ok _ =>
  (f_C_requireWithin p2 1 99).bind fun x4 =>
  match x4 with
  | .error n6 => some ((.error n6), uO, uF, uE, uN)
  | .ok _ =>
  (f_C_requireNoTransaction cT).bind fun x7 =>
  match x7 with
  | .error n9 => some ((.error n9), uO, uF, uE, uN)
  | .ok _ =>
  (f_S_isAlive p1 nF nA).bind fun r10 =>
  if r10 = 0 then
    some ((.error 2), uO, uF, uE, uN)
  else
    (f_H_openedTotal uO).bind fun r13 =>
    if r13 < 30 then
      (f_H_add p1 (cD + p2) uO uF uE uN).bind fun (r16, uO_17, uF_18, uE_19, uN_20) =>
      some ((.ok r16), uO_17, uF_18, uE_19, uN_20)
    else
      some ((.error 2), uO, uF, uE, uN)
set_option maxHeartbeats 4000000 in
set_option maxRecDepth 100000 in
theorem m_C_openHold (l : Launch) (hst : l.stackTraces = false) {D : va_G} (ca : Nat → ClassId) (ad : Nat → Nat) (bq : Nat) (nF : Int32) (nO : Nat → Int32) (nL : Nat → Int32) (nA : Nat → Int32) (nC : Nat → Int32) (nV : Nat → Int32) (nU : Nat → Int32) (nP : Nat → Int32) (nE : Int32) (bF : Int32) (bO : Nat → Int32) (bL : Nat → Int32) (bA : Nat → Int32) (bC : Nat → Int32) (bV : Nat → Int32) (bU : Nat → Int32) (bP : Nat → Int32) (bE : Int32) (cT : Int32) (cK : Nat → Int32) (cO : Int32) (cQ : Nat → Int32) (cD : Int32) (pT : Int32) (pK : Int32) (pR : Nat → Int32) (pW : Nat → Int32) (pU : Nat → Int32) (pI : Nat → Int32) (pC : Nat → Nat → Int32) (uO : Int32) (uF : Nat → Int32) (uE : Nat → Int32) (uN : Nat → Int32) (wK : Nat → Int32) (jM : Int32) (jN : Int32) (jZ : Nat) (jB : Nat → Int32) (R : va_W) (sz : Nat) (p1 : Int32) (p2 : Int32) (ro : Except Nat Int32) (ouO : Int32) (ouF : Nat → Int32) (ouE : Nat → Int32) (ouN : Nat → Int32) (hf : f_C_openHold p1 p2 nF nA cT cD uO uF uE uN = some (ro, ouO, ouF, ouE, ouN)) : vx_Met l yX3_openHold (wm yX3_openHold cX3_openHold 3 (some .int)) ({ frames := 7, cells := 4, slots := 24, locals := 113 } : Room) (PREX [.ref (ad 0), .int p1, .int p2] D ca SL0 (WC ca ad bq nF nO nL nA nC nV nU nP nE bF bO bL bA bC bV bU bP bE cT cK cO cQ cD pT pK pR pW pU pI pC uO uF uE uN wK jM jN jZ jB ++ R) sz) (QXI ro D (WC ca ad bq nF nO nL nA nC nV nU nP nE bF bO bL bA bC bV bU bP bE cT cK cO cQ cD pT pK pR pW pU pI pC ouO ouF ouE ouN wK jM jN jZ jB ++ R) (WC ca ad bq nF nO nL nA nC nV nU nP nE bF bO bL bA bC bV bU bP bE cT cK cO cQ cD pT pK pR pW pU pI pC uO uF uE uN wK jM jN jZ jB ++ R) sz) (QXE ro D (WC ca ad bq nF nO nL nA nC nV nU nP nE bF bO bL bA bC bV bU bP bE cT cK cO cQ cD pT pK pR pW pU pI pC ouO ouF ouE ouN wK jM jN jZ jB ++ R) (WC ca ad bq nF nO nL nA nC nV nU nP nE bF bO bL bA bC bV bU bP bE cT cK cO cQ cD pT pK pR pW pU pI pC uO uF uE uN wK jM jN jZ jB ++ R) sz) 4 24 (va_A (WC ca ad bq nF nO nL nA nC nV nU nP nE bF bO bL bA bC bV bU bP bE cT cK cO cQ cD pT pK pR pW pU pI pC uO uF uE uN wK jM jN jZ jB ++ R) sz) := by
  refine vx_ofW (cc := cX3_openHold) (maxL := 3) (ret := (some .int)) (by decide) rfl ?_
  intro p e s m args below meth c s₁ B hml htab hv
  obtain ⟨rfl, rfl, hP, hE, hD0, hZ⟩ := hv
  have hx := B.exec
  have hb := B.bytes
  have hr := B.returns
  have hts := wm_ww (atoms_spec (ws := wm yX3_openHold cX3_openHold 3 (some .int)) B.pre)
  have hown : s.vm.findClass RX3 = some m.cls := findClass_of_methodNamed B.named
  have hlocks := B.notSynchronized
  have hK := hE.1
  have hD := hD0.self (sz := s.heap.size)
  generalize hAe : va_A (WC ca ad bq nF nO nL nA nC nV nU nP nE bF bO bL bA bC bV bU bP bE cT cK cO cQ cD pT pK pR pW pU pI pC uO uF uE uN wK jM jN jZ jB ++ R) s.heap.size = A at hD hZ ⊢
  have hA : ∀ q : Nat, s.heap.size ≤ q → A q := fun q h => by rw [← hAe]; exact Or.inr h
  have hS : va_S A s.heap s.heap [] := va_S.rf
  have hl := lv_entry ([.ref (ad 0), .int p1, .int p2]) (n := 3) (Nat.le_of_ble_eq_true rfl)
  rw [lg_entry_eq]
  generalize (lg_sl ([.ref (ad 0), .int p1, .int p2]) ++ List.replicate (3 - (lg_sl ([.ref (ad 0), .int p1, .int p2])).length) Slot.unset).toArray = ls at hl ⊢
  have hl : lv_has ls 3 [(0, .ref (ad 0)), (1, .int p1), (2, .int p2)] := hl
  change W p l e ({ frames := 7, cells := 4, slots := 24, locals := 113 } : Room) s m _ below meth c s.heap [] 0 0 _ _
  generalize hQm : vx_MQ below (QXI ro D (WC ca ad bq nF nO nL nA nC nV nU nP nE bF bO bL bA bC bV bU bP bE cT cK cO cQ cD pT pK pR pW pU pI pC ouO ouF ouE ouN wK jM jN jZ jB ++ R) (WC ca ad bq nF nO nL nA nC nV nU nP nE bF bO bL bA bC bV bU bP bE cT cK cO cQ cD pT pK pR pW pU pI pC uO uF uE uN wK jM jN jZ jB ++ R) s.heap.size) (QXE ro D (WC ca ad bq nF nO nL nA nC nV nU nP nE bF bO bL bA bC bV bU bP bE cT cK cO cQ cD pT pK pR pW pU pI pC ouO ouF ouE ouN wK jM jN jZ jB ++ R) (WC ca ad bq nF nO nL nA nC nV nU nP nE bF bO bL bA bC bV bU bP bE cT cK cO cQ cD pT pK pR pW pU pI pC uO uF uE uN wK jM jN jZ jB ++ R) s.heap.size) _ s 4 24 A = Qm
  have hP : va_P D vwCl (WC ca ad bq nF nO nL nA nC nV nU nP nE bF bO bL bA bC bV bU bP bE cT cK cO cQ cD pT pK pR pW pU pI pC uO uF uE uN wK jM jN jZ jB ++ R) s.heap := hP
  generalize hae : ([.ref (ad 0), .int p1, .int p2] : List Value).toArray = args at hts hQm ⊢
  refine lv_aload_n hx hb dX3_openHold_0 rfl (lv_at hl 0 rfl) ?_
  refine lv_iload_n hx hb dX3_openHold_1 rfl (lv_at hl 1 rfl) ?_
  obtain ⟨x1, h2, hf⟩ := bnd hf
  rcases x1 with n3 | _
  · have hf : some ((.error n3), uO, uF, uE, uN) = some (ro, ouO, ouF, ouE, ouN) := hf
    cases hf
    exact cx_vv_err (rest := []) (m_C_requireFile l hst ca ad bq nF nO nL nA nC nV nU nP nE bF bO bL bA bC bV bU bP bE cT cK cO cQ cD pT pK pR pW pU pI pC uO uF uE uN wK jM jN jZ jB R _ p1 (.error n3) h2) ⟨hx, hb, hml, hown, hts⟩ (cwV 1 hts (gV q420 q422 q5 q24 q423) rfl rfl rfl (by decide +kernel) ⟨Nat.le_of_ble_eq_true rfl, Nat.le_of_ble_eq_true rfl⟩) (va_recv hK hP (ci := 7) (q0 := 0) rfl rfl) hE hP hD hS hA hZ rfl hl.1 rfl (lv_room (Nat.le_of_ble_eq_true rfl)) dX3_openHold_2 ⟨Nat.le_of_ble_eq_true rfl, Nat.le_of_ble_eq_true rfl⟩ hAe hQm htab hlocks (Nat.le_of_ble_eq_true rfl) (Nat.le_of_ble_eq_true rfl)
  refine cx_vv_ok (rest := []) (m_C_requireFile l hst ca ad bq nF nO nL nA nC nV nU nP nE bF bO bL bA bC bV bU bP bE cT cK cO cQ cD pT pK pR pW pU pI pC uO uF uE uN wK jM jN jZ jB R _ p1 (.ok ()) h2) ⟨hx, hb, hml, hown, hts⟩ (cwV 1 hts (gV q420 q422 q5 q24 q423) rfl rfl rfl (by decide +kernel) ⟨Nat.le_of_ble_eq_true rfl, Nat.le_of_ble_eq_true rfl⟩) (va_recv hK hP (ci := 7) (q0 := 0) rfl rfl) hE hP hD hS hA hZ rfl hl.1 rfl (lv_room (Nat.le_of_ble_eq_true rfl)) dX3_openHold_2 ⟨Nat.le_of_ble_eq_true rfl, Nat.le_of_ble_eq_true rfl⟩ (fun H locs hP hD hS => ?_)
  refine lv_aload_n hx hb dX3_openHold_5 rfl (lv_at hl 0 rfl) ?_
  refine lv_iload_n hx hb dX3_openHold_6 rfl (lv_at hl 2 rfl) ?_
  refine lv_iconst (v := 1) hx hb dX3_openHold_7 (by decide) ?_
  refine lv_bipush (v := 99) hx hb dX3_openHold_8 (by decide) ?_
  obtain ⟨x4, h5, hf⟩ := bnd hf
  rcases x4 with n6 | _
  · have hf : some ((.error n6), uO, uF, uE, uN) = some (ro, ouO, ouF, ouE, ouN) := hf
    cases hf
    exact cx_vv_err (rest := []) (m_C_requireWithin l hst ca ad bq nF nO nL nA nC nV nU nP nE bF bO bL bA bC bV bU bP bE cT cK cO cQ cD pT pK pR pW pU pI pC uO uF uE uN wK jM jN jZ jB R _ p2 1 99 (.error n6) h5) ⟨hx, hb, hml, hown, hts⟩ (cwV 3 hts (gV q341 q343 q1 q24 q344) rfl rfl rfl (by decide +kernel) ⟨Nat.le_of_ble_eq_true rfl, Nat.le_of_ble_eq_true rfl⟩) (va_recv hK hP (ci := 7) (q0 := 0) rfl rfl) hE hP hD hS hA hZ rfl hl.1 rfl (lv_room (Nat.le_of_ble_eq_true rfl)) dX3_openHold_10 ⟨Nat.le_of_ble_eq_true rfl, Nat.le_of_ble_eq_true rfl⟩ hAe hQm htab hlocks (Nat.le_of_ble_eq_true rfl) (Nat.le_of_ble_eq_true rfl)
  refine cx_vv_ok (rest := []) (m_C_requireWithin l hst ca ad bq nF nO nL nA nC nV nU nP nE bF bO bL bA bC bV bU bP bE cT cK cO cQ cD pT pK pR pW pU pI pC uO uF uE uN wK jM jN jZ jB R _ p2 1 99 (.ok ()) h5) ⟨hx, hb, hml, hown, hts⟩ (cwV 3 hts (gV q341 q343 q1 q24 q344) rfl rfl rfl (by decide +kernel) ⟨Nat.le_of_ble_eq_true rfl, Nat.le_of_ble_eq_true rfl⟩) (va_recv hK hP (ci := 7) (q0 := 0) rfl rfl) hE hP hD hS hA hZ rfl hl.1 rfl (lv_room (Nat.le_of_ble_eq_true rfl)) dX3_openHold_10 ⟨Nat.le_of_ble_eq_true rfl, Nat.le_of_ble_eq_true rfl⟩ (fun H locs hP hD hS => ?_)
  refine lv_aload_n hx hb dX3_openHold_13 rfl (lv_at hl 0 rfl) ?_
  obtain ⟨x7, h8, hf⟩ := bnd hf
  rcases x7 with n9 | _
  · have hf : some ((.error n9), uO, uF, uE, uN) = some (ro, ouO, ouF, ouE, ouN) := hf
    cases hf
    exact cx_vv_err (rest := []) (m_C_requireNoTransaction l hst ca ad bq nF nO nL nA nC nV nU nP nE bF bO bL bA bC bV bU bP bE cT cK cO cQ cD pT pK pR pW pU pI pC uO uF uE uN wK jM jN jZ jB R _ (.error n9) h8) ⟨hx, hb, hml, hown, hts⟩ (cwV 0 hts (gV q361 q363 q2 q24 q364) rfl rfl rfl (by decide +kernel) ⟨Nat.le_of_ble_eq_true rfl, Nat.le_of_ble_eq_true rfl⟩) (va_recv hK hP (ci := 7) (q0 := 0) rfl rfl) hE hP hD hS hA hZ rfl hl.1 rfl (lv_room (Nat.le_of_ble_eq_true rfl)) dX3_openHold_14 ⟨Nat.le_of_ble_eq_true rfl, Nat.le_of_ble_eq_true rfl⟩ hAe hQm htab hlocks (Nat.le_of_ble_eq_true rfl) (Nat.le_of_ble_eq_true rfl)
  refine cx_vv_ok (rest := []) (m_C_requireNoTransaction l hst ca ad bq nF nO nL nA nC nV nU nP nE bF bO bL bA bC bV bU bP bE cT cK cO cQ cD pT pK pR pW pU pI pC uO uF uE uN wK jM jN jZ jB R _ (.ok ()) h8) ⟨hx, hb, hml, hown, hts⟩ (cwV 0 hts (gV q361 q363 q2 q24 q364) rfl rfl rfl (by decide +kernel) ⟨Nat.le_of_ble_eq_true rfl, Nat.le_of_ble_eq_true rfl⟩) (va_recv hK hP (ci := 7) (q0 := 0) rfl rfl) hE hP hD hS hA hZ rfl hl.1 rfl (lv_room (Nat.le_of_ble_eq_true rfl)) dX3_openHold_14 ⟨Nat.le_of_ble_eq_true rfl, Nat.le_of_ble_eq_true rfl⟩ (fun H locs hP hD hS => ?_)
  refine lv_aload_n hx hb dX3_openHold_17 rfl (lv_at hl 0 rfl) ?_
  refine va_get (D := D) (ci := 7) (v := .ref (ad 1)) (C := RX3) (T := TX3) (N := 11) hx hb hts inX3 hown hK hP 0 rfl rfl 0 (by decide) (hts _ q182) (fun _ h9 => h9) rfl dX3_openHold_18 ?_
  refine lv_iload_n hx hb dX3_openHold_21 rfl (lv_at hl 1 rfl) ?_
  obtain ⟨r10, h11, hf⟩ := bnd hf
  refine call_vi (rest := []) (m_S_isAlive l ca ad bq nF nO nL nA nC nV nU nP nE bF bO bL bA bC bV bU bP bE cT cK cO cQ cD pT pK pR pW pU pI pC uO uF uE uN wK jM jN jZ jB R _ p1 r10 h11) ⟨hx, hb, hml, hown, hts⟩ (cwV 1 hts (gV q429 q430 q431 q25 q432) rfl rfl rfl (by decide +kernel) ⟨Nat.le_of_ble_eq_true rfl, Nat.le_of_ble_eq_true rfl⟩) (va_recv hK hP (ci := 6) (q0 := 1) rfl rfl) hE hP hD hS hA rfl hl.1 rfl (lv_room (Nat.le_of_ble_eq_true rfl)) dX3_openHold_22 ⟨Nat.le_of_ble_eq_true rfl, Nat.le_of_ble_eq_true rfl⟩ (fun H locs hP hD hS => ?_)
  refine lv_if_ne (tgt := 38) hx hb dX3_openHold_25 (by decide) (fun c12 => ?_) (fun c12 => ?_)
  · have hf := br_neg c12 hf
    refine lv_aload_n hx hb dX3_openHold_38 rfl (lv_at hl 0 rfl) ?_
    refine va_get (D := D) (ci := 7) (v := .ref (ad 6)) (C := RX3) (T := TX3) (N := 11) hx hb hts inX3 hown hK hP 0 rfl rfl 7 (by decide) (hts _ q189) (fun _ h9 => h9) rfl dX3_openHold_39 ?_
    obtain ⟨r13, h14, hf⟩ := bnd hf
    refine call_vi (rest := []) (m_H_openedTotal l ca ad bq nF nO nL nA nC nV nU nP nE bF bO bL bA bC bV bU bP bE cT cK cO cQ cD pT pK pR pW pU pI pC uO uF uE uN wK jM jN jZ jB R _ r13 h14) ⟨hx, hb, hml, hown, hts⟩ (cwV 0 hts (gV q789 q790 q791 q28 q792) rfl rfl rfl (by decide +kernel) ⟨Nat.le_of_ble_eq_true rfl, Nat.le_of_ble_eq_true rfl⟩) (va_recv hK hP (ci := 4) (q0 := 33) rfl rfl) hE hP hD hS hA rfl hl.1 rfl (lv_room (Nat.le_of_ble_eq_true rfl)) dX3_openHold_42 ⟨Nat.le_of_ble_eq_true rfl, Nat.le_of_ble_eq_true rfl⟩ (fun H locs hP hD hS => ?_)
    refine lv_bipush (v := 30) hx hb dX3_openHold_45 (by decide) ?_
    refine lv_icmp_lt (tgt := 60) hx hb dX3_openHold_47 (by decide) (fun c15 => ?_) (fun c15 => ?_)
    · have hf := br_pos c15 hf
      refine lv_aload_n hx hb dX3_openHold_60 rfl (lv_at hl 0 rfl) ?_
      refine va_get (D := D) (ci := 7) (v := .ref (ad 6)) (C := RX3) (T := TX3) (N := 11) hx hb hts inX3 hown hK hP 0 rfl rfl 7 (by decide) (hts _ q189) (fun _ h9 => h9) rfl dX3_openHold_61 ?_
      refine lv_iload_n hx hb dX3_openHold_64 rfl (lv_at hl 1 rfl) ?_
      refine lv_aload_n hx hb dX3_openHold_65 rfl (lv_at hl 0 rfl) ?_
      refine va_get (D := D) (ci := 7) (v := .int cD) (C := RX3) (T := TX3) (N := 11) hx hb hts inX3 hown hK hP 0 rfl rfl 8 (by decide) (hts _ q190) (fun _ h9 => h9) rfl dX3_openHold_66 ?_
      refine lv_iload_n hx hb dX3_openHold_69 rfl (lv_at hl 2 rfl) ?_
      refine lv_iadd hx hb dX3_openHold_70 ?_
      obtain ⟨⟨r16, uO_17, uF_18, uE_19, uN_20⟩, h21, hf⟩ := bnd hf
      refine call_vi (rest := []) (m_H_add l ca ad bq nF nO nL nA nC nV nU nP nE bF bO bL bA bC bV bU bP bE cT cK cO cQ cD pT pK pR pW pU pI pC uO uF uE uN wK jM jN jZ jB R _ p1 (cD + p2) r16 uO_17 uF_18 uE_19 uN_20 h21) ⟨hx, hb, hml, hown, hts⟩ (cwV 2 hts (gV q794 q795 q796 q28 q797) rfl rfl rfl (by decide +kernel) ⟨Nat.le_of_ble_eq_true rfl, Nat.le_of_ble_eq_true rfl⟩) (va_recv hK hP (ci := 4) (q0 := 33) rfl rfl) hE hP hD hS hA rfl hl.1 rfl (lv_room (Nat.le_of_ble_eq_true rfl)) dX3_openHold_71 ⟨Nat.le_of_ble_eq_true rfl, Nat.le_of_ble_eq_true rfl⟩ (fun H locs hP hD hS => ?_)
      cases hf
      exact endx_i hAe hQm hx hb hr hlocks rfl hP hD hS dX3_openHold_74 (Nat.le_of_ble_eq_true rfl) (Nat.le_of_ble_eq_true rfl)
    · have hf := br_neg c15 hf
      cases hf
      exact endx_throw 2 rfl hAe hQm hst hx hb hts hE hown htab hlocks (by decide +kernel) q365 q39 sl12 at73 hZ (hl.1.trans hml.symm) hP hD hS dX3_openHold_50 dX3_openHold_53 dX3_openHold_54 dX3_openHold_56 dX3_openHold_59 (Nat.le_of_ble_eq_true rfl) (Nat.le_of_ble_eq_true rfl) (Nat.le_of_ble_eq_true rfl) (Nat.le_of_ble_eq_true rfl) (Nat.le_of_ble_eq_true rfl) (Nat.le_of_ble_eq_true rfl)
  · have hf := br_pos c12 hf
    cases hf
    exact endx_throw 2 rfl hAe hQm hst hx hb hts hE hown htab hlocks (by decide +kernel) q365 q39 sl11 at73 hZ (hl.1.trans hml.symm) hP hD hS dX3_openHold_28 dX3_openHold_31 dX3_openHold_32 dX3_openHold_34 dX3_openHold_37 (Nat.le_of_ble_eq_true rfl) (Nat.le_of_ble_eq_true rfl) (Nat.le_of_ble_eq_true rfl) (Nat.le_of_ble_eq_true rfl) (Nat.le_of_ble_eq_true rfl) (Nat.le_of_ble_eq_true rfl)
def f_C_requireHold (p1 : Int32) (uO : Int32) : Option (Except Nat Unit) :=
  (f_H_wasOpened p1 uO).bind fun r1 =>
  if r1 = 0 then
    some (.error 3)
  else
    some (.ok ())
set_option maxHeartbeats 4000000 in
set_option maxRecDepth 100000 in
theorem m_C_requireHold (l : Launch) (hst : l.stackTraces = false) {D : va_G} (ca : Nat → ClassId) (ad : Nat → Nat) (bq : Nat) (nF : Int32) (nO : Nat → Int32) (nL : Nat → Int32) (nA : Nat → Int32) (nC : Nat → Int32) (nV : Nat → Int32) (nU : Nat → Int32) (nP : Nat → Int32) (nE : Int32) (bF : Int32) (bO : Nat → Int32) (bL : Nat → Int32) (bA : Nat → Int32) (bC : Nat → Int32) (bV : Nat → Int32) (bU : Nat → Int32) (bP : Nat → Int32) (bE : Int32) (cT : Int32) (cK : Nat → Int32) (cO : Int32) (cQ : Nat → Int32) (cD : Int32) (pT : Int32) (pK : Int32) (pR : Nat → Int32) (pW : Nat → Int32) (pU : Nat → Int32) (pI : Nat → Int32) (pC : Nat → Nat → Int32) (uO : Int32) (uF : Nat → Int32) (uE : Nat → Int32) (uN : Nat → Int32) (wK : Nat → Int32) (jM : Int32) (jN : Int32) (jZ : Nat) (jB : Nat → Int32) (R : va_W) (sz : Nat) (p1 : Int32) (ro : Except Nat Unit) (hf : f_C_requireHold p1 uO = some ro) : vx_Met l yX3_requireHold (wm yX3_requireHold cX3_requireHold 2 none) ({ frames := 6, cells := 1, slots := 6, locals := 90 } : Room) (PREX [.ref (ad 0), .int p1] D ca SL0 (WC ca ad bq nF nO nL nA nC nV nU nP nE bF bO bL bA bC bV bU bP bE cT cK cO cQ cD pT pK pR pW pU pI pC uO uF uE uN wK jM jN jZ jB ++ R) sz) (QXV ro D (WC ca ad bq nF nO nL nA nC nV nU nP nE bF bO bL bA bC bV bU bP bE cT cK cO cQ cD pT pK pR pW pU pI pC uO uF uE uN wK jM jN jZ jB ++ R) (WC ca ad bq nF nO nL nA nC nV nU nP nE bF bO bL bA bC bV bU bP bE cT cK cO cQ cD pT pK pR pW pU pI pC uO uF uE uN wK jM jN jZ jB ++ R) sz) (QXE ro D (WC ca ad bq nF nO nL nA nC nV nU nP nE bF bO bL bA bC bV bU bP bE cT cK cO cQ cD pT pK pR pW pU pI pC uO uF uE uN wK jM jN jZ jB ++ R) (WC ca ad bq nF nO nL nA nC nV nU nP nE bF bO bL bA bC bV bU bP bE cT cK cO cQ cD pT pK pR pW pU pI pC uO uF uE uN wK jM jN jZ jB ++ R) sz) 1 6 (va_A (WC ca ad bq nF nO nL nA nC nV nU nP nE bF bO bL bA bC bV bU bP bE cT cK cO cQ cD pT pK pR pW pU pI pC uO uF uE uN wK jM jN jZ jB ++ R) sz) := by
  refine vx_ofW (cc := cX3_requireHold) (maxL := 2) (ret := none) (by decide) rfl ?_
  intro p e s m args below meth c s₁ B hml htab hv
  obtain ⟨rfl, rfl, hP, hE, hD0, hZ⟩ := hv
  have hx := B.exec
  have hb := B.bytes
  have hr := B.returns
  have hts := wm_ww (atoms_spec (ws := wm yX3_requireHold cX3_requireHold 2 none) B.pre)
  have hown : s.vm.findClass RX3 = some m.cls := findClass_of_methodNamed B.named
  have hlocks := B.notSynchronized
  have hK := hE.1
  have hD := hD0.self (sz := s.heap.size)
  generalize hAe : va_A (WC ca ad bq nF nO nL nA nC nV nU nP nE bF bO bL bA bC bV bU bP bE cT cK cO cQ cD pT pK pR pW pU pI pC uO uF uE uN wK jM jN jZ jB ++ R) s.heap.size = A at hD hZ ⊢
  have hA : ∀ q : Nat, s.heap.size ≤ q → A q := fun q h => by rw [← hAe]; exact Or.inr h
  have hS : va_S A s.heap s.heap [] := va_S.rf
  have hl := lv_entry ([.ref (ad 0), .int p1]) (n := 2) (Nat.le_of_ble_eq_true rfl)
  rw [lg_entry_eq]
  generalize (lg_sl ([.ref (ad 0), .int p1]) ++ List.replicate (2 - (lg_sl ([.ref (ad 0), .int p1])).length) Slot.unset).toArray = ls at hl ⊢
  have hl : lv_has ls 2 [(0, .ref (ad 0)), (1, .int p1)] := hl
  change W p l e ({ frames := 6, cells := 1, slots := 6, locals := 90 } : Room) s m _ below meth c s.heap [] 0 0 _ _
  generalize hQm : vx_MQ below (QXV ro D (WC ca ad bq nF nO nL nA nC nV nU nP nE bF bO bL bA bC bV bU bP bE cT cK cO cQ cD pT pK pR pW pU pI pC uO uF uE uN wK jM jN jZ jB ++ R) (WC ca ad bq nF nO nL nA nC nV nU nP nE bF bO bL bA bC bV bU bP bE cT cK cO cQ cD pT pK pR pW pU pI pC uO uF uE uN wK jM jN jZ jB ++ R) s.heap.size) (QXE ro D (WC ca ad bq nF nO nL nA nC nV nU nP nE bF bO bL bA bC bV bU bP bE cT cK cO cQ cD pT pK pR pW pU pI pC uO uF uE uN wK jM jN jZ jB ++ R) (WC ca ad bq nF nO nL nA nC nV nU nP nE bF bO bL bA bC bV bU bP bE cT cK cO cQ cD pT pK pR pW pU pI pC uO uF uE uN wK jM jN jZ jB ++ R) s.heap.size) _ s 1 6 A = Qm
  have hP : va_P D vwCl (WC ca ad bq nF nO nL nA nC nV nU nP nE bF bO bL bA bC bV bU bP bE cT cK cO cQ cD pT pK pR pW pU pI pC uO uF uE uN wK jM jN jZ jB ++ R) s.heap := hP
  generalize hae : ([.ref (ad 0), .int p1] : List Value).toArray = args at hts hQm ⊢
  refine lv_aload_n hx hb dX3_requireHold_0 rfl (lv_at hl 0 rfl) ?_
  refine va_get (D := D) (ci := 7) (v := .ref (ad 6)) (C := RX3) (T := TX3) (N := 11) hx hb hts inX3 hown hK hP 0 rfl rfl 7 (by decide) (hts _ q189) (fun _ h9 => h9) rfl dX3_requireHold_1 ?_
  refine lv_iload_n hx hb dX3_requireHold_4 rfl (lv_at hl 1 rfl) ?_
  obtain ⟨r1, h2, hf⟩ := bnd hf
  refine call_vi (rest := []) (m_H_wasOpened l ca ad bq nF nO nL nA nC nV nU nP nE bF bO bL bA bC bV bU bP bE cT cK cO cQ cD pT pK pR pW pU pI pC uO uF uE uN wK jM jN jZ jB R _ p1 r1 h2) ⟨hx, hb, hml, hown, hts⟩ (cwV 1 hts (gV q806 q473 q474 q28 q475) rfl rfl rfl (by decide +kernel) ⟨Nat.le_of_ble_eq_true rfl, Nat.le_of_ble_eq_true rfl⟩) (va_recv hK hP (ci := 4) (q0 := 33) rfl rfl) hE hP hD hS hA rfl hl.1 rfl (lv_room (Nat.le_of_ble_eq_true rfl)) dX3_requireHold_5 ⟨Nat.le_of_ble_eq_true rfl, Nat.le_of_ble_eq_true rfl⟩ (fun H locs hP hD hS => ?_)
  refine lv_if_ne (tgt := 22) hx hb dX3_requireHold_8 (by decide) (fun c3 => ?_) (fun c3 => ?_)
  · have hf := br_neg c3 hf
    cases hf
    exact endx_v hAe hQm hx hb hr hlocks hP hD hS dX3_requireHold_22 (Nat.le_of_ble_eq_true rfl) (Nat.le_of_ble_eq_true rfl)
  · have hf := br_pos c3 hf
    cases hf
    exact endx_throwW 3 rfl hAe hQm hst hx hb hts hE hown htab hlocks (by decide +kernel) q390 q36 sl26 at283 hZ (hl.1.trans hml.symm) hP hD hS dX3_requireHold_11 dX3_requireHold_14 dX3_requireHold_15 dX3_requireHold_18 dX3_requireHold_21 (Nat.le_of_ble_eq_true rfl) (Nat.le_of_ble_eq_true rfl) (Nat.le_of_ble_eq_true rfl) (Nat.le_of_ble_eq_true rfl) (Nat.le_of_ble_eq_true rfl) (Nat.le_of_ble_eq_true rfl)
def f_C_endHold (p1 : Int32) (nF : Int32) (nL : Nat → Int32) (nA : Nat → Int32) (nC : Nat → Int32) (nU : Nat → Int32) (uO : Int32) (uF : Nat → Int32) (uN : Nat → Int32) : Option (Int32 × (Nat → Int32) × (Nat → Int32) × (Nat → Int32) × (Nat → Int32)) :=
  (f_H_close p1 uO uN).bind fun uN_1 =>
  (f_H_fileOf p1 uO uF).bind fun r3 =>
  (f_C_removeIfAbandoned r3 nF nL nA nC nU uO uF uN_1).bind fun (r5, nA_6, nC_7, nU_8) =>
  some (r5, nA_6, nC_7, nU_8, uN_1)
set_option maxHeartbeats 4000000 in
set_option maxRecDepth 100000 in
theorem m_C_endHold (l : Launch) {D : va_G} {sl : List (String × Nat × String)} (ca : Nat → ClassId) (ad : Nat → Nat) (bq : Nat) (nF : Int32) (nO : Nat → Int32) (nL : Nat → Int32) (nA : Nat → Int32) (nC : Nat → Int32) (nV : Nat → Int32) (nU : Nat → Int32) (nP : Nat → Int32) (nE : Int32) (bF : Int32) (bO : Nat → Int32) (bL : Nat → Int32) (bA : Nat → Int32) (bC : Nat → Int32) (bV : Nat → Int32) (bU : Nat → Int32) (bP : Nat → Int32) (bE : Int32) (cT : Int32) (cK : Nat → Int32) (cO : Int32) (cQ : Nat → Int32) (cD : Int32) (pT : Int32) (pK : Int32) (pR : Nat → Int32) (pW : Nat → Int32) (pU : Nat → Int32) (pI : Nat → Int32) (pC : Nat → Nat → Int32) (uO : Int32) (uF : Nat → Int32) (uE : Nat → Int32) (uN : Nat → Int32) (wK : Nat → Int32) (jM : Int32) (jN : Int32) (jZ : Nat) (jB : Nat → Int32) (R : va_W) (sz : Nat) (p1 : Int32) (ro : Int32) (onA : Nat → Int32) (onC : Nat → Int32) (onU : Nat → Int32) (ouN : Nat → Int32) (hf : f_C_endHold p1 nF nL nA nC nU uO uF uN = some (ro, onA, onC, onU, ouN)) : Met l yX3_endHold (wm yX3_endHold cX3_endHold 2 (some .int)) ({ frames := 5, cells := 0, slots := 0, locals := 108 } : Room) (PRE [.ref (ad 0), .int p1] D ca sl (WC ca ad bq nF nO nL nA nC nV nU nP nE bF bO bL bA bC bV bU bP bE cT cK cO cQ cD pT pK pR pW pU pI pC uO uF uE uN wK jM jN jZ jB ++ R) sz) (QI ro D (WC ca ad bq nF nO nL onA onC nV onU nP nE bF bO bL bA bC bV bU bP bE cT cK cO cQ cD pT pK pR pW pU pI pC uO uF uE ouN wK jM jN jZ jB ++ R) (WC ca ad bq nF nO nL nA nC nV nU nP nE bF bO bL bA bC bV bU bP bE cT cK cO cQ cD pT pK pR pW pU pI pC uO uF uE uN wK jM jN jZ jB ++ R) sz) 0 0 (va_A (WC ca ad bq nF nO nL nA nC nV nU nP nE bF bO bL bA bC bV bU bP bE cT cK cO cQ cD pT pK pR pW pU pI pC uO uF uE uN wK jM jN jZ jB ++ R) sz) := by
  refine Met.ofW (cc := cX3_endHold) (maxL := 2) (ret := (some .int)) (by decide) rfl ?_
  intro p e s m args below meth c s₁ B hml hv
  obtain ⟨rfl, rfl, hP, hE, hD0⟩ := hv
  have hx := B.exec
  have hb := B.bytes
  have hr := B.returns
  have hts := wm_ww (atoms_spec (ws := wm yX3_endHold cX3_endHold 2 (some .int)) B.pre)
  have hown : s.vm.findClass RX3 = some m.cls := findClass_of_methodNamed B.named
  have hlocks := B.notSynchronized
  have hK := hE.1
  have hD := hD0.self (sz := s.heap.size)
  generalize hAe : va_A (WC ca ad bq nF nO nL nA nC nV nU nP nE bF bO bL bA bC bV bU bP bE cT cK cO cQ cD pT pK pR pW pU pI pC uO uF uE uN wK jM jN jZ jB ++ R) s.heap.size = A at hD ⊢
  have hA : ∀ q : Nat, s.heap.size ≤ q → A q := fun q h => by rw [← hAe]; exact Or.inr h
  have hS : va_S A s.heap s.heap [] := va_S.rf
  have hl := lv_entry ([.ref (ad 0), .int p1]) (n := 2) (Nat.le_of_ble_eq_true rfl)
  rw [lg_entry_eq]
  generalize (lg_sl ([.ref (ad 0), .int p1]) ++ List.replicate (2 - (lg_sl ([.ref (ad 0), .int p1])).length) Slot.unset).toArray = ls at hl ⊢
  have hl : lv_has ls 2 [(0, .ref (ad 0)), (1, .int p1)] := hl
  change W p l e ({ frames := 5, cells := 0, slots := 0, locals := 108 } : Room) s m _ below meth c s.heap [] 0 0 _ _
  generalize hQm : MQ below (QI ro D (WC ca ad bq nF nO nL onA onC nV onU nP nE bF bO bL bA bC bV bU bP bE cT cK cO cQ cD pT pK pR pW pU pI pC uO uF uE ouN wK jM jN jZ jB ++ R) (WC ca ad bq nF nO nL nA nC nV nU nP nE bF bO bL bA bC bV bU bP bE cT cK cO cQ cD pT pK pR pW pU pI pC uO uF uE uN wK jM jN jZ jB ++ R) s.heap.size) _ s 0 0 A = Qm
  have hP : va_P D vwCl (WC ca ad bq nF nO nL nA nC nV nU nP nE bF bO bL bA bC bV bU bP bE cT cK cO cQ cD pT pK pR pW pU pI pC uO uF uE uN wK jM jN jZ jB ++ R) s.heap := hP
  generalize hae : ([.ref (ad 0), .int p1] : List Value).toArray = args at hts hQm ⊢
  refine lv_aload_n hx hb dX3_endHold_0 rfl (lv_at hl 0 rfl) ?_
  refine va_get (D := D) (ci := 7) (v := .ref (ad 6)) (C := RX3) (T := TX3) (N := 11) hx hb hts inX3 hown hK hP 0 rfl rfl 7 (by decide) (hts _ q189) (fun _ h9 => h9) rfl dX3_endHold_1 ?_
  refine lv_iload_n hx hb dX3_endHold_4 rfl (lv_at hl 1 rfl) ?_
  obtain ⟨uN_1, h2, hf⟩ := bnd hf
  refine call_vv (rest := []) (m_H_close l ca ad bq nF nO nL nA nC nV nU nP nE bF bO bL bA bC bV bU bP bE cT cK cO cQ cD pT pK pR pW pU pI pC uO uF uE uN wK jM jN jZ jB R _ p1 uN_1 h2) ⟨hx, hb, hml, hown, hts⟩ (cwV 1 hts (gV q814 q815 q816 q28 q817) rfl rfl rfl (by decide +kernel) ⟨Nat.le_of_ble_eq_true rfl, Nat.le_of_ble_eq_true rfl⟩) (va_recv hK hP (ci := 4) (q0 := 33) rfl rfl) hE hP hD hS hA rfl hl.1 rfl (lv_room (Nat.le_of_ble_eq_true rfl)) dX3_endHold_5 ⟨Nat.le_of_ble_eq_true rfl, Nat.le_of_ble_eq_true rfl⟩ (fun H locs hP hD hS => ?_)
  refine lv_aload_n hx hb dX3_endHold_8 rfl (lv_at hl 0 rfl) ?_
  refine lv_aload_n hx hb dX3_endHold_9 rfl (lv_at hl 0 rfl) ?_
  refine va_get (D := D) (ci := 7) (v := .ref (ad 6)) (C := RX3) (T := TX3) (N := 11) hx hb hts inX3 hown hK hP 0 rfl rfl 7 (by decide) (hts _ q189) (fun _ h9 => h9) rfl dX3_endHold_10 ?_
  refine lv_iload_n hx hb dX3_endHold_13 rfl (lv_at hl 1 rfl) ?_
  obtain ⟨r3, h4, hf⟩ := bnd hf
  refine call_vi (rest := [.ref (ad 0)]) (m_H_fileOf l ca ad bq nF nO nL nA nC nV nU nP nE bF bO bL bA bC bV bU bP bE cT cK cO cQ cD pT pK pR pW pU pI pC uO uF uE uN_1 wK jM jN jZ jB R _ p1 r3 h4) ⟨hx, hb, hml, hown, hts⟩ (cwV 1 hts (gV q818 q819 q820 q28 q821) rfl rfl rfl (by decide +kernel) ⟨Nat.le_of_ble_eq_true rfl, Nat.le_of_ble_eq_true rfl⟩) (va_recv hK hP (ci := 4) (q0 := 33) rfl rfl) hE hP hD hS hA rfl hl.1 rfl (lv_room (Nat.le_of_ble_eq_true rfl)) dX3_endHold_14 ⟨Nat.le_of_ble_eq_true rfl, Nat.le_of_ble_eq_true rfl⟩ (fun H locs hP hD hS => ?_)
  obtain ⟨⟨r5, nA_6, nC_7, nU_8⟩, h9, hf⟩ := bnd hf
  refine call_vi (rest := []) (m_C_removeIfAbandoned l ca ad bq nF nO nL nA nC nV nU nP nE bF bO bL bA bC bV bU bP bE cT cK cO cQ cD pT pK pR pW pU pI pC uO uF uE uN_1 wK jM jN jZ jB R _ r3 r5 nA_6 nC_7 nU_8 h9) ⟨hx, hb, hml, hown, hts⟩ (cwV 1 hts (gV q460 q462 q7 q24 q463) rfl rfl rfl (by decide +kernel) ⟨Nat.le_of_ble_eq_true rfl, Nat.le_of_ble_eq_true rfl⟩) (va_recv hK hP (ci := 7) (q0 := 0) rfl rfl) hE hP hD hS hA rfl hl.1 rfl (lv_room (Nat.le_of_ble_eq_true rfl)) dX3_endHold_17 ⟨Nat.le_of_ble_eq_true rfl, Nat.le_of_ble_eq_true rfl⟩ (fun H locs hP hD hS => ?_)
  cases hf
  exact end_i hAe hQm hx hb hr hlocks rfl hP hD hS dX3_endHold_20
def f_C_release (p1 : Int32) (nF : Int32) (nL : Nat → Int32) (nA : Nat → Int32) (nC : Nat → Int32) (nU : Nat → Int32) (cT : Int32) (uO : Int32) (uF : Nat → Int32) (uN : Nat → Int32) : Option (Except Nat Int32 × (Nat → Int32) × (Nat → Int32) × (Nat → Int32) × (Nat → Int32)) :=
  (f_C_requireHold p1 uO).bind fun x1 =>
  match x1 with
  | .error n3 => some ((.error n3), nA, nC, nU, uN)
  | .ok _ =>
  (f_C_requireNoTransaction cT).bind fun x4 =>
  match x4 with
  | .error n6 => some ((.error n6), nA, nC, nU, uN)
  | .ok _ =>
  (f_H_isStillOpen p1 uO uN).bind fun r7 =>
  if r7 = 0 then
    some ((.error 2), nA, nC, nU, uN)
  else
    (f_C_endHold p1 nF nL nA nC nU uO uF uN).bind fun (r10, nA_11, nC_12, nU_13, uN_14) =>
    some ((.ok r10), nA_11, nC_12, nU_13, uN_14)
set_option maxHeartbeats 4000000 in
set_option maxRecDepth 100000 in
theorem m_C_release (l : Launch) (hst : l.stackTraces = false) {D : va_G} (ca : Nat → ClassId) (ad : Nat → Nat) (bq : Nat) (nF : Int32) (nO : Nat → Int32) (nL : Nat → Int32) (nA : Nat → Int32) (nC : Nat → Int32) (nV : Nat → Int32) (nU : Nat → Int32) (nP : Nat → Int32) (nE : Int32) (bF : Int32) (bO : Nat → Int32) (bL : Nat → Int32) (bA : Nat → Int32) (bC : Nat → Int32) (bV : Nat → Int32) (bU : Nat → Int32) (bP : Nat → Int32) (bE : Int32) (cT : Int32) (cK : Nat → Int32) (cO : Int32) (cQ : Nat → Int32) (cD : Int32) (pT : Int32) (pK : Int32) (pR : Nat → Int32) (pW : Nat → Int32) (pU : Nat → Int32) (pI : Nat → Int32) (pC : Nat → Nat → Int32) (uO : Int32) (uF : Nat → Int32) (uE : Nat → Int32) (uN : Nat → Int32) (wK : Nat → Int32) (jM : Int32) (jN : Int32) (jZ : Nat) (jB : Nat → Int32) (R : va_W) (sz : Nat) (p1 : Int32) (ro : Except Nat Int32) (onA : Nat → Int32) (onC : Nat → Int32) (onU : Nat → Int32) (ouN : Nat → Int32) (hf : f_C_release p1 nF nL nA nC nU cT uO uF uN = some (ro, onA, onC, onU, ouN)) : vx_Met l yX3_release (wm yX3_release cX3_release 2 (some .int)) ({ frames := 7, cells := 3, slots := 18, locals := 129 } : Room) (PREX [.ref (ad 0), .int p1] D ca SL0 (WC ca ad bq nF nO nL nA nC nV nU nP nE bF bO bL bA bC bV bU bP bE cT cK cO cQ cD pT pK pR pW pU pI pC uO uF uE uN wK jM jN jZ jB ++ R) sz) (QXI ro D (WC ca ad bq nF nO nL onA onC nV onU nP nE bF bO bL bA bC bV bU bP bE cT cK cO cQ cD pT pK pR pW pU pI pC uO uF uE ouN wK jM jN jZ jB ++ R) (WC ca ad bq nF nO nL nA nC nV nU nP nE bF bO bL bA bC bV bU bP bE cT cK cO cQ cD pT pK pR pW pU pI pC uO uF uE uN wK jM jN jZ jB ++ R) sz) (QXE ro D (WC ca ad bq nF nO nL onA onC nV onU nP nE bF bO bL bA bC bV bU bP bE cT cK cO cQ cD pT pK pR pW pU pI pC uO uF uE ouN wK jM jN jZ jB ++ R) (WC ca ad bq nF nO nL nA nC nV nU nP nE bF bO bL bA bC bV bU bP bE cT cK cO cQ cD pT pK pR pW pU pI pC uO uF uE uN wK jM jN jZ jB ++ R) sz) 3 18 (va_A (WC ca ad bq nF nO nL nA nC nV nU nP nE bF bO bL bA bC bV bU bP bE cT cK cO cQ cD pT pK pR pW pU pI pC uO uF uE uN wK jM jN jZ jB ++ R) sz) := by
  refine vx_ofW (cc := cX3_release) (maxL := 2) (ret := (some .int)) (by decide) rfl ?_
  intro p e s m args below meth c s₁ B hml htab hv
  obtain ⟨rfl, rfl, hP, hE, hD0, hZ⟩ := hv
  have hx := B.exec
  have hb := B.bytes
  have hr := B.returns
  have hts := wm_ww (atoms_spec (ws := wm yX3_release cX3_release 2 (some .int)) B.pre)
  have hown : s.vm.findClass RX3 = some m.cls := findClass_of_methodNamed B.named
  have hlocks := B.notSynchronized
  have hK := hE.1
  have hD := hD0.self (sz := s.heap.size)
  generalize hAe : va_A (WC ca ad bq nF nO nL nA nC nV nU nP nE bF bO bL bA bC bV bU bP bE cT cK cO cQ cD pT pK pR pW pU pI pC uO uF uE uN wK jM jN jZ jB ++ R) s.heap.size = A at hD hZ ⊢
  have hA : ∀ q : Nat, s.heap.size ≤ q → A q := fun q h => by rw [← hAe]; exact Or.inr h
  have hS : va_S A s.heap s.heap [] := va_S.rf
  have hl := lv_entry ([.ref (ad 0), .int p1]) (n := 2) (Nat.le_of_ble_eq_true rfl)
  rw [lg_entry_eq]
  generalize (lg_sl ([.ref (ad 0), .int p1]) ++ List.replicate (2 - (lg_sl ([.ref (ad 0), .int p1])).length) Slot.unset).toArray = ls at hl ⊢
  have hl : lv_has ls 2 [(0, .ref (ad 0)), (1, .int p1)] := hl
  change W p l e ({ frames := 7, cells := 3, slots := 18, locals := 129 } : Room) s m _ below meth c s.heap [] 0 0 _ _
  generalize hQm : vx_MQ below (QXI ro D (WC ca ad bq nF nO nL onA onC nV onU nP nE bF bO bL bA bC bV bU bP bE cT cK cO cQ cD pT pK pR pW pU pI pC uO uF uE ouN wK jM jN jZ jB ++ R) (WC ca ad bq nF nO nL nA nC nV nU nP nE bF bO bL bA bC bV bU bP bE cT cK cO cQ cD pT pK pR pW pU pI pC uO uF uE uN wK jM jN jZ jB ++ R) s.heap.size) (QXE ro D (WC ca ad bq nF nO nL onA onC nV onU nP nE bF bO bL bA bC bV bU bP bE cT cK cO cQ cD pT pK pR pW pU pI pC uO uF uE ouN wK jM jN jZ jB ++ R) (WC ca ad bq nF nO nL nA nC nV nU nP nE bF bO bL bA bC bV bU bP bE cT cK cO cQ cD pT pK pR pW pU pI pC uO uF uE uN wK jM jN jZ jB ++ R) s.heap.size) _ s 3 18 A = Qm
  have hP : va_P D vwCl (WC ca ad bq nF nO nL nA nC nV nU nP nE bF bO bL bA bC bV bU bP bE cT cK cO cQ cD pT pK pR pW pU pI pC uO uF uE uN wK jM jN jZ jB ++ R) s.heap := hP
  generalize hae : ([.ref (ad 0), .int p1] : List Value).toArray = args at hts hQm ⊢
  refine lv_aload_n hx hb dX3_release_0 rfl (lv_at hl 0 rfl) ?_
  refine lv_iload_n hx hb dX3_release_1 rfl (lv_at hl 1 rfl) ?_
  obtain ⟨x1, h2, hf⟩ := bnd hf
  rcases x1 with n3 | _
  · have hf : some ((.error n3), nA, nC, nU, uN) = some (ro, onA, onC, onU, ouN) := hf
    cases hf
    exact cx_vv_err (rest := []) (m_C_requireHold l hst ca ad bq nF nO nL nA nC nV nU nP nE bF bO bL bA bC bV bU bP bE cT cK cO cQ cD pT pK pR pW pU pI pC uO uF uE uN wK jM jN jZ jB R _ p1 (.error n3) h2) ⟨hx, hb, hml, hown, hts⟩ (cwV 1 hts (gV q802 q804 q19 q24 q805) rfl rfl rfl (by decide +kernel) ⟨Nat.le_of_ble_eq_true rfl, Nat.le_of_ble_eq_true rfl⟩) (va_recv hK hP (ci := 7) (q0 := 0) rfl rfl) hE hP hD hS hA hZ rfl hl.1 rfl (lv_room (Nat.le_of_ble_eq_true rfl)) dX3_release_2 ⟨Nat.le_of_ble_eq_true rfl, Nat.le_of_ble_eq_true rfl⟩ hAe hQm htab hlocks (Nat.le_of_ble_eq_true rfl) (Nat.le_of_ble_eq_true rfl)
  refine cx_vv_ok (rest := []) (m_C_requireHold l hst ca ad bq nF nO nL nA nC nV nU nP nE bF bO bL bA bC bV bU bP bE cT cK cO cQ cD pT pK pR pW pU pI pC uO uF uE uN wK jM jN jZ jB R _ p1 (.ok ()) h2) ⟨hx, hb, hml, hown, hts⟩ (cwV 1 hts (gV q802 q804 q19 q24 q805) rfl rfl rfl (by decide +kernel) ⟨Nat.le_of_ble_eq_true rfl, Nat.le_of_ble_eq_true rfl⟩) (va_recv hK hP (ci := 7) (q0 := 0) rfl rfl) hE hP hD hS hA hZ rfl hl.1 rfl (lv_room (Nat.le_of_ble_eq_true rfl)) dX3_release_2 ⟨Nat.le_of_ble_eq_true rfl, Nat.le_of_ble_eq_true rfl⟩ (fun H locs hP hD hS => ?_)
  refine lv_aload_n hx hb dX3_release_5 rfl (lv_at hl 0 rfl) ?_
  obtain ⟨x4, h5, hf⟩ := bnd hf
  rcases x4 with n6 | _
  · have hf : some ((.error n6), nA, nC, nU, uN) = some (ro, onA, onC, onU, ouN) := hf
    cases hf
    exact cx_vv_err (rest := []) (m_C_requireNoTransaction l hst ca ad bq nF nO nL nA nC nV nU nP nE bF bO bL bA bC bV bU bP bE cT cK cO cQ cD pT pK pR pW pU pI pC uO uF uE uN wK jM jN jZ jB R _ (.error n6) h5) ⟨hx, hb, hml, hown, hts⟩ (cwV 0 hts (gV q361 q363 q2 q24 q364) rfl rfl rfl (by decide +kernel) ⟨Nat.le_of_ble_eq_true rfl, Nat.le_of_ble_eq_true rfl⟩) (va_recv hK hP (ci := 7) (q0 := 0) rfl rfl) hE hP hD hS hA hZ rfl hl.1 rfl (lv_room (Nat.le_of_ble_eq_true rfl)) dX3_release_6 ⟨Nat.le_of_ble_eq_true rfl, Nat.le_of_ble_eq_true rfl⟩ hAe hQm htab hlocks (Nat.le_of_ble_eq_true rfl) (Nat.le_of_ble_eq_true rfl)
  refine cx_vv_ok (rest := []) (m_C_requireNoTransaction l hst ca ad bq nF nO nL nA nC nV nU nP nE bF bO bL bA bC bV bU bP bE cT cK cO cQ cD pT pK pR pW pU pI pC uO uF uE uN wK jM jN jZ jB R _ (.ok ()) h5) ⟨hx, hb, hml, hown, hts⟩ (cwV 0 hts (gV q361 q363 q2 q24 q364) rfl rfl rfl (by decide +kernel) ⟨Nat.le_of_ble_eq_true rfl, Nat.le_of_ble_eq_true rfl⟩) (va_recv hK hP (ci := 7) (q0 := 0) rfl rfl) hE hP hD hS hA hZ rfl hl.1 rfl (lv_room (Nat.le_of_ble_eq_true rfl)) dX3_release_6 ⟨Nat.le_of_ble_eq_true rfl, Nat.le_of_ble_eq_true rfl⟩ (fun H locs hP hD hS => ?_)
  refine lv_aload_n hx hb dX3_release_9 rfl (lv_at hl 0 rfl) ?_
  refine va_get (D := D) (ci := 7) (v := .ref (ad 6)) (C := RX3) (T := TX3) (N := 11) hx hb hts inX3 hown hK hP 0 rfl rfl 7 (by decide) (hts _ q189) (fun _ h9 => h9) rfl dX3_release_10 ?_
  refine lv_iload_n hx hb dX3_release_13 rfl (lv_at hl 1 rfl) ?_
  obtain ⟨r7, h8, hf⟩ := bnd hf
  refine call_vi (rest := []) (m_H_isStillOpen l ca ad bq nF nO nL nA nC nV nU nP nE bF bO bL bA bC bV bU bP bE cT cK cO cQ cD pT pK pR pW pU pI pC uO uF uE uN wK jM jN jZ jB R _ p1 r7 h8) ⟨hx, hb, hml, hown, hts⟩ (cwV 1 hts (gV q808 q469 q470 q28 q471) rfl rfl rfl (by decide +kernel) ⟨Nat.le_of_ble_eq_true rfl, Nat.le_of_ble_eq_true rfl⟩) (va_recv hK hP (ci := 4) (q0 := 33) rfl rfl) hE hP hD hS hA rfl hl.1 rfl (lv_room (Nat.le_of_ble_eq_true rfl)) dX3_release_14 ⟨Nat.le_of_ble_eq_true rfl, Nat.le_of_ble_eq_true rfl⟩ (fun H locs hP hD hS => ?_)
  refine lv_if_ne (tgt := 30) hx hb dX3_release_17 (by decide) (fun c9 => ?_) (fun c9 => ?_)
  · have hf := br_neg c9 hf
    refine lv_aload_n hx hb dX3_release_30 rfl (lv_at hl 0 rfl) ?_
    refine lv_iload_n hx hb dX3_release_31 rfl (lv_at hl 1 rfl) ?_
    obtain ⟨⟨r10, nA_11, nC_12, nU_13, uN_14⟩, h15, hf⟩ := bnd hf
    refine call_vi (rest := []) (m_C_endHold l ca ad bq nF nO nL nA nC nV nU nP nE bF bO bL bA bC bV bU bP bE cT cK cO cQ cD pT pK pR pW pU pI pC uO uF uE uN wK jM jN jZ jB R _ p1 r10 nA_11 nC_12 nU_13 uN_14 h15) ⟨hx, hb, hml, hown, hts⟩ (cwV 1 hts (gV q810 q812 q20 q24 q813) rfl rfl rfl (by decide +kernel) ⟨Nat.le_of_ble_eq_true rfl, Nat.le_of_ble_eq_true rfl⟩) (va_recv hK hP (ci := 7) (q0 := 0) rfl rfl) hE hP hD hS hA rfl hl.1 rfl (lv_room (Nat.le_of_ble_eq_true rfl)) dX3_release_32 ⟨Nat.le_of_ble_eq_true rfl, Nat.le_of_ble_eq_true rfl⟩ (fun H locs hP hD hS => ?_)
    cases hf
    exact endx_i hAe hQm hx hb hr hlocks rfl hP hD hS dX3_release_35 (Nat.le_of_ble_eq_true rfl) (Nat.le_of_ble_eq_true rfl)
  · have hf := br_pos c9 hf
    cases hf
    exact endx_throw 2 rfl hAe hQm hst hx hb hts hE hown htab hlocks (by decide +kernel) q365 q39 sl13 at73 hZ (hl.1.trans hml.symm) hP hD hS dX3_release_20 dX3_release_23 dX3_release_24 dX3_release_26 dX3_release_29 (Nat.le_of_ble_eq_true rfl) (Nat.le_of_ble_eq_true rfl) (Nat.le_of_ble_eq_true rfl) (Nat.le_of_ble_eq_true rfl) (Nat.le_of_ble_eq_true rfl) (Nat.le_of_ble_eq_true rfl)
def f_C_isOpen (p1 : Int32) (uO : Int32) (uN : Nat → Int32) : Option (Except Nat Int32) :=
  (f_C_requireHold p1 uO).bind fun x1 =>
  match x1 with
  | .error n3 => some (.error n3)
  | .ok _ =>
  (f_H_isStillOpen p1 uO uN).bind fun r4 =>
  if vp_nar .boolean r4 = r4 then some (.ok r4) else none
set_option maxHeartbeats 4000000 in
set_option maxRecDepth 100000 in
theorem m_C_isOpen (l : Launch) (hst : l.stackTraces = false) {D : va_G} (ca : Nat → ClassId) (ad : Nat → Nat) (bq : Nat) (nF : Int32) (nO : Nat → Int32) (nL : Nat → Int32) (nA : Nat → Int32) (nC : Nat → Int32) (nV : Nat → Int32) (nU : Nat → Int32) (nP : Nat → Int32) (nE : Int32) (bF : Int32) (bO : Nat → Int32) (bL : Nat → Int32) (bA : Nat → Int32) (bC : Nat → Int32) (bV : Nat → Int32) (bU : Nat → Int32) (bP : Nat → Int32) (bE : Int32) (cT : Int32) (cK : Nat → Int32) (cO : Int32) (cQ : Nat → Int32) (cD : Int32) (pT : Int32) (pK : Int32) (pR : Nat → Int32) (pW : Nat → Int32) (pU : Nat → Int32) (pI : Nat → Int32) (pC : Nat → Nat → Int32) (uO : Int32) (uF : Nat → Int32) (uE : Nat → Int32) (uN : Nat → Int32) (wK : Nat → Int32) (jM : Int32) (jN : Int32) (jZ : Nat) (jB : Nat → Int32) (R : va_W) (sz : Nat) (p1 : Int32) (ro : Except Nat Int32) (hf : f_C_isOpen p1 uO uN = some ro) : vx_Met l yX3_isOpen (wm yX3_isOpen cX3_isOpen 2 (some .boolean)) ({ frames := 7, cells := 1, slots := 6, locals := 111 } : Room) (PREX [.ref (ad 0), .int p1] D ca SL0 (WC ca ad bq nF nO nL nA nC nV nU nP nE bF bO bL bA bC bV bU bP bE cT cK cO cQ cD pT pK pR pW pU pI pC uO uF uE uN wK jM jN jZ jB ++ R) sz) (QXI ro D (WC ca ad bq nF nO nL nA nC nV nU nP nE bF bO bL bA bC bV bU bP bE cT cK cO cQ cD pT pK pR pW pU pI pC uO uF uE uN wK jM jN jZ jB ++ R) (WC ca ad bq nF nO nL nA nC nV nU nP nE bF bO bL bA bC bV bU bP bE cT cK cO cQ cD pT pK pR pW pU pI pC uO uF uE uN wK jM jN jZ jB ++ R) sz) (QXE ro D (WC ca ad bq nF nO nL nA nC nV nU nP nE bF bO bL bA bC bV bU bP bE cT cK cO cQ cD pT pK pR pW pU pI pC uO uF uE uN wK jM jN jZ jB ++ R) (WC ca ad bq nF nO nL nA nC nV nU nP nE bF bO bL bA bC bV bU bP bE cT cK cO cQ cD pT pK pR pW pU pI pC uO uF uE uN wK jM jN jZ jB ++ R) sz) 1 6 (va_A (WC ca ad bq nF nO nL nA nC nV nU nP nE bF bO bL bA bC bV bU bP bE cT cK cO cQ cD pT pK pR pW pU pI pC uO uF uE uN wK jM jN jZ jB ++ R) sz) := by
  refine vx_ofW (cc := cX3_isOpen) (maxL := 2) (ret := (some .boolean)) (by decide) rfl ?_
  intro p e s m args below meth c s₁ B hml htab hv
  obtain ⟨rfl, rfl, hP, hE, hD0, hZ⟩ := hv
  have hx := B.exec
  have hb := B.bytes
  have hr := B.returns
  have hts := wm_ww (atoms_spec (ws := wm yX3_isOpen cX3_isOpen 2 (some .boolean)) B.pre)
  have hown : s.vm.findClass RX3 = some m.cls := findClass_of_methodNamed B.named
  have hlocks := B.notSynchronized
  have hK := hE.1
  have hD := hD0.self (sz := s.heap.size)
  generalize hAe : va_A (WC ca ad bq nF nO nL nA nC nV nU nP nE bF bO bL bA bC bV bU bP bE cT cK cO cQ cD pT pK pR pW pU pI pC uO uF uE uN wK jM jN jZ jB ++ R) s.heap.size = A at hD hZ ⊢
  have hA : ∀ q : Nat, s.heap.size ≤ q → A q := fun q h => by rw [← hAe]; exact Or.inr h
  have hS : va_S A s.heap s.heap [] := va_S.rf
  have hl := lv_entry ([.ref (ad 0), .int p1]) (n := 2) (Nat.le_of_ble_eq_true rfl)
  rw [lg_entry_eq]
  generalize (lg_sl ([.ref (ad 0), .int p1]) ++ List.replicate (2 - (lg_sl ([.ref (ad 0), .int p1])).length) Slot.unset).toArray = ls at hl ⊢
  have hl : lv_has ls 2 [(0, .ref (ad 0)), (1, .int p1)] := hl
  change W p l e ({ frames := 7, cells := 1, slots := 6, locals := 111 } : Room) s m _ below meth c s.heap [] 0 0 _ _
  generalize hQm : vx_MQ below (QXI ro D (WC ca ad bq nF nO nL nA nC nV nU nP nE bF bO bL bA bC bV bU bP bE cT cK cO cQ cD pT pK pR pW pU pI pC uO uF uE uN wK jM jN jZ jB ++ R) (WC ca ad bq nF nO nL nA nC nV nU nP nE bF bO bL bA bC bV bU bP bE cT cK cO cQ cD pT pK pR pW pU pI pC uO uF uE uN wK jM jN jZ jB ++ R) s.heap.size) (QXE ro D (WC ca ad bq nF nO nL nA nC nV nU nP nE bF bO bL bA bC bV bU bP bE cT cK cO cQ cD pT pK pR pW pU pI pC uO uF uE uN wK jM jN jZ jB ++ R) (WC ca ad bq nF nO nL nA nC nV nU nP nE bF bO bL bA bC bV bU bP bE cT cK cO cQ cD pT pK pR pW pU pI pC uO uF uE uN wK jM jN jZ jB ++ R) s.heap.size) _ s 1 6 A = Qm
  have hP : va_P D vwCl (WC ca ad bq nF nO nL nA nC nV nU nP nE bF bO bL bA bC bV bU bP bE cT cK cO cQ cD pT pK pR pW pU pI pC uO uF uE uN wK jM jN jZ jB ++ R) s.heap := hP
  generalize hae : ([.ref (ad 0), .int p1] : List Value).toArray = args at hts hQm ⊢
  refine lv_aload_n hx hb dX3_isOpen_0 rfl (lv_at hl 0 rfl) ?_
  refine lv_iload_n hx hb dX3_isOpen_1 rfl (lv_at hl 1 rfl) ?_
  obtain ⟨x1, h2, hf⟩ := bnd hf
  rcases x1 with n3 | _
  · have hf : some (.error n3) = some ro := hf
    cases hf
    exact cx_vv_err (rest := []) (m_C_requireHold l hst ca ad bq nF nO nL nA nC nV nU nP nE bF bO bL bA bC bV bU bP bE cT cK cO cQ cD pT pK pR pW pU pI pC uO uF uE uN wK jM jN jZ jB R _ p1 (.error n3) h2) ⟨hx, hb, hml, hown, hts⟩ (cwV 1 hts (gV q802 q804 q19 q24 q805) rfl rfl rfl (by decide +kernel) ⟨Nat.le_of_ble_eq_true rfl, Nat.le_of_ble_eq_true rfl⟩) (va_recv hK hP (ci := 7) (q0 := 0) rfl rfl) hE hP hD hS hA hZ rfl hl.1 rfl (lv_room (Nat.le_of_ble_eq_true rfl)) dX3_isOpen_2 ⟨Nat.le_of_ble_eq_true rfl, Nat.le_of_ble_eq_true rfl⟩ hAe hQm htab hlocks (Nat.le_of_ble_eq_true rfl) (Nat.le_of_ble_eq_true rfl)
  refine cx_vv_ok (rest := []) (m_C_requireHold l hst ca ad bq nF nO nL nA nC nV nU nP nE bF bO bL bA bC bV bU bP bE cT cK cO cQ cD pT pK pR pW pU pI pC uO uF uE uN wK jM jN jZ jB R _ p1 (.ok ()) h2) ⟨hx, hb, hml, hown, hts⟩ (cwV 1 hts (gV q802 q804 q19 q24 q805) rfl rfl rfl (by decide +kernel) ⟨Nat.le_of_ble_eq_true rfl, Nat.le_of_ble_eq_true rfl⟩) (va_recv hK hP (ci := 7) (q0 := 0) rfl rfl) hE hP hD hS hA hZ rfl hl.1 rfl (lv_room (Nat.le_of_ble_eq_true rfl)) dX3_isOpen_2 ⟨Nat.le_of_ble_eq_true rfl, Nat.le_of_ble_eq_true rfl⟩ (fun H locs hP hD hS => ?_)
  refine lv_aload_n hx hb dX3_isOpen_5 rfl (lv_at hl 0 rfl) ?_
  refine va_get (D := D) (ci := 7) (v := .ref (ad 6)) (C := RX3) (T := TX3) (N := 11) hx hb hts inX3 hown hK hP 0 rfl rfl 7 (by decide) (hts _ q189) (fun _ h9 => h9) rfl dX3_isOpen_6 ?_
  refine lv_iload_n hx hb dX3_isOpen_9 rfl (lv_at hl 1 rfl) ?_
  obtain ⟨r4, h5, hf⟩ := bnd hf
  refine call_vi (rest := []) (m_H_isStillOpen l ca ad bq nF nO nL nA nC nV nU nP nE bF bO bL bA bC bV bU bP bE cT cK cO cQ cD pT pK pR pW pU pI pC uO uF uE uN wK jM jN jZ jB R _ p1 r4 h5) ⟨hx, hb, hml, hown, hts⟩ (cwV 1 hts (gV q808 q469 q470 q28 q471) rfl rfl rfl (by decide +kernel) ⟨Nat.le_of_ble_eq_true rfl, Nat.le_of_ble_eq_true rfl⟩) (va_recv hK hP (ci := 4) (q0 := 33) rfl rfl) hE hP hD hS hA rfl hl.1 rfl (lv_room (Nat.le_of_ble_eq_true rfl)) dX3_isOpen_10 ⟨Nat.le_of_ble_eq_true rfl, Nat.le_of_ble_eq_true rfl⟩ (fun H locs hP hD hS => ?_)
  obtain ⟨k6, hf⟩ := ck_yes hf
  cases hf
  exact endx_i hAe hQm hx hb hr hlocks (nar_z k6) hP hD hS dX3_isOpen_13 (Nat.le_of_ble_eq_true rfl) (Nat.le_of_ble_eq_true rfl)
def f_C_holdsOn (p1 : Int32) (nF : Int32) (uO : Int32) (uF : Nat → Int32) (uN : Nat → Int32) : Option (Except Nat Int32) :=
  (f_C_requireFile p1 nF).bind fun x1 =>
  match x1 with
  | .error n3 => some (.error n3)
  | .ok _ =>
  (f_H_openTotal p1 uO uF uN).bind fun r4 =>
  some (.ok r4)
set_option maxHeartbeats 4000000 in
set_option maxRecDepth 100000 in
theorem m_C_holdsOn (l : Launch) (hst : l.stackTraces = false) {D : va_G} (ca : Nat → ClassId) (ad : Nat → Nat) (bq : Nat) (nF : Int32) (nO : Nat → Int32) (nL : Nat → Int32) (nA : Nat → Int32) (nC : Nat → Int32) (nV : Nat → Int32) (nU : Nat → Int32) (nP : Nat → Int32) (nE : Int32) (bF : Int32) (bO : Nat → Int32) (bL : Nat → Int32) (bA : Nat → Int32) (bC : Nat → Int32) (bV : Nat → Int32) (bU : Nat → Int32) (bP : Nat → Int32) (bE : Int32) (cT : Int32) (cK : Nat → Int32) (cO : Int32) (cQ : Nat → Int32) (cD : Int32) (pT : Int32) (pK : Int32) (pR : Nat → Int32) (pW : Nat → Int32) (pU : Nat → Int32) (pI : Nat → Int32) (pC : Nat → Nat → Int32) (uO : Int32) (uF : Nat → Int32) (uE : Nat → Int32) (uN : Nat → Int32) (wK : Nat → Int32) (jM : Int32) (jN : Int32) (jZ : Nat) (jB : Nat → Int32) (R : va_W) (sz : Nat) (p1 : Int32) (ro : Except Nat Int32) (hf : f_C_holdsOn p1 nF uO uF uN = some ro) : vx_Met l yX3_holdsOn (wm yX3_holdsOn cX3_holdsOn 2 (some .int)) ({ frames := 7, cells := 1, slots := 6, locals := 111 } : Room) (PREX [.ref (ad 0), .int p1] D ca SL0 (WC ca ad bq nF nO nL nA nC nV nU nP nE bF bO bL bA bC bV bU bP bE cT cK cO cQ cD pT pK pR pW pU pI pC uO uF uE uN wK jM jN jZ jB ++ R) sz) (QXI ro D (WC ca ad bq nF nO nL nA nC nV nU nP nE bF bO bL bA bC bV bU bP bE cT cK cO cQ cD pT pK pR pW pU pI pC uO uF uE uN wK jM jN jZ jB ++ R) (WC ca ad bq nF nO nL nA nC nV nU nP nE bF bO bL bA bC bV bU bP bE cT cK cO cQ cD pT pK pR pW pU pI pC uO uF uE uN wK jM jN jZ jB ++ R) sz) (QXE ro D (WC ca ad bq nF nO nL nA nC nV nU nP nE bF bO bL bA bC bV bU bP bE cT cK cO cQ cD pT pK pR pW pU pI pC uO uF uE uN wK jM jN jZ jB ++ R) (WC ca ad bq nF nO nL nA nC nV nU nP nE bF bO bL bA bC bV bU bP bE cT cK cO cQ cD pT pK pR pW pU pI pC uO uF uE uN wK jM jN jZ jB ++ R) sz) 1 6 (va_A (WC ca ad bq nF nO nL nA nC nV nU nP nE bF bO bL bA bC bV bU bP bE cT cK cO cQ cD pT pK pR pW pU pI pC uO uF uE uN wK jM jN jZ jB ++ R) sz) := by
  refine vx_ofW (cc := cX3_holdsOn) (maxL := 2) (ret := (some .int)) (by decide) rfl ?_
  intro p e s m args below meth c s₁ B hml htab hv
  obtain ⟨rfl, rfl, hP, hE, hD0, hZ⟩ := hv
  have hx := B.exec
  have hb := B.bytes
  have hr := B.returns
  have hts := wm_ww (atoms_spec (ws := wm yX3_holdsOn cX3_holdsOn 2 (some .int)) B.pre)
  have hown : s.vm.findClass RX3 = some m.cls := findClass_of_methodNamed B.named
  have hlocks := B.notSynchronized
  have hK := hE.1
  have hD := hD0.self (sz := s.heap.size)
  generalize hAe : va_A (WC ca ad bq nF nO nL nA nC nV nU nP nE bF bO bL bA bC bV bU bP bE cT cK cO cQ cD pT pK pR pW pU pI pC uO uF uE uN wK jM jN jZ jB ++ R) s.heap.size = A at hD hZ ⊢
  have hA : ∀ q : Nat, s.heap.size ≤ q → A q := fun q h => by rw [← hAe]; exact Or.inr h
  have hS : va_S A s.heap s.heap [] := va_S.rf
  have hl := lv_entry ([.ref (ad 0), .int p1]) (n := 2) (Nat.le_of_ble_eq_true rfl)
  rw [lg_entry_eq]
  generalize (lg_sl ([.ref (ad 0), .int p1]) ++ List.replicate (2 - (lg_sl ([.ref (ad 0), .int p1])).length) Slot.unset).toArray = ls at hl ⊢
  have hl : lv_has ls 2 [(0, .ref (ad 0)), (1, .int p1)] := hl
  change W p l e ({ frames := 7, cells := 1, slots := 6, locals := 111 } : Room) s m _ below meth c s.heap [] 0 0 _ _
  generalize hQm : vx_MQ below (QXI ro D (WC ca ad bq nF nO nL nA nC nV nU nP nE bF bO bL bA bC bV bU bP bE cT cK cO cQ cD pT pK pR pW pU pI pC uO uF uE uN wK jM jN jZ jB ++ R) (WC ca ad bq nF nO nL nA nC nV nU nP nE bF bO bL bA bC bV bU bP bE cT cK cO cQ cD pT pK pR pW pU pI pC uO uF uE uN wK jM jN jZ jB ++ R) s.heap.size) (QXE ro D (WC ca ad bq nF nO nL nA nC nV nU nP nE bF bO bL bA bC bV bU bP bE cT cK cO cQ cD pT pK pR pW pU pI pC uO uF uE uN wK jM jN jZ jB ++ R) (WC ca ad bq nF nO nL nA nC nV nU nP nE bF bO bL bA bC bV bU bP bE cT cK cO cQ cD pT pK pR pW pU pI pC uO uF uE uN wK jM jN jZ jB ++ R) s.heap.size) _ s 1 6 A = Qm
  have hP : va_P D vwCl (WC ca ad bq nF nO nL nA nC nV nU nP nE bF bO bL bA bC bV bU bP bE cT cK cO cQ cD pT pK pR pW pU pI pC uO uF uE uN wK jM jN jZ jB ++ R) s.heap := hP
  generalize hae : ([.ref (ad 0), .int p1] : List Value).toArray = args at hts hQm ⊢
  refine lv_aload_n hx hb dX3_holdsOn_0 rfl (lv_at hl 0 rfl) ?_
  refine lv_iload_n hx hb dX3_holdsOn_1 rfl (lv_at hl 1 rfl) ?_
  obtain ⟨x1, h2, hf⟩ := bnd hf
  rcases x1 with n3 | _
  · have hf : some (.error n3) = some ro := hf
    cases hf
    exact cx_vv_err (rest := []) (m_C_requireFile l hst ca ad bq nF nO nL nA nC nV nU nP nE bF bO bL bA bC bV bU bP bE cT cK cO cQ cD pT pK pR pW pU pI pC uO uF uE uN wK jM jN jZ jB R _ p1 (.error n3) h2) ⟨hx, hb, hml, hown, hts⟩ (cwV 1 hts (gV q420 q422 q5 q24 q423) rfl rfl rfl (by decide +kernel) ⟨Nat.le_of_ble_eq_true rfl, Nat.le_of_ble_eq_true rfl⟩) (va_recv hK hP (ci := 7) (q0 := 0) rfl rfl) hE hP hD hS hA hZ rfl hl.1 rfl (lv_room (Nat.le_of_ble_eq_true rfl)) dX3_holdsOn_2 ⟨Nat.le_of_ble_eq_true rfl, Nat.le_of_ble_eq_true rfl⟩ hAe hQm htab hlocks (Nat.le_of_ble_eq_true rfl) (Nat.le_of_ble_eq_true rfl)
  refine cx_vv_ok (rest := []) (m_C_requireFile l hst ca ad bq nF nO nL nA nC nV nU nP nE bF bO bL bA bC bV bU bP bE cT cK cO cQ cD pT pK pR pW pU pI pC uO uF uE uN wK jM jN jZ jB R _ p1 (.ok ()) h2) ⟨hx, hb, hml, hown, hts⟩ (cwV 1 hts (gV q420 q422 q5 q24 q423) rfl rfl rfl (by decide +kernel) ⟨Nat.le_of_ble_eq_true rfl, Nat.le_of_ble_eq_true rfl⟩) (va_recv hK hP (ci := 7) (q0 := 0) rfl rfl) hE hP hD hS hA hZ rfl hl.1 rfl (lv_room (Nat.le_of_ble_eq_true rfl)) dX3_holdsOn_2 ⟨Nat.le_of_ble_eq_true rfl, Nat.le_of_ble_eq_true rfl⟩ (fun H locs hP hD hS => ?_)
  refine lv_aload_n hx hb dX3_holdsOn_5 rfl (lv_at hl 0 rfl) ?_
  refine va_get (D := D) (ci := 7) (v := .ref (ad 6)) (C := RX3) (T := TX3) (N := 11) hx hb hts inX3 hown hK hP 0 rfl rfl 7 (by decide) (hts _ q189) (fun _ h9 => h9) rfl dX3_holdsOn_6 ?_
  refine lv_iload_n hx hb dX3_holdsOn_9 rfl (lv_at hl 1 rfl) ?_
  obtain ⟨r4, h5, hf⟩ := bnd hf
  refine call_vi (rest := []) (m_H_openTotal l ca ad bq nF nO nL nA nC nV nU nP nE bF bO bL bA bC bV bU bP bE cT cK cO cQ cD pT pK pR pW pU pI pC uO uF uE uN wK jM jN jZ jB R _ p1 r4 h5) ⟨hx, hb, hml, hown, hts⟩ (cwV 1 hts (gV q464 q465 q466 q28 q467) rfl rfl rfl (by decide +kernel) ⟨Nat.le_of_ble_eq_true rfl, Nat.le_of_ble_eq_true rfl⟩) (va_recv hK hP (ci := 4) (q0 := 33) rfl rfl) hE hP hD hS hA rfl hl.1 rfl (lv_room (Nat.le_of_ble_eq_true rfl)) dX3_holdsOn_10 ⟨Nat.le_of_ble_eq_true rfl, Nat.le_of_ble_eq_true rfl⟩ (fun H locs hP hD hS => ?_)
  cases hf
  exact endx_i hAe hQm hx hb hr hlocks rfl hP hD hS dX3_holdsOn_13 (Nat.le_of_ble_eq_true rfl) (Nat.le_of_ble_eq_true rfl)
def f_C_pass_L49 : Nat → Int32 → Int32 → Int32 → (Nat → Int32) → (Nat → Int32) → (Nat → Int32) → (Nat → Int32) → Int32 → Int32 → (Nat → Int32) → (Nat → Int32) → (Nat → Int32) → Option (Int32 × (Nat → Int32) × (Nat → Int32) × (Nat → Int32) × (Nat → Int32))
  | 0, _, _, _, _, _, _, _, _, _, _, _, _ => none
  | fuel + 1, v2, v3, nF, nL, nA, nC, nU, cD, uO, uF, uE, uN =>
    if 30 ≤ v3 then
      some (v2, nA, nC, nU, uN)
    else
      (f_H_isStillOpen v3 uO uN).bind fun r22 =>
      if r22 = 0 then
        f_C_pass_L49 fuel v2 (v3 + 1) nF nL nA nC nU cD uO uF uE uN
      else
        (f_H_endOf v3 uO uE).bind fun r25 =>
        if cD < r25 then
          f_C_pass_L49 fuel v2 (v3 + 1) nF nL nA nC nU cD uO uF uE uN
        else
          (f_C_endHold v3 nF nL nA nC nU uO uF uN).bind fun (r28, nA_29, nC_30, nU_31, uN_32) =>
          f_C_pass_L49 fuel (v2 + 1) (v3 + 1) nF nL nA_29 nC_30 nU_31 cD uO uF uE uN_32
def f_C_pass (p1 : Int32) (nF : Int32) (nL : Nat → Int32) (nA : Nat → Int32) (nC : Nat → Int32) (nU : Nat → Int32) (cT : Int32) (cD : Int32) (uO : Int32) (uF : Nat → Int32) (uE : Nat → Int32) (uN : Nat → Int32) : Option (Except Nat Int32 × (Nat → Int32) × (Nat → Int32) × (Nat → Int32) × Int32 × (Nat → Int32)) :=
  (f_C_requireWithin p1 1 99).bind fun x1 =>
  match x1 with
  | .error n3 => some ((.error n3), nA, nC, nU, cD, uN)
  | .ok _ =>
  (f_C_requireNoTransaction cT).bind fun x4 =>
  match x4 with
  | .error n6 => some ((.error n6), nA, nC, nU, cD, uN)
  | .ok _ =>
  if (cD + p1) ≤ 9999 then
    (f_C_pass_L49 FU 0 0 nF nL nA nC nU (cD + p1) uO uF uE uN).bind fun (x35, nA_36, nC_37, nU_38, uN_39) =>
    some ((.ok x35), nA_36, nC_37, nU_38, (cD + p1), uN_39)
  else
    some ((.error 2), nA, nC, nU, cD, uN)
set_option maxHeartbeats 4000000 in
set_option maxRecDepth 100000 in
theorem m_C_pass (l : Launch) (hst : l.stackTraces = false) {D : va_G} (ca : Nat → ClassId) (ad : Nat → Nat) (bq : Nat) (nF : Int32) (nO : Nat → Int32) (nL : Nat → Int32) (nA : Nat → Int32) (nC : Nat → Int32) (nV : Nat → Int32) (nU : Nat → Int32) (nP : Nat → Int32) (nE : Int32) (bF : Int32) (bO : Nat → Int32) (bL : Nat → Int32) (bA : Nat → Int32) (bC : Nat → Int32) (bV : Nat → Int32) (bU : Nat → Int32) (bP : Nat → Int32) (bE : Int32) (cT : Int32) (cK : Nat → Int32) (cO : Int32) (cQ : Nat → Int32) (cD : Int32) (pT : Int32) (pK : Int32) (pR : Nat → Int32) (pW : Nat → Int32) (pU : Nat → Int32) (pI : Nat → Int32) (pC : Nat → Nat → Int32) (uO : Int32) (uF : Nat → Int32) (uE : Nat → Int32) (uN : Nat → Int32) (wK : Nat → Int32) (jM : Int32) (jN : Int32) (jZ : Nat) (jB : Nat → Int32) (R : va_W) (sz : Nat) (p1 : Int32) (ro : Except Nat Int32) (onA : Nat → Int32) (onC : Nat → Int32) (onU : Nat → Int32) (ocD : Int32) (ouN : Nat → Int32) (hf : f_C_pass p1 nF nL nA nC nU cT cD uO uF uE uN = some (ro, onA, onC, onU, ocD, ouN)) : vx_Met l yX3_pass (wm yX3_pass cX3_pass 4 (some .int)) ({ frames := 7, cells := 3, slots := 18, locals := 129 } : Room) (PREX [.ref (ad 0), .int p1] D ca SL0 (WC ca ad bq nF nO nL nA nC nV nU nP nE bF bO bL bA bC bV bU bP bE cT cK cO cQ cD pT pK pR pW pU pI pC uO uF uE uN wK jM jN jZ jB ++ R) sz) (QXI ro D (WC ca ad bq nF nO nL onA onC nV onU nP nE bF bO bL bA bC bV bU bP bE cT cK cO cQ ocD pT pK pR pW pU pI pC uO uF uE ouN wK jM jN jZ jB ++ R) (WC ca ad bq nF nO nL nA nC nV nU nP nE bF bO bL bA bC bV bU bP bE cT cK cO cQ cD pT pK pR pW pU pI pC uO uF uE uN wK jM jN jZ jB ++ R) sz) (QXE ro D (WC ca ad bq nF nO nL onA onC nV onU nP nE bF bO bL bA bC bV bU bP bE cT cK cO cQ ocD pT pK pR pW pU pI pC uO uF uE ouN wK jM jN jZ jB ++ R) (WC ca ad bq nF nO nL nA nC nV nU nP nE bF bO bL bA bC bV bU bP bE cT cK cO cQ cD pT pK pR pW pU pI pC uO uF uE uN wK jM jN jZ jB ++ R) sz) 3 18 (va_A (WC ca ad bq nF nO nL nA nC nV nU nP nE bF bO bL bA bC bV bU bP bE cT cK cO cQ cD pT pK pR pW pU pI pC uO uF uE uN wK jM jN jZ jB ++ R) sz) := by
  refine vx_ofW (cc := cX3_pass) (maxL := 4) (ret := (some .int)) (by decide) rfl ?_
  intro p e s m args below meth c s₁ B hml htab hv
  obtain ⟨rfl, rfl, hP, hE, hD0, hZ⟩ := hv
  have hx := B.exec
  have hb := B.bytes
  have hr := B.returns
  have hts := wm_ww (atoms_spec (ws := wm yX3_pass cX3_pass 4 (some .int)) B.pre)
  have hown : s.vm.findClass RX3 = some m.cls := findClass_of_methodNamed B.named
  have hlocks := B.notSynchronized
  have hK := hE.1
  have hD := hD0.self (sz := s.heap.size)
  generalize hAe : va_A (WC ca ad bq nF nO nL nA nC nV nU nP nE bF bO bL bA bC bV bU bP bE cT cK cO cQ cD pT pK pR pW pU pI pC uO uF uE uN wK jM jN jZ jB ++ R) s.heap.size = A at hD hZ ⊢
  have hA : ∀ q : Nat, s.heap.size ≤ q → A q := fun q h => by rw [← hAe]; exact Or.inr h
  have hS : va_S A s.heap s.heap [] := va_S.rf
  have hl := lv_entry ([.ref (ad 0), .int p1]) (n := 4) (Nat.le_of_ble_eq_true rfl)
  rw [lg_entry_eq]
  generalize (lg_sl ([.ref (ad 0), .int p1]) ++ List.replicate (4 - (lg_sl ([.ref (ad 0), .int p1])).length) Slot.unset).toArray = ls at hl ⊢
  have hl : lv_has ls 4 [(0, .ref (ad 0)), (1, .int p1)] := hl
  change W p l e ({ frames := 7, cells := 3, slots := 18, locals := 129 } : Room) s m _ below meth c s.heap [] 0 0 _ _
  generalize hQm : vx_MQ below (QXI ro D (WC ca ad bq nF nO nL onA onC nV onU nP nE bF bO bL bA bC bV bU bP bE cT cK cO cQ ocD pT pK pR pW pU pI pC uO uF uE ouN wK jM jN jZ jB ++ R) (WC ca ad bq nF nO nL nA nC nV nU nP nE bF bO bL bA bC bV bU bP bE cT cK cO cQ cD pT pK pR pW pU pI pC uO uF uE uN wK jM jN jZ jB ++ R) s.heap.size) (QXE ro D (WC ca ad bq nF nO nL onA onC nV onU nP nE bF bO bL bA bC bV bU bP bE cT cK cO cQ ocD pT pK pR pW pU pI pC uO uF uE ouN wK jM jN jZ jB ++ R) (WC ca ad bq nF nO nL nA nC nV nU nP nE bF bO bL bA bC bV bU bP bE cT cK cO cQ cD pT pK pR pW pU pI pC uO uF uE uN wK jM jN jZ jB ++ R) s.heap.size) _ s 3 18 A = Qm
  have hP : va_P D vwCl (WC ca ad bq nF nO nL nA nC nV nU nP nE bF bO bL bA bC bV bU bP bE cT cK cO cQ cD pT pK pR pW pU pI pC uO uF uE uN wK jM jN jZ jB ++ R) s.heap := hP
  generalize hae : ([.ref (ad 0), .int p1] : List Value).toArray = args at hts hQm ⊢
  have L49 : ∀ (n : Nat) (v2 : Int32) (v3 : Int32) (nA : Nat → Int32) (nC : Nat → Int32) (nU : Nat → Int32) (cD : Int32) (uN : Nat → Int32) (y2 : Int32) (znA : Nat → Int32) (znC : Nat → Int32) (znU : Nat → Int32) (zuN : Nat → Int32), f_C_pass_L49 n v2 v3 nF nL nA nC nU cD uO uF uE uN = some (y2, znA, znC, znU, zuN) → ∀ (H : Heap) (locs : List Loc) (ls : Array Slot), va_P D vwCl (WC ca ad bq nF nO nL nA nC nV nU nP nE bF bO bL bA bC bV bU bP bE cT cK cO cQ cD pT pK pR pW pU pI pC uO uF uE uN wK jM jN jZ jB ++ R) H → va_D A (WC ca ad bq nF nO nL nA nC nV nU nP nE bF bO bL bA bC bV bU bP bE cT cK cO cQ cD pT pK pR pW pU pI pC uO uF uE uN wK jM jN jZ jB ++ R) → va_S A s.heap H locs → lv_has ls 4 [(0, .ref (ad 0)), (2, .int v2), (3, .int v3)] → (∀ (H : Heap) (locs : List Loc) (ls : Array Slot), va_P D vwCl (WC ca ad bq nF nO nL znA znC nV znU nP nE bF bO bL bA bC bV bU bP bE cT cK cO cQ cD pT pK pR pW pU pI pC uO uF uE zuN wK jM jN jZ jB ++ R) H → va_D A (WC ca ad bq nF nO nL znA znC nV znU nP nE bF bO bL bA bC bV bU bP bE cT cK cO cQ cD pT pK pR pW pU pI pC uO uF uE zuN wK jM jN jZ jB ++ R) → va_S A s.heap H locs → lv_has ls 4 [(2, .int y2)] → W p l e ({ frames := 7, cells := 3, slots := 18, locals := 129 } : Room) s m args below meth c H locs 2 12 Qm (F0 m 96 ls [])) → W p l e ({ frames := 7, cells := 3, slots := 18, locals := 129 } : Room) s m args below meth c H locs 2 12 Qm (F0 m 49 ls []) := by
    intro n
    induction n with
    | zero => intro v2 v3 nA nC nU cD uN y2 znA znC znU zuN hf; cases hf
    | succ n ih =>
      intro v2 v3 nA nC nU cD uN y2 znA znC znU zuN hf H locs ls hP hD hS hl kk
      unfold f_C_pass_L49 at hf
      refine lv_iload_n hx hb dX3_pass_49 rfl (lv_at hl 2 rfl) ?_
      refine lv_bipush (v := 30) hx hb dX3_pass_50 (by decide) ?_
      refine lv_icmp_ge (tgt := 96) hx hb dX3_pass_52 (by decide) (fun c21 => ?_) (fun c21 => ?_)
      · have hf := br_pos c21 hf
        cases hf
        exact kk _ _ _ hP hD hS (lv_sub hl [1] rfl)
      · have hf := br_neg c21 hf
        refine lv_aload_n hx hb dX3_pass_55 rfl (lv_at hl 0 rfl) ?_
        refine va_get (D := D) (ci := 7) (v := .ref (ad 6)) (C := RX3) (T := TX3) (N := 11) hx hb hts inX3 hown hK hP 0 rfl rfl 7 (by decide) (hts _ q189) (fun _ h9 => h9) rfl dX3_pass_56 ?_
        refine lv_iload_n hx hb dX3_pass_59 rfl (lv_at hl 2 rfl) ?_
        obtain ⟨r22, h23, hf⟩ := bnd hf
        refine call_vi (rest := []) (m_H_isStillOpen l ca ad bq nF nO nL nA nC nV nU nP nE bF bO bL bA bC bV bU bP bE cT cK cO cQ cD pT pK pR pW pU pI pC uO uF uE uN wK jM jN jZ jB R _ v3 r22 h23) ⟨hx, hb, hml, hown, hts⟩ (cwV 1 hts (gV q808 q469 q470 q28 q471) rfl rfl rfl (by decide +kernel) ⟨Nat.le_of_ble_eq_true rfl, Nat.le_of_ble_eq_true rfl⟩) (va_recv hK hP (ci := 4) (q0 := 33) rfl rfl) hE hP hD hS hA rfl hl.1 rfl (lv_room (Nat.le_of_ble_eq_true rfl)) dX3_pass_60 ⟨Nat.le_of_ble_eq_true rfl, Nat.le_of_ble_eq_true rfl⟩ (fun H locs hP hD hS => ?_)
        refine lv_if_eq (tgt := 90) hx hb dX3_pass_63 (by decide) (fun c24 => ?_) (fun c24 => ?_)
        · have hf := br_pos c24 hf
          refine lv_iinc (v := (v3 + 1)) (lv' := [(3, .int (v3 + 1)), (0, .ref (ad 0)), (2, .int v2)]) hx hb dX3_pass_90 hl (k := 2) rfl rfl (by decide) rfl (fun ls hl => ?_)
          refine lv_goto (tgt := 49) hx hb dX3_pass_93 (by decide) ?_
          exact ih v2 (v3 + 1) nA nC nU cD uN _ _ _ _ _ hf _ _ _ hP hD hS (lv_sub hl [1, 2, 0] rfl) kk
        · have hf := br_neg c24 hf
          refine lv_aload_n hx hb dX3_pass_66 rfl (lv_at hl 0 rfl) ?_
          refine va_get (D := D) (ci := 7) (v := .ref (ad 6)) (C := RX3) (T := TX3) (N := 11) hx hb hts inX3 hown hK hP 0 rfl rfl 7 (by decide) (hts _ q189) (fun _ h9 => h9) rfl dX3_pass_67 ?_
          refine lv_iload_n hx hb dX3_pass_70 rfl (lv_at hl 2 rfl) ?_
          obtain ⟨r25, h26, hf⟩ := bnd hf
          refine call_vi (rest := []) (m_H_endOf l ca ad bq nF nO nL nA nC nV nU nP nE bF bO bL bA bC bV bU bP bE cT cK cO cQ cD pT pK pR pW pU pI pC uO uF uE uN wK jM jN jZ jB R _ v3 r25 h26) ⟨hx, hb, hml, hown, hts⟩ (cwV 1 hts (gV q848 q839 q840 q28 q841) rfl rfl rfl (by decide +kernel) ⟨Nat.le_of_ble_eq_true rfl, Nat.le_of_ble_eq_true rfl⟩) (va_recv hK hP (ci := 4) (q0 := 33) rfl rfl) hE hP hD hS hA rfl hl.1 rfl (lv_room (Nat.le_of_ble_eq_true rfl)) dX3_pass_71 ⟨Nat.le_of_ble_eq_true rfl, Nat.le_of_ble_eq_true rfl⟩ (fun H locs hP hD hS => ?_)
          refine lv_aload_n hx hb dX3_pass_74 rfl (lv_at hl 0 rfl) ?_
          refine va_get (D := D) (ci := 7) (v := .int cD) (C := RX3) (T := TX3) (N := 11) hx hb hts inX3 hown hK hP 0 rfl rfl 8 (by decide) (hts _ q190) (fun _ h9 => h9) rfl dX3_pass_75 ?_
          refine lv_icmp_gt (tgt := 90) hx hb dX3_pass_78 (by decide) (fun c27 => ?_) (fun c27 => ?_)
          · have hf := br_pos c27 hf
            refine lv_iinc (v := (v3 + 1)) (lv' := [(3, .int (v3 + 1)), (0, .ref (ad 0)), (2, .int v2)]) hx hb dX3_pass_90 hl (k := 2) rfl rfl (by decide) rfl (fun ls hl => ?_)
            refine lv_goto (tgt := 49) hx hb dX3_pass_93 (by decide) ?_
            exact ih v2 (v3 + 1) nA nC nU cD uN _ _ _ _ _ hf _ _ _ hP hD hS (lv_sub hl [1, 2, 0] rfl) kk
          · have hf := br_neg c27 hf
            refine lv_aload_n hx hb dX3_pass_81 rfl (lv_at hl 0 rfl) ?_
            refine lv_iload_n hx hb dX3_pass_82 rfl (lv_at hl 2 rfl) ?_
            obtain ⟨⟨r28, nA_29, nC_30, nU_31, uN_32⟩, h33, hf⟩ := bnd hf
            refine call_vi (rest := []) (m_C_endHold l ca ad bq nF nO nL nA nC nV nU nP nE bF bO bL bA bC bV bU bP bE cT cK cO cQ cD pT pK pR pW pU pI pC uO uF uE uN wK jM jN jZ jB R _ v3 r28 nA_29 nC_30 nU_31 uN_32 h33) ⟨hx, hb, hml, hown, hts⟩ (cwV 1 hts (gV q810 q812 q20 q24 q813) rfl rfl rfl (by decide +kernel) ⟨Nat.le_of_ble_eq_true rfl, Nat.le_of_ble_eq_true rfl⟩) (va_recv hK hP (ci := 7) (q0 := 0) rfl rfl) hE hP hD hS hA rfl hl.1 rfl (lv_room (Nat.le_of_ble_eq_true rfl)) dX3_pass_83 ⟨Nat.le_of_ble_eq_true rfl, Nat.le_of_ble_eq_true rfl⟩ (fun H locs hP hD hS => ?_)
            refine lv_pop hx hb dX3_pass_86 rfl ?_
            refine lv_iinc (v := (v2 + 1)) (lv' := [(2, .int (v2 + 1)), (0, .ref (ad 0)), (3, .int v3)]) hx hb dX3_pass_87 hl (k := 1) rfl rfl (by decide) rfl (fun ls hl => ?_)
            refine lv_iinc (v := (v3 + 1)) (lv' := [(3, .int (v3 + 1)), (2, .int (v2 + 1)), (0, .ref (ad 0))]) hx hb dX3_pass_90 hl (k := 2) rfl rfl (by decide) rfl (fun ls hl => ?_)
            refine lv_goto (tgt := 49) hx hb dX3_pass_93 (by decide) ?_
            exact ih (v2 + 1) (v3 + 1) nA_29 nC_30 nU_31 cD uN_32 _ _ _ _ _ hf _ _ _ hP hD hS (lv_sub hl [2, 1, 0] rfl) kk
  refine lv_aload_n hx hb dX3_pass_0 rfl (lv_at hl 0 rfl) ?_
  refine lv_iload_n hx hb dX3_pass_1 rfl (lv_at hl 1 rfl) ?_
  refine lv_iconst (v := 1) hx hb dX3_pass_2 (by decide) ?_
  refine lv_bipush (v := 99) hx hb dX3_pass_3 (by decide) ?_
  obtain ⟨x1, h2, hf⟩ := bnd hf
  rcases x1 with n3 | _
  · have hf : some ((.error n3), nA, nC, nU, cD, uN) = some (ro, onA, onC, onU, ocD, ouN) := hf
    cases hf
    exact cx_vv_err (rest := []) (m_C_requireWithin l hst ca ad bq nF nO nL nA nC nV nU nP nE bF bO bL bA bC bV bU bP bE cT cK cO cQ cD pT pK pR pW pU pI pC uO uF uE uN wK jM jN jZ jB R _ p1 1 99 (.error n3) h2) ⟨hx, hb, hml, hown, hts⟩ (cwV 3 hts (gV q341 q343 q1 q24 q344) rfl rfl rfl (by decide +kernel) ⟨Nat.le_of_ble_eq_true rfl, Nat.le_of_ble_eq_true rfl⟩) (va_recv hK hP (ci := 7) (q0 := 0) rfl rfl) hE hP hD hS hA hZ rfl hl.1 rfl (lv_room (Nat.le_of_ble_eq_true rfl)) dX3_pass_5 ⟨Nat.le_of_ble_eq_true rfl, Nat.le_of_ble_eq_true rfl⟩ hAe hQm htab hlocks (Nat.le_of_ble_eq_true rfl) (Nat.le_of_ble_eq_true rfl)
  refine cx_vv_ok (rest := []) (m_C_requireWithin l hst ca ad bq nF nO nL nA nC nV nU nP nE bF bO bL bA bC bV bU bP bE cT cK cO cQ cD pT pK pR pW pU pI pC uO uF uE uN wK jM jN jZ jB R _ p1 1 99 (.ok ()) h2) ⟨hx, hb, hml, hown, hts⟩ (cwV 3 hts (gV q341 q343 q1 q24 q344) rfl rfl rfl (by decide +kernel) ⟨Nat.le_of_ble_eq_true rfl, Nat.le_of_ble_eq_true rfl⟩) (va_recv hK hP (ci := 7) (q0 := 0) rfl rfl) hE hP hD hS hA hZ rfl hl.1 rfl (lv_room (Nat.le_of_ble_eq_true rfl)) dX3_pass_5 ⟨Nat.le_of_ble_eq_true rfl, Nat.le_of_ble_eq_true rfl⟩ (fun H locs hP hD hS => ?_)
  refine lv_aload_n hx hb dX3_pass_8 rfl (lv_at hl 0 rfl) ?_
  obtain ⟨x4, h5, hf⟩ := bnd hf
  rcases x4 with n6 | _
  · have hf : some ((.error n6), nA, nC, nU, cD, uN) = some (ro, onA, onC, onU, ocD, ouN) := hf
    cases hf
    exact cx_vv_err (rest := []) (m_C_requireNoTransaction l hst ca ad bq nF nO nL nA nC nV nU nP nE bF bO bL bA bC bV bU bP bE cT cK cO cQ cD pT pK pR pW pU pI pC uO uF uE uN wK jM jN jZ jB R _ (.error n6) h5) ⟨hx, hb, hml, hown, hts⟩ (cwV 0 hts (gV q361 q363 q2 q24 q364) rfl rfl rfl (by decide +kernel) ⟨Nat.le_of_ble_eq_true rfl, Nat.le_of_ble_eq_true rfl⟩) (va_recv hK hP (ci := 7) (q0 := 0) rfl rfl) hE hP hD hS hA hZ rfl hl.1 rfl (lv_room (Nat.le_of_ble_eq_true rfl)) dX3_pass_9 ⟨Nat.le_of_ble_eq_true rfl, Nat.le_of_ble_eq_true rfl⟩ hAe hQm htab hlocks (Nat.le_of_ble_eq_true rfl) (Nat.le_of_ble_eq_true rfl)
  refine cx_vv_ok (rest := []) (m_C_requireNoTransaction l hst ca ad bq nF nO nL nA nC nV nU nP nE bF bO bL bA bC bV bU bP bE cT cK cO cQ cD pT pK pR pW pU pI pC uO uF uE uN wK jM jN jZ jB R _ (.ok ()) h5) ⟨hx, hb, hml, hown, hts⟩ (cwV 0 hts (gV q361 q363 q2 q24 q364) rfl rfl rfl (by decide +kernel) ⟨Nat.le_of_ble_eq_true rfl, Nat.le_of_ble_eq_true rfl⟩) (va_recv hK hP (ci := 7) (q0 := 0) rfl rfl) hE hP hD hS hA hZ rfl hl.1 rfl (lv_room (Nat.le_of_ble_eq_true rfl)) dX3_pass_9 ⟨Nat.le_of_ble_eq_true rfl, Nat.le_of_ble_eq_true rfl⟩ (fun H locs hP hD hS => ?_)
  refine lv_aload_n hx hb dX3_pass_12 rfl (lv_at hl 0 rfl) ?_
  refine va_get (D := D) (ci := 7) (v := .int cD) (C := RX3) (T := TX3) (N := 11) hx hb hts inX3 hown hK hP 0 rfl rfl 8 (by decide) (hts _ q190) (fun _ h9 => h9) rfl dX3_pass_13 ?_
  refine lv_iload_n hx hb dX3_pass_16 rfl (lv_at hl 1 rfl) ?_
  refine lv_iadd hx hb dX3_pass_17 ?_
  refine lv_sipush (v := 9999) hx hb dX3_pass_18 (by decide) ?_
  refine lv_icmp_le (tgt := 35) hx hb dX3_pass_21 (by decide) (fun c7 => ?_) (fun c7 => ?_)
  · have hf := br_pos c7 hf
    refine lv_aload_n hx hb dX3_pass_35 rfl (lv_at hl 0 rfl) ?_
    refine lv_dup hx hb dX3_pass_36 rfl ?_
    refine va_get (D := D) (ci := 7) (v := .int cD) (C := RX3) (T := TX3) (N := 11) hx hb hts inX3 hown hK hP 0 rfl rfl 8 (by decide) (hts _ q190) (fun _ h9 => h9) rfl dX3_pass_37 ?_
    refine lv_iload_n hx hb dX3_pass_40 rfl (lv_at hl 1 rfl) ?_
    refine lv_iadd hx hb dX3_pass_41 ?_
    refine va_put (D := D) (ci := 7) (v := .int (cD + p1)) (ty := .int) (C := RX3) (T := TX3) (N := 11) hx hb hts inX3 tyX3 tyX3_ok nmX3 hown hK hP hD hS 0 rfl rfl 8 (by decide) (hts _ q190) (fun _ h9 => h9) rfl (by decide +kernel) rfl rfl (Nat.le_of_ble_eq_true rfl) dX3_pass_42 (fun H locs hP hD hS => ?_)
    have hP : va_P D vwCl (WC ca ad bq nF nO nL nA nC nV nU nP nE bF bO bL bA bC bV bU bP bE cT cK cO cQ (cD + p1) pT pK pR pW pU pI pC uO uF uE uN wK jM jN jZ jB ++ R) H := hP
    have hD : va_D A (WC ca ad bq nF nO nL nA nC nV nU nP nE bF bO bL bA bC bV bU bP bE cT cK cO cQ (cD + p1) pT pK pR pW pU pI pC uO uF uE uN wK jM jN jZ jB ++ R) := hD
    refine lv_iconst (v := 0) hx hb dX3_pass_45 (by decide) ?_
    refine lv_istore_n (lv' := [(2, .int 0), (0, .ref (ad 0)), (1, .int p1)]) hx hb dX3_pass_46 rfl hl (by decide) rfl (fun ls hl => ?_)
    refine lv_iconst (v := 0) hx hb dX3_pass_47 (by decide) ?_
    refine lv_istore_n (lv' := [(3, .int 0), (2, .int 0), (0, .ref (ad 0)), (1, .int p1)]) hx hb dX3_pass_48 rfl hl (by decide) rfl (fun ls hl => ?_)
    obtain ⟨⟨x35, nA_36, nC_37, nU_38, uN_39⟩, h34, hf⟩ := bnd hf
    refine L49 FU 0 0 nA nC nU (cD + p1) uN x35 nA_36 nC_37 nU_38 uN_39 h34 _ _ _ hP hD hS (lv_sub hl [2, 1, 0] rfl) (fun H locs ls hP hD hS hl => ?_)
    refine lv_iload_n hx hb dX3_pass_96 rfl (lv_at hl 0 rfl) ?_
    cases hf
    exact endx_i hAe hQm hx hb hr hlocks rfl hP hD hS dX3_pass_97 (Nat.le_of_ble_eq_true rfl) (Nat.le_of_ble_eq_true rfl)
  · have hf := br_neg c7 hf
    cases hf
    exact endx_throwW 2 rfl hAe hQm hst hx hb hts hE hown htab hlocks (by decide +kernel) q365 q39 sl15 at73 hZ (hl.1.trans hml.symm) hP hD hS dX3_pass_24 dX3_pass_27 dX3_pass_28 dX3_pass_31 dX3_pass_34 (Nat.le_of_ble_eq_true rfl) (Nat.le_of_ble_eq_true rfl) (Nat.le_of_ble_eq_true rfl) (Nat.le_of_ble_eq_true rfl) (Nat.le_of_ble_eq_true rfl) (Nat.le_of_ble_eq_true rfl)
def f_C_day (cD : Int32) : Option (Int32) :=
  some cD
set_option maxHeartbeats 4000000 in
set_option maxRecDepth 100000 in
theorem m_C_day (l : Launch) {D : va_G} {sl : List (String × Nat × String)} (ca : Nat → ClassId) (ad : Nat → Nat) (bq : Nat) (nF : Int32) (nO : Nat → Int32) (nL : Nat → Int32) (nA : Nat → Int32) (nC : Nat → Int32) (nV : Nat → Int32) (nU : Nat → Int32) (nP : Nat → Int32) (nE : Int32) (bF : Int32) (bO : Nat → Int32) (bL : Nat → Int32) (bA : Nat → Int32) (bC : Nat → Int32) (bV : Nat → Int32) (bU : Nat → Int32) (bP : Nat → Int32) (bE : Int32) (cT : Int32) (cK : Nat → Int32) (cO : Int32) (cQ : Nat → Int32) (cD : Int32) (pT : Int32) (pK : Int32) (pR : Nat → Int32) (pW : Nat → Int32) (pU : Nat → Int32) (pI : Nat → Int32) (pC : Nat → Nat → Int32) (uO : Int32) (uF : Nat → Int32) (uE : Nat → Int32) (uN : Nat → Int32) (wK : Nat → Int32) (jM : Int32) (jN : Int32) (jZ : Nat) (jB : Nat → Int32) (R : va_W) (sz : Nat) (ro : Int32) (hf : f_C_day cD = some ro) : Met l yX3_day (wm yX3_day cX3_day 1 (some .int)) ({ frames := 0, cells := 0, slots := 0, locals := 0 } : Room) (PRE [.ref (ad 0)] D ca sl (WC ca ad bq nF nO nL nA nC nV nU nP nE bF bO bL bA bC bV bU bP bE cT cK cO cQ cD pT pK pR pW pU pI pC uO uF uE uN wK jM jN jZ jB ++ R) sz) (QI ro D (WC ca ad bq nF nO nL nA nC nV nU nP nE bF bO bL bA bC bV bU bP bE cT cK cO cQ cD pT pK pR pW pU pI pC uO uF uE uN wK jM jN jZ jB ++ R) (WC ca ad bq nF nO nL nA nC nV nU nP nE bF bO bL bA bC bV bU bP bE cT cK cO cQ cD pT pK pR pW pU pI pC uO uF uE uN wK jM jN jZ jB ++ R) sz) 0 0 (va_A (WC ca ad bq nF nO nL nA nC nV nU nP nE bF bO bL bA bC bV bU bP bE cT cK cO cQ cD pT pK pR pW pU pI pC uO uF uE uN wK jM jN jZ jB ++ R) sz) := by
  refine Met.ofW (cc := cX3_day) (maxL := 1) (ret := (some .int)) (by decide) rfl ?_
  intro p e s m args below meth c s₁ B hml hv
  obtain ⟨rfl, rfl, hP, hE, hD0⟩ := hv
  have hx := B.exec
  have hb := B.bytes
  have hr := B.returns
  have hts := wm_ww (atoms_spec (ws := wm yX3_day cX3_day 1 (some .int)) B.pre)
  have hown : s.vm.findClass RX3 = some m.cls := findClass_of_methodNamed B.named
  have hlocks := B.notSynchronized
  have hK := hE.1
  have hD := hD0.self (sz := s.heap.size)
  generalize hAe : va_A (WC ca ad bq nF nO nL nA nC nV nU nP nE bF bO bL bA bC bV bU bP bE cT cK cO cQ cD pT pK pR pW pU pI pC uO uF uE uN wK jM jN jZ jB ++ R) s.heap.size = A at hD ⊢
  have hA : ∀ q : Nat, s.heap.size ≤ q → A q := fun q h => by rw [← hAe]; exact Or.inr h
  have hS : va_S A s.heap s.heap [] := va_S.rf
  have hl := lv_entry ([.ref (ad 0)]) (n := 1) (Nat.le_of_ble_eq_true rfl)
  rw [lg_entry_eq]
  generalize (lg_sl ([.ref (ad 0)]) ++ List.replicate (1 - (lg_sl ([.ref (ad 0)])).length) Slot.unset).toArray = ls at hl ⊢
  have hl : lv_has ls 1 [(0, .ref (ad 0))] := hl
  change W p l e ({ frames := 0, cells := 0, slots := 0, locals := 0 } : Room) s m _ below meth c s.heap [] 0 0 _ _
  generalize hQm : MQ below (QI ro D (WC ca ad bq nF nO nL nA nC nV nU nP nE bF bO bL bA bC bV bU bP bE cT cK cO cQ cD pT pK pR pW pU pI pC uO uF uE uN wK jM jN jZ jB ++ R) (WC ca ad bq nF nO nL nA nC nV nU nP nE bF bO bL bA bC bV bU bP bE cT cK cO cQ cD pT pK pR pW pU pI pC uO uF uE uN wK jM jN jZ jB ++ R) s.heap.size) _ s 0 0 A = Qm
  have hP : va_P D vwCl (WC ca ad bq nF nO nL nA nC nV nU nP nE bF bO bL bA bC bV bU bP bE cT cK cO cQ cD pT pK pR pW pU pI pC uO uF uE uN wK jM jN jZ jB ++ R) s.heap := hP
  generalize hae : ([.ref (ad 0)] : List Value).toArray = args at hts hQm ⊢
  refine lv_aload_n hx hb dX3_day_0 rfl (lv_at hl 0 rfl) ?_
  refine va_get (D := D) (ci := 7) (v := .int cD) (C := RX3) (T := TX3) (N := 11) hx hb hts inX3 hown hK hP 0 rfl rfl 8 (by decide) (hts _ q190) (fun _ h9 => h9) rfl dX3_day_1 ?_
  cases hf
  exact end_i hAe hQm hx hb hr hlocks rfl hP hD hS dX3_day_4
def f_C_begin (nF : Int32) (nO : Nat → Int32) (nL : Nat → Int32) (nA : Nat → Int32) (nC : Nat → Int32) (nV : Nat → Int32) (nU : Nat → Int32) (nP : Nat → Int32) (nE : Int32) (bF : Int32) (bO : Nat → Int32) (bL : Nat → Int32) (bA : Nat → Int32) (bC : Nat → Int32) (bV : Nat → Int32) (bU : Nat → Int32) (bP : Nat → Int32) (bE : Int32) (cT : Int32) : Option (Except Nat Int32 × Int32 × (Nat → Int32) × (Nat → Int32) × (Nat → Int32) × (Nat → Int32) × (Nat → Int32) × (Nat → Int32) × (Nat → Int32) × Int32 × Int32) :=
  (f_C_requireNoTransaction cT).bind fun x1 =>
  match x1 with
  | .error n3 => some ((.error n3), bF, bO, bL, bA, bC, bV, bU, bP, bE, cT)
  | .ok _ =>
  (f_S_copyFrom_b nF nO nL nA nC nV nU nP nE bO bL bA bC bV bU bP).bind fun (bF_4, bO_5, bL_6, bA_7, bC_8, bV_9, bU_10, bP_11, bE_12) =>
  (f_S_entryTotal nE).bind fun r14 =>
  some ((.ok r14), bF_4, bO_5, bL_6, bA_7, bC_8, bV_9, bU_10, bP_11, bE_12, 1)
set_option maxHeartbeats 4000000 in
set_option maxRecDepth 100000 in
theorem m_C_begin (l : Launch) (hst : l.stackTraces = false) {D : va_G} (ca : Nat → ClassId) (ad : Nat → Nat) (bq : Nat) (nF : Int32) (nO : Nat → Int32) (nL : Nat → Int32) (nA : Nat → Int32) (nC : Nat → Int32) (nV : Nat → Int32) (nU : Nat → Int32) (nP : Nat → Int32) (nE : Int32) (bF : Int32) (bO : Nat → Int32) (bL : Nat → Int32) (bA : Nat → Int32) (bC : Nat → Int32) (bV : Nat → Int32) (bU : Nat → Int32) (bP : Nat → Int32) (bE : Int32) (cT : Int32) (cK : Nat → Int32) (cO : Int32) (cQ : Nat → Int32) (cD : Int32) (pT : Int32) (pK : Int32) (pR : Nat → Int32) (pW : Nat → Int32) (pU : Nat → Int32) (pI : Nat → Int32) (pC : Nat → Nat → Int32) (uO : Int32) (uF : Nat → Int32) (uE : Nat → Int32) (uN : Nat → Int32) (wK : Nat → Int32) (jM : Int32) (jN : Int32) (jZ : Nat) (jB : Nat → Int32) (R : va_W) (sz : Nat) (ro : Except Nat Int32) (obF : Int32) (obO : Nat → Int32) (obL : Nat → Int32) (obA : Nat → Int32) (obC : Nat → Int32) (obV : Nat → Int32) (obU : Nat → Int32) (obP : Nat → Int32) (obE : Int32) (ocT : Int32) (hf : f_C_begin nF nO nL nA nC nV nU nP nE bF bO bL bA bC bV bU bP bE cT = some (ro, obF, obO, obL, obA, obC, obV, obU, obP, obE, ocT)) : vx_Met l yX3_begin (wm yX3_begin cX3_begin 1 (some .int)) ({ frames := 7, cells := 1, slots := 6, locals := 110 } : Room) (PREX [.ref (ad 0)] D ca SL0 (WC ca ad bq nF nO nL nA nC nV nU nP nE bF bO bL bA bC bV bU bP bE cT cK cO cQ cD pT pK pR pW pU pI pC uO uF uE uN wK jM jN jZ jB ++ R) sz) (QXI ro D (WC ca ad bq nF nO nL nA nC nV nU nP nE obF obO obL obA obC obV obU obP obE ocT cK cO cQ cD pT pK pR pW pU pI pC uO uF uE uN wK jM jN jZ jB ++ R) (WC ca ad bq nF nO nL nA nC nV nU nP nE bF bO bL bA bC bV bU bP bE cT cK cO cQ cD pT pK pR pW pU pI pC uO uF uE uN wK jM jN jZ jB ++ R) sz) (QXE ro D (WC ca ad bq nF nO nL nA nC nV nU nP nE obF obO obL obA obC obV obU obP obE ocT cK cO cQ cD pT pK pR pW pU pI pC uO uF uE uN wK jM jN jZ jB ++ R) (WC ca ad bq nF nO nL nA nC nV nU nP nE bF bO bL bA bC bV bU bP bE cT cK cO cQ cD pT pK pR pW pU pI pC uO uF uE uN wK jM jN jZ jB ++ R) sz) 1 6 (va_A (WC ca ad bq nF nO nL nA nC nV nU nP nE bF bO bL bA bC bV bU bP bE cT cK cO cQ cD pT pK pR pW pU pI pC uO uF uE uN wK jM jN jZ jB ++ R) sz) := by
  refine vx_ofW (cc := cX3_begin) (maxL := 1) (ret := (some .int)) (by decide) rfl ?_
  intro p e s m args below meth c s₁ B hml htab hv
  obtain ⟨rfl, rfl, hP, hE, hD0, hZ⟩ := hv
  have hx := B.exec
  have hb := B.bytes
  have hr := B.returns
  have hts := wm_ww (atoms_spec (ws := wm yX3_begin cX3_begin 1 (some .int)) B.pre)
  have hown : s.vm.findClass RX3 = some m.cls := findClass_of_methodNamed B.named
  have hlocks := B.notSynchronized
  have hK := hE.1
  have hD := hD0.self (sz := s.heap.size)
  generalize hAe : va_A (WC ca ad bq nF nO nL nA nC nV nU nP nE bF bO bL bA bC bV bU bP bE cT cK cO cQ cD pT pK pR pW pU pI pC uO uF uE uN wK jM jN jZ jB ++ R) s.heap.size = A at hD hZ ⊢
  have hA : ∀ q : Nat, s.heap.size ≤ q → A q := fun q h => by rw [← hAe]; exact Or.inr h
  have hS : va_S A s.heap s.heap [] := va_S.rf
  have hl := lv_entry ([.ref (ad 0)]) (n := 1) (Nat.le_of_ble_eq_true rfl)
  rw [lg_entry_eq]
  generalize (lg_sl ([.ref (ad 0)]) ++ List.replicate (1 - (lg_sl ([.ref (ad 0)])).length) Slot.unset).toArray = ls at hl ⊢
  have hl : lv_has ls 1 [(0, .ref (ad 0))] := hl
  change W p l e ({ frames := 7, cells := 1, slots := 6, locals := 110 } : Room) s m _ below meth c s.heap [] 0 0 _ _
  generalize hQm : vx_MQ below (QXI ro D (WC ca ad bq nF nO nL nA nC nV nU nP nE obF obO obL obA obC obV obU obP obE ocT cK cO cQ cD pT pK pR pW pU pI pC uO uF uE uN wK jM jN jZ jB ++ R) (WC ca ad bq nF nO nL nA nC nV nU nP nE bF bO bL bA bC bV bU bP bE cT cK cO cQ cD pT pK pR pW pU pI pC uO uF uE uN wK jM jN jZ jB ++ R) s.heap.size) (QXE ro D (WC ca ad bq nF nO nL nA nC nV nU nP nE obF obO obL obA obC obV obU obP obE ocT cK cO cQ cD pT pK pR pW pU pI pC uO uF uE uN wK jM jN jZ jB ++ R) (WC ca ad bq nF nO nL nA nC nV nU nP nE bF bO bL bA bC bV bU bP bE cT cK cO cQ cD pT pK pR pW pU pI pC uO uF uE uN wK jM jN jZ jB ++ R) s.heap.size) _ s 1 6 A = Qm
  have hP : va_P D vwCl (WC ca ad bq nF nO nL nA nC nV nU nP nE bF bO bL bA bC bV bU bP bE cT cK cO cQ cD pT pK pR pW pU pI pC uO uF uE uN wK jM jN jZ jB ++ R) s.heap := hP
  generalize hae : ([.ref (ad 0)] : List Value).toArray = args at hts hQm ⊢
  refine lv_aload_n hx hb dX3_begin_0 rfl (lv_at hl 0 rfl) ?_
  obtain ⟨x1, h2, hf⟩ := bnd hf
  rcases x1 with n3 | _
  · have hf : some ((.error n3), bF, bO, bL, bA, bC, bV, bU, bP, bE, cT) = some (ro, obF, obO, obL, obA, obC, obV, obU, obP, obE, ocT) := hf
    cases hf
    exact cx_vv_err (rest := []) (m_C_requireNoTransaction l hst ca ad bq nF nO nL nA nC nV nU nP nE bF bO bL bA bC bV bU bP bE cT cK cO cQ cD pT pK pR pW pU pI pC uO uF uE uN wK jM jN jZ jB R _ (.error n3) h2) ⟨hx, hb, hml, hown, hts⟩ (cwV 0 hts (gV q361 q363 q2 q24 q364) rfl rfl rfl (by decide +kernel) ⟨Nat.le_of_ble_eq_true rfl, Nat.le_of_ble_eq_true rfl⟩) (va_recv hK hP (ci := 7) (q0 := 0) rfl rfl) hE hP hD hS hA hZ rfl hl.1 rfl (lv_room (Nat.le_of_ble_eq_true rfl)) dX3_begin_1 ⟨Nat.le_of_ble_eq_true rfl, Nat.le_of_ble_eq_true rfl⟩ hAe hQm htab hlocks (Nat.le_of_ble_eq_true rfl) (Nat.le_of_ble_eq_true rfl)
  refine cx_vv_ok (rest := []) (m_C_requireNoTransaction l hst ca ad bq nF nO nL nA nC nV nU nP nE bF bO bL bA bC bV bU bP bE cT cK cO cQ cD pT pK pR pW pU pI pC uO uF uE uN wK jM jN jZ jB R _ (.ok ()) h2) ⟨hx, hb, hml, hown, hts⟩ (cwV 0 hts (gV q361 q363 q2 q24 q364) rfl rfl rfl (by decide +kernel) ⟨Nat.le_of_ble_eq_true rfl, Nat.le_of_ble_eq_true rfl⟩) (va_recv hK hP (ci := 7) (q0 := 0) rfl rfl) hE hP hD hS hA hZ rfl hl.1 rfl (lv_room (Nat.le_of_ble_eq_true rfl)) dX3_begin_1 ⟨Nat.le_of_ble_eq_true rfl, Nat.le_of_ble_eq_true rfl⟩ (fun H locs hP hD hS => ?_)
  refine lv_aload_n hx hb dX3_begin_4 rfl (lv_at hl 0 rfl) ?_
  refine va_get (D := D) (ci := 7) (v := .ref (ad 2)) (C := RX3) (T := TX3) (N := 11) hx hb hts inX3 hown hK hP 0 rfl rfl 1 (by decide) (hts _ q183) (fun _ h9 => h9) rfl dX3_begin_5 ?_
  refine lv_aload_n hx hb dX3_begin_8 rfl (lv_at hl 0 rfl) ?_
  refine va_get (D := D) (ci := 7) (v := .ref (ad 1)) (C := RX3) (T := TX3) (N := 11) hx hb hts inX3 hown hK hP 0 rfl rfl 0 (by decide) (hts _ q182) (fun _ h9 => h9) rfl dX3_begin_9 ?_
  obtain ⟨⟨bF_4, bO_5, bL_6, bA_7, bC_8, bV_9, bU_10, bP_11, bE_12⟩, h13, hf⟩ := bnd hf
  refine call_vv (rest := []) (m_S_copyFrom_b l ca ad bq nF nO nL nA nC nV nU nP nE bF bO bL bA bC bV bU bP bE cT cK cO cQ cD pT pK pR pW pU pI pC uO uF uE uN wK jM jN jZ jB R _ bF_4 bO_5 bL_6 bA_7 bC_8 bV_9 bU_10 bP_11 bE_12 h13) ⟨hx, hb, hml, hown, hts⟩ (cwV 1 hts (gV q232 q233 q234 q25 q235) rfl rfl rfl (by decide +kernel) ⟨Nat.le_of_ble_eq_true rfl, Nat.le_of_ble_eq_true rfl⟩) (va_recv hK hP (ci := 6) (q0 := 9) rfl rfl) hE hP hD hS hA rfl hl.1 rfl (lv_room (Nat.le_of_ble_eq_true rfl)) dX3_begin_12 ⟨Nat.le_of_ble_eq_true rfl, Nat.le_of_ble_eq_true rfl⟩ (fun H locs hP hD hS => ?_)
  refine lv_aload_n hx hb dX3_begin_15 rfl (lv_at hl 0 rfl) ?_
  refine lv_iconst (v := 1) hx hb dX3_begin_16 (by decide) ?_
  refine va_put (D := D) (ci := 7) (v := .int 1) (ty := .boolean) (C := RX3) (T := TX3) (N := 11) hx hb hts inX3 tyX3 tyX3_ok nmX3 hown hK hP hD hS 0 rfl rfl 2 (by decide) (hts _ q184) (fun _ h9 => h9) rfl (by decide +kernel) rfl rfl (Nat.le_of_ble_eq_true rfl) dX3_begin_17 (fun H locs hP hD hS => ?_)
  have hP : va_P D vwCl (WC ca ad bq nF nO nL nA nC nV nU nP nE bF_4 bO_5 bL_6 bA_7 bC_8 bV_9 bU_10 bP_11 bE_12 1 cK cO cQ cD pT pK pR pW pU pI pC uO uF uE uN wK jM jN jZ jB ++ R) H := hP
  have hD : va_D A (WC ca ad bq nF nO nL nA nC nV nU nP nE bF_4 bO_5 bL_6 bA_7 bC_8 bV_9 bU_10 bP_11 bE_12 1 cK cO cQ cD pT pK pR pW pU pI pC uO uF uE uN wK jM jN jZ jB ++ R) := hD
  refine lv_aload_n hx hb dX3_begin_20 rfl (lv_at hl 0 rfl) ?_
  refine va_get (D := D) (ci := 7) (v := .ref (ad 1)) (C := RX3) (T := TX3) (N := 11) hx hb hts inX3 hown hK hP 0 rfl rfl 0 (by decide) (hts _ q182) (fun _ h9 => h9) rfl dX3_begin_21 ?_
  obtain ⟨r14, h15, hf⟩ := bnd hf
  refine call_vi (rest := []) (m_S_entryTotal l ca ad bq nF nO nL nA nC nV nU nP nE bF_4 bO_5 bL_6 bA_7 bC_8 bV_9 bU_10 bP_11 bE_12 1 cK cO cQ cD pT pK pR pW pU pI pC uO uF uE uN wK jM jN jZ jB R _ r14 h15) ⟨hx, hb, hml, hown, hts⟩ (cwV 0 hts (gV q228 q229 q230 q25 q231) rfl rfl rfl (by decide +kernel) ⟨Nat.le_of_ble_eq_true rfl, Nat.le_of_ble_eq_true rfl⟩) (va_recv hK hP (ci := 6) (q0 := 1) rfl rfl) hE hP hD hS hA rfl hl.1 rfl (lv_room (Nat.le_of_ble_eq_true rfl)) dX3_begin_24 ⟨Nat.le_of_ble_eq_true rfl, Nat.le_of_ble_eq_true rfl⟩ (fun H locs hP hD hS => ?_)
  cases hf
  exact endx_i hAe hQm hx hb hr hlocks rfl hP hD hS dX3_begin_27 (Nat.le_of_ble_eq_true rfl) (Nat.le_of_ble_eq_true rfl)
def f_C_commit (nE : Int32) (bE : Int32) (cT : Int32) : Option (Except Nat Int32 × Int32) :=
  if cT = 0 then
    some ((.error 2), cT)
  else
    (f_S_entryTotal nE).bind fun r2 =>
    (f_S_entryTotal_b bE).bind fun r4 =>
    some ((.ok (r2 - r4)), 0)
set_option maxHeartbeats 4000000 in
set_option maxRecDepth 100000 in
theorem m_C_commit (l : Launch) (hst : l.stackTraces = false) {D : va_G} (ca : Nat → ClassId) (ad : Nat → Nat) (bq : Nat) (nF : Int32) (nO : Nat → Int32) (nL : Nat → Int32) (nA : Nat → Int32) (nC : Nat → Int32) (nV : Nat → Int32) (nU : Nat → Int32) (nP : Nat → Int32) (nE : Int32) (bF : Int32) (bO : Nat → Int32) (bL : Nat → Int32) (bA : Nat → Int32) (bC : Nat → Int32) (bV : Nat → Int32) (bU : Nat → Int32) (bP : Nat → Int32) (bE : Int32) (cT : Int32) (cK : Nat → Int32) (cO : Int32) (cQ : Nat → Int32) (cD : Int32) (pT : Int32) (pK : Int32) (pR : Nat → Int32) (pW : Nat → Int32) (pU : Nat → Int32) (pI : Nat → Int32) (pC : Nat → Nat → Int32) (uO : Int32) (uF : Nat → Int32) (uE : Nat → Int32) (uN : Nat → Int32) (wK : Nat → Int32) (jM : Int32) (jN : Int32) (jZ : Nat) (jB : Nat → Int32) (R : va_W) (sz : Nat) (ro : Except Nat Int32) (ocT : Int32) (hf : f_C_commit nE bE cT = some (ro, ocT)) : vx_Met l yX3_commit (wm yX3_commit cX3_commit 1 (some .int)) ({ frames := 6, cells := 1, slots := 6, locals := 90 } : Room) (PREX [.ref (ad 0)] D ca SL0 (WC ca ad bq nF nO nL nA nC nV nU nP nE bF bO bL bA bC bV bU bP bE cT cK cO cQ cD pT pK pR pW pU pI pC uO uF uE uN wK jM jN jZ jB ++ R) sz) (QXI ro D (WC ca ad bq nF nO nL nA nC nV nU nP nE bF bO bL bA bC bV bU bP bE ocT cK cO cQ cD pT pK pR pW pU pI pC uO uF uE uN wK jM jN jZ jB ++ R) (WC ca ad bq nF nO nL nA nC nV nU nP nE bF bO bL bA bC bV bU bP bE cT cK cO cQ cD pT pK pR pW pU pI pC uO uF uE uN wK jM jN jZ jB ++ R) sz) (QXE ro D (WC ca ad bq nF nO nL nA nC nV nU nP nE bF bO bL bA bC bV bU bP bE ocT cK cO cQ cD pT pK pR pW pU pI pC uO uF uE uN wK jM jN jZ jB ++ R) (WC ca ad bq nF nO nL nA nC nV nU nP nE bF bO bL bA bC bV bU bP bE cT cK cO cQ cD pT pK pR pW pU pI pC uO uF uE uN wK jM jN jZ jB ++ R) sz) 1 6 (va_A (WC ca ad bq nF nO nL nA nC nV nU nP nE bF bO bL bA bC bV bU bP bE cT cK cO cQ cD pT pK pR pW pU pI pC uO uF uE uN wK jM jN jZ jB ++ R) sz) := by
  refine vx_ofW (cc := cX3_commit) (maxL := 1) (ret := (some .int)) (by decide) rfl ?_
  intro p e s m args below meth c s₁ B hml htab hv
  obtain ⟨rfl, rfl, hP, hE, hD0, hZ⟩ := hv
  have hx := B.exec
  have hb := B.bytes
  have hr := B.returns
  have hts := wm_ww (atoms_spec (ws := wm yX3_commit cX3_commit 1 (some .int)) B.pre)
  have hown : s.vm.findClass RX3 = some m.cls := findClass_of_methodNamed B.named
  have hlocks := B.notSynchronized
  have hK := hE.1
  have hD := hD0.self (sz := s.heap.size)
  generalize hAe : va_A (WC ca ad bq nF nO nL nA nC nV nU nP nE bF bO bL bA bC bV bU bP bE cT cK cO cQ cD pT pK pR pW pU pI pC uO uF uE uN wK jM jN jZ jB ++ R) s.heap.size = A at hD hZ ⊢
  have hA : ∀ q : Nat, s.heap.size ≤ q → A q := fun q h => by rw [← hAe]; exact Or.inr h
  have hS : va_S A s.heap s.heap [] := va_S.rf
  have hl := lv_entry ([.ref (ad 0)]) (n := 1) (Nat.le_of_ble_eq_true rfl)
  rw [lg_entry_eq]
  generalize (lg_sl ([.ref (ad 0)]) ++ List.replicate (1 - (lg_sl ([.ref (ad 0)])).length) Slot.unset).toArray = ls at hl ⊢
  have hl : lv_has ls 1 [(0, .ref (ad 0))] := hl
  change W p l e ({ frames := 6, cells := 1, slots := 6, locals := 90 } : Room) s m _ below meth c s.heap [] 0 0 _ _
  generalize hQm : vx_MQ below (QXI ro D (WC ca ad bq nF nO nL nA nC nV nU nP nE bF bO bL bA bC bV bU bP bE ocT cK cO cQ cD pT pK pR pW pU pI pC uO uF uE uN wK jM jN jZ jB ++ R) (WC ca ad bq nF nO nL nA nC nV nU nP nE bF bO bL bA bC bV bU bP bE cT cK cO cQ cD pT pK pR pW pU pI pC uO uF uE uN wK jM jN jZ jB ++ R) s.heap.size) (QXE ro D (WC ca ad bq nF nO nL nA nC nV nU nP nE bF bO bL bA bC bV bU bP bE ocT cK cO cQ cD pT pK pR pW pU pI pC uO uF uE uN wK jM jN jZ jB ++ R) (WC ca ad bq nF nO nL nA nC nV nU nP nE bF bO bL bA bC bV bU bP bE cT cK cO cQ cD pT pK pR pW pU pI pC uO uF uE uN wK jM jN jZ jB ++ R) s.heap.size) _ s 1 6 A = Qm
  have hP : va_P D vwCl (WC ca ad bq nF nO nL nA nC nV nU nP nE bF bO bL bA bC bV bU bP bE cT cK cO cQ cD pT pK pR pW pU pI pC uO uF uE uN wK jM jN jZ jB ++ R) s.heap := hP
  generalize hae : ([.ref (ad 0)] : List Value).toArray = args at hts hQm ⊢
  refine lv_aload_n hx hb dX3_commit_0 rfl (lv_at hl 0 rfl) ?_
  refine va_get (D := D) (ci := 7) (v := .int cT) (C := RX3) (T := TX3) (N := 11) hx hb hts inX3 hown hK hP 0 rfl rfl 2 (by decide) (hts _ q184) (fun _ h9 => h9) rfl dX3_commit_1 ?_
  refine lv_if_ne (tgt := 18) hx hb dX3_commit_4 (by decide) (fun c1 => ?_) (fun c1 => ?_)
  · have hf := br_neg c1 hf
    refine lv_aload_n hx hb dX3_commit_18 rfl (lv_at hl 0 rfl) ?_
    refine lv_iconst (v := 0) hx hb dX3_commit_19 (by decide) ?_
    refine va_put (D := D) (ci := 7) (v := .int 0) (ty := .boolean) (C := RX3) (T := TX3) (N := 11) hx hb hts inX3 tyX3 tyX3_ok nmX3 hown hK hP hD hS 0 rfl rfl 2 (by decide) (hts _ q184) (fun _ h9 => h9) rfl (by decide +kernel) rfl rfl (Nat.le_of_ble_eq_true rfl) dX3_commit_20 (fun H locs hP hD hS => ?_)
    have hP : va_P D vwCl (WC ca ad bq nF nO nL nA nC nV nU nP nE bF bO bL bA bC bV bU bP bE 0 cK cO cQ cD pT pK pR pW pU pI pC uO uF uE uN wK jM jN jZ jB ++ R) H := hP
    have hD : va_D A (WC ca ad bq nF nO nL nA nC nV nU nP nE bF bO bL bA bC bV bU bP bE 0 cK cO cQ cD pT pK pR pW pU pI pC uO uF uE uN wK jM jN jZ jB ++ R) := hD
    refine lv_aload_n hx hb dX3_commit_23 rfl (lv_at hl 0 rfl) ?_
    refine va_get (D := D) (ci := 7) (v := .ref (ad 1)) (C := RX3) (T := TX3) (N := 11) hx hb hts inX3 hown hK hP 0 rfl rfl 0 (by decide) (hts _ q182) (fun _ h9 => h9) rfl dX3_commit_24 ?_
    obtain ⟨r2, h3, hf⟩ := bnd hf
    refine call_vi (rest := []) (m_S_entryTotal l ca ad bq nF nO nL nA nC nV nU nP nE bF bO bL bA bC bV bU bP bE 0 cK cO cQ cD pT pK pR pW pU pI pC uO uF uE uN wK jM jN jZ jB R _ r2 h3) ⟨hx, hb, hml, hown, hts⟩ (cwV 0 hts (gV q228 q229 q230 q25 q231) rfl rfl rfl (by decide +kernel) ⟨Nat.le_of_ble_eq_true rfl, Nat.le_of_ble_eq_true rfl⟩) (va_recv hK hP (ci := 6) (q0 := 1) rfl rfl) hE hP hD hS hA rfl hl.1 rfl (lv_room (Nat.le_of_ble_eq_true rfl)) dX3_commit_27 ⟨Nat.le_of_ble_eq_true rfl, Nat.le_of_ble_eq_true rfl⟩ (fun H locs hP hD hS => ?_)
    refine lv_aload_n hx hb dX3_commit_30 rfl (lv_at hl 0 rfl) ?_
    refine va_get (D := D) (ci := 7) (v := .ref (ad 2)) (C := RX3) (T := TX3) (N := 11) hx hb hts inX3 hown hK hP 0 rfl rfl 1 (by decide) (hts _ q183) (fun _ h9 => h9) rfl dX3_commit_31 ?_
    obtain ⟨r4, h5, hf⟩ := bnd hf
    refine call_vi (rest := [.int r2]) (m_S_entryTotal_b l ca ad bq nF nO nL nA nC nV nU nP nE bF bO bL bA bC bV bU bP bE 0 cK cO cQ cD pT pK pR pW pU pI pC uO uF uE uN wK jM jN jZ jB R _ r4 h5) ⟨hx, hb, hml, hown, hts⟩ (cwV 0 hts (gV q228 q229 q230 q25 q231) rfl rfl rfl (by decide +kernel) ⟨Nat.le_of_ble_eq_true rfl, Nat.le_of_ble_eq_true rfl⟩) (va_recv hK hP (ci := 6) (q0 := 9) rfl rfl) hE hP hD hS hA rfl hl.1 rfl (lv_room (Nat.le_of_ble_eq_true rfl)) dX3_commit_34 ⟨Nat.le_of_ble_eq_true rfl, Nat.le_of_ble_eq_true rfl⟩ (fun H locs hP hD hS => ?_)
    refine lv_isub hx hb dX3_commit_37 ?_
    cases hf
    exact endx_i hAe hQm hx hb hr hlocks rfl hP hD hS dX3_commit_38 (Nat.le_of_ble_eq_true rfl) (Nat.le_of_ble_eq_true rfl)
  · have hf := br_pos c1 hf
    cases hf
    exact endx_throwW 2 rfl hAe hQm hst hx hb hts hE hown htab hlocks (by decide +kernel) q365 q39 sl16 at73 hZ (hl.1.trans hml.symm) hP hD hS dX3_commit_7 dX3_commit_10 dX3_commit_11 dX3_commit_14 dX3_commit_17 (Nat.le_of_ble_eq_true rfl) (Nat.le_of_ble_eq_true rfl) (Nat.le_of_ble_eq_true rfl) (Nat.le_of_ble_eq_true rfl) (Nat.le_of_ble_eq_true rfl) (Nat.le_of_ble_eq_true rfl)
def f_C_crash (nF : Int32) (nO : Nat → Int32) (nL : Nat → Int32) (nA : Nat → Int32) (nC : Nat → Int32) (nV : Nat → Int32) (nU : Nat → Int32) (nP : Nat → Int32) (nE : Int32) (bF : Int32) (bO : Nat → Int32) (bL : Nat → Int32) (bA : Nat → Int32) (bC : Nat → Int32) (bV : Nat → Int32) (bU : Nat → Int32) (bP : Nat → Int32) (bE : Int32) (cT : Int32) : Option (Int32 × Int32 × (Nat → Int32) × (Nat → Int32) × (Nat → Int32) × (Nat → Int32) × (Nat → Int32) × (Nat → Int32) × (Nat → Int32) × Int32 × Int32) :=
  if cT = 0 then
    some (0, nF, nO, nL, nA, nC, nV, nU, nP, nE, cT)
  else
    (f_S_entryTotal nE).bind fun r2 =>
    (f_S_entryTotal_b bE).bind fun r4 =>
    (f_S_copyFrom nO nL nA nC nV nU nP bF bO bL bA bC bV bU bP bE).bind fun (nF_6, nO_7, nL_8, nA_9, nC_10, nV_11, nU_12, nP_13, nE_14) =>
    some ((r2 - r4), nF_6, nO_7, nL_8, nA_9, nC_10, nV_11, nU_12, nP_13, nE_14, 0)
set_option maxHeartbeats 4000000 in
set_option maxRecDepth 100000 in
theorem m_C_crash (l : Launch) {D : va_G} {sl : List (String × Nat × String)} (ca : Nat → ClassId) (ad : Nat → Nat) (bq : Nat) (nF : Int32) (nO : Nat → Int32) (nL : Nat → Int32) (nA : Nat → Int32) (nC : Nat → Int32) (nV : Nat → Int32) (nU : Nat → Int32) (nP : Nat → Int32) (nE : Int32) (bF : Int32) (bO : Nat → Int32) (bL : Nat → Int32) (bA : Nat → Int32) (bC : Nat → Int32) (bV : Nat → Int32) (bU : Nat → Int32) (bP : Nat → Int32) (bE : Int32) (cT : Int32) (cK : Nat → Int32) (cO : Int32) (cQ : Nat → Int32) (cD : Int32) (pT : Int32) (pK : Int32) (pR : Nat → Int32) (pW : Nat → Int32) (pU : Nat → Int32) (pI : Nat → Int32) (pC : Nat → Nat → Int32) (uO : Int32) (uF : Nat → Int32) (uE : Nat → Int32) (uN : Nat → Int32) (wK : Nat → Int32) (jM : Int32) (jN : Int32) (jZ : Nat) (jB : Nat → Int32) (R : va_W) (sz : Nat) (ro : Int32) (onF : Int32) (onO : Nat → Int32) (onL : Nat → Int32) (onA : Nat → Int32) (onC : Nat → Int32) (onV : Nat → Int32) (onU : Nat → Int32) (onP : Nat → Int32) (onE : Int32) (ocT : Int32) (hf : f_C_crash nF nO nL nA nC nV nU nP nE bF bO bL bA bC bV bU bP bE cT = some (ro, onF, onO, onL, onA, onC, onV, onU, onP, onE, ocT)) : Met l yX3_crash (wm yX3_crash cX3_crash 2 (some .int)) ({ frames := 2, cells := 0, slots := 0, locals := 82 } : Room) (PRE [.ref (ad 0)] D ca sl (WC ca ad bq nF nO nL nA nC nV nU nP nE bF bO bL bA bC bV bU bP bE cT cK cO cQ cD pT pK pR pW pU pI pC uO uF uE uN wK jM jN jZ jB ++ R) sz) (QI ro D (WC ca ad bq onF onO onL onA onC onV onU onP onE bF bO bL bA bC bV bU bP bE ocT cK cO cQ cD pT pK pR pW pU pI pC uO uF uE uN wK jM jN jZ jB ++ R) (WC ca ad bq nF nO nL nA nC nV nU nP nE bF bO bL bA bC bV bU bP bE cT cK cO cQ cD pT pK pR pW pU pI pC uO uF uE uN wK jM jN jZ jB ++ R) sz) 0 0 (va_A (WC ca ad bq nF nO nL nA nC nV nU nP nE bF bO bL bA bC bV bU bP bE cT cK cO cQ cD pT pK pR pW pU pI pC uO uF uE uN wK jM jN jZ jB ++ R) sz) := by
  refine Met.ofW (cc := cX3_crash) (maxL := 2) (ret := (some .int)) (by decide) rfl ?_
  intro p e s m args below meth c s₁ B hml hv
  obtain ⟨rfl, rfl, hP, hE, hD0⟩ := hv
  have hx := B.exec
  have hb := B.bytes
  have hr := B.returns
  have hts := wm_ww (atoms_spec (ws := wm yX3_crash cX3_crash 2 (some .int)) B.pre)
  have hown : s.vm.findClass RX3 = some m.cls := findClass_of_methodNamed B.named
  have hlocks := B.notSynchronized
  have hK := hE.1
  have hD := hD0.self (sz := s.heap.size)
  generalize hAe : va_A (WC ca ad bq nF nO nL nA nC nV nU nP nE bF bO bL bA bC bV bU bP bE cT cK cO cQ cD pT pK pR pW pU pI pC uO uF uE uN wK jM jN jZ jB ++ R) s.heap.size = A at hD ⊢
  have hA : ∀ q : Nat, s.heap.size ≤ q → A q := fun q h => by rw [← hAe]; exact Or.inr h
  have hS : va_S A s.heap s.heap [] := va_S.rf
  have hl := lv_entry ([.ref (ad 0)]) (n := 2) (Nat.le_of_ble_eq_true rfl)
  rw [lg_entry_eq]
  generalize (lg_sl ([.ref (ad 0)]) ++ List.replicate (2 - (lg_sl ([.ref (ad 0)])).length) Slot.unset).toArray = ls at hl ⊢
  have hl : lv_has ls 2 [(0, .ref (ad 0))] := hl
  change W p l e ({ frames := 2, cells := 0, slots := 0, locals := 82 } : Room) s m _ below meth c s.heap [] 0 0 _ _
  generalize hQm : MQ below (QI ro D (WC ca ad bq onF onO onL onA onC onV onU onP onE bF bO bL bA bC bV bU bP bE ocT cK cO cQ cD pT pK pR pW pU pI pC uO uF uE uN wK jM jN jZ jB ++ R) (WC ca ad bq nF nO nL nA nC nV nU nP nE bF bO bL bA bC bV bU bP bE cT cK cO cQ cD pT pK pR pW pU pI pC uO uF uE uN wK jM jN jZ jB ++ R) s.heap.size) _ s 0 0 A = Qm
  have hP : va_P D vwCl (WC ca ad bq nF nO nL nA nC nV nU nP nE bF bO bL bA bC bV bU bP bE cT cK cO cQ cD pT pK pR pW pU pI pC uO uF uE uN wK jM jN jZ jB ++ R) s.heap := hP
  generalize hae : ([.ref (ad 0)] : List Value).toArray = args at hts hQm ⊢
  refine lv_aload_n hx hb dX3_crash_0 rfl (lv_at hl 0 rfl) ?_
  refine va_get (D := D) (ci := 7) (v := .int cT) (C := RX3) (T := TX3) (N := 11) hx hb hts inX3 hown hK hP 0 rfl rfl 2 (by decide) (hts _ q184) (fun _ h9 => h9) rfl dX3_crash_1 ?_
  refine lv_if_ne (tgt := 9) hx hb dX3_crash_4 (by decide) (fun c1 => ?_) (fun c1 => ?_)
  · have hf := br_neg c1 hf
    refine lv_aload_n hx hb dX3_crash_9 rfl (lv_at hl 0 rfl) ?_
    refine va_get (D := D) (ci := 7) (v := .ref (ad 1)) (C := RX3) (T := TX3) (N := 11) hx hb hts inX3 hown hK hP 0 rfl rfl 0 (by decide) (hts _ q182) (fun _ h9 => h9) rfl dX3_crash_10 ?_
    obtain ⟨r2, h3, hf⟩ := bnd hf
    refine call_vi (rest := []) (m_S_entryTotal l ca ad bq nF nO nL nA nC nV nU nP nE bF bO bL bA bC bV bU bP bE cT cK cO cQ cD pT pK pR pW pU pI pC uO uF uE uN wK jM jN jZ jB R _ r2 h3) ⟨hx, hb, hml, hown, hts⟩ (cwV 0 hts (gV q228 q229 q230 q25 q231) rfl rfl rfl (by decide +kernel) ⟨Nat.le_of_ble_eq_true rfl, Nat.le_of_ble_eq_true rfl⟩) (va_recv hK hP (ci := 6) (q0 := 1) rfl rfl) hE hP hD hS hA rfl hl.1 rfl (lv_room (Nat.le_of_ble_eq_true rfl)) dX3_crash_13 ⟨Nat.le_of_ble_eq_true rfl, Nat.le_of_ble_eq_true rfl⟩ (fun H locs hP hD hS => ?_)
    refine lv_aload_n hx hb dX3_crash_16 rfl (lv_at hl 0 rfl) ?_
    refine va_get (D := D) (ci := 7) (v := .ref (ad 2)) (C := RX3) (T := TX3) (N := 11) hx hb hts inX3 hown hK hP 0 rfl rfl 1 (by decide) (hts _ q183) (fun _ h9 => h9) rfl dX3_crash_17 ?_
    obtain ⟨r4, h5, hf⟩ := bnd hf
    refine call_vi (rest := [.int r2]) (m_S_entryTotal_b l ca ad bq nF nO nL nA nC nV nU nP nE bF bO bL bA bC bV bU bP bE cT cK cO cQ cD pT pK pR pW pU pI pC uO uF uE uN wK jM jN jZ jB R _ r4 h5) ⟨hx, hb, hml, hown, hts⟩ (cwV 0 hts (gV q228 q229 q230 q25 q231) rfl rfl rfl (by decide +kernel) ⟨Nat.le_of_ble_eq_true rfl, Nat.le_of_ble_eq_true rfl⟩) (va_recv hK hP (ci := 6) (q0 := 9) rfl rfl) hE hP hD hS hA rfl hl.1 rfl (lv_room (Nat.le_of_ble_eq_true rfl)) dX3_crash_20 ⟨Nat.le_of_ble_eq_true rfl, Nat.le_of_ble_eq_true rfl⟩ (fun H locs hP hD hS => ?_)
    refine lv_isub hx hb dX3_crash_23 ?_
    refine lv_istore_n (lv' := [(1, .int (r2 - r4)), (0, .ref (ad 0))]) hx hb dX3_crash_24 rfl hl (by decide) rfl (fun ls hl => ?_)
    refine lv_aload_n hx hb dX3_crash_25 rfl (lv_at hl 1 rfl) ?_
    refine va_get (D := D) (ci := 7) (v := .ref (ad 1)) (C := RX3) (T := TX3) (N := 11) hx hb hts inX3 hown hK hP 0 rfl rfl 0 (by decide) (hts _ q182) (fun _ h9 => h9) rfl dX3_crash_26 ?_
    refine lv_aload_n hx hb dX3_crash_29 rfl (lv_at hl 1 rfl) ?_
    refine va_get (D := D) (ci := 7) (v := .ref (ad 2)) (C := RX3) (T := TX3) (N := 11) hx hb hts inX3 hown hK hP 0 rfl rfl 1 (by decide) (hts _ q183) (fun _ h9 => h9) rfl dX3_crash_30 ?_
    obtain ⟨⟨nF_6, nO_7, nL_8, nA_9, nC_10, nV_11, nU_12, nP_13, nE_14⟩, h15, hf⟩ := bnd hf
    refine call_vv (rest := []) (m_S_copyFrom l ca ad bq nF nO nL nA nC nV nU nP nE bF bO bL bA bC bV bU bP bE cT cK cO cQ cD pT pK pR pW pU pI pC uO uF uE uN wK jM jN jZ jB R _ nF_6 nO_7 nL_8 nA_9 nC_10 nV_11 nU_12 nP_13 nE_14 h15) ⟨hx, hb, hml, hown, hts⟩ (cwV 1 hts (gV q232 q233 q234 q25 q235) rfl rfl rfl (by decide +kernel) ⟨Nat.le_of_ble_eq_true rfl, Nat.le_of_ble_eq_true rfl⟩) (va_recv hK hP (ci := 6) (q0 := 1) rfl rfl) hE hP hD hS hA rfl hl.1 rfl (lv_room (Nat.le_of_ble_eq_true rfl)) dX3_crash_33 ⟨Nat.le_of_ble_eq_true rfl, Nat.le_of_ble_eq_true rfl⟩ (fun H locs hP hD hS => ?_)
    refine lv_aload_n hx hb dX3_crash_36 rfl (lv_at hl 1 rfl) ?_
    refine lv_iconst (v := 0) hx hb dX3_crash_37 (by decide) ?_
    refine va_put (D := D) (ci := 7) (v := .int 0) (ty := .boolean) (C := RX3) (T := TX3) (N := 11) hx hb hts inX3 tyX3 tyX3_ok nmX3 hown hK hP hD hS 0 rfl rfl 2 (by decide) (hts _ q184) (fun _ h9 => h9) rfl (by decide +kernel) rfl rfl (Nat.le_of_ble_eq_true rfl) dX3_crash_38 (fun H locs hP hD hS => ?_)
    have hP : va_P D vwCl (WC ca ad bq nF_6 nO_7 nL_8 nA_9 nC_10 nV_11 nU_12 nP_13 nE_14 bF bO bL bA bC bV bU bP bE 0 cK cO cQ cD pT pK pR pW pU pI pC uO uF uE uN wK jM jN jZ jB ++ R) H := hP
    have hD : va_D A (WC ca ad bq nF_6 nO_7 nL_8 nA_9 nC_10 nV_11 nU_12 nP_13 nE_14 bF bO bL bA bC bV bU bP bE 0 cK cO cQ cD pT pK pR pW pU pI pC uO uF uE uN wK jM jN jZ jB ++ R) := hD
    refine lv_iload_n hx hb dX3_crash_41 rfl (lv_at hl 0 rfl) ?_
    cases hf
    exact end_i hAe hQm hx hb hr hlocks rfl hP hD hS dX3_crash_42
  · have hf := br_pos c1 hf
    refine lv_iconst (v := 0) hx hb dX3_crash_7 (by decide) ?_
    cases hf
    exact end_i hAe hQm hx hb hr hlocks rfl hP hD hS dX3_crash_8
def f_C_journalSize (nE : Int32) : Option (Int32) :=
  (f_S_entryTotal nE).bind fun r1 =>
  some r1
set_option maxHeartbeats 4000000 in
set_option maxRecDepth 100000 in
theorem m_C_journalSize (l : Launch) {D : va_G} {sl : List (String × Nat × String)} (ca : Nat → ClassId) (ad : Nat → Nat) (bq : Nat) (nF : Int32) (nO : Nat → Int32) (nL : Nat → Int32) (nA : Nat → Int32) (nC : Nat → Int32) (nV : Nat → Int32) (nU : Nat → Int32) (nP : Nat → Int32) (nE : Int32) (bF : Int32) (bO : Nat → Int32) (bL : Nat → Int32) (bA : Nat → Int32) (bC : Nat → Int32) (bV : Nat → Int32) (bU : Nat → Int32) (bP : Nat → Int32) (bE : Int32) (cT : Int32) (cK : Nat → Int32) (cO : Int32) (cQ : Nat → Int32) (cD : Int32) (pT : Int32) (pK : Int32) (pR : Nat → Int32) (pW : Nat → Int32) (pU : Nat → Int32) (pI : Nat → Int32) (pC : Nat → Nat → Int32) (uO : Int32) (uF : Nat → Int32) (uE : Nat → Int32) (uN : Nat → Int32) (wK : Nat → Int32) (jM : Int32) (jN : Int32) (jZ : Nat) (jB : Nat → Int32) (R : va_W) (sz : Nat) (ro : Int32) (hf : f_C_journalSize nE = some ro) : Met l yX3_journalSize (wm yX3_journalSize cX3_journalSize 1 (some .int)) ({ frames := 1, cells := 0, slots := 0, locals := 20 } : Room) (PRE [.ref (ad 0)] D ca sl (WC ca ad bq nF nO nL nA nC nV nU nP nE bF bO bL bA bC bV bU bP bE cT cK cO cQ cD pT pK pR pW pU pI pC uO uF uE uN wK jM jN jZ jB ++ R) sz) (QI ro D (WC ca ad bq nF nO nL nA nC nV nU nP nE bF bO bL bA bC bV bU bP bE cT cK cO cQ cD pT pK pR pW pU pI pC uO uF uE uN wK jM jN jZ jB ++ R) (WC ca ad bq nF nO nL nA nC nV nU nP nE bF bO bL bA bC bV bU bP bE cT cK cO cQ cD pT pK pR pW pU pI pC uO uF uE uN wK jM jN jZ jB ++ R) sz) 0 0 (va_A (WC ca ad bq nF nO nL nA nC nV nU nP nE bF bO bL bA bC bV bU bP bE cT cK cO cQ cD pT pK pR pW pU pI pC uO uF uE uN wK jM jN jZ jB ++ R) sz) := by
  refine Met.ofW (cc := cX3_journalSize) (maxL := 1) (ret := (some .int)) (by decide) rfl ?_
  intro p e s m args below meth c s₁ B hml hv
  obtain ⟨rfl, rfl, hP, hE, hD0⟩ := hv
  have hx := B.exec
  have hb := B.bytes
  have hr := B.returns
  have hts := wm_ww (atoms_spec (ws := wm yX3_journalSize cX3_journalSize 1 (some .int)) B.pre)
  have hown : s.vm.findClass RX3 = some m.cls := findClass_of_methodNamed B.named
  have hlocks := B.notSynchronized
  have hK := hE.1
  have hD := hD0.self (sz := s.heap.size)
  generalize hAe : va_A (WC ca ad bq nF nO nL nA nC nV nU nP nE bF bO bL bA bC bV bU bP bE cT cK cO cQ cD pT pK pR pW pU pI pC uO uF uE uN wK jM jN jZ jB ++ R) s.heap.size = A at hD ⊢
  have hA : ∀ q : Nat, s.heap.size ≤ q → A q := fun q h => by rw [← hAe]; exact Or.inr h
  have hS : va_S A s.heap s.heap [] := va_S.rf
  have hl := lv_entry ([.ref (ad 0)]) (n := 1) (Nat.le_of_ble_eq_true rfl)
  rw [lg_entry_eq]
  generalize (lg_sl ([.ref (ad 0)]) ++ List.replicate (1 - (lg_sl ([.ref (ad 0)])).length) Slot.unset).toArray = ls at hl ⊢
  have hl : lv_has ls 1 [(0, .ref (ad 0))] := hl
  change W p l e ({ frames := 1, cells := 0, slots := 0, locals := 20 } : Room) s m _ below meth c s.heap [] 0 0 _ _
  generalize hQm : MQ below (QI ro D (WC ca ad bq nF nO nL nA nC nV nU nP nE bF bO bL bA bC bV bU bP bE cT cK cO cQ cD pT pK pR pW pU pI pC uO uF uE uN wK jM jN jZ jB ++ R) (WC ca ad bq nF nO nL nA nC nV nU nP nE bF bO bL bA bC bV bU bP bE cT cK cO cQ cD pT pK pR pW pU pI pC uO uF uE uN wK jM jN jZ jB ++ R) s.heap.size) _ s 0 0 A = Qm
  have hP : va_P D vwCl (WC ca ad bq nF nO nL nA nC nV nU nP nE bF bO bL bA bC bV bU bP bE cT cK cO cQ cD pT pK pR pW pU pI pC uO uF uE uN wK jM jN jZ jB ++ R) s.heap := hP
  generalize hae : ([.ref (ad 0)] : List Value).toArray = args at hts hQm ⊢
  refine lv_aload_n hx hb dX3_journalSize_0 rfl (lv_at hl 0 rfl) ?_
  refine va_get (D := D) (ci := 7) (v := .ref (ad 1)) (C := RX3) (T := TX3) (N := 11) hx hb hts inX3 hown hK hP 0 rfl rfl 0 (by decide) (hts _ q182) (fun _ h9 => h9) rfl dX3_journalSize_1 ?_
  obtain ⟨r1, h2, hf⟩ := bnd hf
  refine call_vi (rest := []) (m_S_entryTotal l ca ad bq nF nO nL nA nC nV nU nP nE bF bO bL bA bC bV bU bP bE cT cK cO cQ cD pT pK pR pW pU pI pC uO uF uE uN wK jM jN jZ jB R _ r1 h2) ⟨hx, hb, hml, hown, hts⟩ (cwV 0 hts (gV q228 q229 q230 q25 q231) rfl rfl rfl (by decide +kernel) ⟨Nat.le_of_ble_eq_true rfl, Nat.le_of_ble_eq_true rfl⟩) (va_recv hK hP (ci := 6) (q0 := 1) rfl rfl) hE hP hD hS hA rfl hl.1 rfl (lv_room (Nat.le_of_ble_eq_true rfl)) dX3_journalSize_4 ⟨Nat.le_of_ble_eq_true rfl, Nat.le_of_ble_eq_true rfl⟩ (fun H locs hP hD hS => ?_)
  cases hf
  exact end_i hAe hQm hx hb hr hlocks rfl hP hD hS dX3_journalSize_7
def f_C_areUsersAsWalked_L6 : Nat → Int32 → (Nat → Int32) → (Nat → Int32) → Option (Int32 × (Nat → Int32))
  | 0, _, _, _ => none
  | fuel + 1, v1, nU, wK =>
    if 64 ≤ v1 then
      some (1, wK)
    else
      if v1 < 0 ∨ 64 ≤ v1.toNatClampNeg then none else
        (f_S_userTotal v1 nU).bind fun r10 =>
      if (wK v1.toNatClampNeg) = r10 then
        f_C_areUsersAsWalked_L6 fuel (v1 + 1) nU wK
      else
        some (0, wK)
def f_C_areUsersAsWalked (nF : Int32) (nC : Nat → Int32) (nU : Nat → Int32) (pU : Nat → Int32) (pI : Nat → Int32) (pC : Nat → Nat → Int32) (wK : Nat → Int32) : Option (Int32 × (Nat → Int32)) :=
  (f_C_walkUsers nF nC pU pI pC wK).bind fun wK_1 =>
  f_C_areUsersAsWalked_L6 FU 0 nU wK_1
set_option maxHeartbeats 4000000 in
set_option maxRecDepth 100000 in
theorem m_C_areUsersAsWalked (l : Launch) {D : va_G} {sl : List (String × Nat × String)} (ca : Nat → ClassId) (ad : Nat → Nat) (bq : Nat) (nF : Int32) (nO : Nat → Int32) (nL : Nat → Int32) (nA : Nat → Int32) (nC : Nat → Int32) (nV : Nat → Int32) (nU : Nat → Int32) (nP : Nat → Int32) (nE : Int32) (bF : Int32) (bO : Nat → Int32) (bL : Nat → Int32) (bA : Nat → Int32) (bC : Nat → Int32) (bV : Nat → Int32) (bU : Nat → Int32) (bP : Nat → Int32) (bE : Int32) (cT : Int32) (cK : Nat → Int32) (cO : Int32) (cQ : Nat → Int32) (cD : Int32) (pT : Int32) (pK : Int32) (pR : Nat → Int32) (pW : Nat → Int32) (pU : Nat → Int32) (pI : Nat → Int32) (pC : Nat → Nat → Int32) (uO : Int32) (uF : Nat → Int32) (uE : Nat → Int32) (uN : Nat → Int32) (wK : Nat → Int32) (jM : Int32) (jN : Int32) (jZ : Nat) (jB : Nat → Int32) (R : va_W) (sz : Nat) (ro : Int32) (owK : Nat → Int32) (hf : f_C_areUsersAsWalked nF nC nU pU pI pC wK = some (ro, owK)) : Met l yX3_areUsersAsWalked (wm yX3_areUsersAsWalked cX3_areUsersAsWalked 2 (some .boolean)) ({ frames := 4, cells := 0, slots := 0, locals := 86 } : Room) (PRE [.ref (ad 0)] D ca sl (WC ca ad bq nF nO nL nA nC nV nU nP nE bF bO bL bA bC bV bU bP bE cT cK cO cQ cD pT pK pR pW pU pI pC uO uF uE uN wK jM jN jZ jB ++ R) sz) (QI ro D (WC ca ad bq nF nO nL nA nC nV nU nP nE bF bO bL bA bC bV bU bP bE cT cK cO cQ cD pT pK pR pW pU pI pC uO uF uE uN owK jM jN jZ jB ++ R) (WC ca ad bq nF nO nL nA nC nV nU nP nE bF bO bL bA bC bV bU bP bE cT cK cO cQ cD pT pK pR pW pU pI pC uO uF uE uN wK jM jN jZ jB ++ R) sz) 0 0 (va_A (WC ca ad bq nF nO nL nA nC nV nU nP nE bF bO bL bA bC bV bU bP bE cT cK cO cQ cD pT pK pR pW pU pI pC uO uF uE uN wK jM jN jZ jB ++ R) sz) := by
  refine Met.ofW (cc := cX3_areUsersAsWalked) (maxL := 2) (ret := (some .boolean)) (by decide) rfl ?_
  intro p e s m args below meth c s₁ B hml hv
  obtain ⟨rfl, rfl, hP, hE, hD0⟩ := hv
  have hx := B.exec
  have hb := B.bytes
  have hr := B.returns
  have hts := wm_ww (atoms_spec (ws := wm yX3_areUsersAsWalked cX3_areUsersAsWalked 2 (some .boolean)) B.pre)
  have hown : s.vm.findClass RX3 = some m.cls := findClass_of_methodNamed B.named
  have hlocks := B.notSynchronized
  have hK := hE.1
  have hD := hD0.self (sz := s.heap.size)
  generalize hAe : va_A (WC ca ad bq nF nO nL nA nC nV nU nP nE bF bO bL bA bC bV bU bP bE cT cK cO cQ cD pT pK pR pW pU pI pC uO uF uE uN wK jM jN jZ jB ++ R) s.heap.size = A at hD ⊢
  have hA : ∀ q : Nat, s.heap.size ≤ q → A q := fun q h => by rw [← hAe]; exact Or.inr h
  have hS : va_S A s.heap s.heap [] := va_S.rf
  have hl := lv_entry ([.ref (ad 0)]) (n := 2) (Nat.le_of_ble_eq_true rfl)
  rw [lg_entry_eq]
  generalize (lg_sl ([.ref (ad 0)]) ++ List.replicate (2 - (lg_sl ([.ref (ad 0)])).length) Slot.unset).toArray = ls at hl ⊢
  have hl : lv_has ls 2 [(0, .ref (ad 0))] := hl
  change W p l e ({ frames := 4, cells := 0, slots := 0, locals := 86 } : Room) s m _ below meth c s.heap [] 0 0 _ _
  generalize hQm : MQ below (QI ro D (WC ca ad bq nF nO nL nA nC nV nU nP nE bF bO bL bA bC bV bU bP bE cT cK cO cQ cD pT pK pR pW pU pI pC uO uF uE uN owK jM jN jZ jB ++ R) (WC ca ad bq nF nO nL nA nC nV nU nP nE bF bO bL bA bC bV bU bP bE cT cK cO cQ cD pT pK pR pW pU pI pC uO uF uE uN wK jM jN jZ jB ++ R) s.heap.size) _ s 0 0 A = Qm
  have hP : va_P D vwCl (WC ca ad bq nF nO nL nA nC nV nU nP nE bF bO bL bA bC bV bU bP bE cT cK cO cQ cD pT pK pR pW pU pI pC uO uF uE uN wK jM jN jZ jB ++ R) s.heap := hP
  generalize hae : ([.ref (ad 0)] : List Value).toArray = args at hts hQm ⊢
  have L6 : ∀ (n : Nat) (v1 : Int32) (wK : Nat → Int32), f_C_areUsersAsWalked_L6 n v1 nU wK = some (ro, owK) → ∀ (H : Heap) (locs : List Loc) (ls : Array Slot), va_P D vwCl (WC ca ad bq nF nO nL nA nC nV nU nP nE bF bO bL bA bC bV bU bP bE cT cK cO cQ cD pT pK pR pW pU pI pC uO uF uE uN wK jM jN jZ jB ++ R) H → va_D A (WC ca ad bq nF nO nL nA nC nV nU nP nE bF bO bL bA bC bV bU bP bE cT cK cO cQ cD pT pK pR pW pU pI pC uO uF uE uN wK jM jN jZ jB ++ R) → va_S A s.heap H locs → lv_has ls 2 [(0, .ref (ad 0)), (1, .int v1)] → W p l e ({ frames := 4, cells := 0, slots := 0, locals := 86 } : Room) s m args below meth c H locs 0 0 Qm (F0 m 6 ls []) := by
    intro n
    induction n with
    | zero => intro v1 wK hf; cases hf
    | succ n ih =>
      intro v1 wK hf H locs ls hP hD hS hl
      unfold f_C_areUsersAsWalked_L6 at hf
      refine lv_iload_n hx hb dX3_areUsersAsWalked_6 rfl (lv_at hl 1 rfl) ?_
      refine lv_bipush (v := 64) hx hb dX3_areUsersAsWalked_7 (by decide) ?_
      refine lv_icmp_ge (tgt := 37) hx hb dX3_areUsersAsWalked_9 (by decide) (fun c8 => ?_) (fun c8 => ?_)
      · have hf := br_pos c8 hf
        refine lv_iconst (v := 1) hx hb dX3_areUsersAsWalked_37 (by decide) ?_
        cases hf
        exact end_i hAe hQm hx hb hr hlocks rfl hP hD hS dX3_areUsersAsWalked_38
      · have hf := br_neg c8 hf
        refine lv_aload_n hx hb dX3_areUsersAsWalked_12 rfl (lv_at hl 0 rfl) ?_
        refine va_get (D := D) (ci := 7) (v := .ref (ad 8)) (C := RX3) (T := TX3) (N := 11) hx hb hts inX3 hown hK hP 0 rfl rfl 10 (by decide) (hts _ q192) (fun _ h9 => h9) rfl dX3_areUsersAsWalked_13 ?_
        refine lv_iload_n hx hb dX3_areUsersAsWalked_16 rfl (lv_at hl 1 rfl) ?_
        obtain ⟨k9, hf⟩ := ck_not hf
        refine va_iald (D := D) hx hb hK hP 39 0 rfl rfl k9 dX3_areUsersAsWalked_17 ?_
        refine lv_aload_n hx hb dX3_areUsersAsWalked_18 rfl (lv_at hl 0 rfl) ?_
        refine va_get (D := D) (ci := 7) (v := .ref (ad 1)) (C := RX3) (T := TX3) (N := 11) hx hb hts inX3 hown hK hP 0 rfl rfl 0 (by decide) (hts _ q182) (fun _ h9 => h9) rfl dX3_areUsersAsWalked_19 ?_
        refine lv_iload_n hx hb dX3_areUsersAsWalked_22 rfl (lv_at hl 1 rfl) ?_
        obtain ⟨r10, h11, hf⟩ := bnd hf
        refine call_vi (rest := [.int (wK v1.toNatClampNeg)]) (m_S_userTotal l ca ad bq nF nO nL nA nC nV nU nP nE bF bO bL bA bC bV bU bP bE cT cK cO cQ cD pT pK pR pW pU pI pC uO uF uE uN wK jM jN jZ jB R _ v1 r10 h11) ⟨hx, hb, hml, hown, hts⟩ (cwV 1 hts (gV q512 q513 q514 q25 q515) rfl rfl rfl (by decide +kernel) ⟨Nat.le_of_ble_eq_true rfl, Nat.le_of_ble_eq_true rfl⟩) (va_recv hK hP (ci := 6) (q0 := 1) rfl rfl) hE hP hD hS hA rfl hl.1 rfl (lv_room (Nat.le_of_ble_eq_true rfl)) dX3_areUsersAsWalked_23 ⟨Nat.le_of_ble_eq_true rfl, Nat.le_of_ble_eq_true rfl⟩ (fun H locs hP hD hS => ?_)
        refine lv_icmp_eq (tgt := 31) hx hb dX3_areUsersAsWalked_26 (by decide) (fun c12 => ?_) (fun c12 => ?_)
        · have hf := br_pos c12 hf
          refine lv_iinc (v := (v1 + 1)) (lv' := [(1, .int (v1 + 1)), (0, .ref (ad 0))]) hx hb dX3_areUsersAsWalked_31 hl (k := 1) rfl rfl (by decide) rfl (fun ls hl => ?_)
          refine lv_goto (tgt := 6) hx hb dX3_areUsersAsWalked_34 (by decide) ?_
          exact ih (v1 + 1) wK hf _ _ _ hP hD hS (lv_sub hl [1, 0] rfl)
        · have hf := br_neg c12 hf
          refine lv_iconst (v := 0) hx hb dX3_areUsersAsWalked_29 (by decide) ?_
          cases hf
          exact end_i hAe hQm hx hb hr hlocks rfl hP hD hS dX3_areUsersAsWalked_30
  refine lv_aload_n hx hb dX3_areUsersAsWalked_0 rfl (lv_at hl 0 rfl) ?_
  obtain ⟨wK_1, h2, hf⟩ := bnd hf
  refine call_vv (rest := []) (m_C_walkUsers l ca ad bq nF nO nL nA nC nV nU nP nE bF bO bL bA bC bV bU bP bE cT cK cO cQ cD pT pK pR pW pU pI pC uO uF uE uN wK jM jN jZ jB R _ wK_1 h2) ⟨hx, hb, hml, hown, hts⟩ (cwV 0 hts (gV q650 q652 q13 q24 q653) rfl rfl rfl (by decide +kernel) ⟨Nat.le_of_ble_eq_true rfl, Nat.le_of_ble_eq_true rfl⟩) (va_recv hK hP (ci := 7) (q0 := 0) rfl rfl) hE hP hD hS hA rfl hl.1 rfl (lv_room (Nat.le_of_ble_eq_true rfl)) dX3_areUsersAsWalked_1 ⟨Nat.le_of_ble_eq_true rfl, Nat.le_of_ble_eq_true rfl⟩ (fun H locs hP hD hS => ?_)
  refine lv_iconst (v := 0) hx hb dX3_areUsersAsWalked_4 (by decide) ?_
  refine lv_istore_n (lv' := [(1, .int 0), (0, .ref (ad 0))]) hx hb dX3_areUsersAsWalked_5 rfl hl (by decide) rfl (fun ls hl => ?_)
  exact L6 FU 0 wK_1 hf _ _ _ hP hD hS (lv_sub hl [1, 0] rfl)
def f_C_areHeldFilesAlive_L2 : Nat → Int32 → Int32 → (Nat → Int32) → Int32 → (Nat → Int32) → (Nat → Int32) → Option (Int32)
  | 0, _, _, _, _, _, _ => none
  | fuel + 1, v1, nF, nA, uO, uF, uN =>
    if 30 ≤ v1 then
      some 1
    else
      (f_H_isStillOpen v1 uO uN).bind fun r11 =>
      if r11 = 0 then
        f_C_areHeldFilesAlive_L2 fuel (v1 + 1) nF nA uO uF uN
      else
        (f_H_fileOf v1 uO uF).bind fun r14 =>
        (f_S_isAlive r14 nF nA).bind fun r16 =>
        if r16 = 0 then
          some 0
        else
          f_C_areHeldFilesAlive_L2 fuel (v1 + 1) nF nA uO uF uN
def f_C_areHeldFilesAlive (nF : Int32) (nA : Nat → Int32) (uO : Int32) (uF : Nat → Int32) (uN : Nat → Int32) : Option (Int32) :=
  f_C_areHeldFilesAlive_L2 FU 0 nF nA uO uF uN
set_option maxHeartbeats 4000000 in
set_option maxRecDepth 100000 in
theorem m_C_areHeldFilesAlive (l : Launch) {D : va_G} {sl : List (String × Nat × String)} (ca : Nat → ClassId) (ad : Nat → Nat) (bq : Nat) (nF : Int32) (nO : Nat → Int32) (nL : Nat → Int32) (nA : Nat → Int32) (nC : Nat → Int32) (nV : Nat → Int32) (nU : Nat → Int32) (nP : Nat → Int32) (nE : Int32) (bF : Int32) (bO : Nat → Int32) (bL : Nat → Int32) (bA : Nat → Int32) (bC : Nat → Int32) (bV : Nat → Int32) (bU : Nat → Int32) (bP : Nat → Int32) (bE : Int32) (cT : Int32) (cK : Nat → Int32) (cO : Int32) (cQ : Nat → Int32) (cD : Int32) (pT : Int32) (pK : Int32) (pR : Nat → Int32) (pW : Nat → Int32) (pU : Nat → Int32) (pI : Nat → Int32) (pC : Nat → Nat → Int32) (uO : Int32) (uF : Nat → Int32) (uE : Nat → Int32) (uN : Nat → Int32) (wK : Nat → Int32) (jM : Int32) (jN : Int32) (jZ : Nat) (jB : Nat → Int32) (R : va_W) (sz : Nat) (ro : Int32) (hf : f_C_areHeldFilesAlive nF nA uO uF uN = some ro) : Met l yX3_areHeldFilesAlive (wm yX3_areHeldFilesAlive cX3_areHeldFilesAlive 2 (some .boolean)) ({ frames := 2, cells := 0, slots := 0, locals := 42 } : Room) (PRE [.ref (ad 0)] D ca sl (WC ca ad bq nF nO nL nA nC nV nU nP nE bF bO bL bA bC bV bU bP bE cT cK cO cQ cD pT pK pR pW pU pI pC uO uF uE uN wK jM jN jZ jB ++ R) sz) (QI ro D (WC ca ad bq nF nO nL nA nC nV nU nP nE bF bO bL bA bC bV bU bP bE cT cK cO cQ cD pT pK pR pW pU pI pC uO uF uE uN wK jM jN jZ jB ++ R) (WC ca ad bq nF nO nL nA nC nV nU nP nE bF bO bL bA bC bV bU bP bE cT cK cO cQ cD pT pK pR pW pU pI pC uO uF uE uN wK jM jN jZ jB ++ R) sz) 0 0 (va_A (WC ca ad bq nF nO nL nA nC nV nU nP nE bF bO bL bA bC bV bU bP bE cT cK cO cQ cD pT pK pR pW pU pI pC uO uF uE uN wK jM jN jZ jB ++ R) sz) := by
  refine Met.ofW (cc := cX3_areHeldFilesAlive) (maxL := 2) (ret := (some .boolean)) (by decide) rfl ?_
  intro p e s m args below meth c s₁ B hml hv
  obtain ⟨rfl, rfl, hP, hE, hD0⟩ := hv
  have hx := B.exec
  have hb := B.bytes
  have hr := B.returns
  have hts := wm_ww (atoms_spec (ws := wm yX3_areHeldFilesAlive cX3_areHeldFilesAlive 2 (some .boolean)) B.pre)
  have hown : s.vm.findClass RX3 = some m.cls := findClass_of_methodNamed B.named
  have hlocks := B.notSynchronized
  have hK := hE.1
  have hD := hD0.self (sz := s.heap.size)
  generalize hAe : va_A (WC ca ad bq nF nO nL nA nC nV nU nP nE bF bO bL bA bC bV bU bP bE cT cK cO cQ cD pT pK pR pW pU pI pC uO uF uE uN wK jM jN jZ jB ++ R) s.heap.size = A at hD ⊢
  have hA : ∀ q : Nat, s.heap.size ≤ q → A q := fun q h => by rw [← hAe]; exact Or.inr h
  have hS : va_S A s.heap s.heap [] := va_S.rf
  have hl := lv_entry ([.ref (ad 0)]) (n := 2) (Nat.le_of_ble_eq_true rfl)
  rw [lg_entry_eq]
  generalize (lg_sl ([.ref (ad 0)]) ++ List.replicate (2 - (lg_sl ([.ref (ad 0)])).length) Slot.unset).toArray = ls at hl ⊢
  have hl : lv_has ls 2 [(0, .ref (ad 0))] := hl
  change W p l e ({ frames := 2, cells := 0, slots := 0, locals := 42 } : Room) s m _ below meth c s.heap [] 0 0 _ _
  generalize hQm : MQ below (QI ro D (WC ca ad bq nF nO nL nA nC nV nU nP nE bF bO bL bA bC bV bU bP bE cT cK cO cQ cD pT pK pR pW pU pI pC uO uF uE uN wK jM jN jZ jB ++ R) (WC ca ad bq nF nO nL nA nC nV nU nP nE bF bO bL bA bC bV bU bP bE cT cK cO cQ cD pT pK pR pW pU pI pC uO uF uE uN wK jM jN jZ jB ++ R) s.heap.size) _ s 0 0 A = Qm
  have hP : va_P D vwCl (WC ca ad bq nF nO nL nA nC nV nU nP nE bF bO bL bA bC bV bU bP bE cT cK cO cQ cD pT pK pR pW pU pI pC uO uF uE uN wK jM jN jZ jB ++ R) s.heap := hP
  generalize hae : ([.ref (ad 0)] : List Value).toArray = args at hts hQm ⊢
  have L2 : ∀ (n : Nat) (v1 : Int32), f_C_areHeldFilesAlive_L2 n v1 nF nA uO uF uN = some ro → ∀ (H : Heap) (locs : List Loc) (ls : Array Slot), va_P D vwCl (WC ca ad bq nF nO nL nA nC nV nU nP nE bF bO bL bA bC bV bU bP bE cT cK cO cQ cD pT pK pR pW pU pI pC uO uF uE uN wK jM jN jZ jB ++ R) H → va_D A (WC ca ad bq nF nO nL nA nC nV nU nP nE bF bO bL bA bC bV bU bP bE cT cK cO cQ cD pT pK pR pW pU pI pC uO uF uE uN wK jM jN jZ jB ++ R) → va_S A s.heap H locs → lv_has ls 2 [(0, .ref (ad 0)), (1, .int v1)] → W p l e ({ frames := 2, cells := 0, slots := 0, locals := 42 } : Room) s m args below meth c H locs 0 0 Qm (F0 m 2 ls []) := by
    intro n
    induction n with
    | zero => intro v1 hf; cases hf
    | succ n ih =>
      intro v1 hf H locs ls hP hD hS hl
      unfold f_C_areHeldFilesAlive_L2 at hf
      refine lv_iload_n hx hb dX3_areHeldFilesAlive_2 rfl (lv_at hl 1 rfl) ?_
      refine lv_bipush (v := 30) hx hb dX3_areHeldFilesAlive_3 (by decide) ?_
      refine lv_icmp_ge (tgt := 45) hx hb dX3_areHeldFilesAlive_5 (by decide) (fun c10 => ?_) (fun c10 => ?_)
      · have hf := br_pos c10 hf
        refine lv_iconst (v := 1) hx hb dX3_areHeldFilesAlive_45 (by decide) ?_
        cases hf
        exact end_i hAe hQm hx hb hr hlocks rfl hP hD hS dX3_areHeldFilesAlive_46
      · have hf := br_neg c10 hf
        refine lv_aload_n hx hb dX3_areHeldFilesAlive_8 rfl (lv_at hl 0 rfl) ?_
        refine va_get (D := D) (ci := 7) (v := .ref (ad 6)) (C := RX3) (T := TX3) (N := 11) hx hb hts inX3 hown hK hP 0 rfl rfl 7 (by decide) (hts _ q189) (fun _ h9 => h9) rfl dX3_areHeldFilesAlive_9 ?_
        refine lv_iload_n hx hb dX3_areHeldFilesAlive_12 rfl (lv_at hl 1 rfl) ?_
        obtain ⟨r11, h12, hf⟩ := bnd hf
        refine call_vi (rest := []) (m_H_isStillOpen l ca ad bq nF nO nL nA nC nV nU nP nE bF bO bL bA bC bV bU bP bE cT cK cO cQ cD pT pK pR pW pU pI pC uO uF uE uN wK jM jN jZ jB R _ v1 r11 h12) ⟨hx, hb, hml, hown, hts⟩ (cwV 1 hts (gV q808 q469 q470 q28 q471) rfl rfl rfl (by decide +kernel) ⟨Nat.le_of_ble_eq_true rfl, Nat.le_of_ble_eq_true rfl⟩) (va_recv hK hP (ci := 4) (q0 := 33) rfl rfl) hE hP hD hS hA rfl hl.1 rfl (lv_room (Nat.le_of_ble_eq_true rfl)) dX3_areHeldFilesAlive_13 ⟨Nat.le_of_ble_eq_true rfl, Nat.le_of_ble_eq_true rfl⟩ (fun H locs hP hD hS => ?_)
        refine lv_if_eq (tgt := 39) hx hb dX3_areHeldFilesAlive_16 (by decide) (fun c13 => ?_) (fun c13 => ?_)
        · have hf := br_pos c13 hf
          refine lv_iinc (v := (v1 + 1)) (lv' := [(1, .int (v1 + 1)), (0, .ref (ad 0))]) hx hb dX3_areHeldFilesAlive_39 hl (k := 1) rfl rfl (by decide) rfl (fun ls hl => ?_)
          refine lv_goto (tgt := 2) hx hb dX3_areHeldFilesAlive_42 (by decide) ?_
          exact ih (v1 + 1) hf _ _ _ hP hD hS (lv_sub hl [1, 0] rfl)
        · have hf := br_neg c13 hf
          refine lv_aload_n hx hb dX3_areHeldFilesAlive_19 rfl (lv_at hl 0 rfl) ?_
          refine va_get (D := D) (ci := 7) (v := .ref (ad 1)) (C := RX3) (T := TX3) (N := 11) hx hb hts inX3 hown hK hP 0 rfl rfl 0 (by decide) (hts _ q182) (fun _ h9 => h9) rfl dX3_areHeldFilesAlive_20 ?_
          refine lv_aload_n hx hb dX3_areHeldFilesAlive_23 rfl (lv_at hl 0 rfl) ?_
          refine va_get (D := D) (ci := 7) (v := .ref (ad 6)) (C := RX3) (T := TX3) (N := 11) hx hb hts inX3 hown hK hP 0 rfl rfl 7 (by decide) (hts _ q189) (fun _ h9 => h9) rfl dX3_areHeldFilesAlive_24 ?_
          refine lv_iload_n hx hb dX3_areHeldFilesAlive_27 rfl (lv_at hl 1 rfl) ?_
          obtain ⟨r14, h15, hf⟩ := bnd hf
          refine call_vi (rest := [.ref (ad 1)]) (m_H_fileOf l ca ad bq nF nO nL nA nC nV nU nP nE bF bO bL bA bC bV bU bP bE cT cK cO cQ cD pT pK pR pW pU pI pC uO uF uE uN wK jM jN jZ jB R _ v1 r14 h15) ⟨hx, hb, hml, hown, hts⟩ (cwV 1 hts (gV q818 q819 q820 q28 q821) rfl rfl rfl (by decide +kernel) ⟨Nat.le_of_ble_eq_true rfl, Nat.le_of_ble_eq_true rfl⟩) (va_recv hK hP (ci := 4) (q0 := 33) rfl rfl) hE hP hD hS hA rfl hl.1 rfl (lv_room (Nat.le_of_ble_eq_true rfl)) dX3_areHeldFilesAlive_28 ⟨Nat.le_of_ble_eq_true rfl, Nat.le_of_ble_eq_true rfl⟩ (fun H locs hP hD hS => ?_)
          obtain ⟨r16, h17, hf⟩ := bnd hf
          refine call_vi (rest := []) (m_S_isAlive l ca ad bq nF nO nL nA nC nV nU nP nE bF bO bL bA bC bV bU bP bE cT cK cO cQ cD pT pK pR pW pU pI pC uO uF uE uN wK jM jN jZ jB R _ r14 r16 h17) ⟨hx, hb, hml, hown, hts⟩ (cwV 1 hts (gV q429 q430 q431 q25 q432) rfl rfl rfl (by decide +kernel) ⟨Nat.le_of_ble_eq_true rfl, Nat.le_of_ble_eq_true rfl⟩) (va_recv hK hP (ci := 6) (q0 := 1) rfl rfl) hE hP hD hS hA rfl hl.1 rfl (lv_room (Nat.le_of_ble_eq_true rfl)) dX3_areHeldFilesAlive_31 ⟨Nat.le_of_ble_eq_true rfl, Nat.le_of_ble_eq_true rfl⟩ (fun H locs hP hD hS => ?_)
          refine lv_if_ne (tgt := 39) hx hb dX3_areHeldFilesAlive_34 (by decide) (fun c18 => ?_) (fun c18 => ?_)
          · have hf := br_neg c18 hf
            refine lv_iinc (v := (v1 + 1)) (lv' := [(1, .int (v1 + 1)), (0, .ref (ad 0))]) hx hb dX3_areHeldFilesAlive_39 hl (k := 1) rfl rfl (by decide) rfl (fun ls hl => ?_)
            refine lv_goto (tgt := 2) hx hb dX3_areHeldFilesAlive_42 (by decide) ?_
            exact ih (v1 + 1) hf _ _ _ hP hD hS (lv_sub hl [1, 0] rfl)
          · have hf := br_pos c18 hf
            refine lv_iconst (v := 0) hx hb dX3_areHeldFilesAlive_37 (by decide) ?_
            cases hf
            exact end_i hAe hQm hx hb hr hlocks rfl hP hD hS dX3_areHeldFilesAlive_38
  refine lv_iconst (v := 0) hx hb dX3_areHeldFilesAlive_0 (by decide) ?_
  refine lv_istore_n (lv' := [(1, .int 0), (0, .ref (ad 0))]) hx hb dX3_areHeldFilesAlive_1 rfl hl (by decide) rfl (fun ls hl => ?_)
  exact L2 FU 0 hf _ _ _ hP hD hS (lv_sub hl [1, 0] rfl)
def f_C_isConsistent (nF : Int32) (nA : Nat → Int32) (nC : Nat → Int32) (nU : Nat → Int32) (nP : Nat → Int32) (pU : Nat → Int32) (pI : Nat → Int32) (pC : Nat → Nat → Int32) (uO : Int32) (uF : Nat → Int32) (uN : Nat → Int32) (wK : Nat → Int32) : Option (Int32 × (Nat → Int32)) :=
  (f_C_areUsersAsWalked nF nC nU pU pI pC wK).bind fun (r1, wK_2) =>
  if r1 = 0 then
    some (0, wK_2)
  else
    (f_C_areHeldFilesAlive nF nA uO uF uN).bind fun r5 =>
    if r5 = 0 then
      some (0, wK_2)
    else
      (f_S_promisedInAll nP).bind fun r8 =>
      (f_S_freeTotal nU).bind fun r10 =>
      if r10 < r8 then
        some (0, wK_2)
      else
        some (1, wK_2)
set_option maxHeartbeats 4000000 in
set_option maxRecDepth 100000 in
theorem m_C_isConsistent (l : Launch) {D : va_G} {sl : List (String × Nat × String)} (ca : Nat → ClassId) (ad : Nat → Nat) (bq : Nat) (nF : Int32) (nO : Nat → Int32) (nL : Nat → Int32) (nA : Nat → Int32) (nC : Nat → Int32) (nV : Nat → Int32) (nU : Nat → Int32) (nP : Nat → Int32) (nE : Int32) (bF : Int32) (bO : Nat → Int32) (bL : Nat → Int32) (bA : Nat → Int32) (bC : Nat → Int32) (bV : Nat → Int32) (bU : Nat → Int32) (bP : Nat → Int32) (bE : Int32) (cT : Int32) (cK : Nat → Int32) (cO : Int32) (cQ : Nat → Int32) (cD : Int32) (pT : Int32) (pK : Int32) (pR : Nat → Int32) (pW : Nat → Int32) (pU : Nat → Int32) (pI : Nat → Int32) (pC : Nat → Nat → Int32) (uO : Int32) (uF : Nat → Int32) (uE : Nat → Int32) (uN : Nat → Int32) (wK : Nat → Int32) (jM : Int32) (jN : Int32) (jZ : Nat) (jB : Nat → Int32) (R : va_W) (sz : Nat) (ro : Int32) (owK : Nat → Int32) (hf : f_C_isConsistent nF nA nC nU nP pU pI pC uO uF uN wK = some (ro, owK)) : Met l yX3_isConsistent (wm yX3_isConsistent cX3_isConsistent 1 (some .boolean)) ({ frames := 5, cells := 0, slots := 0, locals := 107 } : Room) (PRE [.ref (ad 0)] D ca sl (WC ca ad bq nF nO nL nA nC nV nU nP nE bF bO bL bA bC bV bU bP bE cT cK cO cQ cD pT pK pR pW pU pI pC uO uF uE uN wK jM jN jZ jB ++ R) sz) (QI ro D (WC ca ad bq nF nO nL nA nC nV nU nP nE bF bO bL bA bC bV bU bP bE cT cK cO cQ cD pT pK pR pW pU pI pC uO uF uE uN owK jM jN jZ jB ++ R) (WC ca ad bq nF nO nL nA nC nV nU nP nE bF bO bL bA bC bV bU bP bE cT cK cO cQ cD pT pK pR pW pU pI pC uO uF uE uN wK jM jN jZ jB ++ R) sz) 0 0 (va_A (WC ca ad bq nF nO nL nA nC nV nU nP nE bF bO bL bA bC bV bU bP bE cT cK cO cQ cD pT pK pR pW pU pI pC uO uF uE uN wK jM jN jZ jB ++ R) sz) := by
  refine Met.ofW (cc := cX3_isConsistent) (maxL := 1) (ret := (some .boolean)) (by decide) rfl ?_
  intro p e s m args below meth c s₁ B hml hv
  obtain ⟨rfl, rfl, hP, hE, hD0⟩ := hv
  have hx := B.exec
  have hb := B.bytes
  have hr := B.returns
  have hts := wm_ww (atoms_spec (ws := wm yX3_isConsistent cX3_isConsistent 1 (some .boolean)) B.pre)
  have hown : s.vm.findClass RX3 = some m.cls := findClass_of_methodNamed B.named
  have hlocks := B.notSynchronized
  have hK := hE.1
  have hD := hD0.self (sz := s.heap.size)
  generalize hAe : va_A (WC ca ad bq nF nO nL nA nC nV nU nP nE bF bO bL bA bC bV bU bP bE cT cK cO cQ cD pT pK pR pW pU pI pC uO uF uE uN wK jM jN jZ jB ++ R) s.heap.size = A at hD ⊢
  have hA : ∀ q : Nat, s.heap.size ≤ q → A q := fun q h => by rw [← hAe]; exact Or.inr h
  have hS : va_S A s.heap s.heap [] := va_S.rf
  have hl := lv_entry ([.ref (ad 0)]) (n := 1) (Nat.le_of_ble_eq_true rfl)
  rw [lg_entry_eq]
  generalize (lg_sl ([.ref (ad 0)]) ++ List.replicate (1 - (lg_sl ([.ref (ad 0)])).length) Slot.unset).toArray = ls at hl ⊢
  have hl : lv_has ls 1 [(0, .ref (ad 0))] := hl
  change W p l e ({ frames := 5, cells := 0, slots := 0, locals := 107 } : Room) s m _ below meth c s.heap [] 0 0 _ _
  generalize hQm : MQ below (QI ro D (WC ca ad bq nF nO nL nA nC nV nU nP nE bF bO bL bA bC bV bU bP bE cT cK cO cQ cD pT pK pR pW pU pI pC uO uF uE uN owK jM jN jZ jB ++ R) (WC ca ad bq nF nO nL nA nC nV nU nP nE bF bO bL bA bC bV bU bP bE cT cK cO cQ cD pT pK pR pW pU pI pC uO uF uE uN wK jM jN jZ jB ++ R) s.heap.size) _ s 0 0 A = Qm
  have hP : va_P D vwCl (WC ca ad bq nF nO nL nA nC nV nU nP nE bF bO bL bA bC bV bU bP bE cT cK cO cQ cD pT pK pR pW pU pI pC uO uF uE uN wK jM jN jZ jB ++ R) s.heap := hP
  generalize hae : ([.ref (ad 0)] : List Value).toArray = args at hts hQm ⊢
  refine lv_aload_n hx hb dX3_isConsistent_0 rfl (lv_at hl 0 rfl) ?_
  obtain ⟨⟨r1, wK_2⟩, h3, hf⟩ := bnd hf
  refine call_vi (rest := []) (m_C_areUsersAsWalked l ca ad bq nF nO nL nA nC nV nU nP nE bF bO bL bA bC bV bU bP bE cT cK cO cQ cD pT pK pR pW pU pI pC uO uF uE uN wK jM jN jZ jB R _ r1 wK_2 h3) ⟨hx, hb, hml, hown, hts⟩ (cwV 0 hts (gV q1179 q1181 q21 q24 q1182) rfl rfl rfl (by decide +kernel) ⟨Nat.le_of_ble_eq_true rfl, Nat.le_of_ble_eq_true rfl⟩) (va_recv hK hP (ci := 7) (q0 := 0) rfl rfl) hE hP hD hS hA rfl hl.1 rfl (lv_room (Nat.le_of_ble_eq_true rfl)) dX3_isConsistent_1 ⟨Nat.le_of_ble_eq_true rfl, Nat.le_of_ble_eq_true rfl⟩ (fun H locs hP hD hS => ?_)
  refine lv_if_eq (tgt := 35) hx hb dX3_isConsistent_4 (by decide) (fun c4 => ?_) (fun c4 => ?_)
  · have hf := br_pos c4 hf
    refine lv_iconst (v := 0) hx hb dX3_isConsistent_35 (by decide) ?_
    cases hf
    exact end_i hAe hQm hx hb hr hlocks rfl hP hD hS dX3_isConsistent_36
  · have hf := br_neg c4 hf
    refine lv_aload_n hx hb dX3_isConsistent_7 rfl (lv_at hl 0 rfl) ?_
    obtain ⟨r5, h6, hf⟩ := bnd hf
    refine call_vi (rest := []) (m_C_areHeldFilesAlive l ca ad bq nF nO nL nA nC nV nU nP nE bF bO bL bA bC bV bU bP bE cT cK cO cQ cD pT pK pR pW pU pI pC uO uF uE uN wK_2 jM jN jZ jB R _ r5 h6) ⟨hx, hb, hml, hown, hts⟩ (cwV 0 hts (gV q1183 q1185 q22 q24 q1186) rfl rfl rfl (by decide +kernel) ⟨Nat.le_of_ble_eq_true rfl, Nat.le_of_ble_eq_true rfl⟩) (va_recv hK hP (ci := 7) (q0 := 0) rfl rfl) hE hP hD hS hA rfl hl.1 rfl (lv_room (Nat.le_of_ble_eq_true rfl)) dX3_isConsistent_8 ⟨Nat.le_of_ble_eq_true rfl, Nat.le_of_ble_eq_true rfl⟩ (fun H locs hP hD hS => ?_)
    refine lv_if_eq (tgt := 35) hx hb dX3_isConsistent_11 (by decide) (fun c7 => ?_) (fun c7 => ?_)
    · have hf := br_pos c7 hf
      refine lv_iconst (v := 0) hx hb dX3_isConsistent_35 (by decide) ?_
      cases hf
      exact end_i hAe hQm hx hb hr hlocks rfl hP hD hS dX3_isConsistent_36
    · have hf := br_neg c7 hf
      refine lv_aload_n hx hb dX3_isConsistent_14 rfl (lv_at hl 0 rfl) ?_
      refine va_get (D := D) (ci := 7) (v := .ref (ad 1)) (C := RX3) (T := TX3) (N := 11) hx hb hts inX3 hown hK hP 0 rfl rfl 0 (by decide) (hts _ q182) (fun _ h9 => h9) rfl dX3_isConsistent_15 ?_
      obtain ⟨r8, h9, hf⟩ := bnd hf
      refine call_vi (rest := []) (m_S_promisedInAll l ca ad bq nF nO nL nA nC nV nU nP nE bF bO bL bA bC bV bU bP bE cT cK cO cQ cD pT pK pR pW pU pI pC uO uF uE uN wK_2 jM jN jZ jB R _ r8 h9) ⟨hx, hb, hml, hown, hts⟩ (cwV 0 hts (gV q565 q566 q567 q25 q568) rfl rfl rfl (by decide +kernel) ⟨Nat.le_of_ble_eq_true rfl, Nat.le_of_ble_eq_true rfl⟩) (va_recv hK hP (ci := 6) (q0 := 1) rfl rfl) hE hP hD hS hA rfl hl.1 rfl (lv_room (Nat.le_of_ble_eq_true rfl)) dX3_isConsistent_18 ⟨Nat.le_of_ble_eq_true rfl, Nat.le_of_ble_eq_true rfl⟩ (fun H locs hP hD hS => ?_)
      refine lv_aload_n hx hb dX3_isConsistent_21 rfl (lv_at hl 0 rfl) ?_
      refine va_get (D := D) (ci := 7) (v := .ref (ad 1)) (C := RX3) (T := TX3) (N := 11) hx hb hts inX3 hown hK hP 0 rfl rfl 0 (by decide) (hts _ q182) (fun _ h9 => h9) rfl dX3_isConsistent_22 ?_
      obtain ⟨r10, h11, hf⟩ := bnd hf
      refine call_vi (rest := [.int r8]) (m_S_freeTotal l ca ad bq nF nO nL nA nC nV nU nP nE bF bO bL bA bC bV bU bP bE cT cK cO cQ cD pT pK pR pW pU pI pC uO uF uE uN wK_2 jM jN jZ jB R _ r10 h11) ⟨hx, hb, hml, hown, hts⟩ (cwV 0 hts (gV q561 q562 q563 q25 q564) rfl rfl rfl (by decide +kernel) ⟨Nat.le_of_ble_eq_true rfl, Nat.le_of_ble_eq_true rfl⟩) (va_recv hK hP (ci := 6) (q0 := 1) rfl rfl) hE hP hD hS hA rfl hl.1 rfl (lv_room (Nat.le_of_ble_eq_true rfl)) dX3_isConsistent_25 ⟨Nat.le_of_ble_eq_true rfl, Nat.le_of_ble_eq_true rfl⟩ (fun H locs hP hD hS => ?_)
      refine lv_icmp_gt (tgt := 35) hx hb dX3_isConsistent_28 (by decide) (fun c12 => ?_) (fun c12 => ?_)
      · have hf := br_pos c12 hf
        refine lv_iconst (v := 0) hx hb dX3_isConsistent_35 (by decide) ?_
        cases hf
        exact end_i hAe hQm hx hb hr hlocks rfl hP hD hS dX3_isConsistent_36
      · have hf := br_neg c12 hf
        refine lv_iconst (v := 1) hx hb dX3_isConsistent_31 (by decide) ?_
        refine lv_goto (tgt := 36) hx hb dX3_isConsistent_32 (by decide) ?_
        cases hf
        exact end_i hAe hQm hx hb hr hlocks rfl hP hD hS dX3_isConsistent_36
