/-! printed by program out of the bytecode: pure functions and contracts -/
def f_P_takenTotal (pT : Int32) : Option (Int32) :=
  some pT
set_option maxHeartbeats 4000000 in
set_option maxRecDepth 100000 in
theorem m_P_takenTotal (l : Launch) {D : va_G} {sl : List (String × Nat × String)} (ca : Nat → ClassId) (ad : Nat → Nat) (bq : Nat) (nF : Int32) (nO : Nat → Int32) (nL : Nat → Int32) (nA : Nat → Int32) (nC : Nat → Int32) (nV : Nat → Int32) (nU : Nat → Int32) (nP : Nat → Int32) (nE : Int32) (bF : Int32) (bO : Nat → Int32) (bL : Nat → Int32) (bA : Nat → Int32) (bC : Nat → Int32) (bV : Nat → Int32) (bU : Nat → Int32) (bP : Nat → Int32) (bE : Int32) (cT : Int32) (cK : Nat → Int32) (cO : Int32) (cQ : Nat → Int32) (cD : Int32) (pT : Int32) (pK : Int32) (pR : Nat → Int32) (pW : Nat → Int32) (pU : Nat → Int32) (pI : Nat → Int32) (pC : Nat → Nat → Int32) (uO : Int32) (uF : Nat → Int32) (uE : Nat → Int32) (uN : Nat → Int32) (wK : Nat → Int32) (jM : Int32) (jN : Int32) (jZ : Nat) (jB : Nat → Int32) (R : va_W) (sz : Nat) (ro : Int32) (hf : f_P_takenTotal pT = some ro) : Met l yX1_takenTotal (wm yX1_takenTotal cX1_takenTotal 1 (some .int)) ({ frames := 0, cells := 0, slots := 0, locals := 0 } : Room) (PRE [.ref (ad 5)] D ca sl (WC ca ad bq nF nO nL nA nC nV nU nP nE bF bO bL bA bC bV bU bP bE cT cK cO cQ cD pT pK pR pW pU pI pC uO uF uE uN wK jM jN jZ jB ++ R) sz) (QI ro D (WC ca ad bq nF nO nL nA nC nV nU nP nE bF bO bL bA bC bV bU bP bE cT cK cO cQ cD pT pK pR pW pU pI pC uO uF uE uN wK jM jN jZ jB ++ R) (WC ca ad bq nF nO nL nA nC nV nU nP nE bF bO bL bA bC bV bU bP bE cT cK cO cQ cD pT pK pR pW pU pI pC uO uF uE uN wK jM jN jZ jB ++ R) sz) 0 0 (va_A (WC ca ad bq nF nO nL nA nC nV nU nP nE bF bO bL bA bC bV bU bP bE cT cK cO cQ cD pT pK pR pW pU pI pC uO uF uE uN wK jM jN jZ jB ++ R) sz) := by
  refine Met.ofW (cc := cX1_takenTotal) (maxL := 1) (ret := (some .int)) (by decide) rfl ?_
  intro p e s m args below meth c s₁ B hml hv
  obtain ⟨rfl, rfl, hP, hE, hD0⟩ := hv
  have hx := B.exec
  have hb := B.bytes
  have hr := B.returns
  have hts := wm_ww (atoms_spec (ws := wm yX1_takenTotal cX1_takenTotal 1 (some .int)) B.pre)
  have hown : s.vm.findClass RX1 = some m.cls := findClass_of_methodNamed B.named
  have hlocks := B.notSynchronized
  have hK := hE.1
  have hD := hD0.self (sz := s.heap.size)
  generalize hAe : va_A (WC ca ad bq nF nO nL nA nC nV nU nP nE bF bO bL bA bC bV bU bP bE cT cK cO cQ cD pT pK pR pW pU pI pC uO uF uE uN wK jM jN jZ jB ++ R) s.heap.size = A at hD ⊢
  have hA : ∀ q : Nat, s.heap.size ≤ q → A q := fun q h => by rw [← hAe]; exact Or.inr h
  have hS : va_S A s.heap s.heap [] := va_S.rf
  have hl := lv_entry ([.ref (ad 5)]) (n := 1) (Nat.le_of_ble_eq_true rfl)
  rw [lg_entry_eq]
  generalize (lg_sl ([.ref (ad 5)]) ++ List.replicate (1 - (lg_sl ([.ref (ad 5)])).length) Slot.unset).toArray = ls at hl ⊢
  have hl : lv_has ls 1 [(0, .ref (ad 5))] := hl
  change W p l e ({ frames := 0, cells := 0, slots := 0, locals := 0 } : Room) s m _ below meth c s.heap [] 0 0 _ _
  generalize hQm : MQ below (QI ro D (WC ca ad bq nF nO nL nA nC nV nU nP nE bF bO bL bA bC bV bU bP bE cT cK cO cQ cD pT pK pR pW pU pI pC uO uF uE uN wK jM jN jZ jB ++ R) (WC ca ad bq nF nO nL nA nC nV nU nP nE bF bO bL bA bC bV bU bP bE cT cK cO cQ cD pT pK pR pW pU pI pC uO uF uE uN wK jM jN jZ jB ++ R) s.heap.size) _ s 0 0 A = Qm
  have hP : va_P D vwCl (WC ca ad bq nF nO nL nA nC nV nU nP nE bF bO bL bA bC bV bU bP bE cT cK cO cQ cD pT pK pR pW pU pI pC uO uF uE uN wK jM jN jZ jB ++ R) s.heap := hP
  generalize hae : ([.ref (ad 5)] : List Value).toArray = args at hts hQm ⊢
  refine lv_aload_n hx hb dX1_takenTotal_0 rfl (lv_at hl 0 rfl) ?_
  refine va_get (D := D) (ci := 5) (v := .int pT) (C := RX1) (T := TX1) (N := 7) hx hb hts inX1 hown hK hP 19 rfl rfl 0 (by decide) (hts _ q107) (fun _ h9 => h9) rfl dX1_takenTotal_1 ?_
  cases hf
  exact end_i hAe hQm hx hb hr hlocks rfl hP hD hS dX1_takenTotal_4
def f_P_keptTotal (pK : Int32) : Option (Int32) :=
  some pK
set_option maxHeartbeats 4000000 in
set_option maxRecDepth 100000 in
theorem m_P_keptTotal (l : Launch) {D : va_G} {sl : List (String × Nat × String)} (ca : Nat → ClassId) (ad : Nat → Nat) (bq : Nat) (nF : Int32) (nO : Nat → Int32) (nL : Nat → Int32) (nA : Nat → Int32) (nC : Nat → Int32) (nV : Nat → Int32) (nU : Nat → Int32) (nP : Nat → Int32) (nE : Int32) (bF : Int32) (bO : Nat → Int32) (bL : Nat → Int32) (bA : Nat → Int32) (bC : Nat → Int32) (bV : Nat → Int32) (bU : Nat → Int32) (bP : Nat → Int32) (bE : Int32) (cT : Int32) (cK : Nat → Int32) (cO : Int32) (cQ : Nat → Int32) (cD : Int32) (pT : Int32) (pK : Int32) (pR : Nat → Int32) (pW : Nat → Int32) (pU : Nat → Int32) (pI : Nat → Int32) (pC : Nat → Nat → Int32) (uO : Int32) (uF : Nat → Int32) (uE : Nat → Int32) (uN : Nat → Int32) (wK : Nat → Int32) (jM : Int32) (jN : Int32) (jZ : Nat) (jB : Nat → Int32) (R : va_W) (sz : Nat) (ro : Int32) (hf : f_P_keptTotal pK = some ro) : Met l yX1_keptTotal (wm yX1_keptTotal cX1_keptTotal 1 (some .int)) ({ frames := 0, cells := 0, slots := 0, locals := 0 } : Room) (PRE [.ref (ad 5)] D ca sl (WC ca ad bq nF nO nL nA nC nV nU nP nE bF bO bL bA bC bV bU bP bE cT cK cO cQ cD pT pK pR pW pU pI pC uO uF uE uN wK jM jN jZ jB ++ R) sz) (QI ro D (WC ca ad bq nF nO nL nA nC nV nU nP nE bF bO bL bA bC bV bU bP bE cT cK cO cQ cD pT pK pR pW pU pI pC uO uF uE uN wK jM jN jZ jB ++ R) (WC ca ad bq nF nO nL nA nC nV nU nP nE bF bO bL bA bC bV bU bP bE cT cK cO cQ cD pT pK pR pW pU pI pC uO uF uE uN wK jM jN jZ jB ++ R) sz) 0 0 (va_A (WC ca ad bq nF nO nL nA nC nV nU nP nE bF bO bL bA bC bV bU bP bE cT cK cO cQ cD pT pK pR pW pU pI pC uO uF uE uN wK jM jN jZ jB ++ R) sz) := by
  refine Met.ofW (cc := cX1_keptTotal) (maxL := 1) (ret := (some .int)) (by decide) rfl ?_
  intro p e s m args below meth c s₁ B hml hv
  obtain ⟨rfl, rfl, hP, hE, hD0⟩ := hv
  have hx := B.exec
  have hb := B.bytes
  have hr := B.returns
  have hts := wm_ww (atoms_spec (ws := wm yX1_keptTotal cX1_keptTotal 1 (some .int)) B.pre)
  have hown : s.vm.findClass RX1 = some m.cls := findClass_of_methodNamed B.named
  have hlocks := B.notSynchronized
  have hK := hE.1
  have hD := hD0.self (sz := s.heap.size)
  generalize hAe : va_A (WC ca ad bq nF nO nL nA nC nV nU nP nE bF bO bL bA bC bV bU bP bE cT cK cO cQ cD pT pK pR pW pU pI pC uO uF uE uN wK jM jN jZ jB ++ R) s.heap.size = A at hD ⊢
  have hA : ∀ q : Nat, s.heap.size ≤ q → A q := fun q h => by rw [← hAe]; exact Or.inr h
  have hS : va_S A s.heap s.heap [] := va_S.rf
  have hl := lv_entry ([.ref (ad 5)]) (n := 1) (Nat.le_of_ble_eq_true rfl)
  rw [lg_entry_eq]
  generalize (lg_sl ([.ref (ad 5)]) ++ List.replicate (1 - (lg_sl ([.ref (ad 5)])).length) Slot.unset).toArray = ls at hl ⊢
  have hl : lv_has ls 1 [(0, .ref (ad 5))] := hl
  change W p l e ({ frames := 0, cells := 0, slots := 0, locals := 0 } : Room) s m _ below meth c s.heap [] 0 0 _ _
  generalize hQm : MQ below (QI ro D (WC ca ad bq nF nO nL nA nC nV nU nP nE bF bO bL bA bC bV bU bP bE cT cK cO cQ cD pT pK pR pW pU pI pC uO uF uE uN wK jM jN jZ jB ++ R) (WC ca ad bq nF nO nL nA nC nV nU nP nE bF bO bL bA bC bV bU bP bE cT cK cO cQ cD pT pK pR pW pU pI pC uO uF uE uN wK jM jN jZ jB ++ R) s.heap.size) _ s 0 0 A = Qm
  have hP : va_P D vwCl (WC ca ad bq nF nO nL nA nC nV nU nP nE bF bO bL bA bC bV bU bP bE cT cK cO cQ cD pT pK pR pW pU pI pC uO uF uE uN wK jM jN jZ jB ++ R) s.heap := hP
  generalize hae : ([.ref (ad 5)] : List Value).toArray = args at hts hQm ⊢
  refine lv_aload_n hx hb dX1_keptTotal_0 rfl (lv_at hl 0 rfl) ?_
  refine va_get (D := D) (ci := 5) (v := .int pK) (C := RX1) (T := TX1) (N := 7) hx hb hts inX1 hown hK hP 19 rfl rfl 1 (by decide) (hts _ q108) (fun _ h9 => h9) rfl dX1_keptTotal_1 ?_
  cases hf
  exact end_i hAe hQm hx hb hr hlocks rfl hP hD hS dX1_keptTotal_4
def f_P_wasTaken (p1 : Int32) (pT : Int32) : Option (Int32) :=
  if p1 < 0 then
    some 0
  else
    if pT ≤ p1 then
      some 0
    else
      if 30 ≤ p1 then
        some 0
      else
        some 1
set_option maxHeartbeats 4000000 in
set_option maxRecDepth 100000 in
theorem m_P_wasTaken (l : Launch) {D : va_G} {sl : List (String × Nat × String)} (ca : Nat → ClassId) (ad : Nat → Nat) (bq : Nat) (nF : Int32) (nO : Nat → Int32) (nL : Nat → Int32) (nA : Nat → Int32) (nC : Nat → Int32) (nV : Nat → Int32) (nU : Nat → Int32) (nP : Nat → Int32) (nE : Int32) (bF : Int32) (bO : Nat → Int32) (bL : Nat → Int32) (bA : Nat → Int32) (bC : Nat → Int32) (bV : Nat → Int32) (bU : Nat → Int32) (bP : Nat → Int32) (bE : Int32) (cT : Int32) (cK : Nat → Int32) (cO : Int32) (cQ : Nat → Int32) (cD : Int32) (pT : Int32) (pK : Int32) (pR : Nat → Int32) (pW : Nat → Int32) (pU : Nat → Int32) (pI : Nat → Int32) (pC : Nat → Nat → Int32) (uO : Int32) (uF : Nat → Int32) (uE : Nat → Int32) (uN : Nat → Int32) (wK : Nat → Int32) (jM : Int32) (jN : Int32) (jZ : Nat) (jB : Nat → Int32) (R : va_W) (sz : Nat) (p1 : Int32) (ro : Int32) (hf : f_P_wasTaken p1 pT = some ro) : Met l yX1_wasTaken (wm yX1_wasTaken cX1_wasTaken 2 (some .boolean)) ({ frames := 0, cells := 0, slots := 0, locals := 0 } : Room) (PRE [.ref (ad 5), .int p1] D ca sl (WC ca ad bq nF nO nL nA nC nV nU nP nE bF bO bL bA bC bV bU bP bE cT cK cO cQ cD pT pK pR pW pU pI pC uO uF uE uN wK jM jN jZ jB ++ R) sz) (QI ro D (WC ca ad bq nF nO nL nA nC nV nU nP nE bF bO bL bA bC bV bU bP bE cT cK cO cQ cD pT pK pR pW pU pI pC uO uF uE uN wK jM jN jZ jB ++ R) (WC ca ad bq nF nO nL nA nC nV nU nP nE bF bO bL bA bC bV bU bP bE cT cK cO cQ cD pT pK pR pW pU pI pC uO uF uE uN wK jM jN jZ jB ++ R) sz) 0 0 (va_A (WC ca ad bq nF nO nL nA nC nV nU nP nE bF bO bL bA bC bV bU bP bE cT cK cO cQ cD pT pK pR pW pU pI pC uO uF uE uN wK jM jN jZ jB ++ R) sz) := by
  refine Met.ofW (cc := cX1_wasTaken) (maxL := 2) (ret := (some .boolean)) (by decide) rfl ?_
  intro p e s m args below meth c s₁ B hml hv
  obtain ⟨rfl, rfl, hP, hE, hD0⟩ := hv
  have hx := B.exec
  have hb := B.bytes
  have hr := B.returns
  have hts := wm_ww (atoms_spec (ws := wm yX1_wasTaken cX1_wasTaken 2 (some .boolean)) B.pre)
  have hown : s.vm.findClass RX1 = some m.cls := findClass_of_methodNamed B.named
  have hlocks := B.notSynchronized
  have hK := hE.1
  have hD := hD0.self (sz := s.heap.size)
  generalize hAe : va_A (WC ca ad bq nF nO nL nA nC nV nU nP nE bF bO bL bA bC bV bU bP bE cT cK cO cQ cD pT pK pR pW pU pI pC uO uF uE uN wK jM jN jZ jB ++ R) s.heap.size = A at hD ⊢
  have hA : ∀ q : Nat, s.heap.size ≤ q → A q := fun q h => by rw [← hAe]; exact Or.inr h
  have hS : va_S A s.heap s.heap [] := va_S.rf
  have hl := lv_entry ([.ref (ad 5), .int p1]) (n := 2) (Nat.le_of_ble_eq_true rfl)
  rw [lg_entry_eq]
  generalize (lg_sl ([.ref (ad 5), .int p1]) ++ List.replicate (2 - (lg_sl ([.ref (ad 5), .int p1])).length) Slot.unset).toArray = ls at hl ⊢
  have hl : lv_has ls 2 [(0, .ref (ad 5)), (1, .int p1)] := hl
  change W p l e ({ frames := 0, cells := 0, slots := 0, locals := 0 } : Room) s m _ below meth c s.heap [] 0 0 _ _
  generalize hQm : MQ below (QI ro D (WC ca ad bq nF nO nL nA nC nV nU nP nE bF bO bL bA bC bV bU bP bE cT cK cO cQ cD pT pK pR pW pU pI pC uO uF uE uN wK jM jN jZ jB ++ R) (WC ca ad bq nF nO nL nA nC nV nU nP nE bF bO bL bA bC bV bU bP bE cT cK cO cQ cD pT pK pR pW pU pI pC uO uF uE uN wK jM jN jZ jB ++ R) s.heap.size) _ s 0 0 A = Qm
  have hP : va_P D vwCl (WC ca ad bq nF nO nL nA nC nV nU nP nE bF bO bL bA bC bV bU bP bE cT cK cO cQ cD pT pK pR pW pU pI pC uO uF uE uN wK jM jN jZ jB ++ R) s.heap := hP
  generalize hae : ([.ref (ad 5), .int p1] : List Value).toArray = args at hts hQm ⊢
  refine lv_iload_n hx hb dX1_wasTaken_0 rfl (lv_at hl 1 rfl) ?_
  refine lv_if_lt (tgt := 22) hx hb dX1_wasTaken_1 (by decide) (fun c1 => ?_) (fun c1 => ?_)
  · have hf := br_pos c1 hf
    refine lv_iconst (v := 0) hx hb dX1_wasTaken_22 (by decide) ?_
    cases hf
    exact end_i hAe hQm hx hb hr hlocks rfl hP hD hS dX1_wasTaken_23
  · have hf := br_neg c1 hf
    refine lv_iload_n hx hb dX1_wasTaken_4 rfl (lv_at hl 1 rfl) ?_
    refine lv_aload_n hx hb dX1_wasTaken_5 rfl (lv_at hl 0 rfl) ?_
    refine va_get (D := D) (ci := 5) (v := .int pT) (C := RX1) (T := TX1) (N := 7) hx hb hts inX1 hown hK hP 19 rfl rfl 0 (by decide) (hts _ q107) (fun _ h9 => h9) rfl dX1_wasTaken_6 ?_
    refine lv_icmp_ge (tgt := 22) hx hb dX1_wasTaken_9 (by decide) (fun c2 => ?_) (fun c2 => ?_)
    · have hf := br_pos c2 hf
      refine lv_iconst (v := 0) hx hb dX1_wasTaken_22 (by decide) ?_
      cases hf
      exact end_i hAe hQm hx hb hr hlocks rfl hP hD hS dX1_wasTaken_23
    · have hf := br_neg c2 hf
      refine lv_iload_n hx hb dX1_wasTaken_12 rfl (lv_at hl 1 rfl) ?_
      refine lv_bipush (v := 30) hx hb dX1_wasTaken_13 (by decide) ?_
      refine lv_icmp_ge (tgt := 22) hx hb dX1_wasTaken_15 (by decide) (fun c3 => ?_) (fun c3 => ?_)
      · have hf := br_pos c3 hf
        refine lv_iconst (v := 0) hx hb dX1_wasTaken_22 (by decide) ?_
        cases hf
        exact end_i hAe hQm hx hb hr hlocks rfl hP hD hS dX1_wasTaken_23
      · have hf := br_neg c3 hf
        refine lv_iconst (v := 1) hx hb dX1_wasTaken_18 (by decide) ?_
        refine lv_goto (tgt := 23) hx hb dX1_wasTaken_19 (by decide) ?_
        cases hf
        exact end_i hAe hQm hx hb hr hlocks rfl hP hD hS dX1_wasTaken_23
def f_P_rowOf (p1 : Int32) (pT : Int32) (pW : Nat → Int32) : Option (Int32) :=
  (f_P_wasTaken p1 pT).bind fun r1 =>
  if r1 = 0 then
    some (-1)
  else
    if p1 < 0 ∨ 30 ≤ p1.toNatClampNeg then none else
      some (pW p1.toNatClampNeg)
set_option maxHeartbeats 4000000 in
set_option maxRecDepth 100000 in
theorem m_P_rowOf (l : Launch) {D : va_G} {sl : List (String × Nat × String)} (ca : Nat → ClassId) (ad : Nat → Nat) (bq : Nat) (nF : Int32) (nO : Nat → Int32) (nL : Nat → Int32) (nA : Nat → Int32) (nC : Nat → Int32) (nV : Nat → Int32) (nU : Nat → Int32) (nP : Nat → Int32) (nE : Int32) (bF : Int32) (bO : Nat → Int32) (bL : Nat → Int32) (bA : Nat → Int32) (bC : Nat → Int32) (bV : Nat → Int32) (bU : Nat → Int32) (bP : Nat → Int32) (bE : Int32) (cT : Int32) (cK : Nat → Int32) (cO : Int32) (cQ : Nat → Int32) (cD : Int32) (pT : Int32) (pK : Int32) (pR : Nat → Int32) (pW : Nat → Int32) (pU : Nat → Int32) (pI : Nat → Int32) (pC : Nat → Nat → Int32) (uO : Int32) (uF : Nat → Int32) (uE : Nat → Int32) (uN : Nat → Int32) (wK : Nat → Int32) (jM : Int32) (jN : Int32) (jZ : Nat) (jB : Nat → Int32) (R : va_W) (sz : Nat) (p1 : Int32) (ro : Int32) (hf : f_P_rowOf p1 pT pW = some ro) : Met l yX1_rowOf (wm yX1_rowOf cX1_rowOf 2 (some .int)) ({ frames := 1, cells := 0, slots := 0, locals := 21 } : Room) (PRE [.ref (ad 5), .int p1] D ca sl (WC ca ad bq nF nO nL nA nC nV nU nP nE bF bO bL bA bC bV bU bP bE cT cK cO cQ cD pT pK pR pW pU pI pC uO uF uE uN wK jM jN jZ jB ++ R) sz) (QI ro D (WC ca ad bq nF nO nL nA nC nV nU nP nE bF bO bL bA bC bV bU bP bE cT cK cO cQ cD pT pK pR pW pU pI pC uO uF uE uN wK jM jN jZ jB ++ R) (WC ca ad bq nF nO nL nA nC nV nU nP nE bF bO bL bA bC bV bU bP bE cT cK cO cQ cD pT pK pR pW pU pI pC uO uF uE uN wK jM jN jZ jB ++ R) sz) 0 0 (va_A (WC ca ad bq nF nO nL nA nC nV nU nP nE bF bO bL bA bC bV bU bP bE cT cK cO cQ cD pT pK pR pW pU pI pC uO uF uE uN wK jM jN jZ jB ++ R) sz) := by
  refine Met.ofW (cc := cX1_rowOf) (maxL := 2) (ret := (some .int)) (by decide) rfl ?_
  intro p e s m args below meth c s₁ B hml hv
  obtain ⟨rfl, rfl, hP, hE, hD0⟩ := hv
  have hx := B.exec
  have hb := B.bytes
  have hr := B.returns
  have hts := wm_ww (atoms_spec (ws := wm yX1_rowOf cX1_rowOf 2 (some .int)) B.pre)
  have hown : s.vm.findClass RX1 = some m.cls := findClass_of_methodNamed B.named
  have hlocks := B.notSynchronized
  have hK := hE.1
  have hD := hD0.self (sz := s.heap.size)
  generalize hAe : va_A (WC ca ad bq nF nO nL nA nC nV nU nP nE bF bO bL bA bC bV bU bP bE cT cK cO cQ cD pT pK pR pW pU pI pC uO uF uE uN wK jM jN jZ jB ++ R) s.heap.size = A at hD ⊢
  have hA : ∀ q : Nat, s.heap.size ≤ q → A q := fun q h => by rw [← hAe]; exact Or.inr h
  have hS : va_S A s.heap s.heap [] := va_S.rf
  have hl := lv_entry ([.ref (ad 5), .int p1]) (n := 2) (Nat.le_of_ble_eq_true rfl)
  rw [lg_entry_eq]
  generalize (lg_sl ([.ref (ad 5), .int p1]) ++ List.replicate (2 - (lg_sl ([.ref (ad 5), .int p1])).length) Slot.unset).toArray = ls at hl ⊢
  have hl : lv_has ls 2 [(0, .ref (ad 5)), (1, .int p1)] := hl
  change W p l e ({ frames := 1, cells := 0, slots := 0, locals := 21 } : Room) s m _ below meth c s.heap [] 0 0 _ _
  generalize hQm : MQ below (QI ro D (WC ca ad bq nF nO nL nA nC nV nU nP nE bF bO bL bA bC bV bU bP bE cT cK cO cQ cD pT pK pR pW pU pI pC uO uF uE uN wK jM jN jZ jB ++ R) (WC ca ad bq nF nO nL nA nC nV nU nP nE bF bO bL bA bC bV bU bP bE cT cK cO cQ cD pT pK pR pW pU pI pC uO uF uE uN wK jM jN jZ jB ++ R) s.heap.size) _ s 0 0 A = Qm
  have hP : va_P D vwCl (WC ca ad bq nF nO nL nA nC nV nU nP nE bF bO bL bA bC bV bU bP bE cT cK cO cQ cD pT pK pR pW pU pI pC uO uF uE uN wK jM jN jZ jB ++ R) s.heap := hP
  generalize hae : ([.ref (ad 5), .int p1] : List Value).toArray = args at hts hQm ⊢
  refine lv_aload_n hx hb dX1_rowOf_0 rfl (lv_at hl 0 rfl) ?_
  refine lv_iload_n hx hb dX1_rowOf_1 rfl (lv_at hl 1 rfl) ?_
  obtain ⟨r1, h2, hf⟩ := bnd hf
  refine call_vi (rest := []) (m_P_wasTaken l ca ad bq nF nO nL nA nC nV nU nP nE bF bO bL bA bC bV bU bP bE cT cK cO cQ cD pT pK pR pW pU pI pC uO uF uE uN wK jM jN jZ jB R _ p1 r1 h2) ⟨hx, hb, hml, hown, hts⟩ (cwV 1 hts (gV q735 q727 q728 q27 q729) rfl rfl rfl (by decide +kernel) ⟨Nat.le_of_ble_eq_true rfl, Nat.le_of_ble_eq_true rfl⟩) (va_recv hK hP (ci := 5) (q0 := 19) rfl rfl) hE hP hD hS hA rfl hl.1 rfl (lv_room (Nat.le_of_ble_eq_true rfl)) dX1_rowOf_2 ⟨Nat.le_of_ble_eq_true rfl, Nat.le_of_ble_eq_true rfl⟩ (fun H locs hP hD hS => ?_)
  refine lv_if_eq (tgt := 17) hx hb dX1_rowOf_5 (by decide) (fun c3 => ?_) (fun c3 => ?_)
  · have hf := br_pos c3 hf
    refine lv_iconst (v := (-1)) hx hb dX1_rowOf_17 (by decide) ?_
    cases hf
    exact end_i hAe hQm hx hb hr hlocks rfl hP hD hS dX1_rowOf_18
  · have hf := br_neg c3 hf
    refine lv_aload_n hx hb dX1_rowOf_8 rfl (lv_at hl 0 rfl) ?_
    refine va_get (D := D) (ci := 5) (v := .ref (ad 24)) (C := RX1) (T := TX1) (N := 7) hx hb hts inX1 hown hK hP 19 rfl rfl 3 (by decide) (hts _ q110) (fun _ h9 => h9) rfl dX1_rowOf_9 ?_
    refine lv_iload_n hx hb dX1_rowOf_12 rfl (lv_at hl 1 rfl) ?_
    obtain ⟨k4, hf⟩ := ck_not hf
    refine va_iald (D := D) hx hb hK hP 21 0 rfl rfl k4 dX1_rowOf_13 ?_
    refine lv_goto (tgt := 18) hx hb dX1_rowOf_14 (by decide) ?_
    cases hf
    exact end_i hAe hQm hx hb hr hlocks rfl hP hD hS dX1_rowOf_18
def f_P_isRow (p0 : Int32) : Option (Int32) :=
  if p0 < 0 then
    some 0
  else
    if 8 ≤ p0 then
      some 0
    else
      some 1
set_option maxHeartbeats 4000000 in
set_option maxRecDepth 100000 in
theorem m_P_isRow (l : Launch) {D : va_G} {sl : List (String × Nat × String)} (ca : Nat → ClassId) (ad : Nat → Nat) (bq : Nat) (nF : Int32) (nO : Nat → Int32) (nL : Nat → Int32) (nA : Nat → Int32) (nC : Nat → Int32) (nV : Nat → Int32) (nU : Nat → Int32) (nP : Nat → Int32) (nE : Int32) (bF : Int32) (bO : Nat → Int32) (bL : Nat → Int32) (bA : Nat → Int32) (bC : Nat → Int32) (bV : Nat → Int32) (bU : Nat → Int32) (bP : Nat → Int32) (bE : Int32) (cT : Int32) (cK : Nat → Int32) (cO : Int32) (cQ : Nat → Int32) (cD : Int32) (pT : Int32) (pK : Int32) (pR : Nat → Int32) (pW : Nat → Int32) (pU : Nat → Int32) (pI : Nat → Int32) (pC : Nat → Nat → Int32) (uO : Int32) (uF : Nat → Int32) (uE : Nat → Int32) (uN : Nat → Int32) (wK : Nat → Int32) (jM : Int32) (jN : Int32) (jZ : Nat) (jB : Nat → Int32) (R : va_W) (sz : Nat) (p0 : Int32) (ro : Int32) (hf : f_P_isRow p0 = some ro) : Met l yX1_isRow (wm yX1_isRow cX1_isRow 1 (some .boolean)) ({ frames := 0, cells := 0, slots := 0, locals := 0 } : Room) (PRE [.int p0] D ca sl (WC ca ad bq nF nO nL nA nC nV nU nP nE bF bO bL bA bC bV bU bP bE cT cK cO cQ cD pT pK pR pW pU pI pC uO uF uE uN wK jM jN jZ jB ++ R) sz) (QI ro D (WC ca ad bq nF nO nL nA nC nV nU nP nE bF bO bL bA bC bV bU bP bE cT cK cO cQ cD pT pK pR pW pU pI pC uO uF uE uN wK jM jN jZ jB ++ R) (WC ca ad bq nF nO nL nA nC nV nU nP nE bF bO bL bA bC bV bU bP bE cT cK cO cQ cD pT pK pR pW pU pI pC uO uF uE uN wK jM jN jZ jB ++ R) sz) 0 0 (va_A (WC ca ad bq nF nO nL nA nC nV nU nP nE bF bO bL bA bC bV bU bP bE cT cK cO cQ cD pT pK pR pW pU pI pC uO uF uE uN wK jM jN jZ jB ++ R) sz) := by
  refine Met.ofW (cc := cX1_isRow) (maxL := 1) (ret := (some .boolean)) (by decide) rfl ?_
  intro p e s m args below meth c s₁ B hml hv
  obtain ⟨rfl, rfl, hP, hE, hD0⟩ := hv
  have hx := B.exec
  have hb := B.bytes
  have hr := B.returns
  have hts := wm_ww (atoms_spec (ws := wm yX1_isRow cX1_isRow 1 (some .boolean)) B.pre)
  have hown : s.vm.findClass RX1 = some m.cls := findClass_of_methodNamed B.named
  have hlocks := B.notSynchronized
  have hK := hE.1
  have hD := hD0.self (sz := s.heap.size)
  generalize hAe : va_A (WC ca ad bq nF nO nL nA nC nV nU nP nE bF bO bL bA bC bV bU bP bE cT cK cO cQ cD pT pK pR pW pU pI pC uO uF uE uN wK jM jN jZ jB ++ R) s.heap.size = A at hD ⊢
  have hA : ∀ q : Nat, s.heap.size ≤ q → A q := fun q h => by rw [← hAe]; exact Or.inr h
  have hS : va_S A s.heap s.heap [] := va_S.rf
  have hl := lv_entry ([.int p0]) (n := 1) (Nat.le_of_ble_eq_true rfl)
  rw [lg_entry_eq]
  generalize (lg_sl ([.int p0]) ++ List.replicate (1 - (lg_sl ([.int p0])).length) Slot.unset).toArray = ls at hl ⊢
  have hl : lv_has ls 1 [(0, .int p0)] := hl
  change W p l e ({ frames := 0, cells := 0, slots := 0, locals := 0 } : Room) s m _ below meth c s.heap [] 0 0 _ _
  generalize hQm : MQ below (QI ro D (WC ca ad bq nF nO nL nA nC nV nU nP nE bF bO bL bA bC bV bU bP bE cT cK cO cQ cD pT pK pR pW pU pI pC uO uF uE uN wK jM jN jZ jB ++ R) (WC ca ad bq nF nO nL nA nC nV nU nP nE bF bO bL bA bC bV bU bP bE cT cK cO cQ cD pT pK pR pW pU pI pC uO uF uE uN wK jM jN jZ jB ++ R) s.heap.size) _ s 0 0 A = Qm
  have hP : va_P D vwCl (WC ca ad bq nF nO nL nA nC nV nU nP nE bF bO bL bA bC bV bU bP bE cT cK cO cQ cD pT pK pR pW pU pI pC uO uF uE uN wK jM jN jZ jB ++ R) s.heap := hP
  generalize hae : ([.int p0] : List Value).toArray = args at hts hQm ⊢
  refine lv_iload_n hx hb dX1_isRow_0 rfl (lv_at hl 0 rfl) ?_
  refine lv_if_lt (tgt := 14) hx hb dX1_isRow_1 (by decide) (fun c1 => ?_) (fun c1 => ?_)
  · have hf := br_pos c1 hf
    refine lv_iconst (v := 0) hx hb dX1_isRow_14 (by decide) ?_
    cases hf
    exact end_i hAe hQm hx hb hr hlocks rfl hP hD hS dX1_isRow_15
  · have hf := br_neg c1 hf
    refine lv_iload_n hx hb dX1_isRow_4 rfl (lv_at hl 0 rfl) ?_
    refine lv_bipush (v := 8) hx hb dX1_isRow_5 (by decide) ?_
    refine lv_icmp_ge (tgt := 14) hx hb dX1_isRow_7 (by decide) (fun c2 => ?_) (fun c2 => ?_)
    · have hf := br_pos c2 hf
      refine lv_iconst (v := 0) hx hb dX1_isRow_14 (by decide) ?_
      cases hf
      exact end_i hAe hQm hx hb hr hlocks rfl hP hD hS dX1_isRow_15
    · have hf := br_neg c2 hf
      refine lv_iconst (v := 1) hx hb dX1_isRow_10 (by decide) ?_
      refine lv_goto (tgt := 15) hx hb dX1_isRow_11 (by decide) ?_
      cases hf
      exact end_i hAe hQm hx hb hr hlocks rfl hP hD hS dX1_isRow_15
def f_P_unusedRow_L2 : Nat → Int32 → (Nat → Int32) → Option (Int32)
  | 0, _, _ => none
  | fuel + 1, v1, pU =>
    if 8 ≤ v1 then
      some (-1)
    else
      if v1 < 0 ∨ 8 ≤ v1.toNatClampNeg then none else
        if (pU v1.toNatClampNeg) = 0 then
        some v1
      else
        f_P_unusedRow_L2 fuel (v1 + 1) pU
def f_P_unusedRow (pU : Nat → Int32) : Option (Int32) :=
  f_P_unusedRow_L2 FU 0 pU
set_option maxHeartbeats 4000000 in
set_option maxRecDepth 100000 in
theorem m_P_unusedRow (l : Launch) {D : va_G} {sl : List (String × Nat × String)} (ca : Nat → ClassId) (ad : Nat → Nat) (bq : Nat) (nF : Int32) (nO : Nat → Int32) (nL : Nat → Int32) (nA : Nat → Int32) (nC : Nat → Int32) (nV : Nat → Int32) (nU : Nat → Int32) (nP : Nat → Int32) (nE : Int32) (bF : Int32) (bO : Nat → Int32) (bL : Nat → Int32) (bA : Nat → Int32) (bC : Nat → Int32) (bV : Nat → Int32) (bU : Nat → Int32) (bP : Nat → Int32) (bE : Int32) (cT : Int32) (cK : Nat → Int32) (cO : Int32) (cQ : Nat → Int32) (cD : Int32) (pT : Int32) (pK : Int32) (pR : Nat → Int32) (pW : Nat → Int32) (pU : Nat → Int32) (pI : Nat → Int32) (pC : Nat → Nat → Int32) (uO : Int32) (uF : Nat → Int32) (uE : Nat → Int32) (uN : Nat → Int32) (wK : Nat → Int32) (jM : Int32) (jN : Int32) (jZ : Nat) (jB : Nat → Int32) (R : va_W) (sz : Nat) (ro : Int32) (hf : f_P_unusedRow pU = some ro) : Met l yX1_unusedRow (wm yX1_unusedRow cX1_unusedRow 2 (some .int)) ({ frames := 0, cells := 0, slots := 0, locals := 0 } : Room) (PRE [.ref (ad 5)] D ca sl (WC ca ad bq nF nO nL nA nC nV nU nP nE bF bO bL bA bC bV bU bP bE cT cK cO cQ cD pT pK pR pW pU pI pC uO uF uE uN wK jM jN jZ jB ++ R) sz) (QI ro D (WC ca ad bq nF nO nL nA nC nV nU nP nE bF bO bL bA bC bV bU bP bE cT cK cO cQ cD pT pK pR pW pU pI pC uO uF uE uN wK jM jN jZ jB ++ R) (WC ca ad bq nF nO nL nA nC nV nU nP nE bF bO bL bA bC bV bU bP bE cT cK cO cQ cD pT pK pR pW pU pI pC uO uF uE uN wK jM jN jZ jB ++ R) sz) 0 0 (va_A (WC ca ad bq nF nO nL nA nC nV nU nP nE bF bO bL bA bC bV bU bP bE cT cK cO cQ cD pT pK pR pW pU pI pC uO uF uE uN wK jM jN jZ jB ++ R) sz) := by
  refine Met.ofW (cc := cX1_unusedRow) (maxL := 2) (ret := (some .int)) (by decide) rfl ?_
  intro p e s m args below meth c s₁ B hml hv
  obtain ⟨rfl, rfl, hP, hE, hD0⟩ := hv
  have hx := B.exec
  have hb := B.bytes
  have hr := B.returns
  have hts := wm_ww (atoms_spec (ws := wm yX1_unusedRow cX1_unusedRow 2 (some .int)) B.pre)
  have hown : s.vm.findClass RX1 = some m.cls := findClass_of_methodNamed B.named
  have hlocks := B.notSynchronized
  have hK := hE.1
  have hD := hD0.self (sz := s.heap.size)
  generalize hAe : va_A (WC ca ad bq nF nO nL nA nC nV nU nP nE bF bO bL bA bC bV bU bP bE cT cK cO cQ cD pT pK pR pW pU pI pC uO uF uE uN wK jM jN jZ jB ++ R) s.heap.size = A at hD ⊢
  have hA : ∀ q : Nat, s.heap.size ≤ q → A q := fun q h => by rw [← hAe]; exact Or.inr h
  have hS : va_S A s.heap s.heap [] := va_S.rf
  have hl := lv_entry ([.ref (ad 5)]) (n := 2) (Nat.le_of_ble_eq_true rfl)
  rw [lg_entry_eq]
  generalize (lg_sl ([.ref (ad 5)]) ++ List.replicate (2 - (lg_sl ([.ref (ad 5)])).length) Slot.unset).toArray = ls at hl ⊢
  have hl : lv_has ls 2 [(0, .ref (ad 5))] := hl
  change W p l e ({ frames := 0, cells := 0, slots := 0, locals := 0 } : Room) s m _ below meth c s.heap [] 0 0 _ _
  generalize hQm : MQ below (QI ro D (WC ca ad bq nF nO nL nA nC nV nU nP nE bF bO bL bA bC bV bU bP bE cT cK cO cQ cD pT pK pR pW pU pI pC uO uF uE uN wK jM jN jZ jB ++ R) (WC ca ad bq nF nO nL nA nC nV nU nP nE bF bO bL bA bC bV bU bP bE cT cK cO cQ cD pT pK pR pW pU pI pC uO uF uE uN wK jM jN jZ jB ++ R) s.heap.size) _ s 0 0 A = Qm
  have hP : va_P D vwCl (WC ca ad bq nF nO nL nA nC nV nU nP nE bF bO bL bA bC bV bU bP bE cT cK cO cQ cD pT pK pR pW pU pI pC uO uF uE uN wK jM jN jZ jB ++ R) s.heap := hP
  generalize hae : ([.ref (ad 5)] : List Value).toArray = args at hts hQm ⊢
  have L2 : ∀ (n : Nat) (v1 : Int32), f_P_unusedRow_L2 n v1 pU = some ro → ∀ (H : Heap) (locs : List Loc) (ls : Array Slot), va_P D vwCl (WC ca ad bq nF nO nL nA nC nV nU nP nE bF bO bL bA bC bV bU bP bE cT cK cO cQ cD pT pK pR pW pU pI pC uO uF uE uN wK jM jN jZ jB ++ R) H → va_D A (WC ca ad bq nF nO nL nA nC nV nU nP nE bF bO bL bA bC bV bU bP bE cT cK cO cQ cD pT pK pR pW pU pI pC uO uF uE uN wK jM jN jZ jB ++ R) → va_S A s.heap H locs → lv_has ls 2 [(0, .ref (ad 5)), (1, .int v1)] → W p l e ({ frames := 0, cells := 0, slots := 0, locals := 0 } : Room) s m args below meth c H locs 0 0 Qm (F0 m 2 ls []) := by
    intro n
    induction n with
    | zero => intro v1 hf; cases hf
    | succ n ih =>
      intro v1 hf H locs ls hP hD hS hl
      unfold f_P_unusedRow_L2 at hf
      refine lv_iload_n hx hb dX1_unusedRow_2 rfl (lv_at hl 1 rfl) ?_
      refine lv_bipush (v := 8) hx hb dX1_unusedRow_3 (by decide) ?_
      refine lv_icmp_ge (tgt := 25) hx hb dX1_unusedRow_5 (by decide) (fun c4 => ?_) (fun c4 => ?_)
      · have hf := br_pos c4 hf
        refine lv_iconst (v := (-1)) hx hb dX1_unusedRow_25 (by decide) ?_
        cases hf
        exact end_i hAe hQm hx hb hr hlocks rfl hP hD hS dX1_unusedRow_26
      · have hf := br_neg c4 hf
        refine lv_aload_n hx hb dX1_unusedRow_8 rfl (lv_at hl 0 rfl) ?_
        refine va_get (D := D) (ci := 5) (v := .ref (ad 25)) (C := RX1) (T := TX1) (N := 7) hx hb hts inX1 hown hK hP 19 rfl rfl 4 (by decide) (hts _ q111) (fun _ h9 => h9) rfl dX1_unusedRow_9 ?_
        refine lv_iload_n hx hb dX1_unusedRow_12 rfl (lv_at hl 1 rfl) ?_
        obtain ⟨k5, hf⟩ := ck_not hf
        refine va_zald (D := D) hx hb hK hP 22 1 rfl rfl k5 dX1_unusedRow_13 ?_
        refine lv_if_ne (tgt := 19) hx hb dX1_unusedRow_14 (by decide) (fun c6 => ?_) (fun c6 => ?_)
        · have hf := br_neg c6 hf
          refine lv_iinc (v := (v1 + 1)) (lv' := [(1, .int (v1 + 1)), (0, .ref (ad 5))]) hx hb dX1_unusedRow_19 hl (k := 1) rfl rfl (by decide) rfl (fun ls hl => ?_)
          refine lv_goto (tgt := 2) hx hb dX1_unusedRow_22 (by decide) ?_
          exact ih (v1 + 1) hf _ _ _ hP hD hS (lv_sub hl [1, 0] rfl)
        · have hf := br_pos c6 hf
          refine lv_iload_n hx hb dX1_unusedRow_17 rfl (lv_at hl 1 rfl) ?_
          cases hf
          exact end_i hAe hQm hx hb hr hlocks rfl hP hD hS dX1_unusedRow_18
  refine lv_iconst (v := 0) hx hb dX1_unusedRow_0 (by decide) ?_
  refine lv_istore_n (lv' := [(1, .int 0), (0, .ref (ad 5))]) hx hb dX1_unusedRow_1 rfl hl (by decide) rfl (fun ls hl => ?_)
  exact L2 FU 0 hf _ _ _ hP hD hS (lv_sub hl [1, 0] rfl)
def f_P_fillRow_L35 : Nat → Int32 → Int32 → Int32 → Int32 → (Nat → Int32) → (Nat → Int32) → (Nat → Int32) → (Nat → Nat → Int32) → Option ((Nat → Int32) × (Nat → Nat → Int32))
  | 0, _, _, _, _, _, _, _, _ => none
  | fuel + 1, v1, v3, v4, nF, nA, nC, nU, pC =>
    if 16 ≤ v4 then
      some (nU, pC)
    else
      (f_S_isAlive v3 nF nA).bind fun r46 =>
      if r46 = 0 then
        some (nU, pC)
      else
        (f_S_blockIn v3 v4 nF nC).bind fun r49 =>
        if v1 < 0 ∨ 8 ≤ v1.toNatClampNeg then none else
          if ((v3 * 16) + v4) < 0 ∨ 640 ≤ ((v3 * 16) + v4).toNatClampNeg then none else
          (f_S_addUser r49 nU).bind fun nU_53 =>
        f_P_fillRow_L35 fuel v1 v3 (v4 + 1) nF nA nC nU_53 (updG pC v1.toNatClampNeg ((v3 * 16) + v4).toNatClampNeg r49)
def f_P_fillRow_L10 : Nat → Int32 → Int32 → Int32 → (Nat → Int32) → (Nat → Int32) → (Nat → Int32) → (Nat → Int32) → (Nat → Nat → Int32) → Option ((Nat → Int32) × (Nat → Int32) × (Nat → Nat → Int32))
  | 0, _, _, _, _, _, _, _, _ => none
  | fuel + 1, v1, v3, nF, nA, nC, nU, pI, pC =>
    if 40 ≤ v3 then
      some (nU, pI, pC)
    else
      (f_S_isAlive v3 nF nA).bind fun r32 =>
      if ((v1 * 40) + v3) < 0 ∨ 320 ≤ ((v1 * 40) + v3).toNatClampNeg then none else
        (f_P_fillRow_L35 FU v1 v3 0 nF nA nC nU pC).bind fun (nU_56, pC_57) =>
      f_P_fillRow_L10 fuel v1 (v3 + 1) nF nA nC nU_56 (upd pI ((v1 * 40) + v3).toNatClampNeg (vp_nar .boolean r32)) pC_57
def f_P_fillRow (p1 : Int32) (nF : Int32) (nA : Nat → Int32) (nC : Nat → Int32) (nU : Nat → Int32) (pI : Nat → Int32) (pC : Nat → Nat → Int32) : Option ((Nat → Int32) × (Nat → Int32) × (Nat → Nat → Int32)) :=
  (f_P_isRow p1).bind fun r1 =>
  if r1 = 0 then
    some (nU, pI, pC)
  else
    (f_P_fillRow_L10 FU p1 0 nF nA nC nU pI pC).bind fun (nU_59, pI_60, pC_61) =>
    some (nU_59, pI_60, pC_61)
set_option maxHeartbeats 4000000 in
set_option maxRecDepth 100000 in
theorem m_P_fillRow (l : Launch) {D : va_G} {sl : List (String × Nat × String)} (ca : Nat → ClassId) (ad : Nat → Nat) (bq : Nat) (nF : Int32) (nO : Nat → Int32) (nL : Nat → Int32) (nA : Nat → Int32) (nC : Nat → Int32) (nV : Nat → Int32) (nU : Nat → Int32) (nP : Nat → Int32) (nE : Int32) (bF : Int32) (bO : Nat → Int32) (bL : Nat → Int32) (bA : Nat → Int32) (bC : Nat → Int32) (bV : Nat → Int32) (bU : Nat → Int32) (bP : Nat → Int32) (bE : Int32) (cT : Int32) (cK : Nat → Int32) (cO : Int32) (cQ : Nat → Int32) (cD : Int32) (pT : Int32) (pK : Int32) (pR : Nat → Int32) (pW : Nat → Int32) (pU : Nat → Int32) (pI : Nat → Int32) (pC : Nat → Nat → Int32) (uO : Int32) (uF : Nat → Int32) (uE : Nat → Int32) (uN : Nat → Int32) (wK : Nat → Int32) (jM : Int32) (jN : Int32) (jZ : Nat) (jB : Nat → Int32) (R : va_W) (sz : Nat) (p1 : Int32) (onU : Nat → Int32) (opI : Nat → Int32) (opC : Nat → Nat → Int32) (hf : f_P_fillRow p1 nF nA nC nU pI pC = some (onU, opI, opC)) : Met l yX1_fillRow (wm yX1_fillRow cX1_fillRow 6 none) ({ frames := 2, cells := 0, slots := 0, locals := 43 } : Room) (PRE [.ref (ad 5), .int p1, .ref (ad 1)] D ca sl (WC ca ad bq nF nO nL nA nC nV nU nP nE bF bO bL bA bC bV bU bP bE cT cK cO cQ cD pT pK pR pW pU pI pC uO uF uE uN wK jM jN jZ jB ++ R) sz) (QV D (WC ca ad bq nF nO nL nA nC nV onU nP nE bF bO bL bA bC bV bU bP bE cT cK cO cQ cD pT pK pR pW pU opI opC uO uF uE uN wK jM jN jZ jB ++ R) (WC ca ad bq nF nO nL nA nC nV nU nP nE bF bO bL bA bC bV bU bP bE cT cK cO cQ cD pT pK pR pW pU pI pC uO uF uE uN wK jM jN jZ jB ++ R) sz) 0 0 (va_A (WC ca ad bq nF nO nL nA nC nV nU nP nE bF bO bL bA bC bV bU bP bE cT cK cO cQ cD pT pK pR pW pU pI pC uO uF uE uN wK jM jN jZ jB ++ R) sz) := by
  refine Met.ofW (cc := cX1_fillRow) (maxL := 6) (ret := none) (by decide) rfl ?_
  intro p e s m args below meth c s₁ B hml hv
  obtain ⟨rfl, rfl, hP, hE, hD0⟩ := hv
  have hx := B.exec
  have hb := B.bytes
  have hr := B.returns
  have hts := wm_ww (atoms_spec (ws := wm yX1_fillRow cX1_fillRow 6 none) B.pre)
  have hown : s.vm.findClass RX1 = some m.cls := findClass_of_methodNamed B.named
  have hlocks := B.notSynchronized
  have hK := hE.1
  have hD := hD0.self (sz := s.heap.size)
  generalize hAe : va_A (WC ca ad bq nF nO nL nA nC nV nU nP nE bF bO bL bA bC bV bU bP bE cT cK cO cQ cD pT pK pR pW pU pI pC uO uF uE uN wK jM jN jZ jB ++ R) s.heap.size = A at hD ⊢
  have hA : ∀ q : Nat, s.heap.size ≤ q → A q := fun q h => by rw [← hAe]; exact Or.inr h
  have hS : va_S A s.heap s.heap [] := va_S.rf
  have hl := lv_entry ([.ref (ad 5), .int p1, .ref (ad 1)]) (n := 6) (Nat.le_of_ble_eq_true rfl)
  rw [lg_entry_eq]
  generalize (lg_sl ([.ref (ad 5), .int p1, .ref (ad 1)]) ++ List.replicate (6 - (lg_sl ([.ref (ad 5), .int p1, .ref (ad 1)])).length) Slot.unset).toArray = ls at hl ⊢
  have hl : lv_has ls 6 [(0, .ref (ad 5)), (1, .int p1), (2, .ref (ad 1))] := hl
  change W p l e ({ frames := 2, cells := 0, slots := 0, locals := 43 } : Room) s m _ below meth c s.heap [] 0 0 _ _
  generalize hQm : MQ below (QV D (WC ca ad bq nF nO nL nA nC nV onU nP nE bF bO bL bA bC bV bU bP bE cT cK cO cQ cD pT pK pR pW pU opI opC uO uF uE uN wK jM jN jZ jB ++ R) (WC ca ad bq nF nO nL nA nC nV nU nP nE bF bO bL bA bC bV bU bP bE cT cK cO cQ cD pT pK pR pW pU pI pC uO uF uE uN wK jM jN jZ jB ++ R) s.heap.size) _ s 0 0 A = Qm
  have hP : va_P D vwCl (WC ca ad bq nF nO nL nA nC nV nU nP nE bF bO bL bA bC bV bU bP bE cT cK cO cQ cD pT pK pR pW pU pI pC uO uF uE uN wK jM jN jZ jB ++ R) s.heap := hP
  generalize hae : ([.ref (ad 5), .int p1, .ref (ad 1)] : List Value).toArray = args at hts hQm ⊢
  have L35 : ∀ (n : Nat) (v1 : Int32) (v3 : Int32) (v4 : Int32) (nU : Nat → Int32) (pI : Nat → Int32) (pC : Nat → Nat → Int32) (znU : Nat → Int32) (zpC : Nat → Nat → Int32), f_P_fillRow_L35 n v1 v3 v4 nF nA nC nU pC = some (znU, zpC) → ∀ (H : Heap) (locs : List Loc) (ls : Array Slot), va_P D vwCl (WC ca ad bq nF nO nL nA nC nV nU nP nE bF bO bL bA bC bV bU bP bE cT cK cO cQ cD pT pK pR pW pU pI pC uO uF uE uN wK jM jN jZ jB ++ R) H → va_D A (WC ca ad bq nF nO nL nA nC nV nU nP nE bF bO bL bA bC bV bU bP bE cT cK cO cQ cD pT pK pR pW pU pI pC uO uF uE uN wK jM jN jZ jB ++ R) → va_S A s.heap H locs → lv_has ls 6 [(0, .ref (ad 5)), (1, .int v1), (2, .ref (ad 1)), (3, .int v3), (4, .int v4)] → (∀ (H : Heap) (locs : List Loc) (ls : Array Slot), va_P D vwCl (WC ca ad bq nF nO nL nA nC nV znU nP nE bF bO bL bA bC bV bU bP bE cT cK cO cQ cD pT pK pR pW pU pI zpC uO uF uE uN wK jM jN jZ jB ++ R) H → va_D A (WC ca ad bq nF nO nL nA nC nV znU nP nE bF bO bL bA bC bV bU bP bE cT cK cO cQ cD pT pK pR pW pU pI zpC uO uF uE uN wK jM jN jZ jB ++ R) → va_S A s.heap H locs → lv_has ls 6 [(0, .ref (ad 5)), (1, .int v1), (2, .ref (ad 1)), (3, .int v3)] → W p l e ({ frames := 2, cells := 0, slots := 0, locals := 43 } : Room) s m args below meth c H locs 0 0 Qm (F0 m 87 ls [])) → W p l e ({ frames := 2, cells := 0, slots := 0, locals := 43 } : Room) s m args below meth c H locs 0 0 Qm (F0 m 35 ls []) := by
    intro n
    induction n with
    | zero => intro v1 v3 v4 nU pI pC znU zpC hf; cases hf
    | succ n ih =>
      intro v1 v3 v4 nU pI pC znU zpC hf H locs ls hP hD hS hl kk
      unfold f_P_fillRow_L35 at hf
      refine lv_iload hx hb dX1_fillRow_35 (lv_at hl 4 rfl) ?_
      refine lv_bipush (v := 16) hx hb dX1_fillRow_37 (by decide) ?_
      refine lv_icmp_ge (tgt := 87) hx hb dX1_fillRow_39 (by decide) (fun c45 => ?_) (fun c45 => ?_)
      · have hf := br_pos c45 hf
        cases hf
        exact kk _ _ _ hP hD hS (lv_sub hl [0, 1, 2, 3] rfl)
      · have hf := br_neg c45 hf
        refine lv_aload_n hx hb dX1_fillRow_42 rfl (lv_at hl 2 rfl) ?_
        refine lv_iload_n hx hb dX1_fillRow_43 rfl (lv_at hl 3 rfl) ?_
        obtain ⟨r46, h47, hf⟩ := bnd hf
        refine call_vi (rest := []) (m_S_isAlive l ca ad bq nF nO nL nA nC nV nU nP nE bF bO bL bA bC bV bU bP bE cT cK cO cQ cD pT pK pR pW pU pI pC uO uF uE uN wK jM jN jZ jB R _ v3 r46 h47) ⟨hx, hb, hml, hown, hts⟩ (cwV 1 hts (gV q715 q430 q431 q25 q432) rfl rfl rfl (by decide +kernel) ⟨Nat.le_of_ble_eq_true rfl, Nat.le_of_ble_eq_true rfl⟩) (va_recv hK hP (ci := 6) (q0 := 1) rfl rfl) hE hP hD hS hA rfl hl.1 rfl (lv_room (Nat.le_of_ble_eq_true rfl)) dX1_fillRow_44 ⟨Nat.le_of_ble_eq_true rfl, Nat.le_of_ble_eq_true rfl⟩ (fun H locs hP hD hS => ?_)
        refine lv_if_eq (tgt := 87) hx hb dX1_fillRow_47 (by decide) (fun c48 => ?_) (fun c48 => ?_)
        · have hf := br_pos c48 hf
          cases hf
          exact kk _ _ _ hP hD hS (lv_sub hl [0, 1, 2, 3] rfl)
        · have hf := br_neg c48 hf
          refine lv_aload_n hx hb dX1_fillRow_50 rfl (lv_at hl 2 rfl) ?_
          refine lv_iload_n hx hb dX1_fillRow_51 rfl (lv_at hl 3 rfl) ?_
          refine lv_iload hx hb dX1_fillRow_52 (lv_at hl 4 rfl) ?_
          obtain ⟨r49, h50, hf⟩ := bnd hf
          refine call_vi (rest := []) (m_S_blockIn l ca ad bq nF nO nL nA nC nV nU nP nE bF bO bL bA bC bV bU bP bE cT cK cO cQ cD pT pK pR pW pU pI pC uO uF uE uN wK jM jN jZ jB R _ v3 v4 r49 h50) ⟨hx, hb, hml, hown, hts⟩ (cwV 2 hts (gV q716 q509 q510 q25 q511) rfl rfl rfl (by decide +kernel) ⟨Nat.le_of_ble_eq_true rfl, Nat.le_of_ble_eq_true rfl⟩) (va_recv hK hP (ci := 6) (q0 := 1) rfl rfl) hE hP hD hS hA rfl hl.1 rfl (lv_room (Nat.le_of_ble_eq_true rfl)) dX1_fillRow_54 ⟨Nat.le_of_ble_eq_true rfl, Nat.le_of_ble_eq_true rfl⟩ (fun H locs hP hD hS => ?_)
          refine lv_istore (lv' := [(5, .int r49), (0, .ref (ad 5)), (1, .int v1), (2, .ref (ad 1)), (3, .int v3), (4, .int v4)]) hx hb dX1_fillRow_57 hl (by decide) rfl (fun ls hl => ?_)
          refine lv_aload_n hx hb dX1_fillRow_59 rfl (lv_at hl 1 rfl) ?_
          refine va_get (D := D) (ci := 5) (v := .ref (ad 27)) (C := RX1) (T := TX1) (N := 7) hx hb hts inX1 hown hK hP 19 rfl rfl 6 (by decide) (hts _ q113) (fun _ h9 => h9) rfl dX1_fillRow_60 ?_
          refine lv_iload_n hx hb dX1_fillRow_63 rfl (lv_at hl 2 rfl) ?_
          obtain ⟨k51, hf⟩ := ck_not hf
          refine va_aldA (D := D) hx hb hK hP 24 4 rfl rfl k51 dX1_fillRow_64 ?_
          refine lv_iload_n hx hb dX1_fillRow_65 rfl (lv_at hl 4 rfl) ?_
          refine lv_bipush (v := 16) hx hb dX1_fillRow_66 (by decide) ?_
          refine lv_imul hx hb dX1_fillRow_68 ?_
          refine lv_iload hx hb dX1_fillRow_69 (lv_at hl 5 rfl) ?_
          refine lv_iadd hx hb dX1_fillRow_71 ?_
          refine lv_iload hx hb dX1_fillRow_72 (lv_at hl 0 rfl) ?_
          obtain ⟨k52, hf⟩ := ck_not hf
          refine va_iast (D := D) hx hb hK hP hD hS (25 + v1.toNatClampNeg) 0 (WC_row (Nat.not_le.mp fun q => k51 (Or.inr q))) rfl k52 dX1_fillRow_74 (fun H locs hP hD hS => ?_)
          rw [WC_setrow (Nat.not_le.mp fun q => k51 (Or.inr q))] at hP hD
          have hP : va_P D vwCl (WC ca ad bq nF nO nL nA nC nV nU nP nE bF bO bL bA bC bV bU bP bE cT cK cO cQ cD pT pK pR pW pU pI (updG pC v1.toNatClampNeg ((v3 * 16) + v4).toNatClampNeg r49) uO uF uE uN wK jM jN jZ jB ++ R) H := hP
          have hD : va_D A (WC ca ad bq nF nO nL nA nC nV nU nP nE bF bO bL bA bC bV bU bP bE cT cK cO cQ cD pT pK pR pW pU pI (updG pC v1.toNatClampNeg ((v3 * 16) + v4).toNatClampNeg r49) uO uF uE uN wK jM jN jZ jB ++ R) := hD
          refine lv_aload_n hx hb dX1_fillRow_75 rfl (lv_at hl 3 rfl) ?_
          refine lv_iload hx hb dX1_fillRow_76 (lv_at hl 0 rfl) ?_
          obtain ⟨nU_53, h54, hf⟩ := bnd hf
          refine call_vv (rest := []) (m_S_addUser l ca ad bq nF nO nL nA nC nV nU nP nE bF bO bL bA bC bV bU bP bE cT cK cO cQ cD pT pK pR pW pU pI (updG pC v1.toNatClampNeg ((v3 * 16) + v4).toNatClampNeg r49) uO uF uE uN wK jM jN jZ jB R _ r49 nU_53 h54) ⟨hx, hb, hml, hown, hts⟩ (cwV 1 hts (gV q717 q495 q496 q25 q497) rfl rfl rfl (by decide +kernel) ⟨Nat.le_of_ble_eq_true rfl, Nat.le_of_ble_eq_true rfl⟩) (va_recv hK hP (ci := 6) (q0 := 1) rfl rfl) hE hP hD hS hA rfl hl.1 rfl (lv_room (Nat.le_of_ble_eq_true rfl)) dX1_fillRow_78 ⟨Nat.le_of_ble_eq_true rfl, Nat.le_of_ble_eq_true rfl⟩ (fun H locs hP hD hS => ?_)
          refine lv_iinc (v := (v4 + 1)) (lv' := [(4, .int (v4 + 1)), (5, .int r49), (0, .ref (ad 5)), (1, .int v1), (2, .ref (ad 1)), (3, .int v3)]) hx hb dX1_fillRow_81 hl (k := 5) rfl rfl (by decide) rfl (fun ls hl => ?_)
          refine lv_goto (tgt := 35) hx hb dX1_fillRow_84 (by decide) ?_
          exact ih v1 v3 (v4 + 1) nU_53 pI (updG pC v1.toNatClampNeg ((v3 * 16) + v4).toNatClampNeg r49) _ _ hf _ _ _ hP hD hS (lv_sub hl [2, 3, 4, 5, 0] rfl) kk
  have L10 : ∀ (n : Nat) (v1 : Int32) (v3 : Int32) (nU : Nat → Int32) (pI : Nat → Int32) (pC : Nat → Nat → Int32) (znU : Nat → Int32) (zpI : Nat → Int32) (zpC : Nat → Nat → Int32), f_P_fillRow_L10 n v1 v3 nF nA nC nU pI pC = some (znU, zpI, zpC) → ∀ (H : Heap) (locs : List Loc) (ls : Array Slot), va_P D vwCl (WC ca ad bq nF nO nL nA nC nV nU nP nE bF bO bL bA bC bV bU bP bE cT cK cO cQ cD pT pK pR pW pU pI pC uO uF uE uN wK jM jN jZ jB ++ R) H → va_D A (WC ca ad bq nF nO nL nA nC nV nU nP nE bF bO bL bA bC bV bU bP bE cT cK cO cQ cD pT pK pR pW pU pI pC uO uF uE uN wK jM jN jZ jB ++ R) → va_S A s.heap H locs → lv_has ls 6 [(0, .ref (ad 5)), (1, .int v1), (2, .ref (ad 1)), (3, .int v3)] → (∀ (H : Heap) (locs : List Loc) (ls : Array Slot), va_P D vwCl (WC ca ad bq nF nO nL nA nC nV znU nP nE bF bO bL bA bC bV bU bP bE cT cK cO cQ cD pT pK pR pW pU zpI zpC uO uF uE uN wK jM jN jZ jB ++ R) H → va_D A (WC ca ad bq nF nO nL nA nC nV znU nP nE bF bO bL bA bC bV bU bP bE cT cK cO cQ cD pT pK pR pW pU zpI zpC uO uF uE uN wK jM jN jZ jB ++ R) → va_S A s.heap H locs → lv_has ls 6 [] → W p l e ({ frames := 2, cells := 0, slots := 0, locals := 43 } : Room) s m args below meth c H locs 0 0 Qm (F0 m 93 ls [])) → W p l e ({ frames := 2, cells := 0, slots := 0, locals := 43 } : Room) s m args below meth c H locs 0 0 Qm (F0 m 10 ls []) := by
    intro n
    induction n with
    | zero => intro v1 v3 nU pI pC znU zpI zpC hf; cases hf
    | succ n ih =>
      intro v1 v3 nU pI pC znU zpI zpC hf H locs ls hP hD hS hl kk
      unfold f_P_fillRow_L10 at hf
      refine lv_iload_n hx hb dX1_fillRow_10 rfl (lv_at hl 3 rfl) ?_
      refine lv_bipush (v := 40) hx hb dX1_fillRow_11 (by decide) ?_
      refine lv_icmp_ge (tgt := 93) hx hb dX1_fillRow_13 (by decide) (fun c31 => ?_) (fun c31 => ?_)
      · have hf := br_pos c31 hf
        cases hf
        exact kk _ _ _ hP hD hS (lv_sub hl [] rfl)
      · have hf := br_neg c31 hf
        refine lv_aload_n hx hb dX1_fillRow_16 rfl (lv_at hl 0 rfl) ?_
        refine va_get (D := D) (ci := 5) (v := .ref (ad 26)) (C := RX1) (T := TX1) (N := 7) hx hb hts inX1 hown hK hP 19 rfl rfl 5 (by decide) (hts _ q112) (fun _ h9 => h9) rfl dX1_fillRow_17 ?_
        refine lv_iload_n hx hb dX1_fillRow_20 rfl (lv_at hl 1 rfl) ?_
        refine lv_bipush (v := 40) hx hb dX1_fillRow_21 (by decide) ?_
        refine lv_imul hx hb dX1_fillRow_23 ?_
        refine lv_iload_n hx hb dX1_fillRow_24 rfl (lv_at hl 3 rfl) ?_
        refine lv_iadd hx hb dX1_fillRow_25 ?_
        refine lv_aload_n hx hb dX1_fillRow_26 rfl (lv_at hl 2 rfl) ?_
        refine lv_iload_n hx hb dX1_fillRow_27 rfl (lv_at hl 3 rfl) ?_
        obtain ⟨r32, h33, hf⟩ := bnd hf
        refine call_vi (rest := [.int ((v1 * 40) + v3), .ref (ad 26)]) (m_S_isAlive l ca ad bq nF nO nL nA nC nV nU nP nE bF bO bL bA bC bV bU bP bE cT cK cO cQ cD pT pK pR pW pU pI pC uO uF uE uN wK jM jN jZ jB R _ v3 r32 h33) ⟨hx, hb, hml, hown, hts⟩ (cwV 1 hts (gV q715 q430 q431 q25 q432) rfl rfl rfl (by decide +kernel) ⟨Nat.le_of_ble_eq_true rfl, Nat.le_of_ble_eq_true rfl⟩) (va_recv hK hP (ci := 6) (q0 := 1) rfl rfl) hE hP hD hS hA rfl hl.1 rfl (lv_room (Nat.le_of_ble_eq_true rfl)) dX1_fillRow_28 ⟨Nat.le_of_ble_eq_true rfl, Nat.le_of_ble_eq_true rfl⟩ (fun H locs hP hD hS => ?_)
        obtain ⟨k34, hf⟩ := ck_not hf
        refine va_zast (D := D) hx hb hK hP hD hS 23 1 rfl rfl k34 dX1_fillRow_31 (fun H locs hP hD hS => ?_)
        have hP : va_P D vwCl (WC ca ad bq nF nO nL nA nC nV nU nP nE bF bO bL bA bC bV bU bP bE cT cK cO cQ cD pT pK pR pW pU (upd pI ((v1 * 40) + v3).toNatClampNeg (vp_nar .boolean r32)) pC uO uF uE uN wK jM jN jZ jB ++ R) H := hP
        have hD : va_D A (WC ca ad bq nF nO nL nA nC nV nU nP nE bF bO bL bA bC bV bU bP bE cT cK cO cQ cD pT pK pR pW pU (upd pI ((v1 * 40) + v3).toNatClampNeg (vp_nar .boolean r32)) pC uO uF uE uN wK jM jN jZ jB ++ R) := hD
        refine lv_iconst (v := 0) hx hb dX1_fillRow_32 (by decide) ?_
        refine lv_istore (lv' := [(4, .int 0), (0, .ref (ad 5)), (1, .int v1), (2, .ref (ad 1)), (3, .int v3)]) hx hb dX1_fillRow_33 hl (by decide) rfl (fun ls hl => ?_)
        obtain ⟨⟨nU_56, pC_57⟩, h55, hf⟩ := bnd hf
        refine L35 FU v1 v3 0 nU (upd pI ((v1 * 40) + v3).toNatClampNeg (vp_nar .boolean r32)) pC nU_56 pC_57 h55 _ _ _ hP hD hS (lv_sub hl [1, 2, 3, 4, 0] rfl) (fun H locs ls hP hD hS hl => ?_)
        refine lv_iinc (v := (v3 + 1)) (lv' := [(3, .int (v3 + 1)), (0, .ref (ad 5)), (1, .int v1), (2, .ref (ad 1))]) hx hb dX1_fillRow_87 hl (k := 3) rfl rfl (by decide) rfl (fun ls hl => ?_)
        refine lv_goto (tgt := 10) hx hb dX1_fillRow_90 (by decide) ?_
        exact ih v1 (v3 + 1) nU_56 (upd pI ((v1 * 40) + v3).toNatClampNeg (vp_nar .boolean r32)) pC_57 _ _ _ hf _ _ _ hP hD hS (lv_sub hl [1, 2, 3, 0] rfl) kk
  refine lv_iload_n hx hb dX1_fillRow_0 rfl (lv_at hl 1 rfl) ?_
  obtain ⟨r1, h2, hf⟩ := bnd hf
  refine call_si (rest := []) (m_P_isRow l ca ad bq nF nO nL nA nC nV nU nP nE bF bO bL bA bC bV bU bP bE cT cK cO cQ cD pT pK pR pW pU pI pC uO uF uE uN wK jM jN jZ jB R _ p1 r1 h2) ⟨hx, hb, hml, hown, hts⟩ (va_cwS 1 hts (gS q670 q671 q27 q672) rfl rfl rfl (by decide +kernel) ⟨Nat.le_of_ble_eq_true rfl, Nat.le_of_ble_eq_true rfl⟩) hE hP hD hS hA rfl hl.1 rfl (lv_room (Nat.le_of_ble_eq_true rfl)) dX1_fillRow_1 ⟨Nat.le_of_ble_eq_true rfl, Nat.le_of_ble_eq_true rfl⟩ (fun H locs hP hD hS => ?_)
  refine lv_if_ne (tgt := 8) hx hb dX1_fillRow_4 (by decide) (fun c3 => ?_) (fun c3 => ?_)
  · have hf := br_neg c3 hf
    refine lv_iconst (v := 0) hx hb dX1_fillRow_8 (by decide) ?_
    refine lv_istore_n (lv' := [(3, .int 0), (0, .ref (ad 5)), (1, .int p1), (2, .ref (ad 1))]) hx hb dX1_fillRow_9 rfl hl (by decide) rfl (fun ls hl => ?_)
    obtain ⟨⟨nU_59, pI_60, pC_61⟩, h58, hf⟩ := bnd hf
    refine L10 FU p1 0 nU pI pC nU_59 pI_60 pC_61 h58 _ _ _ hP hD hS (lv_sub hl [1, 2, 3, 0] rfl) (fun H locs ls hP hD hS hl => ?_)
    cases hf
    exact end_v hAe hQm hx hb hr hlocks hP hD hS dX1_fillRow_93
  · have hf := br_pos c3 hf
    cases hf
    exact end_v hAe hQm hx hb hr hlocks hP hD hS dX1_fillRow_7
def f_P_add (p1 : Int32) (nF : Int32) (nA : Nat → Int32) (nC : Nat → Int32) (nU : Nat → Int32) (pT : Int32) (pK : Int32) (pR : Nat → Int32) (pW : Nat → Int32) (pU : Nat → Int32) (pI : Nat → Int32) (pC : Nat → Nat → Int32) : Option (Int32 × (Nat → Int32) × Int32 × Int32 × (Nat → Int32) × (Nat → Int32) × (Nat → Int32) × (Nat → Int32) × (Nat → Nat → Int32)) :=
  (f_P_unusedRow pU).bind fun r1 =>
  if 30 ≤ pT then
    some ((-1), nU, pT, pK, pR, pW, pU, pI, pC)
  else
    (f_P_isRow r1).bind fun r4 =>
    if r4 = 0 then
      some ((-1), nU, pT, pK, pR, pW, pU, pI, pC)
    else
      if pT < 0 ∨ 30 ≤ pT.toNatClampNeg then none else
        if pT < 0 ∨ 30 ≤ pT.toNatClampNeg then none else
        if r1 < 0 ∨ 8 ≤ r1.toNatClampNeg then none else
        (f_P_fillRow r1 nF nA nC nU pI pC).bind fun (nU_10, pI_11, pC_12) =>
      some (pT, nU_10, (pT + 1), (pK + 1), (upd pR pT.toNatClampNeg p1), (upd pW pT.toNatClampNeg r1), (upd pU r1.toNatClampNeg (vp_nar .boolean 1)), pI_11, pC_12)
set_option maxHeartbeats 4000000 in
set_option maxRecDepth 100000 in
theorem m_P_add (l : Launch) {D : va_G} {sl : List (String × Nat × String)} (ca : Nat → ClassId) (ad : Nat → Nat) (bq : Nat) (nF : Int32) (nO : Nat → Int32) (nL : Nat → Int32) (nA : Nat → Int32) (nC : Nat → Int32) (nV : Nat → Int32) (nU : Nat → Int32) (nP : Nat → Int32) (nE : Int32) (bF : Int32) (bO : Nat → Int32) (bL : Nat → Int32) (bA : Nat → Int32) (bC : Nat → Int32) (bV : Nat → Int32) (bU : Nat → Int32) (bP : Nat → Int32) (bE : Int32) (cT : Int32) (cK : Nat → Int32) (cO : Int32) (cQ : Nat → Int32) (cD : Int32) (pT : Int32) (pK : Int32) (pR : Nat → Int32) (pW : Nat → Int32) (pU : Nat → Int32) (pI : Nat → Int32) (pC : Nat → Nat → Int32) (uO : Int32) (uF : Nat → Int32) (uE : Nat → Int32) (uN : Nat → Int32) (wK : Nat → Int32) (jM : Int32) (jN : Int32) (jZ : Nat) (jB : Nat → Int32) (R : va_W) (sz : Nat) (p1 : Int32) (ro : Int32) (onU : Nat → Int32) (opT : Int32) (opK : Int32) (opR : Nat → Int32) (opW : Nat → Int32) (opU : Nat → Int32) (opI : Nat → Int32) (opC : Nat → Nat → Int32) (hf : f_P_add p1 nF nA nC nU pT pK pR pW pU pI pC = some (ro, onU, opT, opK, opR, opW, opU, opI, opC)) : Met l yX1_add (wm yX1_add cX1_add 5 (some .int)) ({ frames := 3, cells := 0, slots := 0, locals := 68 } : Room) (PRE [.ref (ad 5), .int p1, .ref (ad 1)] D ca sl (WC ca ad bq nF nO nL nA nC nV nU nP nE bF bO bL bA bC bV bU bP bE cT cK cO cQ cD pT pK pR pW pU pI pC uO uF uE uN wK jM jN jZ jB ++ R) sz) (QI ro D (WC ca ad bq nF nO nL nA nC nV onU nP nE bF bO bL bA bC bV bU bP bE cT cK cO cQ cD opT opK opR opW opU opI opC uO uF uE uN wK jM jN jZ jB ++ R) (WC ca ad bq nF nO nL nA nC nV nU nP nE bF bO bL bA bC bV bU bP bE cT cK cO cQ cD pT pK pR pW pU pI pC uO uF uE uN wK jM jN jZ jB ++ R) sz) 0 0 (va_A (WC ca ad bq nF nO nL nA nC nV nU nP nE bF bO bL bA bC bV bU bP bE cT cK cO cQ cD pT pK pR pW pU pI pC uO uF uE uN wK jM jN jZ jB ++ R) sz) := by
  refine Met.ofW (cc := cX1_add) (maxL := 5) (ret := (some .int)) (by decide) rfl ?_
  intro p e s m args below meth c s₁ B hml hv
  obtain ⟨rfl, rfl, hP, hE, hD0⟩ := hv
  have hx := B.exec
  have hb := B.bytes
  have hr := B.returns
  have hts := wm_ww (atoms_spec (ws := wm yX1_add cX1_add 5 (some .int)) B.pre)
  have hown : s.vm.findClass RX1 = some m.cls := findClass_of_methodNamed B.named
  have hlocks := B.notSynchronized
  have hK := hE.1
  have hD := hD0.self (sz := s.heap.size)
  generalize hAe : va_A (WC ca ad bq nF nO nL nA nC nV nU nP nE bF bO bL bA bC bV bU bP bE cT cK cO cQ cD pT pK pR pW pU pI pC uO uF uE uN wK jM jN jZ jB ++ R) s.heap.size = A at hD ⊢
  have hA : ∀ q : Nat, s.heap.size ≤ q → A q := fun q h => by rw [← hAe]; exact Or.inr h
  have hS : va_S A s.heap s.heap [] := va_S.rf
  have hl := lv_entry ([.ref (ad 5), .int p1, .ref (ad 1)]) (n := 5) (Nat.le_of_ble_eq_true rfl)
  rw [lg_entry_eq]
  generalize (lg_sl ([.ref (ad 5), .int p1, .ref (ad 1)]) ++ List.replicate (5 - (lg_sl ([.ref (ad 5), .int p1, .ref (ad 1)])).length) Slot.unset).toArray = ls at hl ⊢
  have hl : lv_has ls 5 [(0, .ref (ad 5)), (1, .int p1), (2, .ref (ad 1))] := hl
  change W p l e ({ frames := 3, cells := 0, slots := 0, locals := 68 } : Room) s m _ below meth c s.heap [] 0 0 _ _
  generalize hQm : MQ below (QI ro D (WC ca ad bq nF nO nL nA nC nV onU nP nE bF bO bL bA bC bV bU bP bE cT cK cO cQ cD opT opK opR opW opU opI opC uO uF uE uN wK jM jN jZ jB ++ R) (WC ca ad bq nF nO nL nA nC nV nU nP nE bF bO bL bA bC bV bU bP bE cT cK cO cQ cD pT pK pR pW pU pI pC uO uF uE uN wK jM jN jZ jB ++ R) s.heap.size) _ s 0 0 A = Qm
  have hP : va_P D vwCl (WC ca ad bq nF nO nL nA nC nV nU nP nE bF bO bL bA bC bV bU bP bE cT cK cO cQ cD pT pK pR pW pU pI pC uO uF uE uN wK jM jN jZ jB ++ R) s.heap := hP
  generalize hae : ([.ref (ad 5), .int p1, .ref (ad 1)] : List Value).toArray = args at hts hQm ⊢
  refine lv_aload_n hx hb dX1_add_0 rfl (lv_at hl 0 rfl) ?_
  obtain ⟨r1, h2, hf⟩ := bnd hf
  refine call_vi (rest := []) (m_P_unusedRow l ca ad bq nF nO nL nA nC nV nU nP nE bF bO bL bA bC bV bU bP bE cT cK cO cQ cD pT pK pR pW pU pI pC uO uF uE uN wK jM jN jZ jB R _ r1 h2) ⟨hx, hb, hml, hown, hts⟩ (cwV 0 hts (gV q707 q709 q15 q27 q710) rfl rfl rfl (by decide +kernel) ⟨Nat.le_of_ble_eq_true rfl, Nat.le_of_ble_eq_true rfl⟩) (va_recv hK hP (ci := 5) (q0 := 19) rfl rfl) hE hP hD hS hA rfl hl.1 rfl (lv_room (Nat.le_of_ble_eq_true rfl)) dX1_add_1 ⟨Nat.le_of_ble_eq_true rfl, Nat.le_of_ble_eq_true rfl⟩ (fun H locs hP hD hS => ?_)
  refine lv_istore_n (lv' := [(3, .int r1), (0, .ref (ad 5)), (1, .int p1), (2, .ref (ad 1))]) hx hb dX1_add_4 rfl hl (by decide) rfl (fun ls hl => ?_)
  refine lv_aload_n hx hb dX1_add_5 rfl (lv_at hl 1 rfl) ?_
  refine va_get (D := D) (ci := 5) (v := .int pT) (C := RX1) (T := TX1) (N := 7) hx hb hts inX1 hown hK hP 19 rfl rfl 0 (by decide) (hts _ q107) (fun _ h9 => h9) rfl dX1_add_6 ?_
  refine lv_bipush (v := 30) hx hb dX1_add_9 (by decide) ?_
  refine lv_icmp_ge (tgt := 21) hx hb dX1_add_11 (by decide) (fun c3 => ?_) (fun c3 => ?_)
  · have hf := br_pos c3 hf
    refine lv_iconst (v := (-1)) hx hb dX1_add_21 (by decide) ?_
    cases hf
    exact end_i hAe hQm hx hb hr hlocks rfl hP hD hS dX1_add_22
  · have hf := br_neg c3 hf
    refine lv_iload_n hx hb dX1_add_14 rfl (lv_at hl 0 rfl) ?_
    obtain ⟨r4, h5, hf⟩ := bnd hf
    refine call_si (rest := []) (m_P_isRow l ca ad bq nF nO nL nA nC nV nU nP nE bF bO bL bA bC bV bU bP bE cT cK cO cQ cD pT pK pR pW pU pI pC uO uF uE uN wK jM jN jZ jB R _ r1 r4 h5) ⟨hx, hb, hml, hown, hts⟩ (va_cwS 1 hts (gS q670 q671 q27 q672) rfl rfl rfl (by decide +kernel) ⟨Nat.le_of_ble_eq_true rfl, Nat.le_of_ble_eq_true rfl⟩) hE hP hD hS hA rfl hl.1 rfl (lv_room (Nat.le_of_ble_eq_true rfl)) dX1_add_15 ⟨Nat.le_of_ble_eq_true rfl, Nat.le_of_ble_eq_true rfl⟩ (fun H locs hP hD hS => ?_)
    refine lv_if_ne (tgt := 23) hx hb dX1_add_18 (by decide) (fun c6 => ?_) (fun c6 => ?_)
    · have hf := br_neg c6 hf
      refine lv_aload_n hx hb dX1_add_23 rfl (lv_at hl 1 rfl) ?_
      refine va_get (D := D) (ci := 5) (v := .int pT) (C := RX1) (T := TX1) (N := 7) hx hb hts inX1 hown hK hP 19 rfl rfl 0 (by decide) (hts _ q107) (fun _ h9 => h9) rfl dX1_add_24 ?_
      refine lv_istore (lv' := [(4, .int pT), (3, .int r1), (0, .ref (ad 5)), (1, .int p1), (2, .ref (ad 1))]) hx hb dX1_add_27 hl (by decide) rfl (fun ls hl => ?_)
      refine lv_aload_n hx hb dX1_add_29 rfl (lv_at hl 2 rfl) ?_
      refine va_get (D := D) (ci := 5) (v := .ref (ad 23)) (C := RX1) (T := TX1) (N := 7) hx hb hts inX1 hown hK hP 19 rfl rfl 2 (by decide) (hts _ q109) (fun _ h9 => h9) rfl dX1_add_30 ?_
      refine lv_iload hx hb dX1_add_33 (lv_at hl 0 rfl) ?_
      refine lv_iload_n hx hb dX1_add_35 rfl (lv_at hl 3 rfl) ?_
      obtain ⟨k7, hf⟩ := ck_not hf
      refine va_iast (D := D) hx hb hK hP hD hS 20 0 rfl rfl k7 dX1_add_36 (fun H locs hP hD hS => ?_)
      have hP : va_P D vwCl (WC ca ad bq nF nO nL nA nC nV nU nP nE bF bO bL bA bC bV bU bP bE cT cK cO cQ cD pT pK (upd pR pT.toNatClampNeg p1) pW pU pI pC uO uF uE uN wK jM jN jZ jB ++ R) H := hP
      have hD : va_D A (WC ca ad bq nF nO nL nA nC nV nU nP nE bF bO bL bA bC bV bU bP bE cT cK cO cQ cD pT pK (upd pR pT.toNatClampNeg p1) pW pU pI pC uO uF uE uN wK jM jN jZ jB ++ R) := hD
      refine lv_aload_n hx hb dX1_add_37 rfl (lv_at hl 2 rfl) ?_
      refine va_get (D := D) (ci := 5) (v := .ref (ad 24)) (C := RX1) (T := TX1) (N := 7) hx hb hts inX1 hown hK hP 19 rfl rfl 3 (by decide) (hts _ q110) (fun _ h9 => h9) rfl dX1_add_38 ?_
      refine lv_iload hx hb dX1_add_41 (lv_at hl 0 rfl) ?_
      refine lv_iload_n hx hb dX1_add_43 rfl (lv_at hl 1 rfl) ?_
      obtain ⟨k8, hf⟩ := ck_not hf
      refine va_iast (D := D) hx hb hK hP hD hS 21 0 rfl rfl k8 dX1_add_44 (fun H locs hP hD hS => ?_)
      have hP : va_P D vwCl (WC ca ad bq nF nO nL nA nC nV nU nP nE bF bO bL bA bC bV bU bP bE cT cK cO cQ cD pT pK (upd pR pT.toNatClampNeg p1) (upd pW pT.toNatClampNeg r1) pU pI pC uO uF uE uN wK jM jN jZ jB ++ R) H := hP
      have hD : va_D A (WC ca ad bq nF nO nL nA nC nV nU nP nE bF bO bL bA bC bV bU bP bE cT cK cO cQ cD pT pK (upd pR pT.toNatClampNeg p1) (upd pW pT.toNatClampNeg r1) pU pI pC uO uF uE uN wK jM jN jZ jB ++ R) := hD
      refine lv_aload_n hx hb dX1_add_45 rfl (lv_at hl 2 rfl) ?_
      refine va_get (D := D) (ci := 5) (v := .ref (ad 25)) (C := RX1) (T := TX1) (N := 7) hx hb hts inX1 hown hK hP 19 rfl rfl 4 (by decide) (hts _ q111) (fun _ h9 => h9) rfl dX1_add_46 ?_
      refine lv_iload_n hx hb dX1_add_49 rfl (lv_at hl 1 rfl) ?_
      refine lv_iconst (v := 1) hx hb dX1_add_50 (by decide) ?_
      obtain ⟨k9, hf⟩ := ck_not hf
      refine va_zast (D := D) hx hb hK hP hD hS 22 1 rfl rfl k9 dX1_add_51 (fun H locs hP hD hS => ?_)
      have hP : va_P D vwCl (WC ca ad bq nF nO nL nA nC nV nU nP nE bF bO bL bA bC bV bU bP bE cT cK cO cQ cD pT pK (upd pR pT.toNatClampNeg p1) (upd pW pT.toNatClampNeg r1) (upd pU r1.toNatClampNeg (vp_nar .boolean 1)) pI pC uO uF uE uN wK jM jN jZ jB ++ R) H := hP
      have hD : va_D A (WC ca ad bq nF nO nL nA nC nV nU nP nE bF bO bL bA bC bV bU bP bE cT cK cO cQ cD pT pK (upd pR pT.toNatClampNeg p1) (upd pW pT.toNatClampNeg r1) (upd pU r1.toNatClampNeg (vp_nar .boolean 1)) pI pC uO uF uE uN wK jM jN jZ jB ++ R) := hD
      refine lv_aload_n hx hb dX1_add_52 rfl (lv_at hl 2 rfl) ?_
      refine lv_dup hx hb dX1_add_53 rfl ?_
      refine va_get (D := D) (ci := 5) (v := .int pT) (C := RX1) (T := TX1) (N := 7) hx hb hts inX1 hown hK hP 19 rfl rfl 0 (by decide) (hts _ q107) (fun _ h9 => h9) rfl dX1_add_54 ?_
      refine lv_iconst (v := 1) hx hb dX1_add_57 (by decide) ?_
      refine lv_iadd hx hb dX1_add_58 ?_
      refine va_put (D := D) (ci := 5) (v := .int (pT + 1)) (ty := .int) (C := RX1) (T := TX1) (N := 7) hx hb hts inX1 tyX1 tyX1_ok nmX1 hown hK hP hD hS 19 rfl rfl 0 (by decide) (hts _ q107) (fun _ h9 => h9) rfl (by decide +kernel) rfl rfl (Nat.le_of_ble_eq_true rfl) dX1_add_59 (fun H locs hP hD hS => ?_)
      have hP : va_P D vwCl (WC ca ad bq nF nO nL nA nC nV nU nP nE bF bO bL bA bC bV bU bP bE cT cK cO cQ cD (pT + 1) pK (upd pR pT.toNatClampNeg p1) (upd pW pT.toNatClampNeg r1) (upd pU r1.toNatClampNeg (vp_nar .boolean 1)) pI pC uO uF uE uN wK jM jN jZ jB ++ R) H := hP
      have hD : va_D A (WC ca ad bq nF nO nL nA nC nV nU nP nE bF bO bL bA bC bV bU bP bE cT cK cO cQ cD (pT + 1) pK (upd pR pT.toNatClampNeg p1) (upd pW pT.toNatClampNeg r1) (upd pU r1.toNatClampNeg (vp_nar .boolean 1)) pI pC uO uF uE uN wK jM jN jZ jB ++ R) := hD
      refine lv_aload_n hx hb dX1_add_62 rfl (lv_at hl 2 rfl) ?_
      refine lv_dup hx hb dX1_add_63 rfl ?_
      refine va_get (D := D) (ci := 5) (v := .int pK) (C := RX1) (T := TX1) (N := 7) hx hb hts inX1 hown hK hP 19 rfl rfl 1 (by decide) (hts _ q108) (fun _ h9 => h9) rfl dX1_add_64 ?_
      refine lv_iconst (v := 1) hx hb dX1_add_67 (by decide) ?_
      refine lv_iadd hx hb dX1_add_68 ?_
      refine va_put (D := D) (ci := 5) (v := .int (pK + 1)) (ty := .int) (C := RX1) (T := TX1) (N := 7) hx hb hts inX1 tyX1 tyX1_ok nmX1 hown hK hP hD hS 19 rfl rfl 1 (by decide) (hts _ q108) (fun _ h9 => h9) rfl (by decide +kernel) rfl rfl (Nat.le_of_ble_eq_true rfl) dX1_add_69 (fun H locs hP hD hS => ?_)
      have hP : va_P D vwCl (WC ca ad bq nF nO nL nA nC nV nU nP nE bF bO bL bA bC bV bU bP bE cT cK cO cQ cD (pT + 1) (pK + 1) (upd pR pT.toNatClampNeg p1) (upd pW pT.toNatClampNeg r1) (upd pU r1.toNatClampNeg (vp_nar .boolean 1)) pI pC uO uF uE uN wK jM jN jZ jB ++ R) H := hP
      have hD : va_D A (WC ca ad bq nF nO nL nA nC nV nU nP nE bF bO bL bA bC bV bU bP bE cT cK cO cQ cD (pT + 1) (pK + 1) (upd pR pT.toNatClampNeg p1) (upd pW pT.toNatClampNeg r1) (upd pU r1.toNatClampNeg (vp_nar .boolean 1)) pI pC uO uF uE uN wK jM jN jZ jB ++ R) := hD
      refine lv_aload_n hx hb dX1_add_72 rfl (lv_at hl 2 rfl) ?_
      refine lv_iload_n hx hb dX1_add_73 rfl (lv_at hl 1 rfl) ?_
      refine lv_aload_n hx hb dX1_add_74 rfl (lv_at hl 4 rfl) ?_
      obtain ⟨⟨nU_10, pI_11, pC_12⟩, h13, hf⟩ := bnd hf
      refine call_vv (rest := []) (m_P_fillRow l ca ad bq nF nO nL nA nC nV nU nP nE bF bO bL bA bC bV bU bP bE cT cK cO cQ cD (pT + 1) (pK + 1) (upd pR pT.toNatClampNeg p1) (upd pW pT.toNatClampNeg r1) (upd pU r1.toNatClampNeg (vp_nar .boolean 1)) pI pC uO uF uE uN wK jM jN jZ jB R _ r1 nU_10 pI_11 pC_12 h13) ⟨hx, hb, hml, hown, hts⟩ (cwV 2 hts (gV q711 q713 q16 q27 q714) rfl rfl rfl (by decide +kernel) ⟨Nat.le_of_ble_eq_true rfl, Nat.le_of_ble_eq_true rfl⟩) (va_recv hK hP (ci := 5) (q0 := 19) rfl rfl) hE hP hD hS hA rfl hl.1 rfl (lv_room (Nat.le_of_ble_eq_true rfl)) dX1_add_75 ⟨Nat.le_of_ble_eq_true rfl, Nat.le_of_ble_eq_true rfl⟩ (fun H locs hP hD hS => ?_)
      refine lv_iload hx hb dX1_add_78 (lv_at hl 0 rfl) ?_
      cases hf
      exact end_i hAe hQm hx hb hr hlocks rfl hP hD hS dX1_add_80
    · have hf := br_pos c6 hf
      refine lv_iconst (v := (-1)) hx hb dX1_add_21 (by decide) ?_
      cases hf
      exact end_i hAe hQm hx hb hr hlocks rfl hP hD hS dX1_add_22
def f_P_isInRow (p1 : Int32) (p2 : Int32) (pI : Nat → Int32) : Option (Int32) :=
  (f_P_isRow p1).bind fun r1 =>
  if r1 = 0 then
    some 0
  else
    if p2 < 0 then
      some 0
    else
      if 40 ≤ p2 then
        some 0
      else
        if ((p1 * 40) + p2) < 0 ∨ 320 ≤ ((p1 * 40) + p2).toNatClampNeg then none else
          if (pI ((p1 * 40) + p2).toNatClampNeg) = 0 then
          some 0
        else
          some 1
set_option maxHeartbeats 4000000 in
set_option maxRecDepth 100000 in
theorem m_P_isInRow (l : Launch) {D : va_G} {sl : List (String × Nat × String)} (ca : Nat → ClassId) (ad : Nat → Nat) (bq : Nat) (nF : Int32) (nO : Nat → Int32) (nL : Nat → Int32) (nA : Nat → Int32) (nC : Nat → Int32) (nV : Nat → Int32) (nU : Nat → Int32) (nP : Nat → Int32) (nE : Int32) (bF : Int32) (bO : Nat → Int32) (bL : Nat → Int32) (bA : Nat → Int32) (bC : Nat → Int32) (bV : Nat → Int32) (bU : Nat → Int32) (bP : Nat → Int32) (bE : Int32) (cT : Int32) (cK : Nat → Int32) (cO : Int32) (cQ : Nat → Int32) (cD : Int32) (pT : Int32) (pK : Int32) (pR : Nat → Int32) (pW : Nat → Int32) (pU : Nat → Int32) (pI : Nat → Int32) (pC : Nat → Nat → Int32) (uO : Int32) (uF : Nat → Int32) (uE : Nat → Int32) (uN : Nat → Int32) (wK : Nat → Int32) (jM : Int32) (jN : Int32) (jZ : Nat) (jB : Nat → Int32) (R : va_W) (sz : Nat) (p1 : Int32) (p2 : Int32) (ro : Int32) (hf : f_P_isInRow p1 p2 pI = some ro) : Met l yX1_isInRow (wm yX1_isInRow cX1_isInRow 3 (some .boolean)) ({ frames := 1, cells := 0, slots := 0, locals := 20 } : Room) (PRE [.ref (ad 5), .int p1, .int p2] D ca sl (WC ca ad bq nF nO nL nA nC nV nU nP nE bF bO bL bA bC bV bU bP bE cT cK cO cQ cD pT pK pR pW pU pI pC uO uF uE uN wK jM jN jZ jB ++ R) sz) (QI ro D (WC ca ad bq nF nO nL nA nC nV nU nP nE bF bO bL bA bC bV bU bP bE cT cK cO cQ cD pT pK pR pW pU pI pC uO uF uE uN wK jM jN jZ jB ++ R) (WC ca ad bq nF nO nL nA nC nV nU nP nE bF bO bL bA bC bV bU bP bE cT cK cO cQ cD pT pK pR pW pU pI pC uO uF uE uN wK jM jN jZ jB ++ R) sz) 0 0 (va_A (WC ca ad bq nF nO nL nA nC nV nU nP nE bF bO bL bA bC bV bU bP bE cT cK cO cQ cD pT pK pR pW pU pI pC uO uF uE uN wK jM jN jZ jB ++ R) sz) := by
  refine Met.ofW (cc := cX1_isInRow) (maxL := 3) (ret := (some .boolean)) (by decide) rfl ?_
  intro p e s m args below meth c s₁ B hml hv
  obtain ⟨rfl, rfl, hP, hE, hD0⟩ := hv
  have hx := B.exec
  have hb := B.bytes
  have hr := B.returns
  have hts := wm_ww (atoms_spec (ws := wm yX1_isInRow cX1_isInRow 3 (some .boolean)) B.pre)
  have hown : s.vm.findClass RX1 = some m.cls := findClass_of_methodNamed B.named
  have hlocks := B.notSynchronized
  have hK := hE.1
  have hD := hD0.self (sz := s.heap.size)
  generalize hAe : va_A (WC ca ad bq nF nO nL nA nC nV nU nP nE bF bO bL bA bC bV bU bP bE cT cK cO cQ cD pT pK pR pW pU pI pC uO uF uE uN wK jM jN jZ jB ++ R) s.heap.size = A at hD ⊢
  have hA : ∀ q : Nat, s.heap.size ≤ q → A q := fun q h => by rw [← hAe]; exact Or.inr h
  have hS : va_S A s.heap s.heap [] := va_S.rf
  have hl := lv_entry ([.ref (ad 5), .int p1, .int p2]) (n := 3) (Nat.le_of_ble_eq_true rfl)
  rw [lg_entry_eq]
  generalize (lg_sl ([.ref (ad 5), .int p1, .int p2]) ++ List.replicate (3 - (lg_sl ([.ref (ad 5), .int p1, .int p2])).length) Slot.unset).toArray = ls at hl ⊢
  have hl : lv_has ls 3 [(0, .ref (ad 5)), (1, .int p1), (2, .int p2)] := hl
  change W p l e ({ frames := 1, cells := 0, slots := 0, locals := 20 } : Room) s m _ below meth c s.heap [] 0 0 _ _
  generalize hQm : MQ below (QI ro D (WC ca ad bq nF nO nL nA nC nV nU nP nE bF bO bL bA bC bV bU bP bE cT cK cO cQ cD pT pK pR pW pU pI pC uO uF uE uN wK jM jN jZ jB ++ R) (WC ca ad bq nF nO nL nA nC nV nU nP nE bF bO bL bA bC bV bU bP bE cT cK cO cQ cD pT pK pR pW pU pI pC uO uF uE uN wK jM jN jZ jB ++ R) s.heap.size) _ s 0 0 A = Qm
  have hP : va_P D vwCl (WC ca ad bq nF nO nL nA nC nV nU nP nE bF bO bL bA bC bV bU bP bE cT cK cO cQ cD pT pK pR pW pU pI pC uO uF uE uN wK jM jN jZ jB ++ R) s.heap := hP
  generalize hae : ([.ref (ad 5), .int p1, .int p2] : List Value).toArray = args at hts hQm ⊢
  refine lv_iload_n hx hb dX1_isInRow_0 rfl (lv_at hl 1 rfl) ?_
  obtain ⟨r1, h2, hf⟩ := bnd hf
  refine call_si (rest := []) (m_P_isRow l ca ad bq nF nO nL nA nC nV nU nP nE bF bO bL bA bC bV bU bP bE cT cK cO cQ cD pT pK pR pW pU pI pC uO uF uE uN wK jM jN jZ jB R _ p1 r1 h2) ⟨hx, hb, hml, hown, hts⟩ (va_cwS 1 hts (gS q670 q671 q27 q672) rfl rfl rfl (by decide +kernel) ⟨Nat.le_of_ble_eq_true rfl, Nat.le_of_ble_eq_true rfl⟩) hE hP hD hS hA rfl hl.1 rfl (lv_room (Nat.le_of_ble_eq_true rfl)) dX1_isInRow_1 ⟨Nat.le_of_ble_eq_true rfl, Nat.le_of_ble_eq_true rfl⟩ (fun H locs hP hD hS => ?_)
  refine lv_if_eq (tgt := 35) hx hb dX1_isInRow_4 (by decide) (fun c3 => ?_) (fun c3 => ?_)
  · have hf := br_pos c3 hf
    refine lv_iconst (v := 0) hx hb dX1_isInRow_35 (by decide) ?_
    cases hf
    exact end_i hAe hQm hx hb hr hlocks rfl hP hD hS dX1_isInRow_36
  · have hf := br_neg c3 hf
    refine lv_iload_n hx hb dX1_isInRow_7 rfl (lv_at hl 2 rfl) ?_
    refine lv_if_lt (tgt := 35) hx hb dX1_isInRow_8 (by decide) (fun c4 => ?_) (fun c4 => ?_)
    · have hf := br_pos c4 hf
      refine lv_iconst (v := 0) hx hb dX1_isInRow_35 (by decide) ?_
      cases hf
      exact end_i hAe hQm hx hb hr hlocks rfl hP hD hS dX1_isInRow_36
    · have hf := br_neg c4 hf
      refine lv_iload_n hx hb dX1_isInRow_11 rfl (lv_at hl 2 rfl) ?_
      refine lv_bipush (v := 40) hx hb dX1_isInRow_12 (by decide) ?_
      refine lv_icmp_ge (tgt := 35) hx hb dX1_isInRow_14 (by decide) (fun c5 => ?_) (fun c5 => ?_)
      · have hf := br_pos c5 hf
        refine lv_iconst (v := 0) hx hb dX1_isInRow_35 (by decide) ?_
        cases hf
        exact end_i hAe hQm hx hb hr hlocks rfl hP hD hS dX1_isInRow_36
      · have hf := br_neg c5 hf
        refine lv_aload_n hx hb dX1_isInRow_17 rfl (lv_at hl 0 rfl) ?_
        refine va_get (D := D) (ci := 5) (v := .ref (ad 26)) (C := RX1) (T := TX1) (N := 7) hx hb hts inX1 hown hK hP 19 rfl rfl 5 (by decide) (hts _ q112) (fun _ h9 => h9) rfl dX1_isInRow_18 ?_
        refine lv_iload_n hx hb dX1_isInRow_21 rfl (lv_at hl 1 rfl) ?_
        refine lv_bipush (v := 40) hx hb dX1_isInRow_22 (by decide) ?_
        refine lv_imul hx hb dX1_isInRow_24 ?_
        refine lv_iload_n hx hb dX1_isInRow_25 rfl (lv_at hl 2 rfl) ?_
        refine lv_iadd hx hb dX1_isInRow_26 ?_
        obtain ⟨k6, hf⟩ := ck_not hf
        refine va_zald (D := D) hx hb hK hP 23 1 rfl rfl k6 dX1_isInRow_27 ?_
        refine lv_if_eq (tgt := 35) hx hb dX1_isInRow_28 (by decide) (fun c7 => ?_) (fun c7 => ?_)
        · have hf := br_pos c7 hf
          refine lv_iconst (v := 0) hx hb dX1_isInRow_35 (by decide) ?_
          cases hf
          exact end_i hAe hQm hx hb hr hlocks rfl hP hD hS dX1_isInRow_36
        · have hf := br_neg c7 hf
          refine lv_iconst (v := 1) hx hb dX1_isInRow_31 (by decide) ?_
          refine lv_goto (tgt := 36) hx hb dX1_isInRow_32 (by decide) ?_
          cases hf
          exact end_i hAe hQm hx hb hr hlocks rfl hP hD hS dX1_isInRow_36
def f_P_drop_L27 : Nat → Int32 → Int32 → Int32 → Int32 → (Nat → Int32) → (Nat → Int32) → (Nat → Nat → Int32) → Option ((Nat → Int32))
  | 0, _, _, _, _, _, _, _ => none
  | fuel + 1, v1, v3, v4, v5, nU, pI, pC =>
    if 16 ≤ v5 then
      some nU
    else
      (f_P_isInRow v3 v4 pI).bind fun r35 =>
      if r35 = 0 then
        some nU
      else
        if v3 < 0 ∨ 8 ≤ v3.toNatClampNeg then none else
          if ((v4 * 16) + v5) < 0 ∨ 640 ≤ ((v4 * 16) + v5).toNatClampNeg then none else
          (f_S_removeUser (pC v3.toNatClampNeg ((v4 * 16) + v5).toNatClampNeg) nU).bind fun nU_40 =>
        f_P_drop_L27 fuel v1 v3 v4 (v5 + 1) nU_40 pI pC
def f_P_drop_L17 : Nat → Int32 → Int32 → Int32 → (Nat → Int32) → (Nat → Int32) → (Nat → Nat → Int32) → Option ((Nat → Int32))
  | 0, _, _, _, _, _, _ => none
  | fuel + 1, v1, v3, v4, nU, pI, pC =>
    if 40 ≤ v4 then
      some nU
    else
      (f_P_drop_L27 FU v1 v3 v4 0 nU pI pC).bind fun nU_43 =>
      f_P_drop_L17 fuel v1 v3 (v4 + 1) nU_43 pI pC
def f_P_drop (p1 : Int32) (nU : Nat → Int32) (pT : Int32) (pK : Int32) (pW : Nat → Int32) (pU : Nat → Int32) (pI : Nat → Int32) (pC : Nat → Nat → Int32) : Option ((Nat → Int32) × Int32 × (Nat → Int32) × (Nat → Int32)) :=
  (f_P_rowOf p1 pT pW).bind fun r1 =>
  (f_P_isRow r1).bind fun r3 =>
  if r3 = 0 then
    some (nU, pK, pW, pU)
  else
    (f_P_drop_L17 FU p1 r1 0 nU pI pC).bind fun nU_45 =>
    if p1 < 0 ∨ 30 ≤ p1.toNatClampNeg then none else
      if r1 < 0 ∨ 8 ≤ r1.toNatClampNeg then none else
      some (nU_45, (pK - 1), (upd pW p1.toNatClampNeg (-1)), (upd pU r1.toNatClampNeg (vp_nar .boolean 0)))
set_option maxHeartbeats 4000000 in
set_option maxRecDepth 100000 in
theorem m_P_drop (l : Launch) {D : va_G} {sl : List (String × Nat × String)} (ca : Nat → ClassId) (ad : Nat → Nat) (bq : Nat) (nF : Int32) (nO : Nat → Int32) (nL : Nat → Int32) (nA : Nat → Int32) (nC : Nat → Int32) (nV : Nat → Int32) (nU : Nat → Int32) (nP : Nat → Int32) (nE : Int32) (bF : Int32) (bO : Nat → Int32) (bL : Nat → Int32) (bA : Nat → Int32) (bC : Nat → Int32) (bV : Nat → Int32) (bU : Nat → Int32) (bP : Nat → Int32) (bE : Int32) (cT : Int32) (cK : Nat → Int32) (cO : Int32) (cQ : Nat → Int32) (cD : Int32) (pT : Int32) (pK : Int32) (pR : Nat → Int32) (pW : Nat → Int32) (pU : Nat → Int32) (pI : Nat → Int32) (pC : Nat → Nat → Int32) (uO : Int32) (uF : Nat → Int32) (uE : Nat → Int32) (uN : Nat → Int32) (wK : Nat → Int32) (jM : Int32) (jN : Int32) (jZ : Nat) (jB : Nat → Int32) (R : va_W) (sz : Nat) (p1 : Int32) (onU : Nat → Int32) (opK : Int32) (opW : Nat → Int32) (opU : Nat → Int32) (hf : f_P_drop p1 nU pT pK pW pU pI pC = some (onU, opK, opW, opU)) : Met l yX1_drop (wm yX1_drop cX1_drop 6 none) ({ frames := 2, cells := 0, slots := 0, locals := 42 } : Room) (PRE [.ref (ad 5), .int p1, .ref (ad 1)] D ca sl (WC ca ad bq nF nO nL nA nC nV nU nP nE bF bO bL bA bC bV bU bP bE cT cK cO cQ cD pT pK pR pW pU pI pC uO uF uE uN wK jM jN jZ jB ++ R) sz) (QV D (WC ca ad bq nF nO nL nA nC nV onU nP nE bF bO bL bA bC bV bU bP bE cT cK cO cQ cD pT opK pR opW opU pI pC uO uF uE uN wK jM jN jZ jB ++ R) (WC ca ad bq nF nO nL nA nC nV nU nP nE bF bO bL bA bC bV bU bP bE cT cK cO cQ cD pT pK pR pW pU pI pC uO uF uE uN wK jM jN jZ jB ++ R) sz) 0 0 (va_A (WC ca ad bq nF nO nL nA nC nV nU nP nE bF bO bL bA bC bV bU bP bE cT cK cO cQ cD pT pK pR pW pU pI pC uO uF uE uN wK jM jN jZ jB ++ R) sz) := by
  refine Met.ofW (cc := cX1_drop) (maxL := 6) (ret := none) (by decide) rfl ?_
  intro p e s m args below meth c s₁ B hml hv
  obtain ⟨rfl, rfl, hP, hE, hD0⟩ := hv
  have hx := B.exec
  have hb := B.bytes
  have hr := B.returns
  have hts := wm_ww (atoms_spec (ws := wm yX1_drop cX1_drop 6 none) B.pre)
  have hown : s.vm.findClass RX1 = some m.cls := findClass_of_methodNamed B.named
  have hlocks := B.notSynchronized
  have hK := hE.1
  have hD := hD0.self (sz := s.heap.size)
  generalize hAe : va_A (WC ca ad bq nF nO nL nA nC nV nU nP nE bF bO bL bA bC bV bU bP bE cT cK cO cQ cD pT pK pR pW pU pI pC uO uF uE uN wK jM jN jZ jB ++ R) s.heap.size = A at hD ⊢
  have hA : ∀ q : Nat, s.heap.size ≤ q → A q := fun q h => by rw [← hAe]; exact Or.inr h
  have hS : va_S A s.heap s.heap [] := va_S.rf
  have hl := lv_entry ([.ref (ad 5), .int p1, .ref (ad 1)]) (n := 6) (Nat.le_of_ble_eq_true rfl)
  rw [lg_entry_eq]
  generalize (lg_sl ([.ref (ad 5), .int p1, .ref (ad 1)]) ++ List.replicate (6 - (lg_sl ([.ref (ad 5), .int p1, .ref (ad 1)])).length) Slot.unset).toArray = ls at hl ⊢
  have hl : lv_has ls 6 [(0, .ref (ad 5)), (1, .int p1), (2, .ref (ad 1))] := hl
  change W p l e ({ frames := 2, cells := 0, slots := 0, locals := 42 } : Room) s m _ below meth c s.heap [] 0 0 _ _
  generalize hQm : MQ below (QV D (WC ca ad bq nF nO nL nA nC nV onU nP nE bF bO bL bA bC bV bU bP bE cT cK cO cQ cD pT opK pR opW opU pI pC uO uF uE uN wK jM jN jZ jB ++ R) (WC ca ad bq nF nO nL nA nC nV nU nP nE bF bO bL bA bC bV bU bP bE cT cK cO cQ cD pT pK pR pW pU pI pC uO uF uE uN wK jM jN jZ jB ++ R) s.heap.size) _ s 0 0 A = Qm
  have hP : va_P D vwCl (WC ca ad bq nF nO nL nA nC nV nU nP nE bF bO bL bA bC bV bU bP bE cT cK cO cQ cD pT pK pR pW pU pI pC uO uF uE uN wK jM jN jZ jB ++ R) s.heap := hP
  generalize hae : ([.ref (ad 5), .int p1, .ref (ad 1)] : List Value).toArray = args at hts hQm ⊢
  have L27 : ∀ (n : Nat) (v1 : Int32) (v3 : Int32) (v4 : Int32) (v5 : Int32) (nU : Nat → Int32) (pK : Int32) (pW : Nat → Int32) (pU : Nat → Int32) (znU : Nat → Int32), f_P_drop_L27 n v1 v3 v4 v5 nU pI pC = some znU → ∀ (H : Heap) (locs : List Loc) (ls : Array Slot), va_P D vwCl (WC ca ad bq nF nO nL nA nC nV nU nP nE bF bO bL bA bC bV bU bP bE cT cK cO cQ cD pT pK pR pW pU pI pC uO uF uE uN wK jM jN jZ jB ++ R) H → va_D A (WC ca ad bq nF nO nL nA nC nV nU nP nE bF bO bL bA bC bV bU bP bE cT cK cO cQ cD pT pK pR pW pU pI pC uO uF uE uN wK jM jN jZ jB ++ R) → va_S A s.heap H locs → lv_has ls 6 [(0, .ref (ad 5)), (1, .int v1), (2, .ref (ad 1)), (3, .int v3), (4, .int v4), (5, .int v5)] → (∀ (H : Heap) (locs : List Loc) (ls : Array Slot), va_P D vwCl (WC ca ad bq nF nO nL nA nC nV znU nP nE bF bO bL bA bC bV bU bP bE cT cK cO cQ cD pT pK pR pW pU pI pC uO uF uE uN wK jM jN jZ jB ++ R) H → va_D A (WC ca ad bq nF nO nL nA nC nV znU nP nE bF bO bL bA bC bV bU bP bE cT cK cO cQ cD pT pK pR pW pU pI pC uO uF uE uN wK jM jN jZ jB ++ R) → va_S A s.heap H locs → lv_has ls 6 [(0, .ref (ad 5)), (1, .int v1), (2, .ref (ad 1)), (3, .int v3), (4, .int v4)] → W p l e ({ frames := 2, cells := 0, slots := 0, locals := 42 } : Room) s m args below meth c H locs 0 0 Qm (F0 m 69 ls [])) → W p l e ({ frames := 2, cells := 0, slots := 0, locals := 42 } : Room) s m args below meth c H locs 0 0 Qm (F0 m 27 ls []) := by
    intro n
    induction n with
    | zero => intro v1 v3 v4 v5 nU pK pW pU znU hf; cases hf
    | succ n ih =>
      intro v1 v3 v4 v5 nU pK pW pU znU hf H locs ls hP hD hS hl kk
      unfold f_P_drop_L27 at hf
      refine lv_iload hx hb dX1_drop_27 (lv_at hl 5 rfl) ?_
      refine lv_bipush (v := 16) hx hb dX1_drop_29 (by decide) ?_
      refine lv_icmp_ge (tgt := 69) hx hb dX1_drop_31 (by decide) (fun c34 => ?_) (fun c34 => ?_)
      · have hf := br_pos c34 hf
        cases hf
        exact kk _ _ _ hP hD hS (lv_sub hl [0, 1, 2, 3, 4] rfl)
      · have hf := br_neg c34 hf
        refine lv_aload_n hx hb dX1_drop_34 rfl (lv_at hl 0 rfl) ?_
        refine lv_iload_n hx hb dX1_drop_35 rfl (lv_at hl 3 rfl) ?_
        refine lv_iload hx hb dX1_drop_36 (lv_at hl 4 rfl) ?_
        obtain ⟨r35, h36, hf⟩ := bnd hf
        refine call_vi (rest := []) (m_P_isInRow l ca ad bq nF nO nL nA nC nV nU nP nE bF bO bL bA bC bV bU bP bE cT cK cO cQ cD pT pK pR pW pU pI pC uO uF uE uN wK jM jN jZ jB R _ v3 v4 r35 h36) ⟨hx, hb, hml, hown, hts⟩ (cwV 2 hts (gV q666 q668 q14 q27 q669) rfl rfl rfl (by decide +kernel) ⟨Nat.le_of_ble_eq_true rfl, Nat.le_of_ble_eq_true rfl⟩) (va_recv hK hP (ci := 5) (q0 := 19) rfl rfl) hE hP hD hS hA rfl hl.1 rfl (lv_room (Nat.le_of_ble_eq_true rfl)) dX1_drop_38 ⟨Nat.le_of_ble_eq_true rfl, Nat.le_of_ble_eq_true rfl⟩ (fun H locs hP hD hS => ?_)
        refine lv_if_eq (tgt := 69) hx hb dX1_drop_41 (by decide) (fun c37 => ?_) (fun c37 => ?_)
        · have hf := br_pos c37 hf
          cases hf
          exact kk _ _ _ hP hD hS (lv_sub hl [0, 1, 2, 3, 4] rfl)
        · have hf := br_neg c37 hf
          refine lv_aload_n hx hb dX1_drop_44 rfl (lv_at hl 2 rfl) ?_
          refine lv_aload_n hx hb dX1_drop_45 rfl (lv_at hl 0 rfl) ?_
          refine va_get (D := D) (ci := 5) (v := .ref (ad 27)) (C := RX1) (T := TX1) (N := 7) hx hb hts inX1 hown hK hP 19 rfl rfl 6 (by decide) (hts _ q113) (fun _ h9 => h9) rfl dX1_drop_46 ?_
          refine lv_iload_n hx hb dX1_drop_49 rfl (lv_at hl 3 rfl) ?_
          obtain ⟨k38, hf⟩ := ck_not hf
          refine va_aldA (D := D) hx hb hK hP 24 4 rfl rfl k38 dX1_drop_50 ?_
          refine lv_iload hx hb dX1_drop_51 (lv_at hl 4 rfl) ?_
          refine lv_bipush (v := 16) hx hb dX1_drop_53 (by decide) ?_
          refine lv_imul hx hb dX1_drop_55 ?_
          refine lv_iload hx hb dX1_drop_56 (lv_at hl 5 rfl) ?_
          refine lv_iadd hx hb dX1_drop_58 ?_
          obtain ⟨k39, hf⟩ := ck_not hf
          refine va_iald (D := D) hx hb hK hP (25 + v3.toNatClampNeg) 0 (WC_row (Nat.not_le.mp fun q => k38 (Or.inr q))) rfl k39 dX1_drop_59 ?_
          obtain ⟨nU_40, h41, hf⟩ := bnd hf
          refine call_vv (rest := []) (m_S_removeUser l ca ad bq nF nO nL nA nC nV nU nP nE bF bO bL bA bC bV bU bP bE cT cK cO cQ cD pT pK pR pW pU pI pC uO uF uE uN wK jM jN jZ jB R _ (pC v3.toNatClampNeg ((v4 * 16) + v5).toNatClampNeg) nU_40 h41) ⟨hx, hb, hml, hown, hts⟩ (cwV 1 hts (gV q769 q488 q489 q25 q490) rfl rfl rfl (by decide +kernel) ⟨Nat.le_of_ble_eq_true rfl, Nat.le_of_ble_eq_true rfl⟩) (va_recv hK hP (ci := 6) (q0 := 1) rfl rfl) hE hP hD hS hA rfl hl.1 rfl (lv_room (Nat.le_of_ble_eq_true rfl)) dX1_drop_60 ⟨Nat.le_of_ble_eq_true rfl, Nat.le_of_ble_eq_true rfl⟩ (fun H locs hP hD hS => ?_)
          refine lv_iinc (v := (v5 + 1)) (lv' := [(5, .int (v5 + 1)), (0, .ref (ad 5)), (1, .int v1), (2, .ref (ad 1)), (3, .int v3), (4, .int v4)]) hx hb dX1_drop_63 hl (k := 5) rfl rfl (by decide) rfl (fun ls hl => ?_)
          refine lv_goto (tgt := 27) hx hb dX1_drop_66 (by decide) ?_
          exact ih v1 v3 v4 (v5 + 1) nU_40 pK pW pU _ hf _ _ _ hP hD hS (lv_sub hl [1, 2, 3, 4, 5, 0] rfl) kk
  have L17 : ∀ (n : Nat) (v1 : Int32) (v3 : Int32) (v4 : Int32) (nU : Nat → Int32) (pK : Int32) (pW : Nat → Int32) (pU : Nat → Int32) (znU : Nat → Int32), f_P_drop_L17 n v1 v3 v4 nU pI pC = some znU → ∀ (H : Heap) (locs : List Loc) (ls : Array Slot), va_P D vwCl (WC ca ad bq nF nO nL nA nC nV nU nP nE bF bO bL bA bC bV bU bP bE cT cK cO cQ cD pT pK pR pW pU pI pC uO uF uE uN wK jM jN jZ jB ++ R) H → va_D A (WC ca ad bq nF nO nL nA nC nV nU nP nE bF bO bL bA bC bV bU bP bE cT cK cO cQ cD pT pK pR pW pU pI pC uO uF uE uN wK jM jN jZ jB ++ R) → va_S A s.heap H locs → lv_has ls 6 [(0, .ref (ad 5)), (1, .int v1), (2, .ref (ad 1)), (3, .int v3), (4, .int v4)] → (∀ (H : Heap) (locs : List Loc) (ls : Array Slot), va_P D vwCl (WC ca ad bq nF nO nL nA nC nV znU nP nE bF bO bL bA bC bV bU bP bE cT cK cO cQ cD pT pK pR pW pU pI pC uO uF uE uN wK jM jN jZ jB ++ R) H → va_D A (WC ca ad bq nF nO nL nA nC nV znU nP nE bF bO bL bA bC bV bU bP bE cT cK cO cQ cD pT pK pR pW pU pI pC uO uF uE uN wK jM jN jZ jB ++ R) → va_S A s.heap H locs → lv_has ls 6 [(0, .ref (ad 5)), (1, .int v1), (3, .int v3)] → W p l e ({ frames := 2, cells := 0, slots := 0, locals := 42 } : Room) s m args below meth c H locs 0 0 Qm (F0 m 75 ls [])) → W p l e ({ frames := 2, cells := 0, slots := 0, locals := 42 } : Room) s m args below meth c H locs 0 0 Qm (F0 m 17 ls []) := by
    intro n
    induction n with
    | zero => intro v1 v3 v4 nU pK pW pU znU hf; cases hf
    | succ n ih =>
      intro v1 v3 v4 nU pK pW pU znU hf H locs ls hP hD hS hl kk
      unfold f_P_drop_L17 at hf
      refine lv_iload hx hb dX1_drop_17 (lv_at hl 4 rfl) ?_
      refine lv_bipush (v := 40) hx hb dX1_drop_19 (by decide) ?_
      refine lv_icmp_ge (tgt := 75) hx hb dX1_drop_21 (by decide) (fun c25 => ?_) (fun c25 => ?_)
      · have hf := br_pos c25 hf
        cases hf
        exact kk _ _ _ hP hD hS (lv_sub hl [0, 1, 3] rfl)
      · have hf := br_neg c25 hf
        refine lv_iconst (v := 0) hx hb dX1_drop_24 (by decide) ?_
        refine lv_istore (lv' := [(5, .int 0), (0, .ref (ad 5)), (1, .int v1), (2, .ref (ad 1)), (3, .int v3), (4, .int v4)]) hx hb dX1_drop_25 hl (by decide) rfl (fun ls hl => ?_)
        obtain ⟨nU_43, h42, hf⟩ := bnd hf
        refine L27 FU v1 v3 v4 0 nU pK pW pU nU_43 h42 _ _ _ hP hD hS (lv_sub hl [1, 2, 3, 4, 5, 0] rfl) (fun H locs ls hP hD hS hl => ?_)
        refine lv_iinc (v := (v4 + 1)) (lv' := [(4, .int (v4 + 1)), (0, .ref (ad 5)), (1, .int v1), (2, .ref (ad 1)), (3, .int v3)]) hx hb dX1_drop_69 hl (k := 4) rfl rfl (by decide) rfl (fun ls hl => ?_)
        refine lv_goto (tgt := 17) hx hb dX1_drop_72 (by decide) ?_
        exact ih v1 v3 (v4 + 1) nU_43 pK pW pU _ hf _ _ _ hP hD hS (lv_sub hl [1, 2, 3, 4, 0] rfl) kk
  refine lv_aload_n hx hb dX1_drop_0 rfl (lv_at hl 0 rfl) ?_
  refine lv_iload_n hx hb dX1_drop_1 rfl (lv_at hl 1 rfl) ?_
  obtain ⟨r1, h2, hf⟩ := bnd hf
  refine call_vi (rest := []) (m_P_rowOf l ca ad bq nF nO nL nA nC nV nU nP nE bF bO bL bA bC bV bU bP bE cT cK cO cQ cD pT pK pR pW pU pI pC uO uF uE uN wK jM jN jZ jB R _ p1 r1 h2) ⟨hx, hb, hml, hown, hts⟩ (cwV 1 hts (gV q748 q732 q733 q27 q734) rfl rfl rfl (by decide +kernel) ⟨Nat.le_of_ble_eq_true rfl, Nat.le_of_ble_eq_true rfl⟩) (va_recv hK hP (ci := 5) (q0 := 19) rfl rfl) hE hP hD hS hA rfl hl.1 rfl (lv_room (Nat.le_of_ble_eq_true rfl)) dX1_drop_2 ⟨Nat.le_of_ble_eq_true rfl, Nat.le_of_ble_eq_true rfl⟩ (fun H locs hP hD hS => ?_)
  refine lv_istore_n (lv' := [(3, .int r1), (0, .ref (ad 5)), (1, .int p1), (2, .ref (ad 1))]) hx hb dX1_drop_5 rfl hl (by decide) rfl (fun ls hl => ?_)
  refine lv_iload_n hx hb dX1_drop_6 rfl (lv_at hl 0 rfl) ?_
  obtain ⟨r3, h4, hf⟩ := bnd hf
  refine call_si (rest := []) (m_P_isRow l ca ad bq nF nO nL nA nC nV nU nP nE bF bO bL bA bC bV bU bP bE cT cK cO cQ cD pT pK pR pW pU pI pC uO uF uE uN wK jM jN jZ jB R _ r1 r3 h4) ⟨hx, hb, hml, hown, hts⟩ (va_cwS 1 hts (gS q670 q671 q27 q672) rfl rfl rfl (by decide +kernel) ⟨Nat.le_of_ble_eq_true rfl, Nat.le_of_ble_eq_true rfl⟩) hE hP hD hS hA rfl hl.1 rfl (lv_room (Nat.le_of_ble_eq_true rfl)) dX1_drop_7 ⟨Nat.le_of_ble_eq_true rfl, Nat.le_of_ble_eq_true rfl⟩ (fun H locs hP hD hS => ?_)
  refine lv_if_ne (tgt := 14) hx hb dX1_drop_10 (by decide) (fun c5 => ?_) (fun c5 => ?_)
  · have hf := br_neg c5 hf
    refine lv_iconst (v := 0) hx hb dX1_drop_14 (by decide) ?_
    refine lv_istore (lv' := [(4, .int 0), (3, .int r1), (0, .ref (ad 5)), (1, .int p1), (2, .ref (ad 1))]) hx hb dX1_drop_15 hl (by decide) rfl (fun ls hl => ?_)
    obtain ⟨nU_45, h44, hf⟩ := bnd hf
    refine L17 FU p1 r1 0 nU pK pW pU nU_45 h44 _ _ _ hP hD hS (lv_sub hl [2, 3, 4, 1, 0] rfl) (fun H locs ls hP hD hS hl => ?_)
    refine lv_aload_n hx hb dX1_drop_75 rfl (lv_at hl 0 rfl) ?_
    refine va_get (D := D) (ci := 5) (v := .ref (ad 24)) (C := RX1) (T := TX1) (N := 7) hx hb hts inX1 hown hK hP 19 rfl rfl 3 (by decide) (hts _ q110) (fun _ h9 => h9) rfl dX1_drop_76 ?_
    refine lv_iload_n hx hb dX1_drop_79 rfl (lv_at hl 1 rfl) ?_
    refine lv_iconst (v := (-1)) hx hb dX1_drop_80 (by decide) ?_
    obtain ⟨k46, hf⟩ := ck_not hf
    refine va_iast (D := D) hx hb hK hP hD hS 21 0 rfl rfl k46 dX1_drop_81 (fun H locs hP hD hS => ?_)
    have hP : va_P D vwCl (WC ca ad bq nF nO nL nA nC nV nU_45 nP nE bF bO bL bA bC bV bU bP bE cT cK cO cQ cD pT pK pR (upd pW p1.toNatClampNeg (-1)) pU pI pC uO uF uE uN wK jM jN jZ jB ++ R) H := hP
    have hD : va_D A (WC ca ad bq nF nO nL nA nC nV nU_45 nP nE bF bO bL bA bC bV bU bP bE cT cK cO cQ cD pT pK pR (upd pW p1.toNatClampNeg (-1)) pU pI pC uO uF uE uN wK jM jN jZ jB ++ R) := hD
    refine lv_aload_n hx hb dX1_drop_82 rfl (lv_at hl 0 rfl) ?_
    refine va_get (D := D) (ci := 5) (v := .ref (ad 25)) (C := RX1) (T := TX1) (N := 7) hx hb hts inX1 hown hK hP 19 rfl rfl 4 (by decide) (hts _ q111) (fun _ h9 => h9) rfl dX1_drop_83 ?_
    refine lv_iload_n hx hb dX1_drop_86 rfl (lv_at hl 2 rfl) ?_
    refine lv_iconst (v := 0) hx hb dX1_drop_87 (by decide) ?_
    obtain ⟨k47, hf⟩ := ck_not hf
    refine va_zast (D := D) hx hb hK hP hD hS 22 1 rfl rfl k47 dX1_drop_88 (fun H locs hP hD hS => ?_)
    have hP : va_P D vwCl (WC ca ad bq nF nO nL nA nC nV nU_45 nP nE bF bO bL bA bC bV bU bP bE cT cK cO cQ cD pT pK pR (upd pW p1.toNatClampNeg (-1)) (upd pU r1.toNatClampNeg (vp_nar .boolean 0)) pI pC uO uF uE uN wK jM jN jZ jB ++ R) H := hP
    have hD : va_D A (WC ca ad bq nF nO nL nA nC nV nU_45 nP nE bF bO bL bA bC bV bU bP bE cT cK cO cQ cD pT pK pR (upd pW p1.toNatClampNeg (-1)) (upd pU r1.toNatClampNeg (vp_nar .boolean 0)) pI pC uO uF uE uN wK jM jN jZ jB ++ R) := hD
    refine lv_aload_n hx hb dX1_drop_89 rfl (lv_at hl 0 rfl) ?_
    refine lv_dup hx hb dX1_drop_90 rfl ?_
    refine va_get (D := D) (ci := 5) (v := .int pK) (C := RX1) (T := TX1) (N := 7) hx hb hts inX1 hown hK hP 19 rfl rfl 1 (by decide) (hts _ q108) (fun _ h9 => h9) rfl dX1_drop_91 ?_
    refine lv_iconst (v := 1) hx hb dX1_drop_94 (by decide) ?_
    refine lv_isub hx hb dX1_drop_95 ?_
    refine va_put (D := D) (ci := 5) (v := .int (pK - 1)) (ty := .int) (C := RX1) (T := TX1) (N := 7) hx hb hts inX1 tyX1 tyX1_ok nmX1 hown hK hP hD hS 19 rfl rfl 1 (by decide) (hts _ q108) (fun _ h9 => h9) rfl (by decide +kernel) rfl rfl (Nat.le_of_ble_eq_true rfl) dX1_drop_96 (fun H locs hP hD hS => ?_)
    have hP : va_P D vwCl (WC ca ad bq nF nO nL nA nC nV nU_45 nP nE bF bO bL bA bC bV bU bP bE cT cK cO cQ cD pT (pK - 1) pR (upd pW p1.toNatClampNeg (-1)) (upd pU r1.toNatClampNeg (vp_nar .boolean 0)) pI pC uO uF uE uN wK jM jN jZ jB ++ R) H := hP
    have hD : va_D A (WC ca ad bq nF nO nL nA nC nV nU_45 nP nE bF bO bL bA bC bV bU bP bE cT cK cO cQ cD pT (pK - 1) pR (upd pW p1.toNatClampNeg (-1)) (upd pU r1.toNatClampNeg (vp_nar .boolean 0)) pI pC uO uF uE uN wK jM jN jZ jB ++ R) := hD
    cases hf
    exact end_v hAe hQm hx hb hr hlocks hP hD hS dX1_drop_99
  · have hf := br_pos c5 hf
    cases hf
    exact end_v hAe hQm hx hb hr hlocks hP hD hS dX1_drop_13
def f_P_includes (p1 : Int32) (p2 : Int32) (pT : Int32) (pW : Nat → Int32) (pI : Nat → Int32) : Option (Int32) :=
  (f_P_rowOf p1 pT pW).bind fun r1 =>
  (f_P_isInRow r1 p2 pI).bind fun r3 =>
  if vp_nar .boolean r3 = r3 then some r3 else none
set_option maxHeartbeats 4000000 in
set_option maxRecDepth 100000 in
theorem m_P_includes (l : Launch) {D : va_G} {sl : List (String × Nat × String)} (ca : Nat → ClassId) (ad : Nat → Nat) (bq : Nat) (nF : Int32) (nO : Nat → Int32) (nL : Nat → Int32) (nA : Nat → Int32) (nC : Nat → Int32) (nV : Nat → Int32) (nU : Nat → Int32) (nP : Nat → Int32) (nE : Int32) (bF : Int32) (bO : Nat → Int32) (bL : Nat → Int32) (bA : Nat → Int32) (bC : Nat → Int32) (bV : Nat → Int32) (bU : Nat → Int32) (bP : Nat → Int32) (bE : Int32) (cT : Int32) (cK : Nat → Int32) (cO : Int32) (cQ : Nat → Int32) (cD : Int32) (pT : Int32) (pK : Int32) (pR : Nat → Int32) (pW : Nat → Int32) (pU : Nat → Int32) (pI : Nat → Int32) (pC : Nat → Nat → Int32) (uO : Int32) (uF : Nat → Int32) (uE : Nat → Int32) (uN : Nat → Int32) (wK : Nat → Int32) (jM : Int32) (jN : Int32) (jZ : Nat) (jB : Nat → Int32) (R : va_W) (sz : Nat) (p1 : Int32) (p2 : Int32) (ro : Int32) (hf : f_P_includes p1 p2 pT pW pI = some ro) : Met l yX1_includes (wm yX1_includes cX1_includes 3 (some .boolean)) ({ frames := 2, cells := 0, slots := 0, locals := 42 } : Room) (PRE [.ref (ad 5), .int p1, .int p2] D ca sl (WC ca ad bq nF nO nL nA nC nV nU nP nE bF bO bL bA bC bV bU bP bE cT cK cO cQ cD pT pK pR pW pU pI pC uO uF uE uN wK jM jN jZ jB ++ R) sz) (QI ro D (WC ca ad bq nF nO nL nA nC nV nU nP nE bF bO bL bA bC bV bU bP bE cT cK cO cQ cD pT pK pR pW pU pI pC uO uF uE uN wK jM jN jZ jB ++ R) (WC ca ad bq nF nO nL nA nC nV nU nP nE bF bO bL bA bC bV bU bP bE cT cK cO cQ cD pT pK pR pW pU pI pC uO uF uE uN wK jM jN jZ jB ++ R) sz) 0 0 (va_A (WC ca ad bq nF nO nL nA nC nV nU nP nE bF bO bL bA bC bV bU bP bE cT cK cO cQ cD pT pK pR pW pU pI pC uO uF uE uN wK jM jN jZ jB ++ R) sz) := by
  refine Met.ofW (cc := cX1_includes) (maxL := 3) (ret := (some .boolean)) (by decide) rfl ?_
  intro p e s m args below meth c s₁ B hml hv
  obtain ⟨rfl, rfl, hP, hE, hD0⟩ := hv
  have hx := B.exec
  have hb := B.bytes
  have hr := B.returns
  have hts := wm_ww (atoms_spec (ws := wm yX1_includes cX1_includes 3 (some .boolean)) B.pre)
  have hown : s.vm.findClass RX1 = some m.cls := findClass_of_methodNamed B.named
  have hlocks := B.notSynchronized
  have hK := hE.1
  have hD := hD0.self (sz := s.heap.size)
  generalize hAe : va_A (WC ca ad bq nF nO nL nA nC nV nU nP nE bF bO bL bA bC bV bU bP bE cT cK cO cQ cD pT pK pR pW pU pI pC uO uF uE uN wK jM jN jZ jB ++ R) s.heap.size = A at hD ⊢
  have hA : ∀ q : Nat, s.heap.size ≤ q → A q := fun q h => by rw [← hAe]; exact Or.inr h
  have hS : va_S A s.heap s.heap [] := va_S.rf
  have hl := lv_entry ([.ref (ad 5), .int p1, .int p2]) (n := 3) (Nat.le_of_ble_eq_true rfl)
  rw [lg_entry_eq]
  generalize (lg_sl ([.ref (ad 5), .int p1, .int p2]) ++ List.replicate (3 - (lg_sl ([.ref (ad 5), .int p1, .int p2])).length) Slot.unset).toArray = ls at hl ⊢
  have hl : lv_has ls 3 [(0, .ref (ad 5)), (1, .int p1), (2, .int p2)] := hl
  change W p l e ({ frames := 2, cells := 0, slots := 0, locals := 42 } : Room) s m _ below meth c s.heap [] 0 0 _ _
  generalize hQm : MQ below (QI ro D (WC ca ad bq nF nO nL nA nC nV nU nP nE bF bO bL bA bC bV bU bP bE cT cK cO cQ cD pT pK pR pW pU pI pC uO uF uE uN wK jM jN jZ jB ++ R) (WC ca ad bq nF nO nL nA nC nV nU nP nE bF bO bL bA bC bV bU bP bE cT cK cO cQ cD pT pK pR pW pU pI pC uO uF uE uN wK jM jN jZ jB ++ R) s.heap.size) _ s 0 0 A = Qm
  have hP : va_P D vwCl (WC ca ad bq nF nO nL nA nC nV nU nP nE bF bO bL bA bC bV bU bP bE cT cK cO cQ cD pT pK pR pW pU pI pC uO uF uE uN wK jM jN jZ jB ++ R) s.heap := hP
  generalize hae : ([.ref (ad 5), .int p1, .int p2] : List Value).toArray = args at hts hQm ⊢
  refine lv_aload_n hx hb dX1_includes_0 rfl (lv_at hl 0 rfl) ?_
  refine lv_aload_n hx hb dX1_includes_1 rfl (lv_at hl 0 rfl) ?_
  refine lv_iload_n hx hb dX1_includes_2 rfl (lv_at hl 1 rfl) ?_
  obtain ⟨r1, h2, hf⟩ := bnd hf
  refine call_vi (rest := [.ref (ad 5)]) (m_P_rowOf l ca ad bq nF nO nL nA nC nV nU nP nE bF bO bL bA bC bV bU bP bE cT cK cO cQ cD pT pK pR pW pU pI pC uO uF uE uN wK jM jN jZ jB R _ p1 r1 h2) ⟨hx, hb, hml, hown, hts⟩ (cwV 1 hts (gV q748 q732 q733 q27 q734) rfl rfl rfl (by decide +kernel) ⟨Nat.le_of_ble_eq_true rfl, Nat.le_of_ble_eq_true rfl⟩) (va_recv hK hP (ci := 5) (q0 := 19) rfl rfl) hE hP hD hS hA rfl hl.1 rfl (lv_room (Nat.le_of_ble_eq_true rfl)) dX1_includes_3 ⟨Nat.le_of_ble_eq_true rfl, Nat.le_of_ble_eq_true rfl⟩ (fun H locs hP hD hS => ?_)
  refine lv_iload_n hx hb dX1_includes_6 rfl (lv_at hl 2 rfl) ?_
  obtain ⟨r3, h4, hf⟩ := bnd hf
  refine call_vi (rest := []) (m_P_isInRow l ca ad bq nF nO nL nA nC nV nU nP nE bF bO bL bA bC bV bU bP bE cT cK cO cQ cD pT pK pR pW pU pI pC uO uF uE uN wK jM jN jZ jB R _ r1 p2 r3 h4) ⟨hx, hb, hml, hown, hts⟩ (cwV 2 hts (gV q666 q668 q14 q27 q669) rfl rfl rfl (by decide +kernel) ⟨Nat.le_of_ble_eq_true rfl, Nat.le_of_ble_eq_true rfl⟩) (va_recv hK hP (ci := 5) (q0 := 19) rfl rfl) hE hP hD hS hA rfl hl.1 rfl (lv_room (Nat.le_of_ble_eq_true rfl)) dX1_includes_7 ⟨Nat.le_of_ble_eq_true rfl, Nat.le_of_ble_eq_true rfl⟩ (fun H locs hP hD hS => ?_)
  obtain ⟨k5, hf⟩ := ck_yes hf
  cases hf
  exact end_i hAe hQm hx hb hr hlocks (nar_z k5) hP hD hS dX1_includes_10
def f_P_blockIn (p1 : Int32) (p2 : Int32) (p3 : Int32) (pT : Int32) (pW : Nat → Int32) (pI : Nat → Int32) (pC : Nat → Nat → Int32) : Option (Int32) :=
  (f_P_rowOf p1 pT pW).bind fun r1 =>
  (f_P_isInRow r1 p2 pI).bind fun r3 =>
  if r3 = 0 then
    some (-1)
  else
    (f_C_isPlace p3).bind fun r6 =>
    if r6 = 0 then
      some (-1)
    else
      if r1 < 0 ∨ 8 ≤ r1.toNatClampNeg then none else
        if ((p2 * 16) + p3) < 0 ∨ 640 ≤ ((p2 * 16) + p3).toNatClampNeg then none else
        some (pC r1.toNatClampNeg ((p2 * 16) + p3).toNatClampNeg)
set_option maxHeartbeats 4000000 in
set_option maxRecDepth 100000 in
theorem m_P_blockIn (l : Launch) {D : va_G} {sl : List (String × Nat × String)} (ca : Nat → ClassId) (ad : Nat → Nat) (bq : Nat) (nF : Int32) (nO : Nat → Int32) (nL : Nat → Int32) (nA : Nat → Int32) (nC : Nat → Int32) (nV : Nat → Int32) (nU : Nat → Int32) (nP : Nat → Int32) (nE : Int32) (bF : Int32) (bO : Nat → Int32) (bL : Nat → Int32) (bA : Nat → Int32) (bC : Nat → Int32) (bV : Nat → Int32) (bU : Nat → Int32) (bP : Nat → Int32) (bE : Int32) (cT : Int32) (cK : Nat → Int32) (cO : Int32) (cQ : Nat → Int32) (cD : Int32) (pT : Int32) (pK : Int32) (pR : Nat → Int32) (pW : Nat → Int32) (pU : Nat → Int32) (pI : Nat → Int32) (pC : Nat → Nat → Int32) (uO : Int32) (uF : Nat → Int32) (uE : Nat → Int32) (uN : Nat → Int32) (wK : Nat → Int32) (jM : Int32) (jN : Int32) (jZ : Nat) (jB : Nat → Int32) (R : va_W) (sz : Nat) (p1 : Int32) (p2 : Int32) (p3 : Int32) (ro : Int32) (hf : f_P_blockIn p1 p2 p3 pT pW pI pC = some ro) : Met l yX1_blockIn (wm yX1_blockIn cX1_blockIn 5 (some .int)) ({ frames := 2, cells := 0, slots := 0, locals := 42 } : Room) (PRE [.ref (ad 5), .int p1, .int p2, .int p3] D ca sl (WC ca ad bq nF nO nL nA nC nV nU nP nE bF bO bL bA bC bV bU bP bE cT cK cO cQ cD pT pK pR pW pU pI pC uO uF uE uN wK jM jN jZ jB ++ R) sz) (QI ro D (WC ca ad bq nF nO nL nA nC nV nU nP nE bF bO bL bA bC bV bU bP bE cT cK cO cQ cD pT pK pR pW pU pI pC uO uF uE uN wK jM jN jZ jB ++ R) (WC ca ad bq nF nO nL nA nC nV nU nP nE bF bO bL bA bC bV bU bP bE cT cK cO cQ cD pT pK pR pW pU pI pC uO uF uE uN wK jM jN jZ jB ++ R) sz) 0 0 (va_A (WC ca ad bq nF nO nL nA nC nV nU nP nE bF bO bL bA bC bV bU bP bE cT cK cO cQ cD pT pK pR pW pU pI pC uO uF uE uN wK jM jN jZ jB ++ R) sz) := by
  refine Met.ofW (cc := cX1_blockIn) (maxL := 5) (ret := (some .int)) (by decide) rfl ?_
  intro p e s m args below meth c s₁ B hml hv
  obtain ⟨rfl, rfl, hP, hE, hD0⟩ := hv
  have hx := B.exec
  have hb := B.bytes
  have hr := B.returns
  have hts := wm_ww (atoms_spec (ws := wm yX1_blockIn cX1_blockIn 5 (some .int)) B.pre)
  have hown : s.vm.findClass RX1 = some m.cls := findClass_of_methodNamed B.named
  have hlocks := B.notSynchronized
  have hK := hE.1
  have hD := hD0.self (sz := s.heap.size)
  generalize hAe : va_A (WC ca ad bq nF nO nL nA nC nV nU nP nE bF bO bL bA bC bV bU bP bE cT cK cO cQ cD pT pK pR pW pU pI pC uO uF uE uN wK jM jN jZ jB ++ R) s.heap.size = A at hD ⊢
  have hA : ∀ q : Nat, s.heap.size ≤ q → A q := fun q h => by rw [← hAe]; exact Or.inr h
  have hS : va_S A s.heap s.heap [] := va_S.rf
  have hl := lv_entry ([.ref (ad 5), .int p1, .int p2, .int p3]) (n := 5) (Nat.le_of_ble_eq_true rfl)
  rw [lg_entry_eq]
  generalize (lg_sl ([.ref (ad 5), .int p1, .int p2, .int p3]) ++ List.replicate (5 - (lg_sl ([.ref (ad 5), .int p1, .int p2, .int p3])).length) Slot.unset).toArray = ls at hl ⊢
  have hl : lv_has ls 5 [(0, .ref (ad 5)), (1, .int p1), (2, .int p2), (3, .int p3)] := hl
  change W p l e ({ frames := 2, cells := 0, slots := 0, locals := 42 } : Room) s m _ below meth c s.heap [] 0 0 _ _
  generalize hQm : MQ below (QI ro D (WC ca ad bq nF nO nL nA nC nV nU nP nE bF bO bL bA bC bV bU bP bE cT cK cO cQ cD pT pK pR pW pU pI pC uO uF uE uN wK jM jN jZ jB ++ R) (WC ca ad bq nF nO nL nA nC nV nU nP nE bF bO bL bA bC bV bU bP bE cT cK cO cQ cD pT pK pR pW pU pI pC uO uF uE uN wK jM jN jZ jB ++ R) s.heap.size) _ s 0 0 A = Qm
  have hP : va_P D vwCl (WC ca ad bq nF nO nL nA nC nV nU nP nE bF bO bL bA bC bV bU bP bE cT cK cO cQ cD pT pK pR pW pU pI pC uO uF uE uN wK jM jN jZ jB ++ R) s.heap := hP
  generalize hae : ([.ref (ad 5), .int p1, .int p2, .int p3] : List Value).toArray = args at hts hQm ⊢
  refine lv_aload_n hx hb dX1_blockIn_0 rfl (lv_at hl 0 rfl) ?_
  refine lv_iload_n hx hb dX1_blockIn_1 rfl (lv_at hl 1 rfl) ?_
  obtain ⟨r1, h2, hf⟩ := bnd hf
  refine call_vi (rest := []) (m_P_rowOf l ca ad bq nF nO nL nA nC nV nU nP nE bF bO bL bA bC bV bU bP bE cT cK cO cQ cD pT pK pR pW pU pI pC uO uF uE uN wK jM jN jZ jB R _ p1 r1 h2) ⟨hx, hb, hml, hown, hts⟩ (cwV 1 hts (gV q748 q732 q733 q27 q734) rfl rfl rfl (by decide +kernel) ⟨Nat.le_of_ble_eq_true rfl, Nat.le_of_ble_eq_true rfl⟩) (va_recv hK hP (ci := 5) (q0 := 19) rfl rfl) hE hP hD hS hA rfl hl.1 rfl (lv_room (Nat.le_of_ble_eq_true rfl)) dX1_blockIn_2 ⟨Nat.le_of_ble_eq_true rfl, Nat.le_of_ble_eq_true rfl⟩ (fun H locs hP hD hS => ?_)
  refine lv_istore (lv' := [(4, .int r1), (0, .ref (ad 5)), (1, .int p1), (2, .int p2), (3, .int p3)]) hx hb dX1_blockIn_5 hl (by decide) rfl (fun ls hl => ?_)
  refine lv_aload_n hx hb dX1_blockIn_7 rfl (lv_at hl 1 rfl) ?_
  refine lv_iload hx hb dX1_blockIn_8 (lv_at hl 0 rfl) ?_
  refine lv_iload_n hx hb dX1_blockIn_10 rfl (lv_at hl 3 rfl) ?_
  obtain ⟨r3, h4, hf⟩ := bnd hf
  refine call_vi (rest := []) (m_P_isInRow l ca ad bq nF nO nL nA nC nV nU nP nE bF bO bL bA bC bV bU bP bE cT cK cO cQ cD pT pK pR pW pU pI pC uO uF uE uN wK jM jN jZ jB R _ r1 p2 r3 h4) ⟨hx, hb, hml, hown, hts⟩ (cwV 2 hts (gV q666 q668 q14 q27 q669) rfl rfl rfl (by decide +kernel) ⟨Nat.le_of_ble_eq_true rfl, Nat.le_of_ble_eq_true rfl⟩) (va_recv hK hP (ci := 5) (q0 := 19) rfl rfl) hE hP hD hS hA rfl hl.1 rfl (lv_room (Nat.le_of_ble_eq_true rfl)) dX1_blockIn_11 ⟨Nat.le_of_ble_eq_true rfl, Nat.le_of_ble_eq_true rfl⟩ (fun H locs hP hD hS => ?_)
  refine lv_if_eq (tgt := 24) hx hb dX1_blockIn_14 (by decide) (fun c5 => ?_) (fun c5 => ?_)
  · have hf := br_pos c5 hf
    refine lv_iconst (v := (-1)) hx hb dX1_blockIn_24 (by decide) ?_
    cases hf
    exact end_i hAe hQm hx hb hr hlocks rfl hP hD hS dX1_blockIn_25
  · have hf := br_neg c5 hf
    refine lv_iload_n hx hb dX1_blockIn_17 rfl (lv_at hl 4 rfl) ?_
    obtain ⟨r6, h7, hf⟩ := bnd hf
    refine call_ni (rest := []) (m_C_isPlace l ca ad bq nF nO nL nA nC nV nU nP nE bF bO bL bA bC bV bU bP bE cT cK cO cQ cD pT pK pR pW pU pI pC uO uF uE uN wK jM jN jZ jB R _ p3 r6 h7) ⟨hx, hb, hml, hown, hts⟩ ⟨va_cnB 1 hts (gM q486) rfl rfl rfl (hE.2.1 _ n754) (hts _ q24) (by decide +kernel) ⟨Nat.le_of_ble_eq_true rfl, Nat.le_of_ble_eq_true rfl⟩, hts _ q485, trivial⟩ hE hP hD hS hA rfl hl.1 rfl (lv_room (Nat.le_of_ble_eq_true rfl)) dX1_blockIn_18 ⟨Nat.le_of_ble_eq_true rfl, Nat.le_of_ble_eq_true rfl⟩ (fun H locs hP hD hS => ?_)
    refine lv_if_ne (tgt := 26) hx hb dX1_blockIn_21 (by decide) (fun c8 => ?_) (fun c8 => ?_)
    · have hf := br_neg c8 hf
      refine lv_aload_n hx hb dX1_blockIn_26 rfl (lv_at hl 1 rfl) ?_
      refine va_get (D := D) (ci := 5) (v := .ref (ad 27)) (C := RX1) (T := TX1) (N := 7) hx hb hts inX1 hown hK hP 19 rfl rfl 6 (by decide) (hts _ q113) (fun _ h9 => h9) rfl dX1_blockIn_27 ?_
      refine lv_iload hx hb dX1_blockIn_30 (lv_at hl 0 rfl) ?_
      obtain ⟨k9, hf⟩ := ck_not hf
      refine va_aldA (D := D) hx hb hK hP 24 4 rfl rfl k9 dX1_blockIn_32 ?_
      refine lv_iload_n hx hb dX1_blockIn_33 rfl (lv_at hl 3 rfl) ?_
      refine lv_bipush (v := 16) hx hb dX1_blockIn_34 (by decide) ?_
      refine lv_imul hx hb dX1_blockIn_36 ?_
      refine lv_iload_n hx hb dX1_blockIn_37 rfl (lv_at hl 4 rfl) ?_
      refine lv_iadd hx hb dX1_blockIn_38 ?_
      obtain ⟨k10, hf⟩ := ck_not hf
      refine va_iald (D := D) hx hb hK hP (25 + r1.toNatClampNeg) 0 (WC_row (Nat.not_le.mp fun q => k9 (Or.inr q))) rfl k10 dX1_blockIn_39 ?_
      cases hf
      exact end_i hAe hQm hx hb hr hlocks rfl hP hD hS dX1_blockIn_40
    · have hf := br_pos c8 hf
      refine lv_iconst (v := (-1)) hx hb dX1_blockIn_24 (by decide) ?_
      cases hf
      exact end_i hAe hQm hx hb hr hlocks rfl hP hD hS dX1_blockIn_25
def f_P_blocksInFile_L5 : Nat → Int32 → Int32 → Int64 → Int32 → Int32 → (Nat → Int32) → (Nat → Int32) → (Nat → Nat → Int32) → Option (Int64)
  | 0, _, _, _, _, _, _, _, _ => none
  | fuel + 1, v1, v2, v3, v5, pT, pW, pI, pC =>
    if 16 ≤ v5 then
      some v3
    else
      (f_P_blockIn v1 v2 v5 pT pW pI pC).bind fun r6 =>
      if r6 = (-1) then
        f_P_blocksInFile_L5 fuel v1 v2 v3 (v5 + 1) pT pW pI pC
      else
        f_P_blocksInFile_L5 fuel v1 v2 (v3 ||| (1 <<< ((r6 : Int32).toInt64 &&& 63))) (v5 + 1) pT pW pI pC
def f_P_blocksInFile (p1 : Int32) (p2 : Int32) (pT : Int32) (pW : Nat → Int32) (pI : Nat → Int32) (pC : Nat → Nat → Int32) : Option (Int64) :=
  (f_P_blocksInFile_L5 FU p1 p2 0 0 pT pW pI pC).bind fun x10 =>
  some x10
set_option maxHeartbeats 4000000 in
set_option maxRecDepth 100000 in
theorem m_P_blocksInFile (l : Launch) {D : va_G} {sl : List (String × Nat × String)} (ca : Nat → ClassId) (ad : Nat → Nat) (bq : Nat) (nF : Int32) (nO : Nat → Int32) (nL : Nat → Int32) (nA : Nat → Int32) (nC : Nat → Int32) (nV : Nat → Int32) (nU : Nat → Int32) (nP : Nat → Int32) (nE : Int32) (bF : Int32) (bO : Nat → Int32) (bL : Nat → Int32) (bA : Nat → Int32) (bC : Nat → Int32) (bV : Nat → Int32) (bU : Nat → Int32) (bP : Nat → Int32) (bE : Int32) (cT : Int32) (cK : Nat → Int32) (cO : Int32) (cQ : Nat → Int32) (cD : Int32) (pT : Int32) (pK : Int32) (pR : Nat → Int32) (pW : Nat → Int32) (pU : Nat → Int32) (pI : Nat → Int32) (pC : Nat → Nat → Int32) (uO : Int32) (uF : Nat → Int32) (uE : Nat → Int32) (uN : Nat → Int32) (wK : Nat → Int32) (jM : Int32) (jN : Int32) (jZ : Nat) (jB : Nat → Int32) (R : va_W) (sz : Nat) (p1 : Int32) (p2 : Int32) (ro : Int64) (hf : f_P_blocksInFile p1 p2 pT pW pI pC = some ro) : Met l yX1_blocksInFile (wm yX1_blocksInFile cX1_blocksInFile 7 (some .long)) ({ frames := 3, cells := 0, slots := 0, locals := 66 } : Room) (PRE [.ref (ad 5), .int p1, .int p2] D ca sl (WC ca ad bq nF nO nL nA nC nV nU nP nE bF bO bL bA bC bV bU bP bE cT cK cO cQ cD pT pK pR pW pU pI pC uO uF uE uN wK jM jN jZ jB ++ R) sz) (QL ro D (WC ca ad bq nF nO nL nA nC nV nU nP nE bF bO bL bA bC bV bU bP bE cT cK cO cQ cD pT pK pR pW pU pI pC uO uF uE uN wK jM jN jZ jB ++ R) (WC ca ad bq nF nO nL nA nC nV nU nP nE bF bO bL bA bC bV bU bP bE cT cK cO cQ cD pT pK pR pW pU pI pC uO uF uE uN wK jM jN jZ jB ++ R) sz) 0 0 (va_A (WC ca ad bq nF nO nL nA nC nV nU nP nE bF bO bL bA bC bV bU bP bE cT cK cO cQ cD pT pK pR pW pU pI pC uO uF uE uN wK jM jN jZ jB ++ R) sz) := by
  refine Met.ofW (cc := cX1_blocksInFile) (maxL := 7) (ret := (some .long)) (by decide) rfl ?_
  intro p e s m args below meth c s₁ B hml hv
  obtain ⟨rfl, rfl, hP, hE, hD0⟩ := hv
  have hx := B.exec
  have hb := B.bytes
  have hr := B.returns
  have hts := wm_ww (atoms_spec (ws := wm yX1_blocksInFile cX1_blocksInFile 7 (some .long)) B.pre)
  have hown : s.vm.findClass RX1 = some m.cls := findClass_of_methodNamed B.named
  have hlocks := B.notSynchronized
  have hK := hE.1
  have hD := hD0.self (sz := s.heap.size)
  generalize hAe : va_A (WC ca ad bq nF nO nL nA nC nV nU nP nE bF bO bL bA bC bV bU bP bE cT cK cO cQ cD pT pK pR pW pU pI pC uO uF uE uN wK jM jN jZ jB ++ R) s.heap.size = A at hD ⊢
  have hA : ∀ q : Nat, s.heap.size ≤ q → A q := fun q h => by rw [← hAe]; exact Or.inr h
  have hS : va_S A s.heap s.heap [] := va_S.rf
  have hl := lv_entry ([.ref (ad 5), .int p1, .int p2]) (n := 7) (Nat.le_of_ble_eq_true rfl)
  rw [lg_entry_eq]
  generalize (lg_sl ([.ref (ad 5), .int p1, .int p2]) ++ List.replicate (7 - (lg_sl ([.ref (ad 5), .int p1, .int p2])).length) Slot.unset).toArray = ls at hl ⊢
  have hl : lv_has ls 7 [(0, .ref (ad 5)), (1, .int p1), (2, .int p2)] := hl
  change W p l e ({ frames := 3, cells := 0, slots := 0, locals := 66 } : Room) s m _ below meth c s.heap [] 0 0 _ _
  generalize hQm : MQ below (QL ro D (WC ca ad bq nF nO nL nA nC nV nU nP nE bF bO bL bA bC bV bU bP bE cT cK cO cQ cD pT pK pR pW pU pI pC uO uF uE uN wK jM jN jZ jB ++ R) (WC ca ad bq nF nO nL nA nC nV nU nP nE bF bO bL bA bC bV bU bP bE cT cK cO cQ cD pT pK pR pW pU pI pC uO uF uE uN wK jM jN jZ jB ++ R) s.heap.size) _ s 0 0 A = Qm
  have hP : va_P D vwCl (WC ca ad bq nF nO nL nA nC nV nU nP nE bF bO bL bA bC bV bU bP bE cT cK cO cQ cD pT pK pR pW pU pI pC uO uF uE uN wK jM jN jZ jB ++ R) s.heap := hP
  generalize hae : ([.ref (ad 5), .int p1, .int p2] : List Value).toArray = args at hts hQm ⊢
  have L5 : ∀ (n : Nat) (v1 : Int32) (v2 : Int32) (v3 : Int64) (v5 : Int32) (y3 : Int64), f_P_blocksInFile_L5 n v1 v2 v3 v5 pT pW pI pC = some y3 → ∀ (H : Heap) (locs : List Loc) (ls : Array Slot), va_P D vwCl (WC ca ad bq nF nO nL nA nC nV nU nP nE bF bO bL bA bC bV bU bP bE cT cK cO cQ cD pT pK pR pW pU pI pC uO uF uE uN wK jM jN jZ jB ++ R) H → va_D A (WC ca ad bq nF nO nL nA nC nV nU nP nE bF bO bL bA bC bV bU bP bE cT cK cO cQ cD pT pK pR pW pU pI pC uO uF uE uN wK jM jN jZ jB ++ R) → va_S A s.heap H locs → lv_has ls 7 [(0, .ref (ad 5)), (1, .int v1), (2, .int v2), (3, .long v3), (5, .int v5)] → (∀ (H : Heap) (locs : List Loc) (ls : Array Slot), va_P D vwCl (WC ca ad bq nF nO nL nA nC nV nU nP nE bF bO bL bA bC bV bU bP bE cT cK cO cQ cD pT pK pR pW pU pI pC uO uF uE uN wK jM jN jZ jB ++ R) H → va_D A (WC ca ad bq nF nO nL nA nC nV nU nP nE bF bO bL bA bC bV bU bP bE cT cK cO cQ cD pT pK pR pW pU pI pC uO uF uE uN wK jM jN jZ jB ++ R) → va_S A s.heap H locs → lv_has ls 7 [(3, .long y3)] → W p l e ({ frames := 3, cells := 0, slots := 0, locals := 66 } : Room) s m args below meth c H locs 0 0 Qm (F0 m 41 ls [])) → W p l e ({ frames := 3, cells := 0, slots := 0, locals := 66 } : Room) s m args below meth c H locs 0 0 Qm (F0 m 5 ls []) := by
    intro n
    induction n with
    | zero => intro v1 v2 v3 v5 y3 hf; cases hf
    | succ n ih =>
      intro v1 v2 v3 v5 y3 hf H locs ls hP hD hS hl kk
      unfold f_P_blocksInFile_L5 at hf
      refine lv_iload hx hb dX1_blocksInFile_5 (lv_at hl 4 rfl) ?_
      refine lv_bipush (v := 16) hx hb dX1_blocksInFile_7 (by decide) ?_
      refine lv_icmp_ge (tgt := 41) hx hb dX1_blocksInFile_9 (by decide) (fun c5 => ?_) (fun c5 => ?_)
      · have hf := br_pos c5 hf
        cases hf
        exact kk _ _ _ hP hD hS (lv_sub hl [3] rfl)
      · have hf := br_neg c5 hf
        refine lv_aload_n hx hb dX1_blocksInFile_12 rfl (lv_at hl 0 rfl) ?_
        refine lv_iload_n hx hb dX1_blocksInFile_13 rfl (lv_at hl 1 rfl) ?_
        refine lv_iload_n hx hb dX1_blocksInFile_14 rfl (lv_at hl 2 rfl) ?_
        refine lv_iload hx hb dX1_blocksInFile_15 (lv_at hl 4 rfl) ?_
        obtain ⟨r6, h7, hf⟩ := bnd hf
        refine call_vi (rest := []) (m_P_blockIn l ca ad bq nF nO nL nA nC nV nU nP nE bF bO bL bA bC bV bU bP bE cT cK cO cQ cD pT pK pR pW pU pI pC uO uF uE uN wK jM jN jZ jB R _ v1 v2 v5 r6 h7) ⟨hx, hb, hml, hown, hts⟩ (cwV 3 hts (gV q783 q751 q752 q27 q753) rfl rfl rfl (by decide +kernel) ⟨Nat.le_of_ble_eq_true rfl, Nat.le_of_ble_eq_true rfl⟩) (va_recv hK hP (ci := 5) (q0 := 19) rfl rfl) hE hP hD hS hA rfl hl.1 rfl (lv_room (Nat.le_of_ble_eq_true rfl)) dX1_blocksInFile_17 ⟨Nat.le_of_ble_eq_true rfl, Nat.le_of_ble_eq_true rfl⟩ (fun H locs hP hD hS => ?_)
        refine lv_istore (lv' := [(6, .int r6), (0, .ref (ad 5)), (1, .int v1), (2, .int v2), (3, .long v3), (5, .int v5)]) hx hb dX1_blocksInFile_20 hl (by decide) rfl (fun ls hl => ?_)
        refine lv_iload hx hb dX1_blocksInFile_22 (lv_at hl 0 rfl) ?_
        refine lv_iconst (v := (-1)) hx hb dX1_blocksInFile_24 (by decide) ?_
        refine lv_icmp_eq (tgt := 35) hx hb dX1_blocksInFile_25 (by decide) (fun c8 => ?_) (fun c8 => ?_)
        · have hf := br_pos c8 hf
          refine lv_iinc (v := (v5 + 1)) (lv' := [(5, .int (v5 + 1)), (6, .int r6), (0, .ref (ad 5)), (1, .int v1), (2, .int v2), (3, .long v3)]) hx hb dX1_blocksInFile_35 hl (k := 5) rfl rfl (by decide) rfl (fun ls hl => ?_)
          refine lv_goto (tgt := 5) hx hb dX1_blocksInFile_38 (by decide) ?_
          exact ih v1 v2 v3 (v5 + 1) _ hf _ _ _ hP hD hS (lv_sub hl [2, 3, 4, 5, 0] rfl) kk
        · have hf := br_neg c8 hf
          refine lv_lload_n hx hb dX1_blocksInFile_28 rfl (lv_at hl 4 rfl) ?_
          refine lv_lconst (v := 1) hx hb dX1_blocksInFile_29 (by decide) ?_
          refine lv_iload hx hb dX1_blocksInFile_30 (lv_at hl 0 rfl) ?_
          refine lv_lshl hx hb dX1_blocksInFile_32 rfl ?_
          refine lv_lor hx hb dX1_blocksInFile_33 ?_
          refine lv_lstore_n (lv' := [(3, .long (v3 ||| (1 <<< ((r6 : Int32).toInt64 &&& 63)))), (6, .int r6), (0, .ref (ad 5)), (1, .int v1), (2, .int v2), (5, .int v5)]) hx hb dX1_blocksInFile_34 rfl hl (by decide) rfl (fun ls hl => ?_)
          refine lv_iinc (v := (v5 + 1)) (lv' := [(5, .int (v5 + 1)), (3, .long (v3 ||| (1 <<< ((r6 : Int32).toInt64 &&& 63)))), (6, .int r6), (0, .ref (ad 5)), (1, .int v1), (2, .int v2)]) hx hb dX1_blocksInFile_35 hl (k := 5) rfl rfl (by decide) rfl (fun ls hl => ?_)
          refine lv_goto (tgt := 5) hx hb dX1_blocksInFile_38 (by decide) ?_
          exact ih v1 v2 (v3 ||| (1 <<< ((r6 : Int32).toInt64 &&& 63))) (v5 + 1) _ hf _ _ _ hP hD hS (lv_sub hl [3, 4, 5, 1, 0] rfl) kk
  refine lv_lconst (v := 0) hx hb dX1_blocksInFile_0 (by decide) ?_
  refine lv_lstore_n (lv' := [(3, .long 0), (0, .ref (ad 5)), (1, .int p1), (2, .int p2)]) hx hb dX1_blocksInFile_1 rfl hl (by decide) rfl (fun ls hl => ?_)
  refine lv_iconst (v := 0) hx hb dX1_blocksInFile_2 (by decide) ?_
  refine lv_istore (lv' := [(5, .int 0), (3, .long 0), (0, .ref (ad 5)), (1, .int p1), (2, .int p2)]) hx hb dX1_blocksInFile_3 hl (by decide) rfl (fun ls hl => ?_)
  obtain ⟨x10, h9, hf⟩ := bnd hf
  refine L5 FU p1 p2 0 0 x10 h9 _ _ _ hP hD hS (lv_sub hl [2, 3, 4, 1, 0] rfl) (fun H locs ls hP hD hS hl => ?_)
  refine lv_lload_n hx hb dX1_blocksInFile_41 rfl (lv_at hl 0 rfl) ?_
  cases hf
  exact end_l hAe hQm hx hb hr hlocks hP hD hS dX1_blocksInFile_42
def f_P_leastKept_L4 : Nat → Int32 → Int32 → (Nat → Int32) → (Nat → Int32) → Option (Int32)
  | 0, _, _, _, _ => none
  | fuel + 1, v1, v2, pR, pW =>
    if 30 ≤ v2 then
      some v1
    else
      if v1 = (-1) then
        if v2 < 0 ∨ 30 ≤ v2.toNatClampNeg then none else
          if (pW v2.toNatClampNeg) = (-1) then
          f_P_leastKept_L4 fuel v1 (v2 + 1) pR pW
        else
          f_P_leastKept_L4 fuel v2 (v2 + 1) pR pW
      else
        if v2 < 0 ∨ 30 ≤ v2.toNatClampNeg then none else
          if v1 < 0 ∨ 30 ≤ v1.toNatClampNeg then none else
          if (pR v1.toNatClampNeg) ≤ (pR v2.toNatClampNeg) then
          if v2 < 0 ∨ 30 ≤ v2.toNatClampNeg then none else
            if (pW v2.toNatClampNeg) = (-1) then
            f_P_leastKept_L4 fuel v1 (v2 + 1) pR pW
          else
            f_P_leastKept_L4 fuel v1 (v2 + 1) pR pW
        else
          if v2 < 0 ∨ 30 ≤ v2.toNatClampNeg then none else
            if (pW v2.toNatClampNeg) = (-1) then
            f_P_leastKept_L4 fuel v1 (v2 + 1) pR pW
          else
            f_P_leastKept_L4 fuel v2 (v2 + 1) pR pW
def f_P_leastKept (pR : Nat → Int32) (pW : Nat → Int32) : Option (Int32) :=
  (f_P_leastKept_L4 FU (-1) 0 pR pW).bind fun x30 =>
  some x30
set_option maxHeartbeats 4000000 in
set_option maxRecDepth 100000 in
theorem m_P_leastKept (l : Launch) {D : va_G} {sl : List (String × Nat × String)} (ca : Nat → ClassId) (ad : Nat → Nat) (bq : Nat) (nF : Int32) (nO : Nat → Int32) (nL : Nat → Int32) (nA : Nat → Int32) (nC : Nat → Int32) (nV : Nat → Int32) (nU : Nat → Int32) (nP : Nat → Int32) (nE : Int32) (bF : Int32) (bO : Nat → Int32) (bL : Nat → Int32) (bA : Nat → Int32) (bC : Nat → Int32) (bV : Nat → Int32) (bU : Nat → Int32) (bP : Nat → Int32) (bE : Int32) (cT : Int32) (cK : Nat → Int32) (cO : Int32) (cQ : Nat → Int32) (cD : Int32) (pT : Int32) (pK : Int32) (pR : Nat → Int32) (pW : Nat → Int32) (pU : Nat → Int32) (pI : Nat → Int32) (pC : Nat → Nat → Int32) (uO : Int32) (uF : Nat → Int32) (uE : Nat → Int32) (uN : Nat → Int32) (wK : Nat → Int32) (jM : Int32) (jN : Int32) (jZ : Nat) (jB : Nat → Int32) (R : va_W) (sz : Nat) (ro : Int32) (hf : f_P_leastKept pR pW = some ro) : Met l yX1_leastKept (wm yX1_leastKept cX1_leastKept 4 (some .int)) ({ frames := 0, cells := 0, slots := 0, locals := 0 } : Room) (PRE [.ref (ad 5)] D ca sl (WC ca ad bq nF nO nL nA nC nV nU nP nE bF bO bL bA bC bV bU bP bE cT cK cO cQ cD pT pK pR pW pU pI pC uO uF uE uN wK jM jN jZ jB ++ R) sz) (QI ro D (WC ca ad bq nF nO nL nA nC nV nU nP nE bF bO bL bA bC bV bU bP bE cT cK cO cQ cD pT pK pR pW pU pI pC uO uF uE uN wK jM jN jZ jB ++ R) (WC ca ad bq nF nO nL nA nC nV nU nP nE bF bO bL bA bC bV bU bP bE cT cK cO cQ cD pT pK pR pW pU pI pC uO uF uE uN wK jM jN jZ jB ++ R) sz) 0 0 (va_A (WC ca ad bq nF nO nL nA nC nV nU nP nE bF bO bL bA bC bV bU bP bE cT cK cO cQ cD pT pK pR pW pU pI pC uO uF uE uN wK jM jN jZ jB ++ R) sz) := by
  refine Met.ofW (cc := cX1_leastKept) (maxL := 4) (ret := (some .int)) (by decide) rfl ?_
  intro p e s m args below meth c s₁ B hml hv
  obtain ⟨rfl, rfl, hP, hE, hD0⟩ := hv
  have hx := B.exec
  have hb := B.bytes
  have hr := B.returns
  have hts := wm_ww (atoms_spec (ws := wm yX1_leastKept cX1_leastKept 4 (some .int)) B.pre)
  have hown : s.vm.findClass RX1 = some m.cls := findClass_of_methodNamed B.named
  have hlocks := B.notSynchronized
  have hK := hE.1
  have hD := hD0.self (sz := s.heap.size)
  generalize hAe : va_A (WC ca ad bq nF nO nL nA nC nV nU nP nE bF bO bL bA bC bV bU bP bE cT cK cO cQ cD pT pK pR pW pU pI pC uO uF uE uN wK jM jN jZ jB ++ R) s.heap.size = A at hD ⊢
  have hA : ∀ q : Nat, s.heap.size ≤ q → A q := fun q h => by rw [← hAe]; exact Or.inr h
  have hS : va_S A s.heap s.heap [] := va_S.rf
  have hl := lv_entry ([.ref (ad 5)]) (n := 4) (Nat.le_of_ble_eq_true rfl)
  rw [lg_entry_eq]
  generalize (lg_sl ([.ref (ad 5)]) ++ List.replicate (4 - (lg_sl ([.ref (ad 5)])).length) Slot.unset).toArray = ls at hl ⊢
  have hl : lv_has ls 4 [(0, .ref (ad 5))] := hl
  change W p l e ({ frames := 0, cells := 0, slots := 0, locals := 0 } : Room) s m _ below meth c s.heap [] 0 0 _ _
  generalize hQm : MQ below (QI ro D (WC ca ad bq nF nO nL nA nC nV nU nP nE bF bO bL bA bC bV bU bP bE cT cK cO cQ cD pT pK pR pW pU pI pC uO uF uE uN wK jM jN jZ jB ++ R) (WC ca ad bq nF nO nL nA nC nV nU nP nE bF bO bL bA bC bV bU bP bE cT cK cO cQ cD pT pK pR pW pU pI pC uO uF uE uN wK jM jN jZ jB ++ R) s.heap.size) _ s 0 0 A = Qm
  have hP : va_P D vwCl (WC ca ad bq nF nO nL nA nC nV nU nP nE bF bO bL bA bC bV bU bP bE cT cK cO cQ cD pT pK pR pW pU pI pC uO uF uE uN wK jM jN jZ jB ++ R) s.heap := hP
  generalize hae : ([.ref (ad 5)] : List Value).toArray = args at hts hQm ⊢
  have L4 : ∀ (n : Nat) (v1 : Int32) (v2 : Int32) (y1 : Int32), f_P_leastKept_L4 n v1 v2 pR pW = some y1 → ∀ (H : Heap) (locs : List Loc) (ls : Array Slot), va_P D vwCl (WC ca ad bq nF nO nL nA nC nV nU nP nE bF bO bL bA bC bV bU bP bE cT cK cO cQ cD pT pK pR pW pU pI pC uO uF uE uN wK jM jN jZ jB ++ R) H → va_D A (WC ca ad bq nF nO nL nA nC nV nU nP nE bF bO bL bA bC bV bU bP bE cT cK cO cQ cD pT pK pR pW pU pI pC uO uF uE uN wK jM jN jZ jB ++ R) → va_S A s.heap H locs → lv_has ls 4 [(0, .ref (ad 5)), (1, .int v1), (2, .int v2)] → (∀ (H : Heap) (locs : List Loc) (ls : Array Slot), va_P D vwCl (WC ca ad bq nF nO nL nA nC nV nU nP nE bF bO bL bA bC bV bU bP bE cT cK cO cQ cD pT pK pR pW pU pI pC uO uF uE uN wK jM jN jZ jB ++ R) H → va_D A (WC ca ad bq nF nO nL nA nC nV nU nP nE bF bO bL bA bC bV bU bP bE cT cK cO cQ cD pT pK pR pW pU pI pC uO uF uE uN wK jM jN jZ jB ++ R) → va_S A s.heap H locs → lv_has ls 4 [(1, .int y1)] → W p l e ({ frames := 0, cells := 0, slots := 0, locals := 0 } : Room) s m args below meth c H locs 0 0 Qm (F0 m 58 ls [])) → W p l e ({ frames := 0, cells := 0, slots := 0, locals := 0 } : Room) s m args below meth c H locs 0 0 Qm (F0 m 4 ls []) := by
    intro n
    induction n with
    | zero => intro v1 v2 y1 hf; cases hf
    | succ n ih =>
      intro v1 v2 y1 hf H locs ls hP hD hS hl kk
      unfold f_P_leastKept_L4 at hf
      refine lv_iload_n hx hb dX1_leastKept_4 rfl (lv_at hl 2 rfl) ?_
      refine lv_bipush (v := 30) hx hb dX1_leastKept_5 (by decide) ?_
      refine lv_icmp_ge (tgt := 58) hx hb dX1_leastKept_7 (by decide) (fun c15 => ?_) (fun c15 => ?_)
      · have hf := br_pos c15 hf
        cases hf
        exact kk _ _ _ hP hD hS (lv_sub hl [1] rfl)
      · have hf := br_neg c15 hf
        refine lv_iload_n hx hb dX1_leastKept_10 rfl (lv_at hl 1 rfl) ?_
        refine lv_iconst (v := (-1)) hx hb dX1_leastKept_11 (by decide) ?_
        refine lv_icmp_eq (tgt := 30) hx hb dX1_leastKept_12 (by decide) (fun c16 => ?_) (fun c16 => ?_)
        · have hf := br_pos c16 hf
          refine lv_iconst (v := 1) hx hb dX1_leastKept_30 (by decide) ?_
          refine lv_goto (tgt := 35) hx hb dX1_leastKept_31 (by decide) ?_
          refine lv_istore_n (lv' := [(3, .int 1), (0, .ref (ad 5)), (1, .int v1), (2, .int v2)]) hx hb dX1_leastKept_35 rfl hl (by decide) rfl (fun ls hl => ?_)
          refine lv_aload_n hx hb dX1_leastKept_36 rfl (lv_at hl 1 rfl) ?_
          refine va_get (D := D) (ci := 5) (v := .ref (ad 24)) (C := RX1) (T := TX1) (N := 7) hx hb hts inX1 hown hK hP 19 rfl rfl 3 (by decide) (hts _ q110) (fun _ h9 => h9) rfl dX1_leastKept_37 ?_
          refine lv_iload_n hx hb dX1_leastKept_40 rfl (lv_at hl 3 rfl) ?_
          obtain ⟨k17, hf⟩ := ck_not hf
          refine va_iald (D := D) hx hb hK hP 21 0 rfl rfl k17 dX1_leastKept_41 ?_
          refine lv_iconst (v := (-1)) hx hb dX1_leastKept_42 (by decide) ?_
          refine lv_icmp_eq (tgt := 52) hx hb dX1_leastKept_43 (by decide) (fun c18 => ?_) (fun c18 => ?_)
          · have hf := br_pos c18 hf
            refine lv_iinc (v := (v2 + 1)) (lv' := [(2, .int (v2 + 1)), (3, .int 1), (0, .ref (ad 5)), (1, .int v1)]) hx hb dX1_leastKept_52 hl (k := 3) rfl rfl (by decide) rfl (fun ls hl => ?_)
            refine lv_goto (tgt := 4) hx hb dX1_leastKept_55 (by decide) ?_
            exact ih v1 (v2 + 1) _ hf _ _ _ hP hD hS (lv_sub hl [2, 3, 0] rfl) kk
          · have hf := br_neg c18 hf
            refine lv_iload_n hx hb dX1_leastKept_46 rfl (lv_at hl 0 rfl) ?_
            refine lv_if_eq (tgt := 52) hx hb dX1_leastKept_47 (by decide) (fun c19 => ?_) (fun c19 => ?_)
            · exact absurd c19 (by decide)
            refine lv_iload_n hx hb dX1_leastKept_50 rfl (lv_at hl 3 rfl) ?_
            refine lv_istore_n (lv' := [(1, .int v2), (3, .int 1), (0, .ref (ad 5)), (2, .int v2)]) hx hb dX1_leastKept_51 rfl hl (by decide) rfl (fun ls hl => ?_)
            refine lv_iinc (v := (v2 + 1)) (lv' := [(2, .int (v2 + 1)), (1, .int v2), (3, .int 1), (0, .ref (ad 5))]) hx hb dX1_leastKept_52 hl (k := 3) rfl rfl (by decide) rfl (fun ls hl => ?_)
            refine lv_goto (tgt := 4) hx hb dX1_leastKept_55 (by decide) ?_
            exact ih v2 (v2 + 1) _ hf _ _ _ hP hD hS (lv_sub hl [3, 1, 0] rfl) kk
        · have hf := br_neg c16 hf
          refine lv_aload_n hx hb dX1_leastKept_15 rfl (lv_at hl 0 rfl) ?_
          refine va_get (D := D) (ci := 5) (v := .ref (ad 23)) (C := RX1) (T := TX1) (N := 7) hx hb hts inX1 hown hK hP 19 rfl rfl 2 (by decide) (hts _ q109) (fun _ h9 => h9) rfl dX1_leastKept_16 ?_
          refine lv_iload_n hx hb dX1_leastKept_19 rfl (lv_at hl 2 rfl) ?_
          obtain ⟨k20, hf⟩ := ck_not hf
          refine va_iald (D := D) hx hb hK hP 20 0 rfl rfl k20 dX1_leastKept_20 ?_
          refine lv_aload_n hx hb dX1_leastKept_21 rfl (lv_at hl 0 rfl) ?_
          refine va_get (D := D) (ci := 5) (v := .ref (ad 23)) (C := RX1) (T := TX1) (N := 7) hx hb hts inX1 hown hK hP 19 rfl rfl 2 (by decide) (hts _ q109) (fun _ h9 => h9) rfl dX1_leastKept_22 ?_
          refine lv_iload_n hx hb dX1_leastKept_25 rfl (lv_at hl 1 rfl) ?_
          obtain ⟨k21, hf⟩ := ck_not hf
          refine va_iald (D := D) hx hb hK hP 20 0 rfl rfl k21 dX1_leastKept_26 ?_
          refine lv_icmp_ge (tgt := 34) hx hb dX1_leastKept_27 (by decide) (fun c22 => ?_) (fun c22 => ?_)
          · have hf := br_pos c22 hf
            refine lv_iconst (v := 0) hx hb dX1_leastKept_34 (by decide) ?_
            refine lv_istore_n (lv' := [(3, .int 0), (0, .ref (ad 5)), (1, .int v1), (2, .int v2)]) hx hb dX1_leastKept_35 rfl hl (by decide) rfl (fun ls hl => ?_)
            refine lv_aload_n hx hb dX1_leastKept_36 rfl (lv_at hl 1 rfl) ?_
            refine va_get (D := D) (ci := 5) (v := .ref (ad 24)) (C := RX1) (T := TX1) (N := 7) hx hb hts inX1 hown hK hP 19 rfl rfl 3 (by decide) (hts _ q110) (fun _ h9 => h9) rfl dX1_leastKept_37 ?_
            refine lv_iload_n hx hb dX1_leastKept_40 rfl (lv_at hl 3 rfl) ?_
            obtain ⟨k23, hf⟩ := ck_not hf
            refine va_iald (D := D) hx hb hK hP 21 0 rfl rfl k23 dX1_leastKept_41 ?_
            refine lv_iconst (v := (-1)) hx hb dX1_leastKept_42 (by decide) ?_
            refine lv_icmp_eq (tgt := 52) hx hb dX1_leastKept_43 (by decide) (fun c24 => ?_) (fun c24 => ?_)
            · have hf := br_pos c24 hf
              refine lv_iinc (v := (v2 + 1)) (lv' := [(2, .int (v2 + 1)), (3, .int 0), (0, .ref (ad 5)), (1, .int v1)]) hx hb dX1_leastKept_52 hl (k := 3) rfl rfl (by decide) rfl (fun ls hl => ?_)
              refine lv_goto (tgt := 4) hx hb dX1_leastKept_55 (by decide) ?_
              exact ih v1 (v2 + 1) _ hf _ _ _ hP hD hS (lv_sub hl [2, 3, 0] rfl) kk
            · have hf := br_neg c24 hf
              refine lv_iload_n hx hb dX1_leastKept_46 rfl (lv_at hl 0 rfl) ?_
              refine lv_if_eq (tgt := 52) hx hb dX1_leastKept_47 (by decide) (fun c25 => ?_) (fun c25 => ?_)
              rotate_left
              · exact absurd c25 (by decide)
              refine lv_iinc (v := (v2 + 1)) (lv' := [(2, .int (v2 + 1)), (3, .int 0), (0, .ref (ad 5)), (1, .int v1)]) hx hb dX1_leastKept_52 hl (k := 3) rfl rfl (by decide) rfl (fun ls hl => ?_)
              refine lv_goto (tgt := 4) hx hb dX1_leastKept_55 (by decide) ?_
              exact ih v1 (v2 + 1) _ hf _ _ _ hP hD hS (lv_sub hl [2, 3, 0] rfl) kk
          · have hf := br_neg c22 hf
            refine lv_iconst (v := 1) hx hb dX1_leastKept_30 (by decide) ?_
            refine lv_goto (tgt := 35) hx hb dX1_leastKept_31 (by decide) ?_
            refine lv_istore_n (lv' := [(3, .int 1), (0, .ref (ad 5)), (1, .int v1), (2, .int v2)]) hx hb dX1_leastKept_35 rfl hl (by decide) rfl (fun ls hl => ?_)
            refine lv_aload_n hx hb dX1_leastKept_36 rfl (lv_at hl 1 rfl) ?_
            refine va_get (D := D) (ci := 5) (v := .ref (ad 24)) (C := RX1) (T := TX1) (N := 7) hx hb hts inX1 hown hK hP 19 rfl rfl 3 (by decide) (hts _ q110) (fun _ h9 => h9) rfl dX1_leastKept_37 ?_
            refine lv_iload_n hx hb dX1_leastKept_40 rfl (lv_at hl 3 rfl) ?_
            obtain ⟨k26, hf⟩ := ck_not hf
            refine va_iald (D := D) hx hb hK hP 21 0 rfl rfl k26 dX1_leastKept_41 ?_
            refine lv_iconst (v := (-1)) hx hb dX1_leastKept_42 (by decide) ?_
            refine lv_icmp_eq (tgt := 52) hx hb dX1_leastKept_43 (by decide) (fun c27 => ?_) (fun c27 => ?_)
            · have hf := br_pos c27 hf
              refine lv_iinc (v := (v2 + 1)) (lv' := [(2, .int (v2 + 1)), (3, .int 1), (0, .ref (ad 5)), (1, .int v1)]) hx hb dX1_leastKept_52 hl (k := 3) rfl rfl (by decide) rfl (fun ls hl => ?_)
              refine lv_goto (tgt := 4) hx hb dX1_leastKept_55 (by decide) ?_
              exact ih v1 (v2 + 1) _ hf _ _ _ hP hD hS (lv_sub hl [2, 3, 0] rfl) kk
            · have hf := br_neg c27 hf
              refine lv_iload_n hx hb dX1_leastKept_46 rfl (lv_at hl 0 rfl) ?_
              refine lv_if_eq (tgt := 52) hx hb dX1_leastKept_47 (by decide) (fun c28 => ?_) (fun c28 => ?_)
              · exact absurd c28 (by decide)
              refine lv_iload_n hx hb dX1_leastKept_50 rfl (lv_at hl 3 rfl) ?_
              refine lv_istore_n (lv' := [(1, .int v2), (3, .int 1), (0, .ref (ad 5)), (2, .int v2)]) hx hb dX1_leastKept_51 rfl hl (by decide) rfl (fun ls hl => ?_)
              refine lv_iinc (v := (v2 + 1)) (lv' := [(2, .int (v2 + 1)), (1, .int v2), (3, .int 1), (0, .ref (ad 5))]) hx hb dX1_leastKept_52 hl (k := 3) rfl rfl (by decide) rfl (fun ls hl => ?_)
              refine lv_goto (tgt := 4) hx hb dX1_leastKept_55 (by decide) ?_
              exact ih v2 (v2 + 1) _ hf _ _ _ hP hD hS (lv_sub hl [3, 1, 0] rfl) kk
  refine lv_iconst (v := (-1)) hx hb dX1_leastKept_0 (by decide) ?_
  refine lv_istore_n (lv' := [(1, .int (-1)), (0, .ref (ad 5))]) hx hb dX1_leastKept_1 rfl hl (by decide) rfl (fun ls hl => ?_)
  refine lv_iconst (v := 0) hx hb dX1_leastKept_2 (by decide) ?_
  refine lv_istore_n (lv' := [(2, .int 0), (1, .int (-1)), (0, .ref (ad 5))]) hx hb dX1_leastKept_3 rfl hl (by decide) rfl (fun ls hl => ?_)
  obtain ⟨x30, h29, hf⟩ := bnd hf
  refine L4 FU (-1) 0 x30 h29 _ _ _ hP hD hS (lv_sub hl [2, 1, 0] rfl) (fun H locs ls hP hD hS hl => ?_)
  refine lv_iload_n hx hb dX1_leastKept_58 rfl (lv_at hl 0 rfl) ?_
  cases hf
  exact end_i hAe hQm hx hb hr hlocks rfl hP hD hS dX1_leastKept_59
def f_P_walkKept_L28 : Nat → Int32 → Int32 → Int32 → (Nat → Int32) → (Nat → Nat → Int32) → (Nat → Int32) → Option ((Nat → Int32))
  | 0, _, _, _, _, _, _ => none
  | fuel + 1, v2, v3, v4, pI, pC, wK =>
    if 16 ≤ v4 then
      some wK
    else
      (f_P_isInRow v2 v3 pI).bind fun r80 =>
      if r80 = 0 then
        some wK
      else
        if v2 < 0 ∨ 8 ≤ v2.toNatClampNeg then none else
          if ((v3 * 16) + v4) < 0 ∨ 640 ≤ ((v3 * 16) + v4).toNatClampNeg then none else
          (f_C_countUser (pC v2.toNatClampNeg ((v3 * 16) + v4).toNatClampNeg) wK).bind fun wK_85 =>
        f_P_walkKept_L28 fuel v2 v3 (v4 + 1) pI pC wK_85
def f_P_walkKept_L10 : Nat → Int32 → Int32 → (Nat → Int32) → (Nat → Int32) → (Nat → Nat → Int32) → (Nat → Int32) → Option ((Nat → Int32))
  | 0, _, _, _, _, _, _ => none
  | fuel + 1, v2, v3, pU, pI, pC, wK =>
    if 40 ≤ v3 then
      some wK
    else
      if v2 < 0 ∨ 8 ≤ v2.toNatClampNeg then none else
        if (pU v2.toNatClampNeg) = 0 then
        some wK
      else
        (f_P_walkKept_L28 FU v2 v3 0 pI pC wK).bind fun wK_88 =>
        f_P_walkKept_L10 fuel v2 (v3 + 1) pU pI pC wK_88
def f_P_walkKept_L2 : Nat → Int32 → (Nat → Int32) → (Nat → Int32) → (Nat → Nat → Int32) → (Nat → Int32) → Option ((Nat → Int32))
  | 0, _, _, _, _, _ => none
  | fuel + 1, v2, pU, pI, pC, wK =>
    if 8 ≤ v2 then
      some wK
    else
      (f_P_walkKept_L10 FU v2 0 pU pI pC wK).bind fun wK_90 =>
      f_P_walkKept_L2 fuel (v2 + 1) pU pI pC wK_90
def f_P_walkKept (pU : Nat → Int32) (pI : Nat → Int32) (pC : Nat → Nat → Int32) (wK : Nat → Int32) : Option ((Nat → Int32)) :=
  (f_P_walkKept_L2 FU 0 pU pI pC wK).bind fun wK_92 =>
  some wK_92
set_option maxHeartbeats 4000000 in
set_option maxRecDepth 100000 in
theorem m_P_walkKept (l : Launch) {D : va_G} {sl : List (String × Nat × String)} (ca : Nat → ClassId) (ad : Nat → Nat) (bq : Nat) (nF : Int32) (nO : Nat → Int32) (nL : Nat → Int32) (nA : Nat → Int32) (nC : Nat → Int32) (nV : Nat → Int32) (nU : Nat → Int32) (nP : Nat → Int32) (nE : Int32) (bF : Int32) (bO : Nat → Int32) (bL : Nat → Int32) (bA : Nat → Int32) (bC : Nat → Int32) (bV : Nat → Int32) (bU : Nat → Int32) (bP : Nat → Int32) (bE : Int32) (cT : Int32) (cK : Nat → Int32) (cO : Int32) (cQ : Nat → Int32) (cD : Int32) (pT : Int32) (pK : Int32) (pR : Nat → Int32) (pW : Nat → Int32) (pU : Nat → Int32) (pI : Nat → Int32) (pC : Nat → Nat → Int32) (uO : Int32) (uF : Nat → Int32) (uE : Nat → Int32) (uN : Nat → Int32) (wK : Nat → Int32) (jM : Int32) (jN : Int32) (jZ : Nat) (jB : Nat → Int32) (R : va_W) (sz : Nat) (owK : Nat → Int32) (hf : f_P_walkKept pU pI pC wK = some owK) : Met l yX1_walkKept (wm yX1_walkKept cX1_walkKept 5 none) ({ frames := 2, cells := 0, slots := 0, locals := 42 } : Room) (PRE [.ref (ad 5), .ref (ad 8)] D ca sl (WC ca ad bq nF nO nL nA nC nV nU nP nE bF bO bL bA bC bV bU bP bE cT cK cO cQ cD pT pK pR pW pU pI pC uO uF uE uN wK jM jN jZ jB ++ R) sz) (QV D (WC ca ad bq nF nO nL nA nC nV nU nP nE bF bO bL bA bC bV bU bP bE cT cK cO cQ cD pT pK pR pW pU pI pC uO uF uE uN owK jM jN jZ jB ++ R) (WC ca ad bq nF nO nL nA nC nV nU nP nE bF bO bL bA bC bV bU bP bE cT cK cO cQ cD pT pK pR pW pU pI pC uO uF uE uN wK jM jN jZ jB ++ R) sz) 0 0 (va_A (WC ca ad bq nF nO nL nA nC nV nU nP nE bF bO bL bA bC bV bU bP bE cT cK cO cQ cD pT pK pR pW pU pI pC uO uF uE uN wK jM jN jZ jB ++ R) sz) := by
  refine Met.ofW (cc := cX1_walkKept) (maxL := 5) (ret := none) (by decide) rfl ?_
  intro p e s m args below meth c s₁ B hml hv
  obtain ⟨rfl, rfl, hP, hE, hD0⟩ := hv
  have hx := B.exec
  have hb := B.bytes
  have hr := B.returns
  have hts := wm_ww (atoms_spec (ws := wm yX1_walkKept cX1_walkKept 5 none) B.pre)
  have hown : s.vm.findClass RX1 = some m.cls := findClass_of_methodNamed B.named
  have hlocks := B.notSynchronized
  have hK := hE.1
  have hD := hD0.self (sz := s.heap.size)
  generalize hAe : va_A (WC ca ad bq nF nO nL nA nC nV nU nP nE bF bO bL bA bC bV bU bP bE cT cK cO cQ cD pT pK pR pW pU pI pC uO uF uE uN wK jM jN jZ jB ++ R) s.heap.size = A at hD ⊢
  have hA : ∀ q : Nat, s.heap.size ≤ q → A q := fun q h => by rw [← hAe]; exact Or.inr h
  have hS : va_S A s.heap s.heap [] := va_S.rf
  have hl := lv_entry ([.ref (ad 5), .ref (ad 8)]) (n := 5) (Nat.le_of_ble_eq_true rfl)
  rw [lg_entry_eq]
  generalize (lg_sl ([.ref (ad 5), .ref (ad 8)]) ++ List.replicate (5 - (lg_sl ([.ref (ad 5), .ref (ad 8)])).length) Slot.unset).toArray = ls at hl ⊢
  have hl : lv_has ls 5 [(0, .ref (ad 5)), (1, .ref (ad 8))] := hl
  change W p l e ({ frames := 2, cells := 0, slots := 0, locals := 42 } : Room) s m _ below meth c s.heap [] 0 0 _ _
  generalize hQm : MQ below (QV D (WC ca ad bq nF nO nL nA nC nV nU nP nE bF bO bL bA bC bV bU bP bE cT cK cO cQ cD pT pK pR pW pU pI pC uO uF uE uN owK jM jN jZ jB ++ R) (WC ca ad bq nF nO nL nA nC nV nU nP nE bF bO bL bA bC bV bU bP bE cT cK cO cQ cD pT pK pR pW pU pI pC uO uF uE uN wK jM jN jZ jB ++ R) s.heap.size) _ s 0 0 A = Qm
  have hP : va_P D vwCl (WC ca ad bq nF nO nL nA nC nV nU nP nE bF bO bL bA bC bV bU bP bE cT cK cO cQ cD pT pK pR pW pU pI pC uO uF uE uN wK jM jN jZ jB ++ R) s.heap := hP
  generalize hae : ([.ref (ad 5), .ref (ad 8)] : List Value).toArray = args at hts hQm ⊢
  have L28 : ∀ (n : Nat) (v2 : Int32) (v3 : Int32) (v4 : Int32) (wK : Nat → Int32) (zwK : Nat → Int32), f_P_walkKept_L28 n v2 v3 v4 pI pC wK = some zwK → ∀ (H : Heap) (locs : List Loc) (ls : Array Slot), va_P D vwCl (WC ca ad bq nF nO nL nA nC nV nU nP nE bF bO bL bA bC bV bU bP bE cT cK cO cQ cD pT pK pR pW pU pI pC uO uF uE uN wK jM jN jZ jB ++ R) H → va_D A (WC ca ad bq nF nO nL nA nC nV nU nP nE bF bO bL bA bC bV bU bP bE cT cK cO cQ cD pT pK pR pW pU pI pC uO uF uE uN wK jM jN jZ jB ++ R) → va_S A s.heap H locs → lv_has ls 5 [(0, .ref (ad 5)), (1, .ref (ad 8)), (2, .int v2), (3, .int v3), (4, .int v4)] → (∀ (H : Heap) (locs : List Loc) (ls : Array Slot), va_P D vwCl (WC ca ad bq nF nO nL nA nC nV nU nP nE bF bO bL bA bC bV bU bP bE cT cK cO cQ cD pT pK pR pW pU pI pC uO uF uE uN zwK jM jN jZ jB ++ R) H → va_D A (WC ca ad bq nF nO nL nA nC nV nU nP nE bF bO bL bA bC bV bU bP bE cT cK cO cQ cD pT pK pR pW pU pI pC uO uF uE uN zwK jM jN jZ jB ++ R) → va_S A s.heap H locs → lv_has ls 5 [(0, .ref (ad 5)), (1, .ref (ad 8)), (2, .int v2), (3, .int v3)] → W p l e ({ frames := 2, cells := 0, slots := 0, locals := 42 } : Room) s m args below meth c H locs 0 0 Qm (F0 m 68 ls [])) → W p l e ({ frames := 2, cells := 0, slots := 0, locals := 42 } : Room) s m args below meth c H locs 0 0 Qm (F0 m 28 ls []) := by
    intro n
    induction n with
    | zero => intro v2 v3 v4 wK zwK hf; cases hf
    | succ n ih =>
      intro v2 v3 v4 wK zwK hf H locs ls hP hD hS hl kk
      unfold f_P_walkKept_L28 at hf
      refine lv_iload hx hb dX1_walkKept_28 (lv_at hl 4 rfl) ?_
      refine lv_bipush (v := 16) hx hb dX1_walkKept_30 (by decide) ?_
      refine lv_icmp_ge (tgt := 68) hx hb dX1_walkKept_32 (by decide) (fun c79 => ?_) (fun c79 => ?_)
      · have hf := br_pos c79 hf
        cases hf
        exact kk _ _ _ hP hD hS (lv_sub hl [0, 1, 2, 3] rfl)
      · have hf := br_neg c79 hf
        refine lv_aload_n hx hb dX1_walkKept_35 rfl (lv_at hl 0 rfl) ?_
        refine lv_iload_n hx hb dX1_walkKept_36 rfl (lv_at hl 2 rfl) ?_
        refine lv_iload_n hx hb dX1_walkKept_37 rfl (lv_at hl 3 rfl) ?_
        obtain ⟨r80, h81, hf⟩ := bnd hf
        refine call_vi (rest := []) (m_P_isInRow l ca ad bq nF nO nL nA nC nV nU nP nE bF bO bL bA bC bV bU bP bE cT cK cO cQ cD pT pK pR pW pU pI pC uO uF uE uN wK jM jN jZ jB R _ v2 v3 r80 h81) ⟨hx, hb, hml, hown, hts⟩ (cwV 2 hts (gV q666 q668 q14 q27 q669) rfl rfl rfl (by decide +kernel) ⟨Nat.le_of_ble_eq_true rfl, Nat.le_of_ble_eq_true rfl⟩) (va_recv hK hP (ci := 5) (q0 := 19) rfl rfl) hE hP hD hS hA rfl hl.1 rfl (lv_room (Nat.le_of_ble_eq_true rfl)) dX1_walkKept_38 ⟨Nat.le_of_ble_eq_true rfl, Nat.le_of_ble_eq_true rfl⟩ (fun H locs hP hD hS => ?_)
        refine lv_if_eq (tgt := 68) hx hb dX1_walkKept_41 (by decide) (fun c82 => ?_) (fun c82 => ?_)
        · have hf := br_pos c82 hf
          cases hf
          exact kk _ _ _ hP hD hS (lv_sub hl [0, 1, 2, 3] rfl)
        · have hf := br_neg c82 hf
          refine lv_aload_n hx hb dX1_walkKept_44 rfl (lv_at hl 1 rfl) ?_
          refine lv_aload_n hx hb dX1_walkKept_45 rfl (lv_at hl 0 rfl) ?_
          refine va_get (D := D) (ci := 5) (v := .ref (ad 27)) (C := RX1) (T := TX1) (N := 7) hx hb hts inX1 hown hK hP 19 rfl rfl 6 (by decide) (hts _ q113) (fun _ h9 => h9) rfl dX1_walkKept_46 ?_
          refine lv_iload_n hx hb dX1_walkKept_49 rfl (lv_at hl 2 rfl) ?_
          obtain ⟨k83, hf⟩ := ck_not hf
          refine va_aldA (D := D) hx hb hK hP 24 4 rfl rfl k83 dX1_walkKept_50 ?_
          refine lv_iload_n hx hb dX1_walkKept_51 rfl (lv_at hl 3 rfl) ?_
          refine lv_bipush (v := 16) hx hb dX1_walkKept_52 (by decide) ?_
          refine lv_imul hx hb dX1_walkKept_54 ?_
          refine lv_iload hx hb dX1_walkKept_55 (lv_at hl 4 rfl) ?_
          refine lv_iadd hx hb dX1_walkKept_57 ?_
          obtain ⟨k84, hf⟩ := ck_not hf
          refine va_iald (D := D) hx hb hK hP (25 + v2.toNatClampNeg) 0 (WC_row (Nat.not_le.mp fun q => k83 (Or.inr q))) rfl k84 dX1_walkKept_58 ?_
          obtain ⟨wK_85, h86, hf⟩ := bnd hf
          refine call_nv (rest := []) (m_C_countUser l ca ad bq nF nO nL nA nC nV nU nP nE bF bO bL bA bC bV bU bP bE cT cK cO cQ cD pT pK pR pW pU pI pC uO uF uE uN wK jM jN jZ jB R _ (pC v2.toNatClampNeg ((v3 * 16) + v4).toNatClampNeg) wK_85 h86) ⟨hx, hb, hml, hown, hts⟩ ⟨va_cnB 2 hts (gM q661) rfl rfl rfl (hE.2.1 _ n673) (hts _ q24) (by decide +kernel) ⟨Nat.le_of_ble_eq_true rfl, Nat.le_of_ble_eq_true rfl⟩, hts _ q660, trivial⟩ hE hP hD hS hA rfl hl.1 rfl (lv_room (Nat.le_of_ble_eq_true rfl)) dX1_walkKept_59 ⟨Nat.le_of_ble_eq_true rfl, Nat.le_of_ble_eq_true rfl⟩ (fun H locs hP hD hS => ?_)
          refine lv_iinc (v := (v4 + 1)) (lv' := [(4, .int (v4 + 1)), (0, .ref (ad 5)), (1, .ref (ad 8)), (2, .int v2), (3, .int v3)]) hx hb dX1_walkKept_62 hl (k := 4) rfl rfl (by decide) rfl (fun ls hl => ?_)
          refine lv_goto (tgt := 28) hx hb dX1_walkKept_65 (by decide) ?_
          exact ih v2 v3 (v4 + 1) wK_85 _ hf _ _ _ hP hD hS (lv_sub hl [1, 2, 3, 4, 0] rfl) kk
  have L10 : ∀ (n : Nat) (v2 : Int32) (v3 : Int32) (wK : Nat → Int32) (zwK : Nat → Int32), f_P_walkKept_L10 n v2 v3 pU pI pC wK = some zwK → ∀ (H : Heap) (locs : List Loc) (ls : Array Slot), va_P D vwCl (WC ca ad bq nF nO nL nA nC nV nU nP nE bF bO bL bA bC bV bU bP bE cT cK cO cQ cD pT pK pR pW pU pI pC uO uF uE uN wK jM jN jZ jB ++ R) H → va_D A (WC ca ad bq nF nO nL nA nC nV nU nP nE bF bO bL bA bC bV bU bP bE cT cK cO cQ cD pT pK pR pW pU pI pC uO uF uE uN wK jM jN jZ jB ++ R) → va_S A s.heap H locs → lv_has ls 5 [(0, .ref (ad 5)), (1, .ref (ad 8)), (2, .int v2), (3, .int v3)] → (∀ (H : Heap) (locs : List Loc) (ls : Array Slot), va_P D vwCl (WC ca ad bq nF nO nL nA nC nV nU nP nE bF bO bL bA bC bV bU bP bE cT cK cO cQ cD pT pK pR pW pU pI pC uO uF uE uN zwK jM jN jZ jB ++ R) H → va_D A (WC ca ad bq nF nO nL nA nC nV nU nP nE bF bO bL bA bC bV bU bP bE cT cK cO cQ cD pT pK pR pW pU pI pC uO uF uE uN zwK jM jN jZ jB ++ R) → va_S A s.heap H locs → lv_has ls 5 [(0, .ref (ad 5)), (1, .ref (ad 8)), (2, .int v2)] → W p l e ({ frames := 2, cells := 0, slots := 0, locals := 42 } : Room) s m args below meth c H locs 0 0 Qm (F0 m 74 ls [])) → W p l e ({ frames := 2, cells := 0, slots := 0, locals := 42 } : Room) s m args below meth c H locs 0 0 Qm (F0 m 10 ls []) := by
    intro n
    induction n with
    | zero => intro v2 v3 wK zwK hf; cases hf
    | succ n ih =>
      intro v2 v3 wK zwK hf H locs ls hP hD hS hl kk
      unfold f_P_walkKept_L10 at hf
      refine lv_iload_n hx hb dX1_walkKept_10 rfl (lv_at hl 3 rfl) ?_
      refine lv_bipush (v := 40) hx hb dX1_walkKept_11 (by decide) ?_
      refine lv_icmp_ge (tgt := 74) hx hb dX1_walkKept_13 (by decide) (fun c68 => ?_) (fun c68 => ?_)
      · have hf := br_pos c68 hf
        cases hf
        exact kk _ _ _ hP hD hS (lv_sub hl [0, 1, 2] rfl)
      · have hf := br_neg c68 hf
        refine lv_aload_n hx hb dX1_walkKept_16 rfl (lv_at hl 0 rfl) ?_
        refine va_get (D := D) (ci := 5) (v := .ref (ad 25)) (C := RX1) (T := TX1) (N := 7) hx hb hts inX1 hown hK hP 19 rfl rfl 4 (by decide) (hts _ q111) (fun _ h9 => h9) rfl dX1_walkKept_17 ?_
        refine lv_iload_n hx hb dX1_walkKept_20 rfl (lv_at hl 2 rfl) ?_
        obtain ⟨k69, hf⟩ := ck_not hf
        refine va_zald (D := D) hx hb hK hP 22 1 rfl rfl k69 dX1_walkKept_21 ?_
        refine lv_if_eq (tgt := 74) hx hb dX1_walkKept_22 (by decide) (fun c70 => ?_) (fun c70 => ?_)
        · have hf := br_pos c70 hf
          cases hf
          exact kk _ _ _ hP hD hS (lv_sub hl [0, 1, 2] rfl)
        · have hf := br_neg c70 hf
          refine lv_iconst (v := 0) hx hb dX1_walkKept_25 (by decide) ?_
          refine lv_istore (lv' := [(4, .int 0), (0, .ref (ad 5)), (1, .ref (ad 8)), (2, .int v2), (3, .int v3)]) hx hb dX1_walkKept_26 hl (by decide) rfl (fun ls hl => ?_)
          obtain ⟨wK_88, h87, hf⟩ := bnd hf
          refine L28 FU v2 v3 0 wK wK_88 h87 _ _ _ hP hD hS (lv_sub hl [1, 2, 3, 4, 0] rfl) (fun H locs ls hP hD hS hl => ?_)
          refine lv_iinc (v := (v3 + 1)) (lv' := [(3, .int (v3 + 1)), (0, .ref (ad 5)), (1, .ref (ad 8)), (2, .int v2)]) hx hb dX1_walkKept_68 hl (k := 3) rfl rfl (by decide) rfl (fun ls hl => ?_)
          refine lv_goto (tgt := 10) hx hb dX1_walkKept_71 (by decide) ?_
          exact ih v2 (v3 + 1) wK_88 _ hf _ _ _ hP hD hS (lv_sub hl [1, 2, 3, 0] rfl) kk
  have L2 : ∀ (n : Nat) (v2 : Int32) (wK : Nat → Int32) (zwK : Nat → Int32), f_P_walkKept_L2 n v2 pU pI pC wK = some zwK → ∀ (H : Heap) (locs : List Loc) (ls : Array Slot), va_P D vwCl (WC ca ad bq nF nO nL nA nC nV nU nP nE bF bO bL bA bC bV bU bP bE cT cK cO cQ cD pT pK pR pW pU pI pC uO uF uE uN wK jM jN jZ jB ++ R) H → va_D A (WC ca ad bq nF nO nL nA nC nV nU nP nE bF bO bL bA bC bV bU bP bE cT cK cO cQ cD pT pK pR pW pU pI pC uO uF uE uN wK jM jN jZ jB ++ R) → va_S A s.heap H locs → lv_has ls 5 [(0, .ref (ad 5)), (1, .ref (ad 8)), (2, .int v2)] → (∀ (H : Heap) (locs : List Loc) (ls : Array Slot), va_P D vwCl (WC ca ad bq nF nO nL nA nC nV nU nP nE bF bO bL bA bC bV bU bP bE cT cK cO cQ cD pT pK pR pW pU pI pC uO uF uE uN zwK jM jN jZ jB ++ R) H → va_D A (WC ca ad bq nF nO nL nA nC nV nU nP nE bF bO bL bA bC bV bU bP bE cT cK cO cQ cD pT pK pR pW pU pI pC uO uF uE uN zwK jM jN jZ jB ++ R) → va_S A s.heap H locs → lv_has ls 5 [] → W p l e ({ frames := 2, cells := 0, slots := 0, locals := 42 } : Room) s m args below meth c H locs 0 0 Qm (F0 m 80 ls [])) → W p l e ({ frames := 2, cells := 0, slots := 0, locals := 42 } : Room) s m args below meth c H locs 0 0 Qm (F0 m 2 ls []) := by
    intro n
    induction n with
    | zero => intro v2 wK zwK hf; cases hf
    | succ n ih =>
      intro v2 wK zwK hf H locs ls hP hD hS hl kk
      unfold f_P_walkKept_L2 at hf
      refine lv_iload_n hx hb dX1_walkKept_2 rfl (lv_at hl 2 rfl) ?_
      refine lv_bipush (v := 8) hx hb dX1_walkKept_3 (by decide) ?_
      refine lv_icmp_ge (tgt := 80) hx hb dX1_walkKept_5 (by decide) (fun c46 => ?_) (fun c46 => ?_)
      · have hf := br_pos c46 hf
        cases hf
        exact kk _ _ _ hP hD hS (lv_sub hl [] rfl)
      · have hf := br_neg c46 hf
        refine lv_iconst (v := 0) hx hb dX1_walkKept_8 (by decide) ?_
        refine lv_istore_n (lv' := [(3, .int 0), (0, .ref (ad 5)), (1, .ref (ad 8)), (2, .int v2)]) hx hb dX1_walkKept_9 rfl hl (by decide) rfl (fun ls hl => ?_)
        obtain ⟨wK_90, h89, hf⟩ := bnd hf
        refine L10 FU v2 0 wK wK_90 h89 _ _ _ hP hD hS (lv_sub hl [1, 2, 3, 0] rfl) (fun H locs ls hP hD hS hl => ?_)
        refine lv_iinc (v := (v2 + 1)) (lv' := [(2, .int (v2 + 1)), (0, .ref (ad 5)), (1, .ref (ad 8))]) hx hb dX1_walkKept_74 hl (k := 2) rfl rfl (by decide) rfl (fun ls hl => ?_)
        refine lv_goto (tgt := 2) hx hb dX1_walkKept_77 (by decide) ?_
        exact ih (v2 + 1) wK_90 _ hf _ _ _ hP hD hS (lv_sub hl [1, 2, 0] rfl) kk
  refine lv_iconst (v := 0) hx hb dX1_walkKept_0 (by decide) ?_
  refine lv_istore_n (lv' := [(2, .int 0), (0, .ref (ad 5)), (1, .ref (ad 8))]) hx hb dX1_walkKept_1 rfl hl (by decide) rfl (fun ls hl => ?_)
  obtain ⟨wK_92, h91, hf⟩ := bnd hf
  refine L2 FU 0 wK wK_92 h91 _ _ _ hP hD hS (lv_sub hl [1, 2, 0] rfl) (fun H locs ls hP hD hS hl => ?_)
  cases hf
  exact end_v hAe hQm hx hb hr hlocks hP hD hS dX1_walkKept_80
