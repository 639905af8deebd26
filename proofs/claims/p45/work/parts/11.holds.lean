/-! printed by program out of the bytecode: pure functions and contracts -/
def f_H_openedTotal (uO : Int32) : Option (Int32) :=
  some uO
set_option maxHeartbeats 4000000 in
set_option maxRecDepth 100000 in
theorem m_H_openedTotal (l : Launch) {D : va_G} {sl : List (String × Nat × String)} (ca : Nat → ClassId) (ad : Nat → Nat) (bq : Nat) (nF : Int32) (nO : Nat → Int32) (nL : Nat → Int32) (nA : Nat → Int32) (nC : Nat → Int32) (nV : Nat → Int32) (nU : Nat → Int32) (nP : Nat → Int32) (nE : Int32) (bF : Int32) (bO : Nat → Int32) (bL : Nat → Int32) (bA : Nat → Int32) (bC : Nat → Int32) (bV : Nat → Int32) (bU : Nat → Int32) (bP : Nat → Int32) (bE : Int32) (cT : Int32) (cK : Nat → Int32) (cO : Int32) (cQ : Nat → Int32) (cD : Int32) (pT : Int32) (pK : Int32) (pR : Nat → Int32) (pW : Nat → Int32) (pU : Nat → Int32) (pI : Nat → Int32) (pC : Nat → Nat → Int32) (uO : Int32) (uF : Nat → Int32) (uE : Nat → Int32) (uN : Nat → Int32) (wK : Nat → Int32) (jM : Int32) (jN : Int32) (jZ : Nat) (jB : Nat → Int32) (R : va_W) (sz : Nat) (ro : Int32) (hf : f_H_openedTotal uO = some ro) : Met l yX0_openedTotal (wm yX0_openedTotal cX0_openedTotal 1 (some .int)) ({ frames := 0, cells := 0, slots := 0, locals := 0 } : Room) (PRE [.ref (ad 6)] D ca sl (WC ca ad bq nF nO nL nA nC nV nU nP nE bF bO bL bA bC bV bU bP bE cT cK cO cQ cD pT pK pR pW pU pI pC uO uF uE uN wK jM jN jZ jB ++ R) sz) (QI ro D (WC ca ad bq nF nO nL nA nC nV nU nP nE bF bO bL bA bC bV bU bP bE cT cK cO cQ cD pT pK pR pW pU pI pC uO uF uE uN wK jM jN jZ jB ++ R) (WC ca ad bq nF nO nL nA nC nV nU nP nE bF bO bL bA bC bV bU bP bE cT cK cO cQ cD pT pK pR pW pU pI pC uO uF uE uN wK jM jN jZ jB ++ R) sz) 0 0 (va_A (WC ca ad bq nF nO nL nA nC nV nU nP nE bF bO bL bA bC bV bU bP bE cT cK cO cQ cD pT pK pR pW pU pI pC uO uF uE uN wK jM jN jZ jB ++ R) sz) := by
  refine Met.ofW (cc := cX0_openedTotal) (maxL := 1) (ret := (some .int)) (by decide) rfl ?_
  intro p e s m args below meth c s₁ B hml hv
  obtain ⟨rfl, rfl, hP, hE, hD0⟩ := hv
  have hx := B.exec
  have hb := B.bytes
  have hr := B.returns
  have hts := wm_ww (atoms_spec (ws := wm yX0_openedTotal cX0_openedTotal 1 (some .int)) B.pre)
  have hown : s.vm.findClass RX0 = some m.cls := findClass_of_methodNamed B.named
  have hlocks := B.notSynchronized
  have hK := hE.1
  have hD := hD0.self (sz := s.heap.size)
  generalize hAe : va_A (WC ca ad bq nF nO nL nA nC nV nU nP nE bF bO bL bA bC bV bU bP bE cT cK cO cQ cD pT pK pR pW pU pI pC uO uF uE uN wK jM jN jZ jB ++ R) s.heap.size = A at hD ⊢
  have hA : ∀ q : Nat, s.heap.size ≤ q → A q := fun q h => by rw [← hAe]; exact Or.inr h
  have hS : va_S A s.heap s.heap [] := va_S.rf
  have hl := lv_entry ([.ref (ad 6)]) (n := 1) (Nat.le_of_ble_eq_true rfl)
  rw [lg_entry_eq]
  generalize (lg_sl ([.ref (ad 6)]) ++ List.replicate (1 - (lg_sl ([.ref (ad 6)])).length) Slot.unset).toArray = ls at hl ⊢
  have hl : lv_has ls 1 [(0, .ref (ad 6))] := hl
  change W p l e ({ frames := 0, cells := 0, slots := 0, locals := 0 } : Room) s m _ below meth c s.heap [] 0 0 _ _
  generalize hQm : MQ below (QI ro D (WC ca ad bq nF nO nL nA nC nV nU nP nE bF bO bL bA bC bV bU bP bE cT cK cO cQ cD pT pK pR pW pU pI pC uO uF uE uN wK jM jN jZ jB ++ R) (WC ca ad bq nF nO nL nA nC nV nU nP nE bF bO bL bA bC bV bU bP bE cT cK cO cQ cD pT pK pR pW pU pI pC uO uF uE uN wK jM jN jZ jB ++ R) s.heap.size) _ s 0 0 A = Qm
  have hP : va_P D vwCl (WC ca ad bq nF nO nL nA nC nV nU nP nE bF bO bL bA bC bV bU bP bE cT cK cO cQ cD pT pK pR pW pU pI pC uO uF uE uN wK jM jN jZ jB ++ R) s.heap := hP
  generalize hae : ([.ref (ad 6)] : List Value).toArray = args at hts hQm ⊢
  refine lv_aload_n hx hb dX0_openedTotal_0 rfl (lv_at hl 0 rfl) ?_
  refine va_get (D := D) (ci := 4) (v := .int uO) (C := RX0) (T := TX0) (N := 4) hx hb hts inX0 hown hK hP 33 rfl rfl 0 (by decide) (hts _ q136) (fun _ h9 => h9) rfl dX0_openedTotal_1 ?_
  cases hf
  exact end_i hAe hQm hx hb hr hlocks rfl hP hD hS dX0_openedTotal_4
def f_H_wasOpened (p1 : Int32) (uO : Int32) : Option (Int32) :=
  if p1 < 0 then
    some 0
  else
    if uO ≤ p1 then
      some 0
    else
      if 30 ≤ p1 then
        some 0
      else
        some 1
set_option maxHeartbeats 4000000 in
set_option maxRecDepth 100000 in
theorem m_H_wasOpened (l : Launch) {D : va_G} {sl : List (String × Nat × String)} (ca : Nat → ClassId) (ad : Nat → Nat) (bq : Nat) (nF : Int32) (nO : Nat → Int32) (nL : Nat → Int32) (nA : Nat → Int32) (nC : Nat → Int32) (nV : Nat → Int32) (nU : Nat → Int32) (nP : Nat → Int32) (nE : Int32) (bF : Int32) (bO : Nat → Int32) (bL : Nat → Int32) (bA : Nat → Int32) (bC : Nat → Int32) (bV : Nat → Int32) (bU : Nat → Int32) (bP : Nat → Int32) (bE : Int32) (cT : Int32) (cK : Nat → Int32) (cO : Int32) (cQ : Nat → Int32) (cD : Int32) (pT : Int32) (pK : Int32) (pR : Nat → Int32) (pW : Nat → Int32) (pU : Nat → Int32) (pI : Nat → Int32) (pC : Nat → Nat → Int32) (uO : Int32) (uF : Nat → Int32) (uE : Nat → Int32) (uN : Nat → Int32) (wK : Nat → Int32) (jM : Int32) (jN : Int32) (jZ : Nat) (jB : Nat → Int32) (R : va_W) (sz : Nat) (p1 : Int32) (ro : Int32) (hf : f_H_wasOpened p1 uO = some ro) : Met l yX0_wasOpened (wm yX0_wasOpened cX0_wasOpened 2 (some .boolean)) ({ frames := 0, cells := 0, slots := 0, locals := 0 } : Room) (PRE [.ref (ad 6), .int p1] D ca sl (WC ca ad bq nF nO nL nA nC nV nU nP nE bF bO bL bA bC bV bU bP bE cT cK cO cQ cD pT pK pR pW pU pI pC uO uF uE uN wK jM jN jZ jB ++ R) sz) (QI ro D (WC ca ad bq nF nO nL nA nC nV nU nP nE bF bO bL bA bC bV bU bP bE cT cK cO cQ cD pT pK pR pW pU pI pC uO uF uE uN wK jM jN jZ jB ++ R) (WC ca ad bq nF nO nL nA nC nV nU nP nE bF bO bL bA bC bV bU bP bE cT cK cO cQ cD pT pK pR pW pU pI pC uO uF uE uN wK jM jN jZ jB ++ R) sz) 0 0 (va_A (WC ca ad bq nF nO nL nA nC nV nU nP nE bF bO bL bA bC bV bU bP bE cT cK cO cQ cD pT pK pR pW pU pI pC uO uF uE uN wK jM jN jZ jB ++ R) sz) := by
  refine Met.ofW (cc := cX0_wasOpened) (maxL := 2) (ret := (some .boolean)) (by decide) rfl ?_
  intro p e s m args below meth c s₁ B hml hv
  obtain ⟨rfl, rfl, hP, hE, hD0⟩ := hv
  have hx := B.exec
  have hb := B.bytes
  have hr := B.returns
  have hts := wm_ww (atoms_spec (ws := wm yX0_wasOpened cX0_wasOpened 2 (some .boolean)) B.pre)
  have hown : s.vm.findClass RX0 = some m.cls := findClass_of_methodNamed B.named
  have hlocks := B.notSynchronized
  have hK := hE.1
  have hD := hD0.self (sz := s.heap.size)
  generalize hAe : va_A (WC ca ad bq nF nO nL nA nC nV nU nP nE bF bO bL bA bC bV bU bP bE cT cK cO cQ cD pT pK pR pW pU pI pC uO uF uE uN wK jM jN jZ jB ++ R) s.heap.size = A at hD ⊢
  have hA : ∀ q : Nat, s.heap.size ≤ q → A q := fun q h => by rw [← hAe]; exact Or.inr h
  have hS : va_S A s.heap s.heap [] := va_S.rf
  have hl := lv_entry ([.ref (ad 6), .int p1]) (n := 2) (Nat.le_of_ble_eq_true rfl)
  rw [lg_entry_eq]
  generalize (lg_sl ([.ref (ad 6), .int p1]) ++ List.replicate (2 - (lg_sl ([.ref (ad 6), .int p1])).length) Slot.unset).toArray = ls at hl ⊢
  have hl : lv_has ls 2 [(0, .ref (ad 6)), (1, .int p1)] := hl
  change W p l e ({ frames := 0, cells := 0, slots := 0, locals := 0 } : Room) s m _ below meth c s.heap [] 0 0 _ _
  generalize hQm : MQ below (QI ro D (WC ca ad bq nF nO nL nA nC nV nU nP nE bF bO bL bA bC bV bU bP bE cT cK cO cQ cD pT pK pR pW pU pI pC uO uF uE uN wK jM jN jZ jB ++ R) (WC ca ad bq nF nO nL nA nC nV nU nP nE bF bO bL bA bC bV bU bP bE cT cK cO cQ cD pT pK pR pW pU pI pC uO uF uE uN wK jM jN jZ jB ++ R) s.heap.size) _ s 0 0 A = Qm
  have hP : va_P D vwCl (WC ca ad bq nF nO nL nA nC nV nU nP nE bF bO bL bA bC bV bU bP bE cT cK cO cQ cD pT pK pR pW pU pI pC uO uF uE uN wK jM jN jZ jB ++ R) s.heap := hP
  generalize hae : ([.ref (ad 6), .int p1] : List Value).toArray = args at hts hQm ⊢
  refine lv_iload_n hx hb dX0_wasOpened_0 rfl (lv_at hl 1 rfl) ?_
  refine lv_if_lt (tgt := 22) hx hb dX0_wasOpened_1 (by decide) (fun c1 => ?_) (fun c1 => ?_)
  · have hf := br_pos c1 hf
    refine lv_iconst (v := 0) hx hb dX0_wasOpened_22 (by decide) ?_
    cases hf
    exact end_i hAe hQm hx hb hr hlocks rfl hP hD hS dX0_wasOpened_23
  · have hf := br_neg c1 hf
    refine lv_iload_n hx hb dX0_wasOpened_4 rfl (lv_at hl 1 rfl) ?_
    refine lv_aload_n hx hb dX0_wasOpened_5 rfl (lv_at hl 0 rfl) ?_
    refine va_get (D := D) (ci := 4) (v := .int uO) (C := RX0) (T := TX0) (N := 4) hx hb hts inX0 hown hK hP 33 rfl rfl 0 (by decide) (hts _ q136) (fun _ h9 => h9) rfl dX0_wasOpened_6 ?_
    refine lv_icmp_ge (tgt := 22) hx hb dX0_wasOpened_9 (by decide) (fun c2 => ?_) (fun c2 => ?_)
    · have hf := br_pos c2 hf
      refine lv_iconst (v := 0) hx hb dX0_wasOpened_22 (by decide) ?_
      cases hf
      exact end_i hAe hQm hx hb hr hlocks rfl hP hD hS dX0_wasOpened_23
    · have hf := br_neg c2 hf
      refine lv_iload_n hx hb dX0_wasOpened_12 rfl (lv_at hl 1 rfl) ?_
      refine lv_bipush (v := 30) hx hb dX0_wasOpened_13 (by decide) ?_
      refine lv_icmp_ge (tgt := 22) hx hb dX0_wasOpened_15 (by decide) (fun c3 => ?_) (fun c3 => ?_)
      · have hf := br_pos c3 hf
        refine lv_iconst (v := 0) hx hb dX0_wasOpened_22 (by decide) ?_
        cases hf
        exact end_i hAe hQm hx hb hr hlocks rfl hP hD hS dX0_wasOpened_23
      · have hf := br_neg c3 hf
        refine lv_iconst (v := 1) hx hb dX0_wasOpened_18 (by decide) ?_
        refine lv_goto (tgt := 23) hx hb dX0_wasOpened_19 (by decide) ?_
        cases hf
        exact end_i hAe hQm hx hb hr hlocks rfl hP hD hS dX0_wasOpened_23
def f_H_isStillOpen (p1 : Int32) (uO : Int32) (uN : Nat → Int32) : Option (Int32) :=
  (f_H_wasOpened p1 uO).bind fun r1 =>
  if r1 = 0 then
    some 0
  else
    if p1 < 0 ∨ 30 ≤ p1.toNatClampNeg then none else
      if (uN p1.toNatClampNeg) = 0 then
      some 0
    else
      some 1
set_option maxHeartbeats 4000000 in
set_option maxRecDepth 100000 in
theorem m_H_isStillOpen (l : Launch) {D : va_G} {sl : List (String × Nat × String)} (ca : Nat → ClassId) (ad : Nat → Nat) (bq : Nat) (nF : Int32) (nO : Nat → Int32) (nL : Nat → Int32) (nA : Nat → Int32) (nC : Nat → Int32) (nV : Nat → Int32) (nU : Nat → Int32) (nP : Nat → Int32) (nE : Int32) (bF : Int32) (bO : Nat → Int32) (bL : Nat → Int32) (bA : Nat → Int32) (bC : Nat → Int32) (bV : Nat → Int32) (bU : Nat → Int32) (bP : Nat → Int32) (bE : Int32) (cT : Int32) (cK : Nat → Int32) (cO : Int32) (cQ : Nat → Int32) (cD : Int32) (pT : Int32) (pK : Int32) (pR : Nat → Int32) (pW : Nat → Int32) (pU : Nat → Int32) (pI : Nat → Int32) (pC : Nat → Nat → Int32) (uO : Int32) (uF : Nat → Int32) (uE : Nat → Int32) (uN : Nat → Int32) (wK : Nat → Int32) (jM : Int32) (jN : Int32) (jZ : Nat) (jB : Nat → Int32) (R : va_W) (sz : Nat) (p1 : Int32) (ro : Int32) (hf : f_H_isStillOpen p1 uO uN = some ro) : Met l yX0_isStillOpen (wm yX0_isStillOpen cX0_isStillOpen 2 (some .boolean)) ({ frames := 1, cells := 0, slots := 0, locals := 21 } : Room) (PRE [.ref (ad 6), .int p1] D ca sl (WC ca ad bq nF nO nL nA nC nV nU nP nE bF bO bL bA bC bV bU bP bE cT cK cO cQ cD pT pK pR pW pU pI pC uO uF uE uN wK jM jN jZ jB ++ R) sz) (QI ro D (WC ca ad bq nF nO nL nA nC nV nU nP nE bF bO bL bA bC bV bU bP bE cT cK cO cQ cD pT pK pR pW pU pI pC uO uF uE uN wK jM jN jZ jB ++ R) (WC ca ad bq nF nO nL nA nC nV nU nP nE bF bO bL bA bC bV bU bP bE cT cK cO cQ cD pT pK pR pW pU pI pC uO uF uE uN wK jM jN jZ jB ++ R) sz) 0 0 (va_A (WC ca ad bq nF nO nL nA nC nV nU nP nE bF bO bL bA bC bV bU bP bE cT cK cO cQ cD pT pK pR pW pU pI pC uO uF uE uN wK jM jN jZ jB ++ R) sz) := by
  refine Met.ofW (cc := cX0_isStillOpen) (maxL := 2) (ret := (some .boolean)) (by decide) rfl ?_
  intro p e s m args below meth c s₁ B hml hv
  obtain ⟨rfl, rfl, hP, hE, hD0⟩ := hv
  have hx := B.exec
  have hb := B.bytes
  have hr := B.returns
  have hts := wm_ww (atoms_spec (ws := wm yX0_isStillOpen cX0_isStillOpen 2 (some .boolean)) B.pre)
  have hown : s.vm.findClass RX0 = some m.cls := findClass_of_methodNamed B.named
  have hlocks := B.notSynchronized
  have hK := hE.1
  have hD := hD0.self (sz := s.heap.size)
  generalize hAe : va_A (WC ca ad bq nF nO nL nA nC nV nU nP nE bF bO bL bA bC bV bU bP bE cT cK cO cQ cD pT pK pR pW pU pI pC uO uF uE uN wK jM jN jZ jB ++ R) s.heap.size = A at hD ⊢
  have hA : ∀ q : Nat, s.heap.size ≤ q → A q := fun q h => by rw [← hAe]; exact Or.inr h
  have hS : va_S A s.heap s.heap [] := va_S.rf
  have hl := lv_entry ([.ref (ad 6), .int p1]) (n := 2) (Nat.le_of_ble_eq_true rfl)
  rw [lg_entry_eq]
  generalize (lg_sl ([.ref (ad 6), .int p1]) ++ List.replicate (2 - (lg_sl ([.ref (ad 6), .int p1])).length) Slot.unset).toArray = ls at hl ⊢
  have hl : lv_has ls 2 [(0, .ref (ad 6)), (1, .int p1)] := hl
  change W p l e ({ frames := 1, cells := 0, slots := 0, locals := 21 } : Room) s m _ below meth c s.heap [] 0 0 _ _
  generalize hQm : MQ below (QI ro D (WC ca ad bq nF nO nL nA nC nV nU nP nE bF bO bL bA bC bV bU bP bE cT cK cO cQ cD pT pK pR pW pU pI pC uO uF uE uN wK jM jN jZ jB ++ R) (WC ca ad bq nF nO nL nA nC nV nU nP nE bF bO bL bA bC bV bU bP bE cT cK cO cQ cD pT pK pR pW pU pI pC uO uF uE uN wK jM jN jZ jB ++ R) s.heap.size) _ s 0 0 A = Qm
  have hP : va_P D vwCl (WC ca ad bq nF nO nL nA nC nV nU nP nE bF bO bL bA bC bV bU bP bE cT cK cO cQ cD pT pK pR pW pU pI pC uO uF uE uN wK jM jN jZ jB ++ R) s.heap := hP
  generalize hae : ([.ref (ad 6), .int p1] : List Value).toArray = args at hts hQm ⊢
  refine lv_aload_n hx hb dX0_isStillOpen_0 rfl (lv_at hl 0 rfl) ?_
  refine lv_iload_n hx hb dX0_isStillOpen_1 rfl (lv_at hl 1 rfl) ?_
  obtain ⟨r1, h2, hf⟩ := bnd hf
  refine call_vi (rest := []) (m_H_wasOpened l ca ad bq nF nO nL nA nC nV nU nP nE bF bO bL bA bC bV bU bP bE cT cK cO cQ cD pT pK pR pW pU pI pC uO uF uE uN wK jM jN jZ jB R _ p1 r1 h2) ⟨hx, hb, hml, hown, hts⟩ (cwV 1 hts (gV q472 q473 q474 q28 q475) rfl rfl rfl (by decide +kernel) ⟨Nat.le_of_ble_eq_true rfl, Nat.le_of_ble_eq_true rfl⟩) (va_recv hK hP (ci := 4) (q0 := 33) rfl rfl) hE hP hD hS hA rfl hl.1 rfl (lv_room (Nat.le_of_ble_eq_true rfl)) dX0_isStillOpen_2 ⟨Nat.le_of_ble_eq_true rfl, Nat.le_of_ble_eq_true rfl⟩ (fun H locs hP hD hS => ?_)
  refine lv_if_eq (tgt := 21) hx hb dX0_isStillOpen_5 (by decide) (fun c3 => ?_) (fun c3 => ?_)
  · have hf := br_pos c3 hf
    refine lv_iconst (v := 0) hx hb dX0_isStillOpen_21 (by decide) ?_
    cases hf
    exact end_i hAe hQm hx hb hr hlocks rfl hP hD hS dX0_isStillOpen_22
  · have hf := br_neg c3 hf
    refine lv_aload_n hx hb dX0_isStillOpen_8 rfl (lv_at hl 0 rfl) ?_
    refine va_get (D := D) (ci := 4) (v := .ref (ad 30)) (C := RX0) (T := TX0) (N := 4) hx hb hts inX0 hown hK hP 33 rfl rfl 3 (by decide) (hts _ q139) (fun _ h9 => h9) rfl dX0_isStillOpen_9 ?_
    refine lv_iload_n hx hb dX0_isStillOpen_12 rfl (lv_at hl 1 rfl) ?_
    obtain ⟨k4, hf⟩ := ck_not hf
    refine va_zald (D := D) hx hb hK hP 36 1 rfl rfl k4 dX0_isStillOpen_13 ?_
    refine lv_if_eq (tgt := 21) hx hb dX0_isStillOpen_14 (by decide) (fun c5 => ?_) (fun c5 => ?_)
    · have hf := br_pos c5 hf
      refine lv_iconst (v := 0) hx hb dX0_isStillOpen_21 (by decide) ?_
      cases hf
      exact end_i hAe hQm hx hb hr hlocks rfl hP hD hS dX0_isStillOpen_22
    · have hf := br_neg c5 hf
      refine lv_iconst (v := 1) hx hb dX0_isStillOpen_17 (by decide) ?_
      refine lv_goto (tgt := 22) hx hb dX0_isStillOpen_18 (by decide) ?_
      cases hf
      exact end_i hAe hQm hx hb hr hlocks rfl hP hD hS dX0_isStillOpen_22
def f_H_fileOf (p1 : Int32) (uO : Int32) (uF : Nat → Int32) : Option (Int32) :=
  (f_H_wasOpened p1 uO).bind fun r1 =>
  if r1 = 0 then
    some (-1)
  else
    if p1 < 0 ∨ 30 ≤ p1.toNatClampNeg then none else
      some (uF p1.toNatClampNeg)
set_option maxHeartbeats 4000000 in
set_option maxRecDepth 100000 in
theorem m_H_fileOf (l : Launch) {D : va_G} {sl : List (String × Nat × String)} (ca : Nat → ClassId) (ad : Nat → Nat) (bq : Nat) (nF : Int32) (nO : Nat → Int32) (nL : Nat → Int32) (nA : Nat → Int32) (nC : Nat → Int32) (nV : Nat → Int32) (nU : Nat → Int32) (nP : Nat → Int32) (nE : Int32) (bF : Int32) (bO : Nat → Int32) (bL : Nat → Int32) (bA : Nat → Int32) (bC : Nat → Int32) (bV : Nat → Int32) (bU : Nat → Int32) (bP : Nat → Int32) (bE : Int32) (cT : Int32) (cK : Nat → Int32) (cO : Int32) (cQ : Nat → Int32) (cD : Int32) (pT : Int32) (pK : Int32) (pR : Nat → Int32) (pW : Nat → Int32) (pU : Nat → Int32) (pI : Nat → Int32) (pC : Nat → Nat → Int32) (uO : Int32) (uF : Nat → Int32) (uE : Nat → Int32) (uN : Nat → Int32) (wK : Nat → Int32) (jM : Int32) (jN : Int32) (jZ : Nat) (jB : Nat → Int32) (R : va_W) (sz : Nat) (p1 : Int32) (ro : Int32) (hf : f_H_fileOf p1 uO uF = some ro) : Met l yX0_fileOf (wm yX0_fileOf cX0_fileOf 2 (some .int)) ({ frames := 1, cells := 0, slots := 0, locals := 21 } : Room) (PRE [.ref (ad 6), .int p1] D ca sl (WC ca ad bq nF nO nL nA nC nV nU nP nE bF bO bL bA bC bV bU bP bE cT cK cO cQ cD pT pK pR pW pU pI pC uO uF uE uN wK jM jN jZ jB ++ R) sz) (QI ro D (WC ca ad bq nF nO nL nA nC nV nU nP nE bF bO bL bA bC bV bU bP bE cT cK cO cQ cD pT pK pR pW pU pI pC uO uF uE uN wK jM jN jZ jB ++ R) (WC ca ad bq nF nO nL nA nC nV nU nP nE bF bO bL bA bC bV bU bP bE cT cK cO cQ cD pT pK pR pW pU pI pC uO uF uE uN wK jM jN jZ jB ++ R) sz) 0 0 (va_A (WC ca ad bq nF nO nL nA nC nV nU nP nE bF bO bL bA bC bV bU bP bE cT cK cO cQ cD pT pK pR pW pU pI pC uO uF uE uN wK jM jN jZ jB ++ R) sz) := by
  refine Met.ofW (cc := cX0_fileOf) (maxL := 2) (ret := (some .int)) (by decide) rfl ?_
  intro p e s m args below meth c s₁ B hml hv
  obtain ⟨rfl, rfl, hP, hE, hD0⟩ := hv
  have hx := B.exec
  have hb := B.bytes
  have hr := B.returns
  have hts := wm_ww (atoms_spec (ws := wm yX0_fileOf cX0_fileOf 2 (some .int)) B.pre)
  have hown : s.vm.findClass RX0 = some m.cls := findClass_of_methodNamed B.named
  have hlocks := B.notSynchronized
  have hK := hE.1
  have hD := hD0.self (sz := s.heap.size)
  generalize hAe : va_A (WC ca ad bq nF nO nL nA nC nV nU nP nE bF bO bL bA bC bV bU bP bE cT cK cO cQ cD pT pK pR pW pU pI pC uO uF uE uN wK jM jN jZ jB ++ R) s.heap.size = A at hD ⊢
  have hA : ∀ q : Nat, s.heap.size ≤ q → A q := fun q h => by rw [← hAe]; exact Or.inr h
  have hS : va_S A s.heap s.heap [] := va_S.rf
  have hl := lv_entry ([.ref (ad 6), .int p1]) (n := 2) (Nat.le_of_ble_eq_true rfl)
  rw [lg_entry_eq]
  generalize (lg_sl ([.ref (ad 6), .int p1]) ++ List.replicate (2 - (lg_sl ([.ref (ad 6), .int p1])).length) Slot.unset).toArray = ls at hl ⊢
  have hl : lv_has ls 2 [(0, .ref (ad 6)), (1, .int p1)] := hl
  change W p l e ({ frames := 1, cells := 0, slots := 0, locals := 21 } : Room) s m _ below meth c s.heap [] 0 0 _ _
  generalize hQm : MQ below (QI ro D (WC ca ad bq nF nO nL nA nC nV nU nP nE bF bO bL bA bC bV bU bP bE cT cK cO cQ cD pT pK pR pW pU pI pC uO uF uE uN wK jM jN jZ jB ++ R) (WC ca ad bq nF nO nL nA nC nV nU nP nE bF bO bL bA bC bV bU bP bE cT cK cO cQ cD pT pK pR pW pU pI pC uO uF uE uN wK jM jN jZ jB ++ R) s.heap.size) _ s 0 0 A = Qm
  have hP : va_P D vwCl (WC ca ad bq nF nO nL nA nC nV nU nP nE bF bO bL bA bC bV bU bP bE cT cK cO cQ cD pT pK pR pW pU pI pC uO uF uE uN wK jM jN jZ jB ++ R) s.heap := hP
  generalize hae : ([.ref (ad 6), .int p1] : List Value).toArray = args at hts hQm ⊢
  refine lv_aload_n hx hb dX0_fileOf_0 rfl (lv_at hl 0 rfl) ?_
  refine lv_iload_n hx hb dX0_fileOf_1 rfl (lv_at hl 1 rfl) ?_
  obtain ⟨r1, h2, hf⟩ := bnd hf
  refine call_vi (rest := []) (m_H_wasOpened l ca ad bq nF nO nL nA nC nV nU nP nE bF bO bL bA bC bV bU bP bE cT cK cO cQ cD pT pK pR pW pU pI pC uO uF uE uN wK jM jN jZ jB R _ p1 r1 h2) ⟨hx, hb, hml, hown, hts⟩ (cwV 1 hts (gV q472 q473 q474 q28 q475) rfl rfl rfl (by decide +kernel) ⟨Nat.le_of_ble_eq_true rfl, Nat.le_of_ble_eq_true rfl⟩) (va_recv hK hP (ci := 4) (q0 := 33) rfl rfl) hE hP hD hS hA rfl hl.1 rfl (lv_room (Nat.le_of_ble_eq_true rfl)) dX0_fileOf_2 ⟨Nat.le_of_ble_eq_true rfl, Nat.le_of_ble_eq_true rfl⟩ (fun H locs hP hD hS => ?_)
  refine lv_if_eq (tgt := 17) hx hb dX0_fileOf_5 (by decide) (fun c3 => ?_) (fun c3 => ?_)
  · have hf := br_pos c3 hf
    refine lv_iconst (v := (-1)) hx hb dX0_fileOf_17 (by decide) ?_
    cases hf
    exact end_i hAe hQm hx hb hr hlocks rfl hP hD hS dX0_fileOf_18
  · have hf := br_neg c3 hf
    refine lv_aload_n hx hb dX0_fileOf_8 rfl (lv_at hl 0 rfl) ?_
    refine va_get (D := D) (ci := 4) (v := .ref (ad 28)) (C := RX0) (T := TX0) (N := 4) hx hb hts inX0 hown hK hP 33 rfl rfl 1 (by decide) (hts _ q137) (fun _ h9 => h9) rfl dX0_fileOf_9 ?_
    refine lv_iload_n hx hb dX0_fileOf_12 rfl (lv_at hl 1 rfl) ?_
    obtain ⟨k4, hf⟩ := ck_not hf
    refine va_iald (D := D) hx hb hK hP 34 0 rfl rfl k4 dX0_fileOf_13 ?_
    refine lv_goto (tgt := 18) hx hb dX0_fileOf_14 (by decide) ?_
    cases hf
    exact end_i hAe hQm hx hb hr hlocks rfl hP hD hS dX0_fileOf_18
def f_H_endOf (p1 : Int32) (uO : Int32) (uE : Nat → Int32) : Option (Int32) :=
  (f_H_wasOpened p1 uO).bind fun r1 =>
  if r1 = 0 then
    some (-1)
  else
    if p1 < 0 ∨ 30 ≤ p1.toNatClampNeg then none else
      some (uE p1.toNatClampNeg)
set_option maxHeartbeats 4000000 in
set_option maxRecDepth 100000 in
theorem m_H_endOf (l : Launch) {D : va_G} {sl : List (String × Nat × String)} (ca : Nat → ClassId) (ad : Nat → Nat) (bq : Nat) (nF : Int32) (nO : Nat → Int32) (nL : Nat → Int32) (nA : Nat → Int32) (nC : Nat → Int32) (nV : Nat → Int32) (nU : Nat → Int32) (nP : Nat → Int32) (nE : Int32) (bF : Int32) (bO : Nat → Int32) (bL : Nat → Int32) (bA : Nat → Int32) (bC : Nat → Int32) (bV : Nat → Int32) (bU : Nat → Int32) (bP : Nat → Int32) (bE : Int32) (cT : Int32) (cK : Nat → Int32) (cO : Int32) (cQ : Nat → Int32) (cD : Int32) (pT : Int32) (pK : Int32) (pR : Nat → Int32) (pW : Nat → Int32) (pU : Nat → Int32) (pI : Nat → Int32) (pC : Nat → Nat → Int32) (uO : Int32) (uF : Nat → Int32) (uE : Nat → Int32) (uN : Nat → Int32) (wK : Nat → Int32) (jM : Int32) (jN : Int32) (jZ : Nat) (jB : Nat → Int32) (R : va_W) (sz : Nat) (p1 : Int32) (ro : Int32) (hf : f_H_endOf p1 uO uE = some ro) : Met l yX0_endOf (wm yX0_endOf cX0_endOf 2 (some .int)) ({ frames := 1, cells := 0, slots := 0, locals := 21 } : Room) (PRE [.ref (ad 6), .int p1] D ca sl (WC ca ad bq nF nO nL nA nC nV nU nP nE bF bO bL bA bC bV bU bP bE cT cK cO cQ cD pT pK pR pW pU pI pC uO uF uE uN wK jM jN jZ jB ++ R) sz) (QI ro D (WC ca ad bq nF nO nL nA nC nV nU nP nE bF bO bL bA bC bV bU bP bE cT cK cO cQ cD pT pK pR pW pU pI pC uO uF uE uN wK jM jN jZ jB ++ R) (WC ca ad bq nF nO nL nA nC nV nU nP nE bF bO bL bA bC bV bU bP bE cT cK cO cQ cD pT pK pR pW pU pI pC uO uF uE uN wK jM jN jZ jB ++ R) sz) 0 0 (va_A (WC ca ad bq nF nO nL nA nC nV nU nP nE bF bO bL bA bC bV bU bP bE cT cK cO cQ cD pT pK pR pW pU pI pC uO uF uE uN wK jM jN jZ jB ++ R) sz) := by
  refine Met.ofW (cc := cX0_endOf) (maxL := 2) (ret := (some .int)) (by decide) rfl ?_
  intro p e s m args below meth c s₁ B hml hv
  obtain ⟨rfl, rfl, hP, hE, hD0⟩ := hv
  have hx := B.exec
  have hb := B.bytes
  have hr := B.returns
  have hts := wm_ww (atoms_spec (ws := wm yX0_endOf cX0_endOf 2 (some .int)) B.pre)
  have hown : s.vm.findClass RX0 = some m.cls := findClass_of_methodNamed B.named
  have hlocks := B.notSynchronized
  have hK := hE.1
  have hD := hD0.self (sz := s.heap.size)
  generalize hAe : va_A (WC ca ad bq nF nO nL nA nC nV nU nP nE bF bO bL bA bC bV bU bP bE cT cK cO cQ cD pT pK pR pW pU pI pC uO uF uE uN wK jM jN jZ jB ++ R) s.heap.size = A at hD ⊢
  have hA : ∀ q : Nat, s.heap.size ≤ q → A q := fun q h => by rw [← hAe]; exact Or.inr h
  have hS : va_S A s.heap s.heap [] := va_S.rf
  have hl := lv_entry ([.ref (ad 6), .int p1]) (n := 2) (Nat.le_of_ble_eq_true rfl)
  rw [lg_entry_eq]
  generalize (lg_sl ([.ref (ad 6), .int p1]) ++ List.replicate (2 - (lg_sl ([.ref (ad 6), .int p1])).length) Slot.unset).toArray = ls at hl ⊢
  have hl : lv_has ls 2 [(0, .ref (ad 6)), (1, .int p1)] := hl
  change W p l e ({ frames := 1, cells := 0, slots := 0, locals := 21 } : Room) s m _ below meth c s.heap [] 0 0 _ _
  generalize hQm : MQ below (QI ro D (WC ca ad bq nF nO nL nA nC nV nU nP nE bF bO bL bA bC bV bU bP bE cT cK cO cQ cD pT pK pR pW pU pI pC uO uF uE uN wK jM jN jZ jB ++ R) (WC ca ad bq nF nO nL nA nC nV nU nP nE bF bO bL bA bC bV bU bP bE cT cK cO cQ cD pT pK pR pW pU pI pC uO uF uE uN wK jM jN jZ jB ++ R) s.heap.size) _ s 0 0 A = Qm
  have hP : va_P D vwCl (WC ca ad bq nF nO nL nA nC nV nU nP nE bF bO bL bA bC bV bU bP bE cT cK cO cQ cD pT pK pR pW pU pI pC uO uF uE uN wK jM jN jZ jB ++ R) s.heap := hP
  generalize hae : ([.ref (ad 6), .int p1] : List Value).toArray = args at hts hQm ⊢
  refine lv_aload_n hx hb dX0_endOf_0 rfl (lv_at hl 0 rfl) ?_
  refine lv_iload_n hx hb dX0_endOf_1 rfl (lv_at hl 1 rfl) ?_
  obtain ⟨r1, h2, hf⟩ := bnd hf
  refine call_vi (rest := []) (m_H_wasOpened l ca ad bq nF nO nL nA nC nV nU nP nE bF bO bL bA bC bV bU bP bE cT cK cO cQ cD pT pK pR pW pU pI pC uO uF uE uN wK jM jN jZ jB R _ p1 r1 h2) ⟨hx, hb, hml, hown, hts⟩ (cwV 1 hts (gV q472 q473 q474 q28 q475) rfl rfl rfl (by decide +kernel) ⟨Nat.le_of_ble_eq_true rfl, Nat.le_of_ble_eq_true rfl⟩) (va_recv hK hP (ci := 4) (q0 := 33) rfl rfl) hE hP hD hS hA rfl hl.1 rfl (lv_room (Nat.le_of_ble_eq_true rfl)) dX0_endOf_2 ⟨Nat.le_of_ble_eq_true rfl, Nat.le_of_ble_eq_true rfl⟩ (fun H locs hP hD hS => ?_)
  refine lv_if_eq (tgt := 17) hx hb dX0_endOf_5 (by decide) (fun c3 => ?_) (fun c3 => ?_)
  · have hf := br_pos c3 hf
    refine lv_iconst (v := (-1)) hx hb dX0_endOf_17 (by decide) ?_
    cases hf
    exact end_i hAe hQm hx hb hr hlocks rfl hP hD hS dX0_endOf_18
  · have hf := br_neg c3 hf
    refine lv_aload_n hx hb dX0_endOf_8 rfl (lv_at hl 0 rfl) ?_
    refine va_get (D := D) (ci := 4) (v := .ref (ad 29)) (C := RX0) (T := TX0) (N := 4) hx hb hts inX0 hown hK hP 33 rfl rfl 2 (by decide) (hts _ q138) (fun _ h9 => h9) rfl dX0_endOf_9 ?_
    refine lv_iload_n hx hb dX0_endOf_12 rfl (lv_at hl 1 rfl) ?_
    obtain ⟨k4, hf⟩ := ck_not hf
    refine va_iald (D := D) hx hb hK hP 35 0 rfl rfl k4 dX0_endOf_13 ?_
    refine lv_goto (tgt := 18) hx hb dX0_endOf_14 (by decide) ?_
    cases hf
    exact end_i hAe hQm hx hb hr hlocks rfl hP hD hS dX0_endOf_18
def f_H_add (p1 : Int32) (p2 : Int32) (uO : Int32) (uF : Nat → Int32) (uE : Nat → Int32) (uN : Nat → Int32) : Option (Int32 × Int32 × (Nat → Int32) × (Nat → Int32) × (Nat → Int32)) :=
  if uO < 30 then
    if uO < 0 ∨ 30 ≤ uO.toNatClampNeg then none else
      if uO < 0 ∨ 30 ≤ uO.toNatClampNeg then none else
      if uO < 0 ∨ 30 ≤ uO.toNatClampNeg then none else
      some (uO, (uO + 1), (upd uF uO.toNatClampNeg p1), (upd uE uO.toNatClampNeg p2), (upd uN uO.toNatClampNeg (vp_nar .boolean 1)))
  else
    some ((-1), uO, uF, uE, uN)
set_option maxHeartbeats 4000000 in
set_option maxRecDepth 100000 in
theorem m_H_add (l : Launch) {D : va_G} {sl : List (String × Nat × String)} (ca : Nat → ClassId) (ad : Nat → Nat) (bq : Nat) (nF : Int32) (nO : Nat → Int32) (nL : Nat → Int32) (nA : Nat → Int32) (nC : Nat → Int32) (nV : Nat → Int32) (nU : Nat → Int32) (nP : Nat → Int32) (nE : Int32) (bF : Int32) (bO : Nat → Int32) (bL : Nat → Int32) (bA : Nat → Int32) (bC : Nat → Int32) (bV : Nat → Int32) (bU : Nat → Int32) (bP : Nat → Int32) (bE : Int32) (cT : Int32) (cK : Nat → Int32) (cO : Int32) (cQ : Nat → Int32) (cD : Int32) (pT : Int32) (pK : Int32) (pR : Nat → Int32) (pW : Nat → Int32) (pU : Nat → Int32) (pI : Nat → Int32) (pC : Nat → Nat → Int32) (uO : Int32) (uF : Nat → Int32) (uE : Nat → Int32) (uN : Nat → Int32) (wK : Nat → Int32) (jM : Int32) (jN : Int32) (jZ : Nat) (jB : Nat → Int32) (R : va_W) (sz : Nat) (p1 : Int32) (p2 : Int32) (ro : Int32) (ouO : Int32) (ouF : Nat → Int32) (ouE : Nat → Int32) (ouN : Nat → Int32) (hf : f_H_add p1 p2 uO uF uE uN = some (ro, ouO, ouF, ouE, ouN)) : Met l yX0_add (wm yX0_add cX0_add 4 (some .int)) ({ frames := 0, cells := 0, slots := 0, locals := 0 } : Room) (PRE [.ref (ad 6), .int p1, .int p2] D ca sl (WC ca ad bq nF nO nL nA nC nV nU nP nE bF bO bL bA bC bV bU bP bE cT cK cO cQ cD pT pK pR pW pU pI pC uO uF uE uN wK jM jN jZ jB ++ R) sz) (QI ro D (WC ca ad bq nF nO nL nA nC nV nU nP nE bF bO bL bA bC bV bU bP bE cT cK cO cQ cD pT pK pR pW pU pI pC ouO ouF ouE ouN wK jM jN jZ jB ++ R) (WC ca ad bq nF nO nL nA nC nV nU nP nE bF bO bL bA bC bV bU bP bE cT cK cO cQ cD pT pK pR pW pU pI pC uO uF uE uN wK jM jN jZ jB ++ R) sz) 0 0 (va_A (WC ca ad bq nF nO nL nA nC nV nU nP nE bF bO bL bA bC bV bU bP bE cT cK cO cQ cD pT pK pR pW pU pI pC uO uF uE uN wK jM jN jZ jB ++ R) sz) := by
  refine Met.ofW (cc := cX0_add) (maxL := 4) (ret := (some .int)) (by decide) rfl ?_
  intro p e s m args below meth c s₁ B hml hv
  obtain ⟨rfl, rfl, hP, hE, hD0⟩ := hv
  have hx := B.exec
  have hb := B.bytes
  have hr := B.returns
  have hts := wm_ww (atoms_spec (ws := wm yX0_add cX0_add 4 (some .int)) B.pre)
  have hown : s.vm.findClass RX0 = some m.cls := findClass_of_methodNamed B.named
  have hlocks := B.notSynchronized
  have hK := hE.1
  have hD := hD0.self (sz := s.heap.size)
  generalize hAe : va_A (WC ca ad bq nF nO nL nA nC nV nU nP nE bF bO bL bA bC bV bU bP bE cT cK cO cQ cD pT pK pR pW pU pI pC uO uF uE uN wK jM jN jZ jB ++ R) s.heap.size = A at hD ⊢
  have hA : ∀ q : Nat, s.heap.size ≤ q → A q := fun q h => by rw [← hAe]; exact Or.inr h
  have hS : va_S A s.heap s.heap [] := va_S.rf
  have hl := lv_entry ([.ref (ad 6), .int p1, .int p2]) (n := 4) (Nat.le_of_ble_eq_true rfl)
  rw [lg_entry_eq]
  generalize (lg_sl ([.ref (ad 6), .int p1, .int p2]) ++ List.replicate (4 - (lg_sl ([.ref (ad 6), .int p1, .int p2])).length) Slot.unset).toArray = ls at hl ⊢
  have hl : lv_has ls 4 [(0, .ref (ad 6)), (1, .int p1), (2, .int p2)] := hl
  change W p l e ({ frames := 0, cells := 0, slots := 0, locals := 0 } : Room) s m _ below meth c s.heap [] 0 0 _ _
  generalize hQm : MQ below (QI ro D (WC ca ad bq nF nO nL nA nC nV nU nP nE bF bO bL bA bC bV bU bP bE cT cK cO cQ cD pT pK pR pW pU pI pC ouO ouF ouE ouN wK jM jN jZ jB ++ R) (WC ca ad bq nF nO nL nA nC nV nU nP nE bF bO bL bA bC bV bU bP bE cT cK cO cQ cD pT pK pR pW pU pI pC uO uF uE uN wK jM jN jZ jB ++ R) s.heap.size) _ s 0 0 A = Qm
  have hP : va_P D vwCl (WC ca ad bq nF nO nL nA nC nV nU nP nE bF bO bL bA bC bV bU bP bE cT cK cO cQ cD pT pK pR pW pU pI pC uO uF uE uN wK jM jN jZ jB ++ R) s.heap := hP
  generalize hae : ([.ref (ad 6), .int p1, .int p2] : List Value).toArray = args at hts hQm ⊢
  refine lv_aload_n hx hb dX0_add_0 rfl (lv_at hl 0 rfl) ?_
  refine va_get (D := D) (ci := 4) (v := .int uO) (C := RX0) (T := TX0) (N := 4) hx hb hts inX0 hown hK hP 33 rfl rfl 0 (by decide) (hts _ q136) (fun _ h9 => h9) rfl dX0_add_1 ?_
  refine lv_bipush (v := 30) hx hb dX0_add_4 (by decide) ?_
  refine lv_icmp_lt (tgt := 11) hx hb dX0_add_6 (by decide) (fun c1 => ?_) (fun c1 => ?_)
  · have hf := br_pos c1 hf
    refine lv_aload_n hx hb dX0_add_11 rfl (lv_at hl 0 rfl) ?_
    refine va_get (D := D) (ci := 4) (v := .int uO) (C := RX0) (T := TX0) (N := 4) hx hb hts inX0 hown hK hP 33 rfl rfl 0 (by decide) (hts _ q136) (fun _ h9 => h9) rfl dX0_add_12 ?_
    refine lv_istore_n (lv' := [(3, .int uO), (0, .ref (ad 6)), (1, .int p1), (2, .int p2)]) hx hb dX0_add_15 rfl hl (by decide) rfl (fun ls hl => ?_)
    refine lv_aload_n hx hb dX0_add_16 rfl (lv_at hl 1 rfl) ?_
    refine va_get (D := D) (ci := 4) (v := .ref (ad 28)) (C := RX0) (T := TX0) (N := 4) hx hb hts inX0 hown hK hP 33 rfl rfl 1 (by decide) (hts _ q137) (fun _ h9 => h9) rfl dX0_add_17 ?_
    refine lv_iload_n hx hb dX0_add_20 rfl (lv_at hl 0 rfl) ?_
    refine lv_iload_n hx hb dX0_add_21 rfl (lv_at hl 2 rfl) ?_
    obtain ⟨k2, hf⟩ := ck_not hf
    refine va_iast (D := D) hx hb hK hP hD hS 34 0 rfl rfl k2 dX0_add_22 (fun H locs hP hD hS => ?_)
    have hP : va_P D vwCl (WC ca ad bq nF nO nL nA nC nV nU nP nE bF bO bL bA bC bV bU bP bE cT cK cO cQ cD pT pK pR pW pU pI pC uO (upd uF uO.toNatClampNeg p1) uE uN wK jM jN jZ jB ++ R) H := hP
    have hD : va_D A (WC ca ad bq nF nO nL nA nC nV nU nP nE bF bO bL bA bC bV bU bP bE cT cK cO cQ cD pT pK pR pW pU pI pC uO (upd uF uO.toNatClampNeg p1) uE uN wK jM jN jZ jB ++ R) := hD
    refine lv_aload_n hx hb dX0_add_23 rfl (lv_at hl 1 rfl) ?_
    refine va_get (D := D) (ci := 4) (v := .ref (ad 29)) (C := RX0) (T := TX0) (N := 4) hx hb hts inX0 hown hK hP 33 rfl rfl 2 (by decide) (hts _ q138) (fun _ h9 => h9) rfl dX0_add_24 ?_
    refine lv_iload_n hx hb dX0_add_27 rfl (lv_at hl 0 rfl) ?_
    refine lv_iload_n hx hb dX0_add_28 rfl (lv_at hl 3 rfl) ?_
    obtain ⟨k3, hf⟩ := ck_not hf
    refine va_iast (D := D) hx hb hK hP hD hS 35 0 rfl rfl k3 dX0_add_29 (fun H locs hP hD hS => ?_)
    have hP : va_P D vwCl (WC ca ad bq nF nO nL nA nC nV nU nP nE bF bO bL bA bC bV bU bP bE cT cK cO cQ cD pT pK pR pW pU pI pC uO (upd uF uO.toNatClampNeg p1) (upd uE uO.toNatClampNeg p2) uN wK jM jN jZ jB ++ R) H := hP
    have hD : va_D A (WC ca ad bq nF nO nL nA nC nV nU nP nE bF bO bL bA bC bV bU bP bE cT cK cO cQ cD pT pK pR pW pU pI pC uO (upd uF uO.toNatClampNeg p1) (upd uE uO.toNatClampNeg p2) uN wK jM jN jZ jB ++ R) := hD
    refine lv_aload_n hx hb dX0_add_30 rfl (lv_at hl 1 rfl) ?_
    refine va_get (D := D) (ci := 4) (v := .ref (ad 30)) (C := RX0) (T := TX0) (N := 4) hx hb hts inX0 hown hK hP 33 rfl rfl 3 (by decide) (hts _ q139) (fun _ h9 => h9) rfl dX0_add_31 ?_
    refine lv_iload_n hx hb dX0_add_34 rfl (lv_at hl 0 rfl) ?_
    refine lv_iconst (v := 1) hx hb dX0_add_35 (by decide) ?_
    obtain ⟨k4, hf⟩ := ck_not hf
    refine va_zast (D := D) hx hb hK hP hD hS 36 1 rfl rfl k4 dX0_add_36 (fun H locs hP hD hS => ?_)
    have hP : va_P D vwCl (WC ca ad bq nF nO nL nA nC nV nU nP nE bF bO bL bA bC bV bU bP bE cT cK cO cQ cD pT pK pR pW pU pI pC uO (upd uF uO.toNatClampNeg p1) (upd uE uO.toNatClampNeg p2) (upd uN uO.toNatClampNeg (vp_nar .boolean 1)) wK jM jN jZ jB ++ R) H := hP
    have hD : va_D A (WC ca ad bq nF nO nL nA nC nV nU nP nE bF bO bL bA bC bV bU bP bE cT cK cO cQ cD pT pK pR pW pU pI pC uO (upd uF uO.toNatClampNeg p1) (upd uE uO.toNatClampNeg p2) (upd uN uO.toNatClampNeg (vp_nar .boolean 1)) wK jM jN jZ jB ++ R) := hD
    refine lv_aload_n hx hb dX0_add_37 rfl (lv_at hl 1 rfl) ?_
    refine lv_iload_n hx hb dX0_add_38 rfl (lv_at hl 0 rfl) ?_
    refine lv_iconst (v := 1) hx hb dX0_add_39 (by decide) ?_
    refine lv_iadd hx hb dX0_add_40 ?_
    refine va_put (D := D) (ci := 4) (v := .int (uO + 1)) (ty := .int) (C := RX0) (T := TX0) (N := 4) hx hb hts inX0 tyX0 tyX0_ok nmX0 hown hK hP hD hS 33 rfl rfl 0 (by decide) (hts _ q136) (fun _ h9 => h9) rfl (by decide +kernel) rfl rfl (Nat.le_of_ble_eq_true rfl) dX0_add_41 (fun H locs hP hD hS => ?_)
    have hP : va_P D vwCl (WC ca ad bq nF nO nL nA nC nV nU nP nE bF bO bL bA bC bV bU bP bE cT cK cO cQ cD pT pK pR pW pU pI pC (uO + 1) (upd uF uO.toNatClampNeg p1) (upd uE uO.toNatClampNeg p2) (upd uN uO.toNatClampNeg (vp_nar .boolean 1)) wK jM jN jZ jB ++ R) H := hP
    have hD : va_D A (WC ca ad bq nF nO nL nA nC nV nU nP nE bF bO bL bA bC bV bU bP bE cT cK cO cQ cD pT pK pR pW pU pI pC (uO + 1) (upd uF uO.toNatClampNeg p1) (upd uE uO.toNatClampNeg p2) (upd uN uO.toNatClampNeg (vp_nar .boolean 1)) wK jM jN jZ jB ++ R) := hD
    refine lv_iload_n hx hb dX0_add_44 rfl (lv_at hl 0 rfl) ?_
    cases hf
    exact end_i hAe hQm hx hb hr hlocks rfl hP hD hS dX0_add_45
  · have hf := br_neg c1 hf
    refine lv_iconst (v := (-1)) hx hb dX0_add_9 (by decide) ?_
    cases hf
    exact end_i hAe hQm hx hb hr hlocks rfl hP hD hS dX0_add_10
def f_H_close (p1 : Int32) (uO : Int32) (uN : Nat → Int32) : Option ((Nat → Int32)) :=
  (f_H_wasOpened p1 uO).bind fun r1 =>
  if r1 = 0 then
    some uN
  else
    if p1 < 0 ∨ 30 ≤ p1.toNatClampNeg then none else
      some (upd uN p1.toNatClampNeg (vp_nar .boolean 0))
set_option maxHeartbeats 4000000 in
set_option maxRecDepth 100000 in
theorem m_H_close (l : Launch) {D : va_G} {sl : List (String × Nat × String)} (ca : Nat → ClassId) (ad : Nat → Nat) (bq : Nat) (nF : Int32) (nO : Nat → Int32) (nL : Nat → Int32) (nA : Nat → Int32) (nC : Nat → Int32) (nV : Nat → Int32) (nU : Nat → Int32) (nP : Nat → Int32) (nE : Int32) (bF : Int32) (bO : Nat → Int32) (bL : Nat → Int32) (bA : Nat → Int32) (bC : Nat → Int32) (bV : Nat → Int32) (bU : Nat → Int32) (bP : Nat → Int32) (bE : Int32) (cT : Int32) (cK : Nat → Int32) (cO : Int32) (cQ : Nat → Int32) (cD : Int32) (pT : Int32) (pK : Int32) (pR : Nat → Int32) (pW : Nat → Int32) (pU : Nat → Int32) (pI : Nat → Int32) (pC : Nat → Nat → Int32) (uO : Int32) (uF : Nat → Int32) (uE : Nat → Int32) (uN : Nat → Int32) (wK : Nat → Int32) (jM : Int32) (jN : Int32) (jZ : Nat) (jB : Nat → Int32) (R : va_W) (sz : Nat) (p1 : Int32) (ouN : Nat → Int32) (hf : f_H_close p1 uO uN = some ouN) : Met l yX0_close (wm yX0_close cX0_close 2 none) ({ frames := 1, cells := 0, slots := 0, locals := 21 } : Room) (PRE [.ref (ad 6), .int p1] D ca sl (WC ca ad bq nF nO nL nA nC nV nU nP nE bF bO bL bA bC bV bU bP bE cT cK cO cQ cD pT pK pR pW pU pI pC uO uF uE uN wK jM jN jZ jB ++ R) sz) (QV D (WC ca ad bq nF nO nL nA nC nV nU nP nE bF bO bL bA bC bV bU bP bE cT cK cO cQ cD pT pK pR pW pU pI pC uO uF uE ouN wK jM jN jZ jB ++ R) (WC ca ad bq nF nO nL nA nC nV nU nP nE bF bO bL bA bC bV bU bP bE cT cK cO cQ cD pT pK pR pW pU pI pC uO uF uE uN wK jM jN jZ jB ++ R) sz) 0 0 (va_A (WC ca ad bq nF nO nL nA nC nV nU nP nE bF bO bL bA bC bV bU bP bE cT cK cO cQ cD pT pK pR pW pU pI pC uO uF uE uN wK jM jN jZ jB ++ R) sz) := by
  refine Met.ofW (cc := cX0_close) (maxL := 2) (ret := none) (by decide) rfl ?_
  intro p e s m args below meth c s₁ B hml hv
  obtain ⟨rfl, rfl, hP, hE, hD0⟩ := hv
  have hx := B.exec
  have hb := B.bytes
  have hr := B.returns
  have hts := wm_ww (atoms_spec (ws := wm yX0_close cX0_close 2 none) B.pre)
  have hown : s.vm.findClass RX0 = some m.cls := findClass_of_methodNamed B.named
  have hlocks := B.notSynchronized
  have hK := hE.1
  have hD := hD0.self (sz := s.heap.size)
  generalize hAe : va_A (WC ca ad bq nF nO nL nA nC nV nU nP nE bF bO bL bA bC bV bU bP bE cT cK cO cQ cD pT pK pR pW pU pI pC uO uF uE uN wK jM jN jZ jB ++ R) s.heap.size = A at hD ⊢
  have hA : ∀ q : Nat, s.heap.size ≤ q → A q := fun q h => by rw [← hAe]; exact Or.inr h
  have hS : va_S A s.heap s.heap [] := va_S.rf
  have hl := lv_entry ([.ref (ad 6), .int p1]) (n := 2) (Nat.le_of_ble_eq_true rfl)
  rw [lg_entry_eq]
  generalize (lg_sl ([.ref (ad 6), .int p1]) ++ List.replicate (2 - (lg_sl ([.ref (ad 6), .int p1])).length) Slot.unset).toArray = ls at hl ⊢
  have hl : lv_has ls 2 [(0, .ref (ad 6)), (1, .int p1)] := hl
  change W p l e ({ frames := 1, cells := 0, slots := 0, locals := 21 } : Room) s m _ below meth c s.heap [] 0 0 _ _
  generalize hQm : MQ below (QV D (WC ca ad bq nF nO nL nA nC nV nU nP nE bF bO bL bA bC bV bU bP bE cT cK cO cQ cD pT pK pR pW pU pI pC uO uF uE ouN wK jM jN jZ jB ++ R) (WC ca ad bq nF nO nL nA nC nV nU nP nE bF bO bL bA bC bV bU bP bE cT cK cO cQ cD pT pK pR pW pU pI pC uO uF uE uN wK jM jN jZ jB ++ R) s.heap.size) _ s 0 0 A = Qm
  have hP : va_P D vwCl (WC ca ad bq nF nO nL nA nC nV nU nP nE bF bO bL bA bC bV bU bP bE cT cK cO cQ cD pT pK pR pW pU pI pC uO uF uE uN wK jM jN jZ jB ++ R) s.heap := hP
  generalize hae : ([.ref (ad 6), .int p1] : List Value).toArray = args at hts hQm ⊢
  refine lv_aload_n hx hb dX0_close_0 rfl (lv_at hl 0 rfl) ?_
  refine lv_iload_n hx hb dX0_close_1 rfl (lv_at hl 1 rfl) ?_
  obtain ⟨r1, h2, hf⟩ := bnd hf
  refine call_vi (rest := []) (m_H_wasOpened l ca ad bq nF nO nL nA nC nV nU nP nE bF bO bL bA bC bV bU bP bE cT cK cO cQ cD pT pK pR pW pU pI pC uO uF uE uN wK jM jN jZ jB R _ p1 r1 h2) ⟨hx, hb, hml, hown, hts⟩ (cwV 1 hts (gV q472 q473 q474 q28 q475) rfl rfl rfl (by decide +kernel) ⟨Nat.le_of_ble_eq_true rfl, Nat.le_of_ble_eq_true rfl⟩) (va_recv hK hP (ci := 4) (q0 := 33) rfl rfl) hE hP hD hS hA rfl hl.1 rfl (lv_room (Nat.le_of_ble_eq_true rfl)) dX0_close_2 ⟨Nat.le_of_ble_eq_true rfl, Nat.le_of_ble_eq_true rfl⟩ (fun H locs hP hD hS => ?_)
  refine lv_if_eq (tgt := 15) hx hb dX0_close_5 (by decide) (fun c3 => ?_) (fun c3 => ?_)
  · have hf := br_pos c3 hf
    cases hf
    exact end_v hAe hQm hx hb hr hlocks hP hD hS dX0_close_15
  · have hf := br_neg c3 hf
    refine lv_aload_n hx hb dX0_close_8 rfl (lv_at hl 0 rfl) ?_
    refine va_get (D := D) (ci := 4) (v := .ref (ad 30)) (C := RX0) (T := TX0) (N := 4) hx hb hts inX0 hown hK hP 33 rfl rfl 3 (by decide) (hts _ q139) (fun _ h9 => h9) rfl dX0_close_9 ?_
    refine lv_iload_n hx hb dX0_close_12 rfl (lv_at hl 1 rfl) ?_
    refine lv_iconst (v := 0) hx hb dX0_close_13 (by decide) ?_
    obtain ⟨k4, hf⟩ := ck_not hf
    refine va_zast (D := D) hx hb hK hP hD hS 36 1 rfl rfl k4 dX0_close_14 (fun H locs hP hD hS => ?_)
    have hP : va_P D vwCl (WC ca ad bq nF nO nL nA nC nV nU nP nE bF bO bL bA bC bV bU bP bE cT cK cO cQ cD pT pK pR pW pU pI pC uO uF uE (upd uN p1.toNatClampNeg (vp_nar .boolean 0)) wK jM jN jZ jB ++ R) H := hP
    have hD : va_D A (WC ca ad bq nF nO nL nA nC nV nU nP nE bF bO bL bA bC bV bU bP bE cT cK cO cQ cD pT pK pR pW pU pI pC uO uF uE (upd uN p1.toNatClampNeg (vp_nar .boolean 0)) wK jM jN jZ jB ++ R) := hD
    cases hf
    exact end_v hAe hQm hx hb hr hlocks hP hD hS dX0_close_15
def f_H_openTotal_L4 : Nat → Int32 → Int32 → Int32 → Int32 → (Nat → Int32) → (Nat → Int32) → Option (Int32)
  | 0, _, _, _, _, _, _ => none
  | fuel + 1, v1, v2, v3, uO, uF, uN =>
    if uO ≤ v3 then
      some v2
    else
      (f_H_isStillOpen v3 uO uN).bind fun r8 =>
      if r8 = 0 then
        f_H_openTotal_L4 fuel v1 v2 (v3 + 1) uO uF uN
      else
        if v3 < 0 ∨ 30 ≤ v3.toNatClampNeg then none else
          if (uF v3.toNatClampNeg) = v1 then
          f_H_openTotal_L4 fuel v1 (v2 + 1) (v3 + 1) uO uF uN
        else
          f_H_openTotal_L4 fuel v1 v2 (v3 + 1) uO uF uN
def f_H_openTotal (p1 : Int32) (uO : Int32) (uF : Nat → Int32) (uN : Nat → Int32) : Option (Int32) :=
  (f_H_openTotal_L4 FU p1 0 0 uO uF uN).bind fun x14 =>
  some x14
set_option maxHeartbeats 4000000 in
set_option maxRecDepth 100000 in
theorem m_H_openTotal (l : Launch) {D : va_G} {sl : List (String × Nat × String)} (ca : Nat → ClassId) (ad : Nat → Nat) (bq : Nat) (nF : Int32) (nO : Nat → Int32) (nL : Nat → Int32) (nA : Nat → Int32) (nC : Nat → Int32) (nV : Nat → Int32) (nU : Nat → Int32) (nP : Nat → Int32) (nE : Int32) (bF : Int32) (bO : Nat → Int32) (bL : Nat → Int32) (bA : Nat → Int32) (bC : Nat → Int32) (bV : Nat → Int32) (bU : Nat → Int32) (bP : Nat → Int32) (bE : Int32) (cT : Int32) (cK : Nat → Int32) (cO : Int32) (cQ : Nat → Int32) (cD : Int32) (pT : Int32) (pK : Int32) (pR : Nat → Int32) (pW : Nat → Int32) (pU : Nat → Int32) (pI : Nat → Int32) (pC : Nat → Nat → Int32) (uO : Int32) (uF : Nat → Int32) (uE : Nat → Int32) (uN : Nat → Int32) (wK : Nat → Int32) (jM : Int32) (jN : Int32) (jZ : Nat) (jB : Nat → Int32) (R : va_W) (sz : Nat) (p1 : Int32) (ro : Int32) (hf : f_H_openTotal p1 uO uF uN = some ro) : Met l yX0_openTotal (wm yX0_openTotal cX0_openTotal 4 (some .int)) ({ frames := 2, cells := 0, slots := 0, locals := 42 } : Room) (PRE [.ref (ad 6), .int p1] D ca sl (WC ca ad bq nF nO nL nA nC nV nU nP nE bF bO bL bA bC bV bU bP bE cT cK cO cQ cD pT pK pR pW pU pI pC uO uF uE uN wK jM jN jZ jB ++ R) sz) (QI ro D (WC ca ad bq nF nO nL nA nC nV nU nP nE bF bO bL bA bC bV bU bP bE cT cK cO cQ cD pT pK pR pW pU pI pC uO uF uE uN wK jM jN jZ jB ++ R) (WC ca ad bq nF nO nL nA nC nV nU nP nE bF bO bL bA bC bV bU bP bE cT cK cO cQ cD pT pK pR pW pU pI pC uO uF uE uN wK jM jN jZ jB ++ R) sz) 0 0 (va_A (WC ca ad bq nF nO nL nA nC nV nU nP nE bF bO bL bA bC bV bU bP bE cT cK cO cQ cD pT pK pR pW pU pI pC uO uF uE uN wK jM jN jZ jB ++ R) sz) := by
  refine Met.ofW (cc := cX0_openTotal) (maxL := 4) (ret := (some .int)) (by decide) rfl ?_
  intro p e s m args below meth c s₁ B hml hv
  obtain ⟨rfl, rfl, hP, hE, hD0⟩ := hv
  have hx := B.exec
  have hb := B.bytes
  have hr := B.returns
  have hts := wm_ww (atoms_spec (ws := wm yX0_openTotal cX0_openTotal 4 (some .int)) B.pre)
  have hown : s.vm.findClass RX0 = some m.cls := findClass_of_methodNamed B.named
  have hlocks := B.notSynchronized
  have hK := hE.1
  have hD := hD0.self (sz := s.heap.size)
  generalize hAe : va_A (WC ca ad bq nF nO nL nA nC nV nU nP nE bF bO bL bA bC bV bU bP bE cT cK cO cQ cD pT pK pR pW pU pI pC uO uF uE uN wK jM jN jZ jB ++ R) s.heap.size = A at hD ⊢
  have hA : ∀ q : Nat, s.heap.size ≤ q → A q := fun q h => by rw [← hAe]; exact Or.inr h
  have hS : va_S A s.heap s.heap [] := va_S.rf
  have hl := lv_entry ([.ref (ad 6), .int p1]) (n := 4) (Nat.le_of_ble_eq_true rfl)
  rw [lg_entry_eq]
  generalize (lg_sl ([.ref (ad 6), .int p1]) ++ List.replicate (4 - (lg_sl ([.ref (ad 6), .int p1])).length) Slot.unset).toArray = ls at hl ⊢
  have hl : lv_has ls 4 [(0, .ref (ad 6)), (1, .int p1)] := hl
  change W p l e ({ frames := 2, cells := 0, slots := 0, locals := 42 } : Room) s m _ below meth c s.heap [] 0 0 _ _
  generalize hQm : MQ below (QI ro D (WC ca ad bq nF nO nL nA nC nV nU nP nE bF bO bL bA bC bV bU bP bE cT cK cO cQ cD pT pK pR pW pU pI pC uO uF uE uN wK jM jN jZ jB ++ R) (WC ca ad bq nF nO nL nA nC nV nU nP nE bF bO bL bA bC bV bU bP bE cT cK cO cQ cD pT pK pR pW pU pI pC uO uF uE uN wK jM jN jZ jB ++ R) s.heap.size) _ s 0 0 A = Qm
  have hP : va_P D vwCl (WC ca ad bq nF nO nL nA nC nV nU nP nE bF bO bL bA bC bV bU bP bE cT cK cO cQ cD pT pK pR pW pU pI pC uO uF uE uN wK jM jN jZ jB ++ R) s.heap := hP
  generalize hae : ([.ref (ad 6), .int p1] : List Value).toArray = args at hts hQm ⊢
  have L4 : ∀ (n : Nat) (v1 : Int32) (v2 : Int32) (v3 : Int32) (y2 : Int32), f_H_openTotal_L4 n v1 v2 v3 uO uF uN = some y2 → ∀ (H : Heap) (locs : List Loc) (ls : Array Slot), va_P D vwCl (WC ca ad bq nF nO nL nA nC nV nU nP nE bF bO bL bA bC bV bU bP bE cT cK cO cQ cD pT pK pR pW pU pI pC uO uF uE uN wK jM jN jZ jB ++ R) H → va_D A (WC ca ad bq nF nO nL nA nC nV nU nP nE bF bO bL bA bC bV bU bP bE cT cK cO cQ cD pT pK pR pW pU pI pC uO uF uE uN wK jM jN jZ jB ++ R) → va_S A s.heap H locs → lv_has ls 4 [(0, .ref (ad 6)), (1, .int v1), (2, .int v2), (3, .int v3)] → (∀ (H : Heap) (locs : List Loc) (ls : Array Slot), va_P D vwCl (WC ca ad bq nF nO nL nA nC nV nU nP nE bF bO bL bA bC bV bU bP bE cT cK cO cQ cD pT pK pR pW pU pI pC uO uF uE uN wK jM jN jZ jB ++ R) H → va_D A (WC ca ad bq nF nO nL nA nC nV nU nP nE bF bO bL bA bC bV bU bP bE cT cK cO cQ cD pT pK pR pW pU pI pC uO uF uE uN wK jM jN jZ jB ++ R) → va_S A s.heap H locs → lv_has ls 4 [(2, .int y2)] → W p l e ({ frames := 2, cells := 0, slots := 0, locals := 42 } : Room) s m args below meth c H locs 0 0 Qm (F0 m 39 ls [])) → W p l e ({ frames := 2, cells := 0, slots := 0, locals := 42 } : Room) s m args below meth c H locs 0 0 Qm (F0 m 4 ls []) := by
    intro n
    induction n with
    | zero => intro v1 v2 v3 y2 hf; cases hf
    | succ n ih =>
      intro v1 v2 v3 y2 hf H locs ls hP hD hS hl kk
      unfold f_H_openTotal_L4 at hf
      refine lv_iload_n hx hb dX0_openTotal_4 rfl (lv_at hl 3 rfl) ?_
      refine lv_aload_n hx hb dX0_openTotal_5 rfl (lv_at hl 0 rfl) ?_
      refine va_get (D := D) (ci := 4) (v := .int uO) (C := RX0) (T := TX0) (N := 4) hx hb hts inX0 hown hK hP 33 rfl rfl 0 (by decide) (hts _ q136) (fun _ h9 => h9) rfl dX0_openTotal_6 ?_
      refine lv_icmp_ge (tgt := 39) hx hb dX0_openTotal_9 (by decide) (fun c7 => ?_) (fun c7 => ?_)
      · have hf := br_pos c7 hf
        cases hf
        exact kk _ _ _ hP hD hS (lv_sub hl [2] rfl)
      · have hf := br_neg c7 hf
        refine lv_aload_n hx hb dX0_openTotal_12 rfl (lv_at hl 0 rfl) ?_
        refine lv_iload_n hx hb dX0_openTotal_13 rfl (lv_at hl 3 rfl) ?_
        obtain ⟨r8, h9, hf⟩ := bnd hf
        refine call_vi (rest := []) (m_H_isStillOpen l ca ad bq nF nO nL nA nC nV nU nP nE bF bO bL bA bC bV bU bP bE cT cK cO cQ cD pT pK pR pW pU pI pC uO uF uE uN wK jM jN jZ jB R _ v3 r8 h9) ⟨hx, hb, hml, hown, hts⟩ (cwV 1 hts (gV q468 q469 q470 q28 q471) rfl rfl rfl (by decide +kernel) ⟨Nat.le_of_ble_eq_true rfl, Nat.le_of_ble_eq_true rfl⟩) (va_recv hK hP (ci := 4) (q0 := 33) rfl rfl) hE hP hD hS hA rfl hl.1 rfl (lv_room (Nat.le_of_ble_eq_true rfl)) dX0_openTotal_14 ⟨Nat.le_of_ble_eq_true rfl, Nat.le_of_ble_eq_true rfl⟩ (fun H locs hP hD hS => ?_)
        refine lv_if_eq (tgt := 33) hx hb dX0_openTotal_17 (by decide) (fun c10 => ?_) (fun c10 => ?_)
        · have hf := br_pos c10 hf
          refine lv_iinc (v := (v3 + 1)) (lv' := [(3, .int (v3 + 1)), (0, .ref (ad 6)), (1, .int v1), (2, .int v2)]) hx hb dX0_openTotal_33 hl (k := 3) rfl rfl (by decide) rfl (fun ls hl => ?_)
          refine lv_goto (tgt := 4) hx hb dX0_openTotal_36 (by decide) ?_
          exact ih v1 v2 (v3 + 1) _ hf _ _ _ hP hD hS (lv_sub hl [1, 2, 3, 0] rfl) kk
        · have hf := br_neg c10 hf
          refine lv_aload_n hx hb dX0_openTotal_20 rfl (lv_at hl 0 rfl) ?_
          refine va_get (D := D) (ci := 4) (v := .ref (ad 28)) (C := RX0) (T := TX0) (N := 4) hx hb hts inX0 hown hK hP 33 rfl rfl 1 (by decide) (hts _ q137) (fun _ h9 => h9) rfl dX0_openTotal_21 ?_
          refine lv_iload_n hx hb dX0_openTotal_24 rfl (lv_at hl 3 rfl) ?_
          obtain ⟨k11, hf⟩ := ck_not hf
          refine va_iald (D := D) hx hb hK hP 34 0 rfl rfl k11 dX0_openTotal_25 ?_
          refine lv_iload_n hx hb dX0_openTotal_26 rfl (lv_at hl 1 rfl) ?_
          refine lv_icmp_ne (tgt := 33) hx hb dX0_openTotal_27 (by decide) (fun c12 => ?_) (fun c12 => ?_)
          · have hf := br_neg c12 hf
            refine lv_iinc (v := (v3 + 1)) (lv' := [(3, .int (v3 + 1)), (0, .ref (ad 6)), (1, .int v1), (2, .int v2)]) hx hb dX0_openTotal_33 hl (k := 3) rfl rfl (by decide) rfl (fun ls hl => ?_)
            refine lv_goto (tgt := 4) hx hb dX0_openTotal_36 (by decide) ?_
            exact ih v1 v2 (v3 + 1) _ hf _ _ _ hP hD hS (lv_sub hl [1, 2, 3, 0] rfl) kk
          · have hf := br_pos c12 hf
            refine lv_iinc (v := (v2 + 1)) (lv' := [(2, .int (v2 + 1)), (0, .ref (ad 6)), (1, .int v1), (3, .int v3)]) hx hb dX0_openTotal_30 hl (k := 2) rfl rfl (by decide) rfl (fun ls hl => ?_)
            refine lv_iinc (v := (v3 + 1)) (lv' := [(3, .int (v3 + 1)), (2, .int (v2 + 1)), (0, .ref (ad 6)), (1, .int v1)]) hx hb dX0_openTotal_33 hl (k := 3) rfl rfl (by decide) rfl (fun ls hl => ?_)
            refine lv_goto (tgt := 4) hx hb dX0_openTotal_36 (by decide) ?_
            exact ih v1 (v2 + 1) (v3 + 1) _ hf _ _ _ hP hD hS (lv_sub hl [2, 3, 1, 0] rfl) kk
  refine lv_iconst (v := 0) hx hb dX0_openTotal_0 (by decide) ?_
  refine lv_istore_n (lv' := [(2, .int 0), (0, .ref (ad 6)), (1, .int p1)]) hx hb dX0_openTotal_1 rfl hl (by decide) rfl (fun ls hl => ?_)
  refine lv_iconst (v := 0) hx hb dX0_openTotal_2 (by decide) ?_
  refine lv_istore_n (lv' := [(3, .int 0), (2, .int 0), (0, .ref (ad 6)), (1, .int p1)]) hx hb dX0_openTotal_3 rfl hl (by decide) rfl (fun ls hl => ?_)
  obtain ⟨x14, h13, hf⟩ := bnd hf
  refine L4 FU p1 0 0 x14 h13 _ _ _ hP hD hS (lv_sub hl [2, 3, 1, 0] rfl) (fun H locs ls hP hD hS hl => ?_)
  refine lv_iload_n hx hb dX0_openTotal_39 rfl (lv_at hl 0 rfl) ?_
  cases hf
  exact end_i hAe hQm hx hb hr hlocks rfl hP hD hS dX0_openTotal_40
def f_H_firstToEnd_L4 : Nat → Int32 → Int32 → Int32 → (Nat → Int32) → (Nat → Int32) → Option (Int32)
  | 0, _, _, _, _, _ => none
  | fuel + 1, v1, v2, uO, uE, uN =>
    if uO ≤ v2 then
      some v1
    else
      (f_H_isStillOpen v2 uO uN).bind fun r11 =>
      if r11 = 0 then
        f_H_firstToEnd_L4 fuel v1 (v2 + 1) uO uE uN
      else
        if v1 = (-1) then
          f_H_firstToEnd_L4 fuel v2 (v2 + 1) uO uE uN
        else
          if v2 < 0 ∨ 30 ≤ v2.toNatClampNeg then none else
            (f_H_endOf v1 uO uE).bind fun r16 =>
          if r16 ≤ (uE v2.toNatClampNeg) then
            f_H_firstToEnd_L4 fuel v1 (v2 + 1) uO uE uN
          else
            f_H_firstToEnd_L4 fuel v2 (v2 + 1) uO uE uN
def f_H_firstToEnd (uO : Int32) (uE : Nat → Int32) (uN : Nat → Int32) : Option (Int32) :=
  (f_H_firstToEnd_L4 FU (-1) 0 uO uE uN).bind fun x20 =>
  some x20
set_option maxHeartbeats 4000000 in
set_option maxRecDepth 100000 in
theorem m_H_firstToEnd (l : Launch) {D : va_G} {sl : List (String × Nat × String)} (ca : Nat → ClassId) (ad : Nat → Nat) (bq : Nat) (nF : Int32) (nO : Nat → Int32) (nL : Nat → Int32) (nA : Nat → Int32) (nC : Nat → Int32) (nV : Nat → Int32) (nU : Nat → Int32) (nP : Nat → Int32) (nE : Int32) (bF : Int32) (bO : Nat → Int32) (bL : Nat → Int32) (bA : Nat → Int32) (bC : Nat → Int32) (bV : Nat → Int32) (bU : Nat → Int32) (bP : Nat → Int32) (bE : Int32) (cT : Int32) (cK : Nat → Int32) (cO : Int32) (cQ : Nat → Int32) (cD : Int32) (pT : Int32) (pK : Int32) (pR : Nat → Int32) (pW : Nat → Int32) (pU : Nat → Int32) (pI : Nat → Int32) (pC : Nat → Nat → Int32) (uO : Int32) (uF : Nat → Int32) (uE : Nat → Int32) (uN : Nat → Int32) (wK : Nat → Int32) (jM : Int32) (jN : Int32) (jZ : Nat) (jB : Nat → Int32) (R : va_W) (sz : Nat) (ro : Int32) (hf : f_H_firstToEnd uO uE uN = some ro) : Met l yX0_firstToEnd (wm yX0_firstToEnd cX0_firstToEnd 3 (some .int)) ({ frames := 2, cells := 0, slots := 0, locals := 42 } : Room) (PRE [.ref (ad 6)] D ca sl (WC ca ad bq nF nO nL nA nC nV nU nP nE bF bO bL bA bC bV bU bP bE cT cK cO cQ cD pT pK pR pW pU pI pC uO uF uE uN wK jM jN jZ jB ++ R) sz) (QI ro D (WC ca ad bq nF nO nL nA nC nV nU nP nE bF bO bL bA bC bV bU bP bE cT cK cO cQ cD pT pK pR pW pU pI pC uO uF uE uN wK jM jN jZ jB ++ R) (WC ca ad bq nF nO nL nA nC nV nU nP nE bF bO bL bA bC bV bU bP bE cT cK cO cQ cD pT pK pR pW pU pI pC uO uF uE uN wK jM jN jZ jB ++ R) sz) 0 0 (va_A (WC ca ad bq nF nO nL nA nC nV nU nP nE bF bO bL bA bC bV bU bP bE cT cK cO cQ cD pT pK pR pW pU pI pC uO uF uE uN wK jM jN jZ jB ++ R) sz) := by
  refine Met.ofW (cc := cX0_firstToEnd) (maxL := 3) (ret := (some .int)) (by decide) rfl ?_
  intro p e s m args below meth c s₁ B hml hv
  obtain ⟨rfl, rfl, hP, hE, hD0⟩ := hv
  have hx := B.exec
  have hb := B.bytes
  have hr := B.returns
  have hts := wm_ww (atoms_spec (ws := wm yX0_firstToEnd cX0_firstToEnd 3 (some .int)) B.pre)
  have hown : s.vm.findClass RX0 = some m.cls := findClass_of_methodNamed B.named
  have hlocks := B.notSynchronized
  have hK := hE.1
  have hD := hD0.self (sz := s.heap.size)
  generalize hAe : va_A (WC ca ad bq nF nO nL nA nC nV nU nP nE bF bO bL bA bC bV bU bP bE cT cK cO cQ cD pT pK pR pW pU pI pC uO uF uE uN wK jM jN jZ jB ++ R) s.heap.size = A at hD ⊢
  have hA : ∀ q : Nat, s.heap.size ≤ q → A q := fun q h => by rw [← hAe]; exact Or.inr h
  have hS : va_S A s.heap s.heap [] := va_S.rf
  have hl := lv_entry ([.ref (ad 6)]) (n := 3) (Nat.le_of_ble_eq_true rfl)
  rw [lg_entry_eq]
  generalize (lg_sl ([.ref (ad 6)]) ++ List.replicate (3 - (lg_sl ([.ref (ad 6)])).length) Slot.unset).toArray = ls at hl ⊢
  have hl : lv_has ls 3 [(0, .ref (ad 6))] := hl
  change W p l e ({ frames := 2, cells := 0, slots := 0, locals := 42 } : Room) s m _ below meth c s.heap [] 0 0 _ _
  generalize hQm : MQ below (QI ro D (WC ca ad bq nF nO nL nA nC nV nU nP nE bF bO bL bA bC bV bU bP bE cT cK cO cQ cD pT pK pR pW pU pI pC uO uF uE uN wK jM jN jZ jB ++ R) (WC ca ad bq nF nO nL nA nC nV nU nP nE bF bO bL bA bC bV bU bP bE cT cK cO cQ cD pT pK pR pW pU pI pC uO uF uE uN wK jM jN jZ jB ++ R) s.heap.size) _ s 0 0 A = Qm
  have hP : va_P D vwCl (WC ca ad bq nF nO nL nA nC nV nU nP nE bF bO bL bA bC bV bU bP bE cT cK cO cQ cD pT pK pR pW pU pI pC uO uF uE uN wK jM jN jZ jB ++ R) s.heap := hP
  generalize hae : ([.ref (ad 6)] : List Value).toArray = args at hts hQm ⊢
  have L4 : ∀ (n : Nat) (v1 : Int32) (v2 : Int32) (y1 : Int32), f_H_firstToEnd_L4 n v1 v2 uO uE uN = some y1 → ∀ (H : Heap) (locs : List Loc) (ls : Array Slot), va_P D vwCl (WC ca ad bq nF nO nL nA nC nV nU nP nE bF bO bL bA bC bV bU bP bE cT cK cO cQ cD pT pK pR pW pU pI pC uO uF uE uN wK jM jN jZ jB ++ R) H → va_D A (WC ca ad bq nF nO nL nA nC nV nU nP nE bF bO bL bA bC bV bU bP bE cT cK cO cQ cD pT pK pR pW pU pI pC uO uF uE uN wK jM jN jZ jB ++ R) → va_S A s.heap H locs → lv_has ls 3 [(0, .ref (ad 6)), (1, .int v1), (2, .int v2)] → (∀ (H : Heap) (locs : List Loc) (ls : Array Slot), va_P D vwCl (WC ca ad bq nF nO nL nA nC nV nU nP nE bF bO bL bA bC bV bU bP bE cT cK cO cQ cD pT pK pR pW pU pI pC uO uF uE uN wK jM jN jZ jB ++ R) H → va_D A (WC ca ad bq nF nO nL nA nC nV nU nP nE bF bO bL bA bC bV bU bP bE cT cK cO cQ cD pT pK pR pW pU pI pC uO uF uE uN wK jM jN jZ jB ++ R) → va_S A s.heap H locs → lv_has ls 3 [(1, .int y1)] → W p l e ({ frames := 2, cells := 0, slots := 0, locals := 42 } : Room) s m args below meth c H locs 0 0 Qm (F0 m 47 ls [])) → W p l e ({ frames := 2, cells := 0, slots := 0, locals := 42 } : Room) s m args below meth c H locs 0 0 Qm (F0 m 4 ls []) := by
    intro n
    induction n with
    | zero => intro v1 v2 y1 hf; cases hf
    | succ n ih =>
      intro v1 v2 y1 hf H locs ls hP hD hS hl kk
      unfold f_H_firstToEnd_L4 at hf
      refine lv_iload_n hx hb dX0_firstToEnd_4 rfl (lv_at hl 2 rfl) ?_
      refine lv_aload_n hx hb dX0_firstToEnd_5 rfl (lv_at hl 0 rfl) ?_
      refine va_get (D := D) (ci := 4) (v := .int uO) (C := RX0) (T := TX0) (N := 4) hx hb hts inX0 hown hK hP 33 rfl rfl 0 (by decide) (hts _ q136) (fun _ h9 => h9) rfl dX0_firstToEnd_6 ?_
      refine lv_icmp_ge (tgt := 47) hx hb dX0_firstToEnd_9 (by decide) (fun c10 => ?_) (fun c10 => ?_)
      · have hf := br_pos c10 hf
        cases hf
        exact kk _ _ _ hP hD hS (lv_sub hl [1] rfl)
      · have hf := br_neg c10 hf
        refine lv_aload_n hx hb dX0_firstToEnd_12 rfl (lv_at hl 0 rfl) ?_
        refine lv_iload_n hx hb dX0_firstToEnd_13 rfl (lv_at hl 2 rfl) ?_
        obtain ⟨r11, h12, hf⟩ := bnd hf
        refine call_vi (rest := []) (m_H_isStillOpen l ca ad bq nF nO nL nA nC nV nU nP nE bF bO bL bA bC bV bU bP bE cT cK cO cQ cD pT pK pR pW pU pI pC uO uF uE uN wK jM jN jZ jB R _ v2 r11 h12) ⟨hx, hb, hml, hown, hts⟩ (cwV 1 hts (gV q468 q469 q470 q28 q471) rfl rfl rfl (by decide +kernel) ⟨Nat.le_of_ble_eq_true rfl, Nat.le_of_ble_eq_true rfl⟩) (va_recv hK hP (ci := 4) (q0 := 33) rfl rfl) hE hP hD hS hA rfl hl.1 rfl (lv_room (Nat.le_of_ble_eq_true rfl)) dX0_firstToEnd_14 ⟨Nat.le_of_ble_eq_true rfl, Nat.le_of_ble_eq_true rfl⟩ (fun H locs hP hD hS => ?_)
        refine lv_if_eq (tgt := 41) hx hb dX0_firstToEnd_17 (by decide) (fun c13 => ?_) (fun c13 => ?_)
        · have hf := br_pos c13 hf
          refine lv_iinc (v := (v2 + 1)) (lv' := [(2, .int (v2 + 1)), (0, .ref (ad 6)), (1, .int v1)]) hx hb dX0_firstToEnd_41 hl (k := 2) rfl rfl (by decide) rfl (fun ls hl => ?_)
          refine lv_goto (tgt := 4) hx hb dX0_firstToEnd_44 (by decide) ?_
          exact ih v1 (v2 + 1) _ hf _ _ _ hP hD hS (lv_sub hl [1, 2, 0] rfl) kk
        · have hf := br_neg c13 hf
          refine lv_iload_n hx hb dX0_firstToEnd_20 rfl (lv_at hl 1 rfl) ?_
          refine lv_iconst (v := (-1)) hx hb dX0_firstToEnd_21 (by decide) ?_
          refine lv_icmp_eq (tgt := 39) hx hb dX0_firstToEnd_22 (by decide) (fun c14 => ?_) (fun c14 => ?_)
          · have hf := br_pos c14 hf
            refine lv_iload_n hx hb dX0_firstToEnd_39 rfl (lv_at hl 2 rfl) ?_
            refine lv_istore_n (lv' := [(1, .int v2), (0, .ref (ad 6)), (2, .int v2)]) hx hb dX0_firstToEnd_40 rfl hl (by decide) rfl (fun ls hl => ?_)
            refine lv_iinc (v := (v2 + 1)) (lv' := [(2, .int (v2 + 1)), (1, .int v2), (0, .ref (ad 6))]) hx hb dX0_firstToEnd_41 hl (k := 2) rfl rfl (by decide) rfl (fun ls hl => ?_)
            refine lv_goto (tgt := 4) hx hb dX0_firstToEnd_44 (by decide) ?_
            exact ih v2 (v2 + 1) _ hf _ _ _ hP hD hS (lv_sub hl [2, 1, 0] rfl) kk
          · have hf := br_neg c14 hf
            refine lv_aload_n hx hb dX0_firstToEnd_25 rfl (lv_at hl 0 rfl) ?_
            refine va_get (D := D) (ci := 4) (v := .ref (ad 29)) (C := RX0) (T := TX0) (N := 4) hx hb hts inX0 hown hK hP 33 rfl rfl 2 (by decide) (hts _ q138) (fun _ h9 => h9) rfl dX0_firstToEnd_26 ?_
            refine lv_iload_n hx hb dX0_firstToEnd_29 rfl (lv_at hl 2 rfl) ?_
            obtain ⟨k15, hf⟩ := ck_not hf
            refine va_iald (D := D) hx hb hK hP 35 0 rfl rfl k15 dX0_firstToEnd_30 ?_
            refine lv_aload_n hx hb dX0_firstToEnd_31 rfl (lv_at hl 0 rfl) ?_
            refine lv_iload_n hx hb dX0_firstToEnd_32 rfl (lv_at hl 1 rfl) ?_
            obtain ⟨r16, h17, hf⟩ := bnd hf
            refine call_vi (rest := [.int (uE v2.toNatClampNeg)]) (m_H_endOf l ca ad bq nF nO nL nA nC nV nU nP nE bF bO bL bA bC bV bU bP bE cT cK cO cQ cD pT pK pR pW pU pI pC uO uF uE uN wK jM jN jZ jB R _ v1 r16 h17) ⟨hx, hb, hml, hown, hts⟩ (cwV 1 hts (gV q838 q839 q840 q28 q841) rfl rfl rfl (by decide +kernel) ⟨Nat.le_of_ble_eq_true rfl, Nat.le_of_ble_eq_true rfl⟩) (va_recv hK hP (ci := 4) (q0 := 33) rfl rfl) hE hP hD hS hA rfl hl.1 rfl (lv_room (Nat.le_of_ble_eq_true rfl)) dX0_firstToEnd_33 ⟨Nat.le_of_ble_eq_true rfl, Nat.le_of_ble_eq_true rfl⟩ (fun H locs hP hD hS => ?_)
            refine lv_icmp_ge (tgt := 41) hx hb dX0_firstToEnd_36 (by decide) (fun c18 => ?_) (fun c18 => ?_)
            · have hf := br_pos c18 hf
              refine lv_iinc (v := (v2 + 1)) (lv' := [(2, .int (v2 + 1)), (0, .ref (ad 6)), (1, .int v1)]) hx hb dX0_firstToEnd_41 hl (k := 2) rfl rfl (by decide) rfl (fun ls hl => ?_)
              refine lv_goto (tgt := 4) hx hb dX0_firstToEnd_44 (by decide) ?_
              exact ih v1 (v2 + 1) _ hf _ _ _ hP hD hS (lv_sub hl [1, 2, 0] rfl) kk
            · have hf := br_neg c18 hf
              refine lv_iload_n hx hb dX0_firstToEnd_39 rfl (lv_at hl 2 rfl) ?_
              refine lv_istore_n (lv' := [(1, .int v2), (0, .ref (ad 6)), (2, .int v2)]) hx hb dX0_firstToEnd_40 rfl hl (by decide) rfl (fun ls hl => ?_)
              refine lv_iinc (v := (v2 + 1)) (lv' := [(2, .int (v2 + 1)), (1, .int v2), (0, .ref (ad 6))]) hx hb dX0_firstToEnd_41 hl (k := 2) rfl rfl (by decide) rfl (fun ls hl => ?_)
              refine lv_goto (tgt := 4) hx hb dX0_firstToEnd_44 (by decide) ?_
              exact ih v2 (v2 + 1) _ hf _ _ _ hP hD hS (lv_sub hl [2, 1, 0] rfl) kk
  refine lv_iconst (v := (-1)) hx hb dX0_firstToEnd_0 (by decide) ?_
  refine lv_istore_n (lv' := [(1, .int (-1)), (0, .ref (ad 6))]) hx hb dX0_firstToEnd_1 rfl hl (by decide) rfl (fun ls hl => ?_)
  refine lv_iconst (v := 0) hx hb dX0_firstToEnd_2 (by decide) ?_
  refine lv_istore_n (lv' := [(2, .int 0), (1, .int (-1)), (0, .ref (ad 6))]) hx hb dX0_firstToEnd_3 rfl hl (by decide) rfl (fun ls hl => ?_)
  obtain ⟨x20, h19, hf⟩ := bnd hf
  refine L4 FU (-1) 0 x20 h19 _ _ _ hP hD hS (lv_sub hl [2, 1, 0] rfl) (fun H locs ls hP hD hS hl => ?_)
  refine lv_iload_n hx hb dX0_firstToEnd_47 rfl (lv_at hl 0 rfl) ?_
  cases hf
  exact end_i hAe hQm hx hb hr hlocks rfl hP hD hS dX0_firstToEnd_48
