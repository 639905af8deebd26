/-! printed by program out of the bytecode: pure functions and contracts -/
def f_S_hasFile (p1 : Int32) (nF : Int32) : Option (Int32) :=
  if p1 < 0 then
    some 0
  else
    if nF ≤ p1 then
      some 0
    else
      if 40 ≤ p1 then
        some 0
      else
        some 1
set_option maxHeartbeats 4000000 in
set_option maxRecDepth 100000 in
theorem m_S_hasFile (l : Launch) {D : va_G} {sl : List (String × Nat × String)} (ca : Nat → ClassId) (ad : Nat → Nat) (bq : Nat) (nF : Int32) (nO : Nat → Int32) (nL : Nat → Int32) (nA : Nat → Int32) (nC : Nat → Int32) (nV : Nat → Int32) (nU : Nat → Int32) (nP : Nat → Int32) (nE : Int32) (bF : Int32) (bO : Nat → Int32) (bL : Nat → Int32) (bA : Nat → Int32) (bC : Nat → Int32) (bV : Nat → Int32) (bU : Nat → Int32) (bP : Nat → Int32) (bE : Int32) (cT : Int32) (cK : Nat → Int32) (cO : Int32) (cQ : Nat → Int32) (cD : Int32) (pT : Int32) (pK : Int32) (pR : Nat → Int32) (pW : Nat → Int32) (pU : Nat → Int32) (pI : Nat → Int32) (pC : Nat → Nat → Int32) (uO : Int32) (uF : Nat → Int32) (uE : Nat → Int32) (uN : Nat → Int32) (wK : Nat → Int32) (jM : Int32) (jN : Int32) (jZ : Nat) (jB : Nat → Int32) (R : va_W) (sz : Nat) (p1 : Int32) (ro : Int32) (hf : f_S_hasFile p1 nF = some ro) : Met l yX2_hasFile (wm yX2_hasFile cX2_hasFile 2 (some .boolean)) ({ frames := 0, cells := 0, slots := 0, locals := 0 } : Room) (PRE [.ref (ad 1), .int p1] D ca sl (WC ca ad bq nF nO nL nA nC nV nU nP nE bF bO bL bA bC bV bU bP bE cT cK cO cQ cD pT pK pR pW pU pI pC uO uF uE uN wK jM jN jZ jB ++ R) sz) (QI ro D (WC ca ad bq nF nO nL nA nC nV nU nP nE bF bO bL bA bC bV bU bP bE cT cK cO cQ cD pT pK pR pW pU pI pC uO uF uE uN wK jM jN jZ jB ++ R) (WC ca ad bq nF nO nL nA nC nV nU nP nE bF bO bL bA bC bV bU bP bE cT cK cO cQ cD pT pK pR pW pU pI pC uO uF uE uN wK jM jN jZ jB ++ R) sz) 0 0 (va_A (WC ca ad bq nF nO nL nA nC nV nU nP nE bF bO bL bA bC bV bU bP bE cT cK cO cQ cD pT pK pR pW pU pI pC uO uF uE uN wK jM jN jZ jB ++ R) sz) := by
  refine Met.ofW (cc := cX2_hasFile) (maxL := 2) (ret := (some .boolean)) (by decide) rfl ?_
  intro p e s m args below meth c s₁ B hml hv
  obtain ⟨rfl, rfl, hP, hE, hD0⟩ := hv
  have hx := B.exec
  have hb := B.bytes
  have hr := B.returns
  have hts := wm_ww (atoms_spec (ws := wm yX2_hasFile cX2_hasFile 2 (some .boolean)) B.pre)
  have hown : s.vm.findClass RX2 = some m.cls := findClass_of_methodNamed B.named
  have hlocks := B.notSynchronized
  have hK := hE.1
  have hD := hD0.self (sz := s.heap.size)
  generalize hAe : va_A (WC ca ad bq nF nO nL nA nC nV nU nP nE bF bO bL bA bC bV bU bP bE cT cK cO cQ cD pT pK pR pW pU pI pC uO uF uE uN wK jM jN jZ jB ++ R) s.heap.size = A at hD ⊢
  have hA : ∀ q : Nat, s.heap.size ≤ q → A q := fun q h => by rw [← hAe]; exact Or.inr h
  have hS : va_S A s.heap s.heap [] := va_S.rf
  have hl := lv_entry ([.ref (ad 1), .int p1]) (n := 2) (Nat.le_of_ble_eq_true rfl)
  rw [lg_entry_eq]
  generalize (lg_sl ([.ref (ad 1), .int p1]) ++ List.replicate (2 - (lg_sl ([.ref (ad 1), .int p1])).length) Slot.unset).toArray = ls at hl ⊢
  have hl : lv_has ls 2 [(0, .ref (ad 1)), (1, .int p1)] := hl
  change W p l e ({ frames := 0, cells := 0, slots := 0, locals := 0 } : Room) s m _ below meth c s.heap [] 0 0 _ _
  generalize hQm : MQ below (QI ro D (WC ca ad bq nF nO nL nA nC nV nU nP nE bF bO bL bA bC bV bU bP bE cT cK cO cQ cD pT pK pR pW pU pI pC uO uF uE uN wK jM jN jZ jB ++ R) (WC ca ad bq nF nO nL nA nC nV nU nP nE bF bO bL bA bC bV bU bP bE cT cK cO cQ cD pT pK pR pW pU pI pC uO uF uE uN wK jM jN jZ jB ++ R) s.heap.size) _ s 0 0 A = Qm
  have hP : va_P D vwCl (WC ca ad bq nF nO nL nA nC nV nU nP nE bF bO bL bA bC bV bU bP bE cT cK cO cQ cD pT pK pR pW pU pI pC uO uF uE uN wK jM jN jZ jB ++ R) s.heap := hP
  generalize hae : ([.ref (ad 1), .int p1] : List Value).toArray = args at hts hQm ⊢
  refine lv_iload_n hx hb dX2_hasFile_0 rfl (lv_at hl 1 rfl) ?_
  refine lv_if_lt (tgt := 22) hx hb dX2_hasFile_1 (by decide) (fun c1 => ?_) (fun c1 => ?_)
  · have hf := br_pos c1 hf
    refine lv_iconst (v := 0) hx hb dX2_hasFile_22 (by decide) ?_
    cases hf
    exact end_i hAe hQm hx hb hr hlocks rfl hP hD hS dX2_hasFile_23
  · have hf := br_neg c1 hf
    refine lv_iload_n hx hb dX2_hasFile_4 rfl (lv_at hl 1 rfl) ?_
    refine lv_aload_n hx hb dX2_hasFile_5 rfl (lv_at hl 0 rfl) ?_
    refine va_get (D := D) (ci := 6) (v := .int nF) (C := RX2) (T := TX2) (N := 9) hx hb hts inX2 hown hK hP 1 rfl rfl 0 (by decide) (hts _ q68) (fun _ h9 => h9) rfl dX2_hasFile_6 ?_
    refine lv_icmp_ge (tgt := 22) hx hb dX2_hasFile_9 (by decide) (fun c2 => ?_) (fun c2 => ?_)
    · have hf := br_pos c2 hf
      refine lv_iconst (v := 0) hx hb dX2_hasFile_22 (by decide) ?_
      cases hf
      exact end_i hAe hQm hx hb hr hlocks rfl hP hD hS dX2_hasFile_23
    · have hf := br_neg c2 hf
      refine lv_iload_n hx hb dX2_hasFile_12 rfl (lv_at hl 1 rfl) ?_
      refine lv_bipush (v := 40) hx hb dX2_hasFile_13 (by decide) ?_
      refine lv_icmp_ge (tgt := 22) hx hb dX2_hasFile_15 (by decide) (fun c3 => ?_) (fun c3 => ?_)
      · have hf := br_pos c3 hf
        refine lv_iconst (v := 0) hx hb dX2_hasFile_22 (by decide) ?_
        cases hf
        exact end_i hAe hQm hx hb hr hlocks rfl hP hD hS dX2_hasFile_23
      · have hf := br_neg c3 hf
        refine lv_iconst (v := 1) hx hb dX2_hasFile_18 (by decide) ?_
        refine lv_goto (tgt := 23) hx hb dX2_hasFile_19 (by decide) ?_
        cases hf
        exact end_i hAe hQm hx hb hr hlocks rfl hP hD hS dX2_hasFile_23
def f_S_isAlive (p1 : Int32) (nF : Int32) (nA : Nat → Int32) : Option (Int32) :=
  (f_S_hasFile p1 nF).bind fun r1 =>
  if r1 = 0 then
    some 0
  else
    if p1 < 0 ∨ 40 ≤ p1.toNatClampNeg then none else
      if (nA p1.toNatClampNeg) = 0 then
      some 0
    else
      some 1
set_option maxHeartbeats 4000000 in
set_option maxRecDepth 100000 in
theorem m_S_isAlive (l : Launch) {D : va_G} {sl : List (String × Nat × String)} (ca : Nat → ClassId) (ad : Nat → Nat) (bq : Nat) (nF : Int32) (nO : Nat → Int32) (nL : Nat → Int32) (nA : Nat → Int32) (nC : Nat → Int32) (nV : Nat → Int32) (nU : Nat → Int32) (nP : Nat → Int32) (nE : Int32) (bF : Int32) (bO : Nat → Int32) (bL : Nat → Int32) (bA : Nat → Int32) (bC : Nat → Int32) (bV : Nat → Int32) (bU : Nat → Int32) (bP : Nat → Int32) (bE : Int32) (cT : Int32) (cK : Nat → Int32) (cO : Int32) (cQ : Nat → Int32) (cD : Int32) (pT : Int32) (pK : Int32) (pR : Nat → Int32) (pW : Nat → Int32) (pU : Nat → Int32) (pI : Nat → Int32) (pC : Nat → Nat → Int32) (uO : Int32) (uF : Nat → Int32) (uE : Nat → Int32) (uN : Nat → Int32) (wK : Nat → Int32) (jM : Int32) (jN : Int32) (jZ : Nat) (jB : Nat → Int32) (R : va_W) (sz : Nat) (p1 : Int32) (ro : Int32) (hf : f_S_isAlive p1 nF nA = some ro) : Met l yX2_isAlive (wm yX2_isAlive cX2_isAlive 2 (some .boolean)) ({ frames := 1, cells := 0, slots := 0, locals := 21 } : Room) (PRE [.ref (ad 1), .int p1] D ca sl (WC ca ad bq nF nO nL nA nC nV nU nP nE bF bO bL bA bC bV bU bP bE cT cK cO cQ cD pT pK pR pW pU pI pC uO uF uE uN wK jM jN jZ jB ++ R) sz) (QI ro D (WC ca ad bq nF nO nL nA nC nV nU nP nE bF bO bL bA bC bV bU bP bE cT cK cO cQ cD pT pK pR pW pU pI pC uO uF uE uN wK jM jN jZ jB ++ R) (WC ca ad bq nF nO nL nA nC nV nU nP nE bF bO bL bA bC bV bU bP bE cT cK cO cQ cD pT pK pR pW pU pI pC uO uF uE uN wK jM jN jZ jB ++ R) sz) 0 0 (va_A (WC ca ad bq nF nO nL nA nC nV nU nP nE bF bO bL bA bC bV bU bP bE cT cK cO cQ cD pT pK pR pW pU pI pC uO uF uE uN wK jM jN jZ jB ++ R) sz) := by
  refine Met.ofW (cc := cX2_isAlive) (maxL := 2) (ret := (some .boolean)) (by decide) rfl ?_
  intro p e s m args below meth c s₁ B hml hv
  obtain ⟨rfl, rfl, hP, hE, hD0⟩ := hv
  have hx := B.exec
  have hb := B.bytes
  have hr := B.returns
  have hts := wm_ww (atoms_spec (ws := wm yX2_isAlive cX2_isAlive 2 (some .boolean)) B.pre)
  have hown : s.vm.findClass RX2 = some m.cls := findClass_of_methodNamed B.named
  have hlocks := B.notSynchronized
  have hK := hE.1
  have hD := hD0.self (sz := s.heap.size)
  generalize hAe : va_A (WC ca ad bq nF nO nL nA nC nV nU nP nE bF bO bL bA bC bV bU bP bE cT cK cO cQ cD pT pK pR pW pU pI pC uO uF uE uN wK jM jN jZ jB ++ R) s.heap.size = A at hD ⊢
  have hA : ∀ q : Nat, s.heap.size ≤ q → A q := fun q h => by rw [← hAe]; exact Or.inr h
  have hS : va_S A s.heap s.heap [] := va_S.rf
  have hl := lv_entry ([.ref (ad 1), .int p1]) (n := 2) (Nat.le_of_ble_eq_true rfl)
  rw [lg_entry_eq]
  generalize (lg_sl ([.ref (ad 1), .int p1]) ++ List.replicate (2 - (lg_sl ([.ref (ad 1), .int p1])).length) Slot.unset).toArray = ls at hl ⊢
  have hl : lv_has ls 2 [(0, .ref (ad 1)), (1, .int p1)] := hl
  change W p l e ({ frames := 1, cells := 0, slots := 0, locals := 21 } : Room) s m _ below meth c s.heap [] 0 0 _ _
  generalize hQm : MQ below (QI ro D (WC ca ad bq nF nO nL nA nC nV nU nP nE bF bO bL bA bC bV bU bP bE cT cK cO cQ cD pT pK pR pW pU pI pC uO uF uE uN wK jM jN jZ jB ++ R) (WC ca ad bq nF nO nL nA nC nV nU nP nE bF bO bL bA bC bV bU bP bE cT cK cO cQ cD pT pK pR pW pU pI pC uO uF uE uN wK jM jN jZ jB ++ R) s.heap.size) _ s 0 0 A = Qm
  have hP : va_P D vwCl (WC ca ad bq nF nO nL nA nC nV nU nP nE bF bO bL bA bC bV bU bP bE cT cK cO cQ cD pT pK pR pW pU pI pC uO uF uE uN wK jM jN jZ jB ++ R) s.heap := hP
  generalize hae : ([.ref (ad 1), .int p1] : List Value).toArray = args at hts hQm ⊢
  refine lv_aload_n hx hb dX2_isAlive_0 rfl (lv_at hl 0 rfl) ?_
  refine lv_iload_n hx hb dX2_isAlive_1 rfl (lv_at hl 1 rfl) ?_
  obtain ⟨r1, h2, hf⟩ := bnd hf
  refine call_vi (rest := []) (m_S_hasFile l ca ad bq nF nO nL nA nC nV nU nP nE bF bO bL bA bC bV bU bP bE cT cK cO cQ cD pT pK pR pW pU pI pC uO uF uE uN wK jM jN jZ jB R _ p1 r1 h2) ⟨hx, hb, hml, hown, hts⟩ (cwV 1 hts (gV q433 q425 q426 q25 q427) rfl rfl rfl (by decide +kernel) ⟨Nat.le_of_ble_eq_true rfl, Nat.le_of_ble_eq_true rfl⟩) (va_recv hK hP (ci := 6) (q0 := 1) rfl rfl) hE hP hD hS hA rfl hl.1 rfl (lv_room (Nat.le_of_ble_eq_true rfl)) dX2_isAlive_2 ⟨Nat.le_of_ble_eq_true rfl, Nat.le_of_ble_eq_true rfl⟩ (fun H locs hP hD hS => ?_)
  refine lv_if_eq (tgt := 21) hx hb dX2_isAlive_5 (by decide) (fun c3 => ?_) (fun c3 => ?_)
  · have hf := br_pos c3 hf
    refine lv_iconst (v := 0) hx hb dX2_isAlive_21 (by decide) ?_
    cases hf
    exact end_i hAe hQm hx hb hr hlocks rfl hP hD hS dX2_isAlive_22
  · have hf := br_neg c3 hf
    refine lv_aload_n hx hb dX2_isAlive_8 rfl (lv_at hl 0 rfl) ?_
    refine va_get (D := D) (ci := 6) (v := .ref (ad 11)) (C := RX2) (T := TX2) (N := 9) hx hb hts inX2 hown hK hP 1 rfl rfl 3 (by decide) (hts _ q71) (fun _ h9 => h9) rfl dX2_isAlive_9 ?_
    refine lv_iload_n hx hb dX2_isAlive_12 rfl (lv_at hl 1 rfl) ?_
    obtain ⟨k4, hf⟩ := ck_not hf
    refine va_zald (D := D) hx hb hK hP 4 1 rfl rfl k4 dX2_isAlive_13 ?_
    refine lv_if_eq (tgt := 21) hx hb dX2_isAlive_14 (by decide) (fun c5 => ?_) (fun c5 => ?_)
    · have hf := br_pos c5 hf
      refine lv_iconst (v := 0) hx hb dX2_isAlive_21 (by decide) ?_
      cases hf
      exact end_i hAe hQm hx hb hr hlocks rfl hP hD hS dX2_isAlive_22
    · have hf := br_neg c5 hf
      refine lv_iconst (v := 1) hx hb dX2_isAlive_17 (by decide) ?_
      refine lv_goto (tgt := 22) hx hb dX2_isAlive_18 (by decide) ?_
      cases hf
      exact end_i hAe hQm hx hb hr hlocks rfl hP hD hS dX2_isAlive_22
def f_C_isPlace (p0 : Int32) : Option (Int32) :=
  if p0 < 0 then
    some 0
  else
    if 16 ≤ p0 then
      some 0
    else
      some 1
set_option maxHeartbeats 4000000 in
set_option maxRecDepth 100000 in
theorem m_C_isPlace (l : Launch) {D : va_G} {sl : List (String × Nat × String)} (ca : Nat → ClassId) (ad : Nat → Nat) (bq : Nat) (nF : Int32) (nO : Nat → Int32) (nL : Nat → Int32) (nA : Nat → Int32) (nC : Nat → Int32) (nV : Nat → Int32) (nU : Nat → Int32) (nP : Nat → Int32) (nE : Int32) (bF : Int32) (bO : Nat → Int32) (bL : Nat → Int32) (bA : Nat → Int32) (bC : Nat → Int32) (bV : Nat → Int32) (bU : Nat → Int32) (bP : Nat → Int32) (bE : Int32) (cT : Int32) (cK : Nat → Int32) (cO : Int32) (cQ : Nat → Int32) (cD : Int32) (pT : Int32) (pK : Int32) (pR : Nat → Int32) (pW : Nat → Int32) (pU : Nat → Int32) (pI : Nat → Int32) (pC : Nat → Nat → Int32) (uO : Int32) (uF : Nat → Int32) (uE : Nat → Int32) (uN : Nat → Int32) (wK : Nat → Int32) (jM : Int32) (jN : Int32) (jZ : Nat) (jB : Nat → Int32) (R : va_W) (sz : Nat) (p0 : Int32) (ro : Int32) (hf : f_C_isPlace p0 = some ro) : Met l yX3_isPlace (wm yX3_isPlace cX3_isPlace 1 (some .boolean)) ({ frames := 0, cells := 0, slots := 0, locals := 0 } : Room) (PRE [.int p0] D ca sl (WC ca ad bq nF nO nL nA nC nV nU nP nE bF bO bL bA bC bV bU bP bE cT cK cO cQ cD pT pK pR pW pU pI pC uO uF uE uN wK jM jN jZ jB ++ R) sz) (QI ro D (WC ca ad bq nF nO nL nA nC nV nU nP nE bF bO bL bA bC bV bU bP bE cT cK cO cQ cD pT pK pR pW pU pI pC uO uF uE uN wK jM jN jZ jB ++ R) (WC ca ad bq nF nO nL nA nC nV nU nP nE bF bO bL bA bC bV bU bP bE cT cK cO cQ cD pT pK pR pW pU pI pC uO uF uE uN wK jM jN jZ jB ++ R) sz) 0 0 (va_A (WC ca ad bq nF nO nL nA nC nV nU nP nE bF bO bL bA bC bV bU bP bE cT cK cO cQ cD pT pK pR pW pU pI pC uO uF uE uN wK jM jN jZ jB ++ R) sz) := by
  refine Met.ofW (cc := cX3_isPlace) (maxL := 1) (ret := (some .boolean)) (by decide) rfl ?_
  intro p e s m args below meth c s₁ B hml hv
  obtain ⟨rfl, rfl, hP, hE, hD0⟩ := hv
  have hx := B.exec
  have hb := B.bytes
  have hr := B.returns
  have hts := wm_ww (atoms_spec (ws := wm yX3_isPlace cX3_isPlace 1 (some .boolean)) B.pre)
  have hown : s.vm.findClass RX3 = some m.cls := findClass_of_methodNamed B.named
  have hlocks := B.notSynchronized
  have hK := hE.1
  have hD := hD0.self (sz := s.heap.size)
  generalize hAe : va_A (WC ca ad bq nF nO nL nA nC nV nU nP nE bF bO bL bA bC bV bU bP bE cT cK cO cQ cD pT pK pR pW pU pI pC uO uF uE uN wK jM jN jZ jB ++ R) s.heap.size = A at hD ⊢
  have hA : ∀ q : Nat, s.heap.size ≤ q → A q := fun q h => by rw [← hAe]; exact Or.inr h
  have hS : va_S A s.heap s.heap [] := va_S.rf
  have hl := lv_entry ([.int p0]) (n := 1) (Nat.le_of_ble_eq_true rfl)
  rw [lg_entry_eq]
  generalize (lg_sl ([.int p0]) ++ List.replicate (1 - (lg_sl ([.int p0])).length) Slot.unset).toArray = ls at hl ⊢
  have hl : lv_has ls 1 [(0, .int p0)] := hl
  change W p l e ({ frames := 0, cells := 0, slots := 0, locals := 0 } : Room) s m _ below meth c s.heap [] 0 0 _ _
  generalize hQm : MQ below (QI ro D (WC ca ad bq nF nO nL nA nC nV nU nP nE bF bO bL bA bC bV bU bP bE cT cK cO cQ cD pT pK pR pW pU pI pC uO uF uE uN wK jM jN jZ jB ++ R) (WC ca ad bq nF nO nL nA nC nV nU nP nE bF bO bL bA bC bV bU bP bE cT cK cO cQ cD pT pK pR pW pU pI pC uO uF uE uN wK jM jN jZ jB ++ R) s.heap.size) _ s 0 0 A = Qm
  have hP : va_P D vwCl (WC ca ad bq nF nO nL nA nC nV nU nP nE bF bO bL bA bC bV bU bP bE cT cK cO cQ cD pT pK pR pW pU pI pC uO uF uE uN wK jM jN jZ jB ++ R) s.heap := hP
  generalize hae : ([.int p0] : List Value).toArray = args at hts hQm ⊢
  refine lv_iload_n hx hb dX3_isPlace_0 rfl (lv_at hl 0 rfl) ?_
  refine lv_if_lt (tgt := 14) hx hb dX3_isPlace_1 (by decide) (fun c1 => ?_) (fun c1 => ?_)
  · have hf := br_pos c1 hf
    refine lv_iconst (v := 0) hx hb dX3_isPlace_14 (by decide) ?_
    cases hf
    exact end_i hAe hQm hx hb hr hlocks rfl hP hD hS dX3_isPlace_15
  · have hf := br_neg c1 hf
    refine lv_iload_n hx hb dX3_isPlace_4 rfl (lv_at hl 0 rfl) ?_
    refine lv_bipush (v := 16) hx hb dX3_isPlace_5 (by decide) ?_
    refine lv_icmp_ge (tgt := 14) hx hb dX3_isPlace_7 (by decide) (fun c2 => ?_) (fun c2 => ?_)
    · have hf := br_pos c2 hf
      refine lv_iconst (v := 0) hx hb dX3_isPlace_14 (by decide) ?_
      cases hf
      exact end_i hAe hQm hx hb hr hlocks rfl hP hD hS dX3_isPlace_15
    · have hf := br_neg c2 hf
      refine lv_iconst (v := 1) hx hb dX3_isPlace_10 (by decide) ?_
      refine lv_goto (tgt := 15) hx hb dX3_isPlace_11 (by decide) ?_
      cases hf
      exact end_i hAe hQm hx hb hr hlocks rfl hP hD hS dX3_isPlace_15
def f_S_blockIn (p1 : Int32) (p2 : Int32) (nF : Int32) (nC : Nat → Int32) : Option (Int32) :=
  (f_S_hasFile p1 nF).bind fun r1 =>
  if r1 = 0 then
    some (-1)
  else
    (f_C_isPlace p2).bind fun r4 =>
    if r4 = 0 then
      some (-1)
    else
      if ((p1 * 16) + p2) < 0 ∨ 640 ≤ ((p1 * 16) + p2).toNatClampNeg then none else
        some (nC ((p1 * 16) + p2).toNatClampNeg)
set_option maxHeartbeats 4000000 in
set_option maxRecDepth 100000 in
theorem m_S_blockIn (l : Launch) {D : va_G} {sl : List (String × Nat × String)} (ca : Nat → ClassId) (ad : Nat → Nat) (bq : Nat) (nF : Int32) (nO : Nat → Int32) (nL : Nat → Int32) (nA : Nat → Int32) (nC : Nat → Int32) (nV : Nat → Int32) (nU : Nat → Int32) (nP : Nat → Int32) (nE : Int32) (bF : Int32) (bO : Nat → Int32) (bL : Nat → Int32) (bA : Nat → Int32) (bC : Nat → Int32) (bV : Nat → Int32) (bU : Nat → Int32) (bP : Nat → Int32) (bE : Int32) (cT : Int32) (cK : Nat → Int32) (cO : Int32) (cQ : Nat → Int32) (cD : Int32) (pT : Int32) (pK : Int32) (pR : Nat → Int32) (pW : Nat → Int32) (pU : Nat → Int32) (pI : Nat → Int32) (pC : Nat → Nat → Int32) (uO : Int32) (uF : Nat → Int32) (uE : Nat → Int32) (uN : Nat → Int32) (wK : Nat → Int32) (jM : Int32) (jN : Int32) (jZ : Nat) (jB : Nat → Int32) (R : va_W) (sz : Nat) (p1 : Int32) (p2 : Int32) (ro : Int32) (hf : f_S_blockIn p1 p2 nF nC = some ro) : Met l yX2_blockIn (wm yX2_blockIn cX2_blockIn 3 (some .int)) ({ frames := 1, cells := 0, slots := 0, locals := 21 } : Room) (PRE [.ref (ad 1), .int p1, .int p2] D ca sl (WC ca ad bq nF nO nL nA nC nV nU nP nE bF bO bL bA bC bV bU bP bE cT cK cO cQ cD pT pK pR pW pU pI pC uO uF uE uN wK jM jN jZ jB ++ R) sz) (QI ro D (WC ca ad bq nF nO nL nA nC nV nU nP nE bF bO bL bA bC bV bU bP bE cT cK cO cQ cD pT pK pR pW pU pI pC uO uF uE uN wK jM jN jZ jB ++ R) (WC ca ad bq nF nO nL nA nC nV nU nP nE bF bO bL bA bC bV bU bP bE cT cK cO cQ cD pT pK pR pW pU pI pC uO uF uE uN wK jM jN jZ jB ++ R) sz) 0 0 (va_A (WC ca ad bq nF nO nL nA nC nV nU nP nE bF bO bL bA bC bV bU bP bE cT cK cO cQ cD pT pK pR pW pU pI pC uO uF uE uN wK jM jN jZ jB ++ R) sz) := by
  refine Met.ofW (cc := cX2_blockIn) (maxL := 3) (ret := (some .int)) (by decide) rfl ?_
  intro p e s m args below meth c s₁ B hml hv
  obtain ⟨rfl, rfl, hP, hE, hD0⟩ := hv
  have hx := B.exec
  have hb := B.bytes
  have hr := B.returns
  have hts := wm_ww (atoms_spec (ws := wm yX2_blockIn cX2_blockIn 3 (some .int)) B.pre)
  have hown : s.vm.findClass RX2 = some m.cls := findClass_of_methodNamed B.named
  have hlocks := B.notSynchronized
  have hK := hE.1
  have hD := hD0.self (sz := s.heap.size)
  generalize hAe : va_A (WC ca ad bq nF nO nL nA nC nV nU nP nE bF bO bL bA bC bV bU bP bE cT cK cO cQ cD pT pK pR pW pU pI pC uO uF uE uN wK jM jN jZ jB ++ R) s.heap.size = A at hD ⊢
  have hA : ∀ q : Nat, s.heap.size ≤ q → A q := fun q h => by rw [← hAe]; exact Or.inr h
  have hS : va_S A s.heap s.heap [] := va_S.rf
  have hl := lv_entry ([.ref (ad 1), .int p1, .int p2]) (n := 3) (Nat.le_of_ble_eq_true rfl)
  rw [lg_entry_eq]
  generalize (lg_sl ([.ref (ad 1), .int p1, .int p2]) ++ List.replicate (3 - (lg_sl ([.ref (ad 1), .int p1, .int p2])).length) Slot.unset).toArray = ls at hl ⊢
  have hl : lv_has ls 3 [(0, .ref (ad 1)), (1, .int p1), (2, .int p2)] := hl
  change W p l e ({ frames := 1, cells := 0, slots := 0, locals := 21 } : Room) s m _ below meth c s.heap [] 0 0 _ _
  generalize hQm : MQ below (QI ro D (WC ca ad bq nF nO nL nA nC nV nU nP nE bF bO bL bA bC bV bU bP bE cT cK cO cQ cD pT pK pR pW pU pI pC uO uF uE uN wK jM jN jZ jB ++ R) (WC ca ad bq nF nO nL nA nC nV nU nP nE bF bO bL bA bC bV bU bP bE cT cK cO cQ cD pT pK pR pW pU pI pC uO uF uE uN wK jM jN jZ jB ++ R) s.heap.size) _ s 0 0 A = Qm
  have hP : va_P D vwCl (WC ca ad bq nF nO nL nA nC nV nU nP nE bF bO bL bA bC bV bU bP bE cT cK cO cQ cD pT pK pR pW pU pI pC uO uF uE uN wK jM jN jZ jB ++ R) s.heap := hP
  generalize hae : ([.ref (ad 1), .int p1, .int p2] : List Value).toArray = args at hts hQm ⊢
  refine lv_aload_n hx hb dX2_blockIn_0 rfl (lv_at hl 0 rfl) ?_
  refine lv_iload_n hx hb dX2_blockIn_1 rfl (lv_at hl 1 rfl) ?_
  obtain ⟨r1, h2, hf⟩ := bnd hf
  refine call_vi (rest := []) (m_S_hasFile l ca ad bq nF nO nL nA nC nV nU nP nE bF bO bL bA bC bV bU bP bE cT cK cO cQ cD pT pK pR pW pU pI pC uO uF uE uN wK jM jN jZ jB R _ p1 r1 h2) ⟨hx, hb, hml, hown, hts⟩ (cwV 1 hts (gV q433 q425 q426 q25 q427) rfl rfl rfl (by decide +kernel) ⟨Nat.le_of_ble_eq_true rfl, Nat.le_of_ble_eq_true rfl⟩) (va_recv hK hP (ci := 6) (q0 := 1) rfl rfl) hE hP hD hS hA rfl hl.1 rfl (lv_room (Nat.le_of_ble_eq_true rfl)) dX2_blockIn_2 ⟨Nat.le_of_ble_eq_true rfl, Nat.le_of_ble_eq_true rfl⟩ (fun H locs hP hD hS => ?_)
  refine lv_if_eq (tgt := 29) hx hb dX2_blockIn_5 (by decide) (fun c3 => ?_) (fun c3 => ?_)
  · have hf := br_pos c3 hf
    refine lv_iconst (v := (-1)) hx hb dX2_blockIn_29 (by decide) ?_
    cases hf
    exact end_i hAe hQm hx hb hr hlocks rfl hP hD hS dX2_blockIn_30
  · have hf := br_neg c3 hf
    refine lv_iload_n hx hb dX2_blockIn_8 rfl (lv_at hl 2 rfl) ?_
    obtain ⟨r4, h5, hf⟩ := bnd hf
    refine call_ni (rest := []) (m_C_isPlace l ca ad bq nF nO nL nA nC nV nU nP nE bF bO bL bA bC bV bU bP bE cT cK cO cQ cD pT pK pR pW pU pI pC uO uF uE uN wK jM jN jZ jB R _ p2 r4 h5) ⟨hx, hb, hml, hown, hts⟩ ⟨va_cnB 1 hts (gM q486) rfl rfl rfl (hE.2.1 _ n484) (hts _ q24) (by decide +kernel) ⟨Nat.le_of_ble_eq_true rfl, Nat.le_of_ble_eq_true rfl⟩, hts _ q485, trivial⟩ hE hP hD hS hA rfl hl.1 rfl (lv_room (Nat.le_of_ble_eq_true rfl)) dX2_blockIn_9 ⟨Nat.le_of_ble_eq_true rfl, Nat.le_of_ble_eq_true rfl⟩ (fun H locs hP hD hS => ?_)
    refine lv_if_eq (tgt := 29) hx hb dX2_blockIn_12 (by decide) (fun c6 => ?_) (fun c6 => ?_)
    · have hf := br_pos c6 hf
      refine lv_iconst (v := (-1)) hx hb dX2_blockIn_29 (by decide) ?_
      cases hf
      exact end_i hAe hQm hx hb hr hlocks rfl hP hD hS dX2_blockIn_30
    · have hf := br_neg c6 hf
      refine lv_aload_n hx hb dX2_blockIn_15 rfl (lv_at hl 0 rfl) ?_
      refine va_get (D := D) (ci := 6) (v := .ref (ad 12)) (C := RX2) (T := TX2) (N := 9) hx hb hts inX2 hown hK hP 1 rfl rfl 4 (by decide) (hts _ q72) (fun _ h9 => h9) rfl dX2_blockIn_16 ?_
      refine lv_iload_n hx hb dX2_blockIn_19 rfl (lv_at hl 1 rfl) ?_
      refine lv_bipush (v := 16) hx hb dX2_blockIn_20 (by decide) ?_
      refine lv_imul hx hb dX2_blockIn_22 ?_
      refine lv_iload_n hx hb dX2_blockIn_23 rfl (lv_at hl 2 rfl) ?_
      refine lv_iadd hx hb dX2_blockIn_24 ?_
      obtain ⟨k7, hf⟩ := ck_not hf
      refine va_iald (D := D) hx hb hK hP 5 0 rfl rfl k7 dX2_blockIn_25 ?_
      refine lv_goto (tgt := 30) hx hb dX2_blockIn_26 (by decide) ?_
      cases hf
      exact end_i hAe hQm hx hb hr hlocks rfl hP hD hS dX2_blockIn_30
def f_C_isBlock (p0 : Int32) : Option (Int32) :=
  if p0 < 0 then
    some 0
  else
    if 64 ≤ p0 then
      some 0
    else
      some 1
set_option maxHeartbeats 4000000 in
set_option maxRecDepth 100000 in
theorem m_C_isBlock (l : Launch) {D : va_G} {sl : List (String × Nat × String)} (ca : Nat → ClassId) (ad : Nat → Nat) (bq : Nat) (nF : Int32) (nO : Nat → Int32) (nL : Nat → Int32) (nA : Nat → Int32) (nC : Nat → Int32) (nV : Nat → Int32) (nU : Nat → Int32) (nP : Nat → Int32) (nE : Int32) (bF : Int32) (bO : Nat → Int32) (bL : Nat → Int32) (bA : Nat → Int32) (bC : Nat → Int32) (bV : Nat → Int32) (bU : Nat → Int32) (bP : Nat → Int32) (bE : Int32) (cT : Int32) (cK : Nat → Int32) (cO : Int32) (cQ : Nat → Int32) (cD : Int32) (pT : Int32) (pK : Int32) (pR : Nat → Int32) (pW : Nat → Int32) (pU : Nat → Int32) (pI : Nat → Int32) (pC : Nat → Nat → Int32) (uO : Int32) (uF : Nat → Int32) (uE : Nat → Int32) (uN : Nat → Int32) (wK : Nat → Int32) (jM : Int32) (jN : Int32) (jZ : Nat) (jB : Nat → Int32) (R : va_W) (sz : Nat) (p0 : Int32) (ro : Int32) (hf : f_C_isBlock p0 = some ro) : Met l yX3_isBlock (wm yX3_isBlock cX3_isBlock 1 (some .boolean)) ({ frames := 0, cells := 0, slots := 0, locals := 0 } : Room) (PRE [.int p0] D ca sl (WC ca ad bq nF nO nL nA nC nV nU nP nE bF bO bL bA bC bV bU bP bE cT cK cO cQ cD pT pK pR pW pU pI pC uO uF uE uN wK jM jN jZ jB ++ R) sz) (QI ro D (WC ca ad bq nF nO nL nA nC nV nU nP nE bF bO bL bA bC bV bU bP bE cT cK cO cQ cD pT pK pR pW pU pI pC uO uF uE uN wK jM jN jZ jB ++ R) (WC ca ad bq nF nO nL nA nC nV nU nP nE bF bO bL bA bC bV bU bP bE cT cK cO cQ cD pT pK pR pW pU pI pC uO uF uE uN wK jM jN jZ jB ++ R) sz) 0 0 (va_A (WC ca ad bq nF nO nL nA nC nV nU nP nE bF bO bL bA bC bV bU bP bE cT cK cO cQ cD pT pK pR pW pU pI pC uO uF uE uN wK jM jN jZ jB ++ R) sz) := by
  refine Met.ofW (cc := cX3_isBlock) (maxL := 1) (ret := (some .boolean)) (by decide) rfl ?_
  intro p e s m args below meth c s₁ B hml hv
  obtain ⟨rfl, rfl, hP, hE, hD0⟩ := hv
  have hx := B.exec
  have hb := B.bytes
  have hr := B.returns
  have hts := wm_ww (atoms_spec (ws := wm yX3_isBlock cX3_isBlock 1 (some .boolean)) B.pre)
  have hown : s.vm.findClass RX3 = some m.cls := findClass_of_methodNamed B.named
  have hlocks := B.notSynchronized
  have hK := hE.1
  have hD := hD0.self (sz := s.heap.size)
  generalize hAe : va_A (WC ca ad bq nF nO nL nA nC nV nU nP nE bF bO bL bA bC bV bU bP bE cT cK cO cQ cD pT pK pR pW pU pI pC uO uF uE uN wK jM jN jZ jB ++ R) s.heap.size = A at hD ⊢
  have hA : ∀ q : Nat, s.heap.size ≤ q → A q := fun q h => by rw [← hAe]; exact Or.inr h
  have hS : va_S A s.heap s.heap [] := va_S.rf
  have hl := lv_entry ([.int p0]) (n := 1) (Nat.le_of_ble_eq_true rfl)
  rw [lg_entry_eq]
  generalize (lg_sl ([.int p0]) ++ List.replicate (1 - (lg_sl ([.int p0])).length) Slot.unset).toArray = ls at hl ⊢
  have hl : lv_has ls 1 [(0, .int p0)] := hl
  change W p l e ({ frames := 0, cells := 0, slots := 0, locals := 0 } : Room) s m _ below meth c s.heap [] 0 0 _ _
  generalize hQm : MQ below (QI ro D (WC ca ad bq nF nO nL nA nC nV nU nP nE bF bO bL bA bC bV bU bP bE cT cK cO cQ cD pT pK pR pW pU pI pC uO uF uE uN wK jM jN jZ jB ++ R) (WC ca ad bq nF nO nL nA nC nV nU nP nE bF bO bL bA bC bV bU bP bE cT cK cO cQ cD pT pK pR pW pU pI pC uO uF uE uN wK jM jN jZ jB ++ R) s.heap.size) _ s 0 0 A = Qm
  have hP : va_P D vwCl (WC ca ad bq nF nO nL nA nC nV nU nP nE bF bO bL bA bC bV bU bP bE cT cK cO cQ cD pT pK pR pW pU pI pC uO uF uE uN wK jM jN jZ jB ++ R) s.heap := hP
  generalize hae : ([.int p0] : List Value).toArray = args at hts hQm ⊢
  refine lv_iload_n hx hb dX3_isBlock_0 rfl (lv_at hl 0 rfl) ?_
  refine lv_if_lt (tgt := 14) hx hb dX3_isBlock_1 (by decide) (fun c1 => ?_) (fun c1 => ?_)
  · have hf := br_pos c1 hf
    refine lv_iconst (v := 0) hx hb dX3_isBlock_14 (by decide) ?_
    cases hf
    exact end_i hAe hQm hx hb hr hlocks rfl hP hD hS dX3_isBlock_15
  · have hf := br_neg c1 hf
    refine lv_iload_n hx hb dX3_isBlock_4 rfl (lv_at hl 0 rfl) ?_
    refine lv_bipush (v := 64) hx hb dX3_isBlock_5 (by decide) ?_
    refine lv_icmp_ge (tgt := 14) hx hb dX3_isBlock_7 (by decide) (fun c2 => ?_) (fun c2 => ?_)
    · have hf := br_pos c2 hf
      refine lv_iconst (v := 0) hx hb dX3_isBlock_14 (by decide) ?_
      cases hf
      exact end_i hAe hQm hx hb hr hlocks rfl hP hD hS dX3_isBlock_15
    · have hf := br_neg c2 hf
      refine lv_iconst (v := 1) hx hb dX3_isBlock_10 (by decide) ?_
      refine lv_goto (tgt := 15) hx hb dX3_isBlock_11 (by decide) ?_
      cases hf
      exact end_i hAe hQm hx hb hr hlocks rfl hP hD hS dX3_isBlock_15
def f_S_addUser (p1 : Int32) (nU : Nat → Int32) : Option ((Nat → Int32)) :=
  (f_C_isBlock p1).bind fun r1 =>
  if r1 = 0 then
    some nU
  else
    if p1 < 0 ∨ 64 ≤ p1.toNatClampNeg then none else
      if p1 < 0 ∨ 64 ≤ p1.toNatClampNeg then none else
      some (upd nU p1.toNatClampNeg ((nU p1.toNatClampNeg) + 1))
set_option maxHeartbeats 4000000 in
set_option maxRecDepth 100000 in
theorem m_S_addUser (l : Launch) {D : va_G} {sl : List (String × Nat × String)} (ca : Nat → ClassId) (ad : Nat → Nat) (bq : Nat) (nF : Int32) (nO : Nat → Int32) (nL : Nat → Int32) (nA : Nat → Int32) (nC : Nat → Int32) (nV : Nat → Int32) (nU : Nat → Int32) (nP : Nat → Int32) (nE : Int32) (bF : Int32) (bO : Nat → Int32) (bL : Nat → Int32) (bA : Nat → Int32) (bC : Nat → Int32) (bV : Nat → Int32) (bU : Nat → Int32) (bP : Nat → Int32) (bE : Int32) (cT : Int32) (cK : Nat → Int32) (cO : Int32) (cQ : Nat → Int32) (cD : Int32) (pT : Int32) (pK : Int32) (pR : Nat → Int32) (pW : Nat → Int32) (pU : Nat → Int32) (pI : Nat → Int32) (pC : Nat → Nat → Int32) (uO : Int32) (uF : Nat → Int32) (uE : Nat → Int32) (uN : Nat → Int32) (wK : Nat → Int32) (jM : Int32) (jN : Int32) (jZ : Nat) (jB : Nat → Int32) (R : va_W) (sz : Nat) (p1 : Int32) (onU : Nat → Int32) (hf : f_S_addUser p1 nU = some onU) : Met l yX2_addUser (wm yX2_addUser cX2_addUser 2 none) ({ frames := 1, cells := 0, slots := 0, locals := 20 } : Room) (PRE [.ref (ad 1), .int p1] D ca sl (WC ca ad bq nF nO nL nA nC nV nU nP nE bF bO bL bA bC bV bU bP bE cT cK cO cQ cD pT pK pR pW pU pI pC uO uF uE uN wK jM jN jZ jB ++ R) sz) (QV D (WC ca ad bq nF nO nL nA nC nV onU nP nE bF bO bL bA bC bV bU bP bE cT cK cO cQ cD pT pK pR pW pU pI pC uO uF uE uN wK jM jN jZ jB ++ R) (WC ca ad bq nF nO nL nA nC nV nU nP nE bF bO bL bA bC bV bU bP bE cT cK cO cQ cD pT pK pR pW pU pI pC uO uF uE uN wK jM jN jZ jB ++ R) sz) 0 0 (va_A (WC ca ad bq nF nO nL nA nC nV nU nP nE bF bO bL bA bC bV bU bP bE cT cK cO cQ cD pT pK pR pW pU pI pC uO uF uE uN wK jM jN jZ jB ++ R) sz) := by
  refine Met.ofW (cc := cX2_addUser) (maxL := 2) (ret := none) (by decide) rfl ?_
  intro p e s m args below meth c s₁ B hml hv
  obtain ⟨rfl, rfl, hP, hE, hD0⟩ := hv
  have hx := B.exec
  have hb := B.bytes
  have hr := B.returns
  have hts := wm_ww (atoms_spec (ws := wm yX2_addUser cX2_addUser 2 none) B.pre)
  have hown : s.vm.findClass RX2 = some m.cls := findClass_of_methodNamed B.named
  have hlocks := B.notSynchronized
  have hK := hE.1
  have hD := hD0.self (sz := s.heap.size)
  generalize hAe : va_A (WC ca ad bq nF nO nL nA nC nV nU nP nE bF bO bL bA bC bV bU bP bE cT cK cO cQ cD pT pK pR pW pU pI pC uO uF uE uN wK jM jN jZ jB ++ R) s.heap.size = A at hD ⊢
  have hA : ∀ q : Nat, s.heap.size ≤ q → A q := fun q h => by rw [← hAe]; exact Or.inr h
  have hS : va_S A s.heap s.heap [] := va_S.rf
  have hl := lv_entry ([.ref (ad 1), .int p1]) (n := 2) (Nat.le_of_ble_eq_true rfl)
  rw [lg_entry_eq]
  generalize (lg_sl ([.ref (ad 1), .int p1]) ++ List.replicate (2 - (lg_sl ([.ref (ad 1), .int p1])).length) Slot.unset).toArray = ls at hl ⊢
  have hl : lv_has ls 2 [(0, .ref (ad 1)), (1, .int p1)] := hl
  change W p l e ({ frames := 1, cells := 0, slots := 0, locals := 20 } : Room) s m _ below meth c s.heap [] 0 0 _ _
  generalize hQm : MQ below (QV D (WC ca ad bq nF nO nL nA nC nV onU nP nE bF bO bL bA bC bV bU bP bE cT cK cO cQ cD pT pK pR pW pU pI pC uO uF uE uN wK jM jN jZ jB ++ R) (WC ca ad bq nF nO nL nA nC nV nU nP nE bF bO bL bA bC bV bU bP bE cT cK cO cQ cD pT pK pR pW pU pI pC uO uF uE uN wK jM jN jZ jB ++ R) s.heap.size) _ s 0 0 A = Qm
  have hP : va_P D vwCl (WC ca ad bq nF nO nL nA nC nV nU nP nE bF bO bL bA bC bV bU bP bE cT cK cO cQ cD pT pK pR pW pU pI pC uO uF uE uN wK jM jN jZ jB ++ R) s.heap := hP
  generalize hae : ([.ref (ad 1), .int p1] : List Value).toArray = args at hts hQm ⊢
  refine lv_iload_n hx hb dX2_addUser_0 rfl (lv_at hl 1 rfl) ?_
  obtain ⟨r1, h2, hf⟩ := bnd hf
  refine call_ni (rest := []) (m_C_isBlock l ca ad bq nF nO nL nA nC nV nU nP nE bF bO bL bA bC bV bU bP bE cT cK cO cQ cD pT pK pR pW pU pI pC uO uF uE uN wK jM jN jZ jB R _ p1 r1 h2) ⟨hx, hb, hml, hown, hts⟩ ⟨va_cnB 1 hts (gM q493) rfl rfl rfl (hE.2.1 _ n491) (hts _ q24) (by decide +kernel) ⟨Nat.le_of_ble_eq_true rfl, Nat.le_of_ble_eq_true rfl⟩, hts _ q492, trivial⟩ hE hP hD hS hA rfl hl.1 rfl (lv_room (Nat.le_of_ble_eq_true rfl)) dX2_addUser_1 ⟨Nat.le_of_ble_eq_true rfl, Nat.le_of_ble_eq_true rfl⟩ (fun H locs hP hD hS => ?_)
  refine lv_if_eq (tgt := 17) hx hb dX2_addUser_4 (by decide) (fun c3 => ?_) (fun c3 => ?_)
  · have hf := br_pos c3 hf
    cases hf
    exact end_v hAe hQm hx hb hr hlocks hP hD hS dX2_addUser_17
  · have hf := br_neg c3 hf
    refine lv_aload_n hx hb dX2_addUser_7 rfl (lv_at hl 0 rfl) ?_
    refine va_get (D := D) (ci := 6) (v := .ref (ad 14)) (C := RX2) (T := TX2) (N := 9) hx hb hts inX2 hown hK hP 1 rfl rfl 6 (by decide) (hts _ q74) (fun _ h9 => h9) rfl dX2_addUser_8 ?_
    refine lv_iload_n hx hb dX2_addUser_11 rfl (lv_at hl 1 rfl) ?_
    refine lv_dup2_11 hx hb dX2_addUser_12 rfl rfl ?_
    obtain ⟨k4, hf⟩ := ck_not hf
    refine va_iald (D := D) hx hb hK hP 7 0 rfl rfl k4 dX2_addUser_13 ?_
    refine lv_iconst (v := 1) hx hb dX2_addUser_14 (by decide) ?_
    refine lv_iadd hx hb dX2_addUser_15 ?_
    obtain ⟨k5, hf⟩ := ck_not hf
    refine va_iast (D := D) hx hb hK hP hD hS 7 0 rfl rfl k5 dX2_addUser_16 (fun H locs hP hD hS => ?_)
    have hP : va_P D vwCl (WC ca ad bq nF nO nL nA nC nV (upd nU p1.toNatClampNeg ((nU p1.toNatClampNeg) + 1)) nP nE bF bO bL bA bC bV bU bP bE cT cK cO cQ cD pT pK pR pW pU pI pC uO uF uE uN wK jM jN jZ jB ++ R) H := hP
    have hD : va_D A (WC ca ad bq nF nO nL nA nC nV (upd nU p1.toNatClampNeg ((nU p1.toNatClampNeg) + 1)) nP nE bF bO bL bA bC bV bU bP bE cT cK cO cQ cD pT pK pR pW pU pI pC uO uF uE uN wK jM jN jZ jB ++ R) := hD
    cases hf
    exact end_v hAe hQm hx hb hr hlocks hP hD hS dX2_addUser_17
def f_S_removeUser (p1 : Int32) (nU : Nat → Int32) : Option ((Nat → Int32)) :=
  (f_C_isBlock p1).bind fun r1 =>
  if r1 = 0 then
    some nU
  else
    if p1 < 0 ∨ 64 ≤ p1.toNatClampNeg then none else
      if p1 < 0 ∨ 64 ≤ p1.toNatClampNeg then none else
      some (upd nU p1.toNatClampNeg ((nU p1.toNatClampNeg) - 1))
set_option maxHeartbeats 4000000 in
set_option maxRecDepth 100000 in
theorem m_S_removeUser (l : Launch) {D : va_G} {sl : List (String × Nat × String)} (ca : Nat → ClassId) (ad : Nat → Nat) (bq : Nat) (nF : Int32) (nO : Nat → Int32) (nL : Nat → Int32) (nA : Nat → Int32) (nC : Nat → Int32) (nV : Nat → Int32) (nU : Nat → Int32) (nP : Nat → Int32) (nE : Int32) (bF : Int32) (bO : Nat → Int32) (bL : Nat → Int32) (bA : Nat → Int32) (bC : Nat → Int32) (bV : Nat → Int32) (bU : Nat → Int32) (bP : Nat → Int32) (bE : Int32) (cT : Int32) (cK : Nat → Int32) (cO : Int32) (cQ : Nat → Int32) (cD : Int32) (pT : Int32) (pK : Int32) (pR : Nat → Int32) (pW : Nat → Int32) (pU : Nat → Int32) (pI : Nat → Int32) (pC : Nat → Nat → Int32) (uO : Int32) (uF : Nat → Int32) (uE : Nat → Int32) (uN : Nat → Int32) (wK : Nat → Int32) (jM : Int32) (jN : Int32) (jZ : Nat) (jB : Nat → Int32) (R : va_W) (sz : Nat) (p1 : Int32) (onU : Nat → Int32) (hf : f_S_removeUser p1 nU = some onU) : Met l yX2_removeUser (wm yX2_removeUser cX2_removeUser 2 none) ({ frames := 1, cells := 0, slots := 0, locals := 20 } : Room) (PRE [.ref (ad 1), .int p1] D ca sl (WC ca ad bq nF nO nL nA nC nV nU nP nE bF bO bL bA bC bV bU bP bE cT cK cO cQ cD pT pK pR pW pU pI pC uO uF uE uN wK jM jN jZ jB ++ R) sz) (QV D (WC ca ad bq nF nO nL nA nC nV onU nP nE bF bO bL bA bC bV bU bP bE cT cK cO cQ cD pT pK pR pW pU pI pC uO uF uE uN wK jM jN jZ jB ++ R) (WC ca ad bq nF nO nL nA nC nV nU nP nE bF bO bL bA bC bV bU bP bE cT cK cO cQ cD pT pK pR pW pU pI pC uO uF uE uN wK jM jN jZ jB ++ R) sz) 0 0 (va_A (WC ca ad bq nF nO nL nA nC nV nU nP nE bF bO bL bA bC bV bU bP bE cT cK cO cQ cD pT pK pR pW pU pI pC uO uF uE uN wK jM jN jZ jB ++ R) sz) := by
  refine Met.ofW (cc := cX2_removeUser) (maxL := 2) (ret := none) (by decide) rfl ?_
  intro p e s m args below meth c s₁ B hml hv
  obtain ⟨rfl, rfl, hP, hE, hD0⟩ := hv
  have hx := B.exec
  have hb := B.bytes
  have hr := B.returns
  have hts := wm_ww (atoms_spec (ws := wm yX2_removeUser cX2_removeUser 2 none) B.pre)
  have hown : s.vm.findClass RX2 = some m.cls := findClass_of_methodNamed B.named
  have hlocks := B.notSynchronized
  have hK := hE.1
  have hD := hD0.self (sz := s.heap.size)
  generalize hAe : va_A (WC ca ad bq nF nO nL nA nC nV nU nP nE bF bO bL bA bC bV bU bP bE cT cK cO cQ cD pT pK pR pW pU pI pC uO uF uE uN wK jM jN jZ jB ++ R) s.heap.size = A at hD ⊢
  have hA : ∀ q : Nat, s.heap.size ≤ q → A q := fun q h => by rw [← hAe]; exact Or.inr h
  have hS : va_S A s.heap s.heap [] := va_S.rf
  have hl := lv_entry ([.ref (ad 1), .int p1]) (n := 2) (Nat.le_of_ble_eq_true rfl)
  rw [lg_entry_eq]
  generalize (lg_sl ([.ref (ad 1), .int p1]) ++ List.replicate (2 - (lg_sl ([.ref (ad 1), .int p1])).length) Slot.unset).toArray = ls at hl ⊢
  have hl : lv_has ls 2 [(0, .ref (ad 1)), (1, .int p1)] := hl
  change W p l e ({ frames := 1, cells := 0, slots := 0, locals := 20 } : Room) s m _ below meth c s.heap [] 0 0 _ _
  generalize hQm : MQ below (QV D (WC ca ad bq nF nO nL nA nC nV onU nP nE bF bO bL bA bC bV bU bP bE cT cK cO cQ cD pT pK pR pW pU pI pC uO uF uE uN wK jM jN jZ jB ++ R) (WC ca ad bq nF nO nL nA nC nV nU nP nE bF bO bL bA bC bV bU bP bE cT cK cO cQ cD pT pK pR pW pU pI pC uO uF uE uN wK jM jN jZ jB ++ R) s.heap.size) _ s 0 0 A = Qm
  have hP : va_P D vwCl (WC ca ad bq nF nO nL nA nC nV nU nP nE bF bO bL bA bC bV bU bP bE cT cK cO cQ cD pT pK pR pW pU pI pC uO uF uE uN wK jM jN jZ jB ++ R) s.heap := hP
  generalize hae : ([.ref (ad 1), .int p1] : List Value).toArray = args at hts hQm ⊢
  refine lv_iload_n hx hb dX2_removeUser_0 rfl (lv_at hl 1 rfl) ?_
  obtain ⟨r1, h2, hf⟩ := bnd hf
  refine call_ni (rest := []) (m_C_isBlock l ca ad bq nF nO nL nA nC nV nU nP nE bF bO bL bA bC bV bU bP bE cT cK cO cQ cD pT pK pR pW pU pI pC uO uF uE uN wK jM jN jZ jB R _ p1 r1 h2) ⟨hx, hb, hml, hown, hts⟩ ⟨va_cnB 1 hts (gM q493) rfl rfl rfl (hE.2.1 _ n491) (hts _ q24) (by decide +kernel) ⟨Nat.le_of_ble_eq_true rfl, Nat.le_of_ble_eq_true rfl⟩, hts _ q492, trivial⟩ hE hP hD hS hA rfl hl.1 rfl (lv_room (Nat.le_of_ble_eq_true rfl)) dX2_removeUser_1 ⟨Nat.le_of_ble_eq_true rfl, Nat.le_of_ble_eq_true rfl⟩ (fun H locs hP hD hS => ?_)
  refine lv_if_eq (tgt := 17) hx hb dX2_removeUser_4 (by decide) (fun c3 => ?_) (fun c3 => ?_)
  · have hf := br_pos c3 hf
    cases hf
    exact end_v hAe hQm hx hb hr hlocks hP hD hS dX2_removeUser_17
  · have hf := br_neg c3 hf
    refine lv_aload_n hx hb dX2_removeUser_7 rfl (lv_at hl 0 rfl) ?_
    refine va_get (D := D) (ci := 6) (v := .ref (ad 14)) (C := RX2) (T := TX2) (N := 9) hx hb hts inX2 hown hK hP 1 rfl rfl 6 (by decide) (hts _ q74) (fun _ h9 => h9) rfl dX2_removeUser_8 ?_
    refine lv_iload_n hx hb dX2_removeUser_11 rfl (lv_at hl 1 rfl) ?_
    refine lv_dup2_11 hx hb dX2_removeUser_12 rfl rfl ?_
    obtain ⟨k4, hf⟩ := ck_not hf
    refine va_iald (D := D) hx hb hK hP 7 0 rfl rfl k4 dX2_removeUser_13 ?_
    refine lv_iconst (v := 1) hx hb dX2_removeUser_14 (by decide) ?_
    refine lv_isub hx hb dX2_removeUser_15 ?_
    obtain ⟨k5, hf⟩ := ck_not hf
    refine va_iast (D := D) hx hb hK hP hD hS 7 0 rfl rfl k5 dX2_removeUser_16 (fun H locs hP hD hS => ?_)
    have hP : va_P D vwCl (WC ca ad bq nF nO nL nA nC nV (upd nU p1.toNatClampNeg ((nU p1.toNatClampNeg) - 1)) nP nE bF bO bL bA bC bV bU bP bE cT cK cO cQ cD pT pK pR pW pU pI pC uO uF uE uN wK jM jN jZ jB ++ R) H := hP
    have hD : va_D A (WC ca ad bq nF nO nL nA nC nV (upd nU p1.toNatClampNeg ((nU p1.toNatClampNeg) - 1)) nP nE bF bO bL bA bC bV bU bP bE cT cK cO cQ cD pT pK pR pW pU pI pC uO uF uE uN wK jM jN jZ jB ++ R) := hD
    cases hf
    exact end_v hAe hQm hx hb hr hlocks hP hD hS dX2_removeUser_17
def f_C_countUser (p1 : Int32) (wK : Nat → Int32) : Option ((Nat → Int32)) :=
  (f_C_isBlock p1).bind fun r1 =>
  if r1 = 0 then
    some wK
  else
    if 64 ≤ p1 then
      some wK
    else
      if p1 < 0 ∨ 64 ≤ p1.toNatClampNeg then none else
        if p1 < 0 ∨ 64 ≤ p1.toNatClampNeg then none else
        some (upd wK p1.toNatClampNeg ((wK p1.toNatClampNeg) + 1))
set_option maxHeartbeats 4000000 in
set_option maxRecDepth 100000 in
theorem m_C_countUser (l : Launch) {D : va_G} {sl : List (String × Nat × String)} (ca : Nat → ClassId) (ad : Nat → Nat) (bq : Nat) (nF : Int32) (nO : Nat → Int32) (nL : Nat → Int32) (nA : Nat → Int32) (nC : Nat → Int32) (nV : Nat → Int32) (nU : Nat → Int32) (nP : Nat → Int32) (nE : Int32) (bF : Int32) (bO : Nat → Int32) (bL : Nat → Int32) (bA : Nat → Int32) (bC : Nat → Int32) (bV : Nat → Int32) (bU : Nat → Int32) (bP : Nat → Int32) (bE : Int32) (cT : Int32) (cK : Nat → Int32) (cO : Int32) (cQ : Nat → Int32) (cD : Int32) (pT : Int32) (pK : Int32) (pR : Nat → Int32) (pW : Nat → Int32) (pU : Nat → Int32) (pI : Nat → Int32) (pC : Nat → Nat → Int32) (uO : Int32) (uF : Nat → Int32) (uE : Nat → Int32) (uN : Nat → Int32) (wK : Nat → Int32) (jM : Int32) (jN : Int32) (jZ : Nat) (jB : Nat → Int32) (R : va_W) (sz : Nat) (p1 : Int32) (owK : Nat → Int32) (hf : f_C_countUser p1 wK = some owK) : Met l yX3_countUser (wm yX3_countUser cX3_countUser 2 none) ({ frames := 1, cells := 0, slots := 0, locals := 20 } : Room) (PRE [.ref (ad 8), .int p1] D ca sl (WC ca ad bq nF nO nL nA nC nV nU nP nE bF bO bL bA bC bV bU bP bE cT cK cO cQ cD pT pK pR pW pU pI pC uO uF uE uN wK jM jN jZ jB ++ R) sz) (QV D (WC ca ad bq nF nO nL nA nC nV nU nP nE bF bO bL bA bC bV bU bP bE cT cK cO cQ cD pT pK pR pW pU pI pC uO uF uE uN owK jM jN jZ jB ++ R) (WC ca ad bq nF nO nL nA nC nV nU nP nE bF bO bL bA bC bV bU bP bE cT cK cO cQ cD pT pK pR pW pU pI pC uO uF uE uN wK jM jN jZ jB ++ R) sz) 0 0 (va_A (WC ca ad bq nF nO nL nA nC nV nU nP nE bF bO bL bA bC bV bU bP bE cT cK cO cQ cD pT pK pR pW pU pI pC uO uF uE uN wK jM jN jZ jB ++ R) sz) := by
  refine Met.ofW (cc := cX3_countUser) (maxL := 2) (ret := none) (by decide) rfl ?_
  intro p e s m args below meth c s₁ B hml hv
  obtain ⟨rfl, rfl, hP, hE, hD0⟩ := hv
  have hx := B.exec
  have hb := B.bytes
  have hr := B.returns
  have hts := wm_ww (atoms_spec (ws := wm yX3_countUser cX3_countUser 2 none) B.pre)
  have hown : s.vm.findClass RX3 = some m.cls := findClass_of_methodNamed B.named
  have hlocks := B.notSynchronized
  have hK := hE.1
  have hD := hD0.self (sz := s.heap.size)
  generalize hAe : va_A (WC ca ad bq nF nO nL nA nC nV nU nP nE bF bO bL bA bC bV bU bP bE cT cK cO cQ cD pT pK pR pW pU pI pC uO uF uE uN wK jM jN jZ jB ++ R) s.heap.size = A at hD ⊢
  have hA : ∀ q : Nat, s.heap.size ≤ q → A q := fun q h => by rw [← hAe]; exact Or.inr h
  have hS : va_S A s.heap s.heap [] := va_S.rf
  have hl := lv_entry ([.ref (ad 8), .int p1]) (n := 2) (Nat.le_of_ble_eq_true rfl)
  rw [lg_entry_eq]
  generalize (lg_sl ([.ref (ad 8), .int p1]) ++ List.replicate (2 - (lg_sl ([.ref (ad 8), .int p1])).length) Slot.unset).toArray = ls at hl ⊢
  have hl : lv_has ls 2 [(0, .ref (ad 8)), (1, .int p1)] := hl
  change W p l e ({ frames := 1, cells := 0, slots := 0, locals := 20 } : Room) s m _ below meth c s.heap [] 0 0 _ _
  generalize hQm : MQ below (QV D (WC ca ad bq nF nO nL nA nC nV nU nP nE bF bO bL bA bC bV bU bP bE cT cK cO cQ cD pT pK pR pW pU pI pC uO uF uE uN owK jM jN jZ jB ++ R) (WC ca ad bq nF nO nL nA nC nV nU nP nE bF bO bL bA bC bV bU bP bE cT cK cO cQ cD pT pK pR pW pU pI pC uO uF uE uN wK jM jN jZ jB ++ R) s.heap.size) _ s 0 0 A = Qm
  have hP : va_P D vwCl (WC ca ad bq nF nO nL nA nC nV nU nP nE bF bO bL bA bC bV bU bP bE cT cK cO cQ cD pT pK pR pW pU pI pC uO uF uE uN wK jM jN jZ jB ++ R) s.heap := hP
  generalize hae : ([.ref (ad 8), .int p1] : List Value).toArray = args at hts hQm ⊢
  refine lv_iload_n hx hb dX3_countUser_0 rfl (lv_at hl 1 rfl) ?_
  obtain ⟨r1, h2, hf⟩ := bnd hf
  refine call_si (rest := []) (m_C_isBlock l ca ad bq nF nO nL nA nC nV nU nP nE bF bO bL bA bC bV bU bP bE cT cK cO cQ cD pT pK pR pW pU pI pC uO uF uE uN wK jM jN jZ jB R _ p1 r1 h2) ⟨hx, hb, hml, hown, hts⟩ (va_cwS 1 hts (gS q644 q492 q24 q493) rfl rfl rfl (by decide +kernel) ⟨Nat.le_of_ble_eq_true rfl, Nat.le_of_ble_eq_true rfl⟩) hE hP hD hS hA rfl hl.1 rfl (lv_room (Nat.le_of_ble_eq_true rfl)) dX3_countUser_1 ⟨Nat.le_of_ble_eq_true rfl, Nat.le_of_ble_eq_true rfl⟩ (fun H locs hP hD hS => ?_)
  refine lv_if_eq (tgt := 20) hx hb dX3_countUser_4 (by decide) (fun c3 => ?_) (fun c3 => ?_)
  · have hf := br_pos c3 hf
    cases hf
    exact end_v hAe hQm hx hb hr hlocks hP hD hS dX3_countUser_20
  · have hf := br_neg c3 hf
    refine lv_iload_n hx hb dX3_countUser_7 rfl (lv_at hl 1 rfl) ?_
    refine lv_aload_n hx hb dX3_countUser_8 rfl (lv_at hl 0 rfl) ?_
    refine va_alen (D := D) (v := 64) hx hb hK hP 39 0 rfl rfl rfl dX3_countUser_9 ?_
    refine lv_icmp_ge (tgt := 20) hx hb dX3_countUser_10 (by decide) (fun c4 => ?_) (fun c4 => ?_)
    · have hf := br_pos c4 hf
      cases hf
      exact end_v hAe hQm hx hb hr hlocks hP hD hS dX3_countUser_20
    · have hf := br_neg c4 hf
      refine lv_aload_n hx hb dX3_countUser_13 rfl (lv_at hl 0 rfl) ?_
      refine lv_iload_n hx hb dX3_countUser_14 rfl (lv_at hl 1 rfl) ?_
      refine lv_dup2_11 hx hb dX3_countUser_15 rfl rfl ?_
      obtain ⟨k5, hf⟩ := ck_not hf
      refine va_iald (D := D) hx hb hK hP 39 0 rfl rfl k5 dX3_countUser_16 ?_
      refine lv_iconst (v := 1) hx hb dX3_countUser_17 (by decide) ?_
      refine lv_iadd hx hb dX3_countUser_18 ?_
      obtain ⟨k6, hf⟩ := ck_not hf
      refine va_iast (D := D) hx hb hK hP hD hS 39 0 rfl rfl k6 dX3_countUser_19 (fun H locs hP hD hS => ?_)
      have hP : va_P D vwCl (WC ca ad bq nF nO nL nA nC nV nU nP nE bF bO bL bA bC bV bU bP bE cT cK cO cQ cD pT pK pR pW pU pI pC uO uF uE uN (upd wK p1.toNatClampNeg ((wK p1.toNatClampNeg) + 1)) jM jN jZ jB ++ R) H := hP
      have hD : va_D A (WC ca ad bq nF nO nL nA nC nV nU nP nE bF bO bL bA bC bV bU bP bE cT cK cO cQ cD pT pK pR pW pU pI pC uO uF uE uN (upd wK p1.toNatClampNeg ((wK p1.toNatClampNeg) + 1)) jM jN jZ jB ++ R) := hD
      cases hf
      exact end_v hAe hQm hx hb hr hlocks hP hD hS dX3_countUser_20
def f_S_copyFrom_L40 : Nat → Int32 → (Nat → Int32) → (Nat → Int32) → Option ((Nat → Int32))
  | 0, _, _, _ => none
  | fuel + 1, v2, nA, bA =>
    if 40 ≤ v2 then
      some nA
    else
      if v2 < 0 ∨ 40 ≤ v2.toNatClampNeg then none else
        if v2 < 0 ∨ 40 ≤ v2.toNatClampNeg then none else
        f_S_copyFrom_L40 fuel (v2 + 1) (upd nA v2.toNatClampNeg (vp_nar .boolean (bA v2.toNatClampNeg))) bA
def f_S_copyFrom (nO : Nat → Int32) (nL : Nat → Int32) (nA : Nat → Int32) (nC : Nat → Int32) (nV : Nat → Int32) (nU : Nat → Int32) (nP : Nat → Int32) (bF : Int32) (bO : Nat → Int32) (bL : Nat → Int32) (bA : Nat → Int32) (bC : Nat → Int32) (bV : Nat → Int32) (bU : Nat → Int32) (bP : Nat → Int32) (bE : Int32) : Option (Int32 × (Nat → Int32) × (Nat → Int32) × (Nat → Int32) × (Nat → Int32) × (Nat → Int32) × (Nat → Int32) × (Nat → Int32) × Int32) :=
  (f_S_copyFrom_L40 FU 0 nA bA).bind fun nA_11 =>
  some (bF, (va_cpy bO nO (0 : Int32).toNatClampNeg (0 : Int32).toNatClampNeg (40 : Int32).toNatClampNeg), (va_cpy bL nL (0 : Int32).toNatClampNeg (0 : Int32).toNatClampNeg (40 : Int32).toNatClampNeg), nA_11, (va_cpy bC nC (0 : Int32).toNatClampNeg (0 : Int32).toNatClampNeg (640 : Int32).toNatClampNeg), (va_cpy bV nV (0 : Int32).toNatClampNeg (0 : Int32).toNatClampNeg (64 : Int32).toNatClampNeg), (va_cpy bU nU (0 : Int32).toNatClampNeg (0 : Int32).toNatClampNeg (64 : Int32).toNatClampNeg), (va_cpy bP nP (0 : Int32).toNatClampNeg (0 : Int32).toNatClampNeg (4 : Int32).toNatClampNeg), bE)
set_option maxHeartbeats 4000000 in
set_option maxRecDepth 100000 in
theorem m_S_copyFrom (l : Launch) {D : va_G} {sl : List (String × Nat × String)} (ca : Nat → ClassId) (ad : Nat → Nat) (bq : Nat) (nF : Int32) (nO : Nat → Int32) (nL : Nat → Int32) (nA : Nat → Int32) (nC : Nat → Int32) (nV : Nat → Int32) (nU : Nat → Int32) (nP : Nat → Int32) (nE : Int32) (bF : Int32) (bO : Nat → Int32) (bL : Nat → Int32) (bA : Nat → Int32) (bC : Nat → Int32) (bV : Nat → Int32) (bU : Nat → Int32) (bP : Nat → Int32) (bE : Int32) (cT : Int32) (cK : Nat → Int32) (cO : Int32) (cQ : Nat → Int32) (cD : Int32) (pT : Int32) (pK : Int32) (pR : Nat → Int32) (pW : Nat → Int32) (pU : Nat → Int32) (pI : Nat → Int32) (pC : Nat → Nat → Int32) (uO : Int32) (uF : Nat → Int32) (uE : Nat → Int32) (uN : Nat → Int32) (wK : Nat → Int32) (jM : Int32) (jN : Int32) (jZ : Nat) (jB : Nat → Int32) (R : va_W) (sz : Nat) (onF : Int32) (onO : Nat → Int32) (onL : Nat → Int32) (onA : Nat → Int32) (onC : Nat → Int32) (onV : Nat → Int32) (onU : Nat → Int32) (onP : Nat → Int32) (onE : Int32) (hf : f_S_copyFrom nO nL nA nC nV nU nP bF bO bL bA bC bV bU bP bE = some (onF, onO, onL, onA, onC, onV, onU, onP, onE)) : Met l yX2_copyFrom (wm yX2_copyFrom cX2_copyFrom 3 none) ({ frames := 1, cells := 0, slots := 0, locals := 60 } : Room) (PRE [.ref (ad 1), .ref (ad 2)] D ca sl (WC ca ad bq nF nO nL nA nC nV nU nP nE bF bO bL bA bC bV bU bP bE cT cK cO cQ cD pT pK pR pW pU pI pC uO uF uE uN wK jM jN jZ jB ++ R) sz) (QV D (WC ca ad bq onF onO onL onA onC onV onU onP onE bF bO bL bA bC bV bU bP bE cT cK cO cQ cD pT pK pR pW pU pI pC uO uF uE uN wK jM jN jZ jB ++ R) (WC ca ad bq nF nO nL nA nC nV nU nP nE bF bO bL bA bC bV bU bP bE cT cK cO cQ cD pT pK pR pW pU pI pC uO uF uE uN wK jM jN jZ jB ++ R) sz) 0 0 (va_A (WC ca ad bq nF nO nL nA nC nV nU nP nE bF bO bL bA bC bV bU bP bE cT cK cO cQ cD pT pK pR pW pU pI pC uO uF uE uN wK jM jN jZ jB ++ R) sz) := by
  refine Met.ofW (cc := cX2_copyFrom) (maxL := 3) (ret := none) (by decide) rfl ?_
  intro p e s m args below meth c s₁ B hml hv
  obtain ⟨rfl, rfl, hP, hE, hD0⟩ := hv
  have hx := B.exec
  have hb := B.bytes
  have hr := B.returns
  have hts := wm_ww (atoms_spec (ws := wm yX2_copyFrom cX2_copyFrom 3 none) B.pre)
  have hown : s.vm.findClass RX2 = some m.cls := findClass_of_methodNamed B.named
  have hlocks := B.notSynchronized
  have hK := hE.1
  have hD := hD0.self (sz := s.heap.size)
  generalize hAe : va_A (WC ca ad bq nF nO nL nA nC nV nU nP nE bF bO bL bA bC bV bU bP bE cT cK cO cQ cD pT pK pR pW pU pI pC uO uF uE uN wK jM jN jZ jB ++ R) s.heap.size = A at hD ⊢
  have hA : ∀ q : Nat, s.heap.size ≤ q → A q := fun q h => by rw [← hAe]; exact Or.inr h
  have hS : va_S A s.heap s.heap [] := va_S.rf
  have hl := lv_entry ([.ref (ad 1), .ref (ad 2)]) (n := 3) (Nat.le_of_ble_eq_true rfl)
  rw [lg_entry_eq]
  generalize (lg_sl ([.ref (ad 1), .ref (ad 2)]) ++ List.replicate (3 - (lg_sl ([.ref (ad 1), .ref (ad 2)])).length) Slot.unset).toArray = ls at hl ⊢
  have hl : lv_has ls 3 [(0, .ref (ad 1)), (1, .ref (ad 2))] := hl
  change W p l e ({ frames := 1, cells := 0, slots := 0, locals := 60 } : Room) s m _ below meth c s.heap [] 0 0 _ _
  generalize hQm : MQ below (QV D (WC ca ad bq onF onO onL onA onC onV onU onP onE bF bO bL bA bC bV bU bP bE cT cK cO cQ cD pT pK pR pW pU pI pC uO uF uE uN wK jM jN jZ jB ++ R) (WC ca ad bq nF nO nL nA nC nV nU nP nE bF bO bL bA bC bV bU bP bE cT cK cO cQ cD pT pK pR pW pU pI pC uO uF uE uN wK jM jN jZ jB ++ R) s.heap.size) _ s 0 0 A = Qm
  have hP : va_P D vwCl (WC ca ad bq nF nO nL nA nC nV nU nP nE bF bO bL bA bC bV bU bP bE cT cK cO cQ cD pT pK pR pW pU pI pC uO uF uE uN wK jM jN jZ jB ++ R) s.heap := hP
  generalize hae : ([.ref (ad 1), .ref (ad 2)] : List Value).toArray = args at hts hQm ⊢
  have L40 : ∀ (n : Nat) (v2 : Int32) (nF : Int32) (nO : Nat → Int32) (nL : Nat → Int32) (nA : Nat → Int32) (nC : Nat → Int32) (nV : Nat → Int32) (nU : Nat → Int32) (nP : Nat → Int32) (nE : Int32) (znA : Nat → Int32), f_S_copyFrom_L40 n v2 nA bA = some znA → ∀ (H : Heap) (locs : List Loc) (ls : Array Slot), va_P D vwCl (WC ca ad bq nF nO nL nA nC nV nU nP nE bF bO bL bA bC bV bU bP bE cT cK cO cQ cD pT pK pR pW pU pI pC uO uF uE uN wK jM jN jZ jB ++ R) H → va_D A (WC ca ad bq nF nO nL nA nC nV nU nP nE bF bO bL bA bC bV bU bP bE cT cK cO cQ cD pT pK pR pW pU pI pC uO uF uE uN wK jM jN jZ jB ++ R) → va_S A s.heap H locs → lv_has ls 3 [(0, .ref (ad 1)), (1, .ref (ad 2)), (2, .int v2)] → (∀ (H : Heap) (locs : List Loc) (ls : Array Slot), va_P D vwCl (WC ca ad bq nF nO nL znA nC nV nU nP nE bF bO bL bA bC bV bU bP bE cT cK cO cQ cD pT pK pR pW pU pI pC uO uF uE uN wK jM jN jZ jB ++ R) H → va_D A (WC ca ad bq nF nO nL znA nC nV nU nP nE bF bO bL bA bC bV bU bP bE cT cK cO cQ cD pT pK pR pW pU pI pC uO uF uE uN wK jM jN jZ jB ++ R) → va_S A s.heap H locs → lv_has ls 3 [(0, .ref (ad 1)), (1, .ref (ad 2))] → W p l e ({ frames := 1, cells := 0, slots := 0, locals := 60 } : Room) s m args below meth c H locs 0 0 Qm (F0 m 64 ls [])) → W p l e ({ frames := 1, cells := 0, slots := 0, locals := 60 } : Room) s m args below meth c H locs 0 0 Qm (F0 m 40 ls []) := by
    intro n
    induction n with
    | zero => intro v2 nF nO nL nA nC nV nU nP nE znA hf; cases hf
    | succ n ih =>
      intro v2 nF nO nL nA nC nV nU nP nE znA hf H locs ls hP hD hS hl kk
      unfold f_S_copyFrom_L40 at hf
      refine lv_iload_n hx hb dX2_copyFrom_40 rfl (lv_at hl 2 rfl) ?_
      refine lv_bipush (v := 40) hx hb dX2_copyFrom_41 (by decide) ?_
      refine lv_icmp_ge (tgt := 64) hx hb dX2_copyFrom_43 (by decide) (fun c7 => ?_) (fun c7 => ?_)
      · have hf := br_pos c7 hf
        cases hf
        exact kk _ _ _ hP hD hS (lv_sub hl [0, 1] rfl)
      · have hf := br_neg c7 hf
        refine lv_aload_n hx hb dX2_copyFrom_46 rfl (lv_at hl 0 rfl) ?_
        refine va_get (D := D) (ci := 6) (v := .ref (ad 11)) (C := RX2) (T := TX2) (N := 9) hx hb hts inX2 hown hK hP 1 rfl rfl 3 (by decide) (hts _ q71) (fun _ h9 => h9) rfl dX2_copyFrom_47 ?_
        refine lv_iload_n hx hb dX2_copyFrom_50 rfl (lv_at hl 2 rfl) ?_
        refine lv_aload_n hx hb dX2_copyFrom_51 rfl (lv_at hl 1 rfl) ?_
        refine va_get (D := D) (ci := 6) (v := .ref (ad 18)) (C := RX2) (T := TX2) (N := 9) hx hb hts inX2 hown hK hP 9 rfl rfl 3 (by decide) (hts _ q71) (fun _ h9 => h9) rfl dX2_copyFrom_52 ?_
        refine lv_iload_n hx hb dX2_copyFrom_55 rfl (lv_at hl 2 rfl) ?_
        obtain ⟨k8, hf⟩ := ck_not hf
        refine va_zald (D := D) hx hb hK hP 12 1 rfl rfl k8 dX2_copyFrom_56 ?_
        obtain ⟨k9, hf⟩ := ck_not hf
        refine va_zast (D := D) hx hb hK hP hD hS 4 1 rfl rfl k9 dX2_copyFrom_57 (fun H locs hP hD hS => ?_)
        have hP : va_P D vwCl (WC ca ad bq nF nO nL (upd nA v2.toNatClampNeg (vp_nar .boolean (bA v2.toNatClampNeg))) nC nV nU nP nE bF bO bL bA bC bV bU bP bE cT cK cO cQ cD pT pK pR pW pU pI pC uO uF uE uN wK jM jN jZ jB ++ R) H := hP
        have hD : va_D A (WC ca ad bq nF nO nL (upd nA v2.toNatClampNeg (vp_nar .boolean (bA v2.toNatClampNeg))) nC nV nU nP nE bF bO bL bA bC bV bU bP bE cT cK cO cQ cD pT pK pR pW pU pI pC uO uF uE uN wK jM jN jZ jB ++ R) := hD
        refine lv_iinc (v := (v2 + 1)) (lv' := [(2, .int (v2 + 1)), (0, .ref (ad 1)), (1, .ref (ad 2))]) hx hb dX2_copyFrom_58 hl (k := 2) rfl rfl (by decide) rfl (fun ls hl => ?_)
        refine lv_goto (tgt := 40) hx hb dX2_copyFrom_61 (by decide) ?_
        exact ih (v2 + 1) nF nO nL (upd nA v2.toNatClampNeg (vp_nar .boolean (bA v2.toNatClampNeg))) nC nV nU nP nE _ hf _ _ _ hP hD hS (lv_sub hl [1, 2, 0] rfl) kk
  refine lv_aload_n hx hb dX2_copyFrom_0 rfl (lv_at hl 0 rfl) ?_
  refine lv_aload_n hx hb dX2_copyFrom_1 rfl (lv_at hl 1 rfl) ?_
  refine va_get (D := D) (ci := 6) (v := .int bF) (C := RX2) (T := TX2) (N := 9) hx hb hts inX2 hown hK hP 9 rfl rfl 0 (by decide) (hts _ q68) (fun _ h9 => h9) rfl dX2_copyFrom_2 ?_
  refine va_put (D := D) (ci := 6) (v := .int bF) (ty := .int) (C := RX2) (T := TX2) (N := 9) hx hb hts inX2 tyX2 tyX2_ok nmX2 hown hK hP hD hS 1 rfl rfl 0 (by decide) (hts _ q68) (fun _ h9 => h9) rfl (by decide +kernel) rfl rfl (Nat.le_of_ble_eq_true rfl) dX2_copyFrom_5 (fun H locs hP hD hS => ?_)
  have hP : va_P D vwCl (WC ca ad bq bF nO nL nA nC nV nU nP nE bF bO bL bA bC bV bU bP bE cT cK cO cQ cD pT pK pR pW pU pI pC uO uF uE uN wK jM jN jZ jB ++ R) H := hP
  have hD : va_D A (WC ca ad bq bF nO nL nA nC nV nU nP nE bF bO bL bA bC bV bU bP bE cT cK cO cQ cD pT pK pR pW pU pI pC uO uF uE uN wK jM jN jZ jB ++ R) := hD
  refine lv_aload_n hx hb dX2_copyFrom_8 rfl (lv_at hl 1 rfl) ?_
  refine va_get (D := D) (ci := 6) (v := .ref (ad 16)) (C := RX2) (T := TX2) (N := 9) hx hb hts inX2 hown hK hP 9 rfl rfl 1 (by decide) (hts _ q69) (fun _ h9 => h9) rfl dX2_copyFrom_9 ?_
  refine lv_iconst (v := 0) hx hb dX2_copyFrom_12 (by decide) ?_
  refine lv_aload_n hx hb dX2_copyFrom_13 rfl (lv_at hl 0 rfl) ?_
  refine va_get (D := D) (ci := 6) (v := .ref (ad 9)) (C := RX2) (T := TX2) (N := 9) hx hb hts inX2 hown hK hP 1 rfl rfl 1 (by decide) (hts _ q69) (fun _ h9 => h9) rfl dX2_copyFrom_14 ?_
  refine lv_iconst (v := 0) hx hb dX2_copyFrom_17 (by decide) ?_
  refine lv_bipush (v := 40) hx hb dX2_copyFrom_18 (by decide) ?_
  refine va_copyi (D := D) (ty := .int) hx hb (hml.trans hl.1.symm) hown (hts _ q236) (hts _ q238) (hts _ q237) (hts _ q45) hK hP hD hS 10 2 0 0 rfl rfl rfl rfl rfl (by decide) (by decide) (by decide) (Nat.le_of_ble_eq_true rfl) (Nat.le_of_ble_eq_true rfl) (fun i _ => rfl) (Nat.le_of_ble_eq_true rfl) (Nat.le_of_ble_eq_true rfl) dX2_copyFrom_20 (fun H locs hP hD hS => ?_)
  have hP : va_P D vwCl (WC ca ad bq bF (va_cpy bO nO (0 : Int32).toNatClampNeg (0 : Int32).toNatClampNeg (40 : Int32).toNatClampNeg) nL nA nC nV nU nP nE bF bO bL bA bC bV bU bP bE cT cK cO cQ cD pT pK pR pW pU pI pC uO uF uE uN wK jM jN jZ jB ++ R) H := hP
  have hD : va_D A (WC ca ad bq bF (va_cpy bO nO (0 : Int32).toNatClampNeg (0 : Int32).toNatClampNeg (40 : Int32).toNatClampNeg) nL nA nC nV nU nP nE bF bO bL bA bC bV bU bP bE cT cK cO cQ cD pT pK pR pW pU pI pC uO uF uE uN wK jM jN jZ jB ++ R) := hD
  refine lv_aload_n hx hb dX2_copyFrom_23 rfl (lv_at hl 1 rfl) ?_
  refine va_get (D := D) (ci := 6) (v := .ref (ad 17)) (C := RX2) (T := TX2) (N := 9) hx hb hts inX2 hown hK hP 9 rfl rfl 2 (by decide) (hts _ q70) (fun _ h9 => h9) rfl dX2_copyFrom_24 ?_
  refine lv_iconst (v := 0) hx hb dX2_copyFrom_27 (by decide) ?_
  refine lv_aload_n hx hb dX2_copyFrom_28 rfl (lv_at hl 0 rfl) ?_
  refine va_get (D := D) (ci := 6) (v := .ref (ad 10)) (C := RX2) (T := TX2) (N := 9) hx hb hts inX2 hown hK hP 1 rfl rfl 2 (by decide) (hts _ q70) (fun _ h9 => h9) rfl dX2_copyFrom_29 ?_
  refine lv_iconst (v := 0) hx hb dX2_copyFrom_32 (by decide) ?_
  refine lv_bipush (v := 40) hx hb dX2_copyFrom_33 (by decide) ?_
  refine va_copyi (D := D) (ty := .int) hx hb (hml.trans hl.1.symm) hown (hts _ q236) (hts _ q238) (hts _ q237) (hts _ q45) hK hP hD hS 11 3 0 0 rfl rfl rfl rfl rfl (by decide) (by decide) (by decide) (Nat.le_of_ble_eq_true rfl) (Nat.le_of_ble_eq_true rfl) (fun i _ => rfl) (Nat.le_of_ble_eq_true rfl) (Nat.le_of_ble_eq_true rfl) dX2_copyFrom_35 (fun H locs hP hD hS => ?_)
  have hP : va_P D vwCl (WC ca ad bq bF (va_cpy bO nO (0 : Int32).toNatClampNeg (0 : Int32).toNatClampNeg (40 : Int32).toNatClampNeg) (va_cpy bL nL (0 : Int32).toNatClampNeg (0 : Int32).toNatClampNeg (40 : Int32).toNatClampNeg) nA nC nV nU nP nE bF bO bL bA bC bV bU bP bE cT cK cO cQ cD pT pK pR pW pU pI pC uO uF uE uN wK jM jN jZ jB ++ R) H := hP
  have hD : va_D A (WC ca ad bq bF (va_cpy bO nO (0 : Int32).toNatClampNeg (0 : Int32).toNatClampNeg (40 : Int32).toNatClampNeg) (va_cpy bL nL (0 : Int32).toNatClampNeg (0 : Int32).toNatClampNeg (40 : Int32).toNatClampNeg) nA nC nV nU nP nE bF bO bL bA bC bV bU bP bE cT cK cO cQ cD pT pK pR pW pU pI pC uO uF uE uN wK jM jN jZ jB ++ R) := hD
  refine lv_iconst (v := 0) hx hb dX2_copyFrom_38 (by decide) ?_
  refine lv_istore_n (lv' := [(2, .int 0), (0, .ref (ad 1)), (1, .ref (ad 2))]) hx hb dX2_copyFrom_39 rfl hl (by decide) rfl (fun ls hl => ?_)
  obtain ⟨nA_11, h10, hf⟩ := bnd hf
  refine L40 FU 0 bF (va_cpy bO nO (0 : Int32).toNatClampNeg (0 : Int32).toNatClampNeg (40 : Int32).toNatClampNeg) (va_cpy bL nL (0 : Int32).toNatClampNeg (0 : Int32).toNatClampNeg (40 : Int32).toNatClampNeg) nA nC nV nU nP nE nA_11 h10 _ _ _ hP hD hS (lv_sub hl [1, 2, 0] rfl) (fun H locs ls hP hD hS hl => ?_)
  refine lv_aload_n hx hb dX2_copyFrom_64 rfl (lv_at hl 1 rfl) ?_
  refine va_get (D := D) (ci := 6) (v := .ref (ad 19)) (C := RX2) (T := TX2) (N := 9) hx hb hts inX2 hown hK hP 9 rfl rfl 4 (by decide) (hts _ q72) (fun _ h9 => h9) rfl dX2_copyFrom_65 ?_
  refine lv_iconst (v := 0) hx hb dX2_copyFrom_68 (by decide) ?_
  refine lv_aload_n hx hb dX2_copyFrom_69 rfl (lv_at hl 0 rfl) ?_
  refine va_get (D := D) (ci := 6) (v := .ref (ad 12)) (C := RX2) (T := TX2) (N := 9) hx hb hts inX2 hown hK hP 1 rfl rfl 4 (by decide) (hts _ q72) (fun _ h9 => h9) rfl dX2_copyFrom_70 ?_
  refine lv_iconst (v := 0) hx hb dX2_copyFrom_73 (by decide) ?_
  refine lv_sipush (v := 640) hx hb dX2_copyFrom_74 (by decide) ?_
  refine va_copyi (D := D) (ty := .int) hx hb (hml.trans hl.1.symm) hown (hts _ q236) (hts _ q238) (hts _ q237) (hts _ q45) hK hP hD hS 13 5 0 0 rfl rfl rfl rfl rfl (by decide) (by decide) (by decide) (Nat.le_of_ble_eq_true rfl) (Nat.le_of_ble_eq_true rfl) (fun i _ => rfl) (Nat.le_of_ble_eq_true rfl) (Nat.le_of_ble_eq_true rfl) dX2_copyFrom_77 (fun H locs hP hD hS => ?_)
  have hP : va_P D vwCl (WC ca ad bq bF (va_cpy bO nO (0 : Int32).toNatClampNeg (0 : Int32).toNatClampNeg (40 : Int32).toNatClampNeg) (va_cpy bL nL (0 : Int32).toNatClampNeg (0 : Int32).toNatClampNeg (40 : Int32).toNatClampNeg) nA_11 (va_cpy bC nC (0 : Int32).toNatClampNeg (0 : Int32).toNatClampNeg (640 : Int32).toNatClampNeg) nV nU nP nE bF bO bL bA bC bV bU bP bE cT cK cO cQ cD pT pK pR pW pU pI pC uO uF uE uN wK jM jN jZ jB ++ R) H := hP
  have hD : va_D A (WC ca ad bq bF (va_cpy bO nO (0 : Int32).toNatClampNeg (0 : Int32).toNatClampNeg (40 : Int32).toNatClampNeg) (va_cpy bL nL (0 : Int32).toNatClampNeg (0 : Int32).toNatClampNeg (40 : Int32).toNatClampNeg) nA_11 (va_cpy bC nC (0 : Int32).toNatClampNeg (0 : Int32).toNatClampNeg (640 : Int32).toNatClampNeg) nV nU nP nE bF bO bL bA bC bV bU bP bE cT cK cO cQ cD pT pK pR pW pU pI pC uO uF uE uN wK jM jN jZ jB ++ R) := hD
  refine lv_aload_n hx hb dX2_copyFrom_80 rfl (lv_at hl 1 rfl) ?_
  refine va_get (D := D) (ci := 6) (v := .ref (ad 20)) (C := RX2) (T := TX2) (N := 9) hx hb hts inX2 hown hK hP 9 rfl rfl 5 (by decide) (hts _ q73) (fun _ h9 => h9) rfl dX2_copyFrom_81 ?_
  refine lv_iconst (v := 0) hx hb dX2_copyFrom_84 (by decide) ?_
  refine lv_aload_n hx hb dX2_copyFrom_85 rfl (lv_at hl 0 rfl) ?_
  refine va_get (D := D) (ci := 6) (v := .ref (ad 13)) (C := RX2) (T := TX2) (N := 9) hx hb hts inX2 hown hK hP 1 rfl rfl 5 (by decide) (hts _ q73) (fun _ h9 => h9) rfl dX2_copyFrom_86 ?_
  refine lv_iconst (v := 0) hx hb dX2_copyFrom_89 (by decide) ?_
  refine lv_bipush (v := 64) hx hb dX2_copyFrom_90 (by decide) ?_
  refine va_copyi (D := D) (ty := .int) hx hb (hml.trans hl.1.symm) hown (hts _ q236) (hts _ q238) (hts _ q237) (hts _ q45) hK hP hD hS 14 6 0 0 rfl rfl rfl rfl rfl (by decide) (by decide) (by decide) (Nat.le_of_ble_eq_true rfl) (Nat.le_of_ble_eq_true rfl) (fun i _ => rfl) (Nat.le_of_ble_eq_true rfl) (Nat.le_of_ble_eq_true rfl) dX2_copyFrom_92 (fun H locs hP hD hS => ?_)
  have hP : va_P D vwCl (WC ca ad bq bF (va_cpy bO nO (0 : Int32).toNatClampNeg (0 : Int32).toNatClampNeg (40 : Int32).toNatClampNeg) (va_cpy bL nL (0 : Int32).toNatClampNeg (0 : Int32).toNatClampNeg (40 : Int32).toNatClampNeg) nA_11 (va_cpy bC nC (0 : Int32).toNatClampNeg (0 : Int32).toNatClampNeg (640 : Int32).toNatClampNeg) (va_cpy bV nV (0 : Int32).toNatClampNeg (0 : Int32).toNatClampNeg (64 : Int32).toNatClampNeg) nU nP nE bF bO bL bA bC bV bU bP bE cT cK cO cQ cD pT pK pR pW pU pI pC uO uF uE uN wK jM jN jZ jB ++ R) H := hP
  have hD : va_D A (WC ca ad bq bF (va_cpy bO nO (0 : Int32).toNatClampNeg (0 : Int32).toNatClampNeg (40 : Int32).toNatClampNeg) (va_cpy bL nL (0 : Int32).toNatClampNeg (0 : Int32).toNatClampNeg (40 : Int32).toNatClampNeg) nA_11 (va_cpy bC nC (0 : Int32).toNatClampNeg (0 : Int32).toNatClampNeg (640 : Int32).toNatClampNeg) (va_cpy bV nV (0 : Int32).toNatClampNeg (0 : Int32).toNatClampNeg (64 : Int32).toNatClampNeg) nU nP nE bF bO bL bA bC bV bU bP bE cT cK cO cQ cD pT pK pR pW pU pI pC uO uF uE uN wK jM jN jZ jB ++ R) := hD
  refine lv_aload_n hx hb dX2_copyFrom_95 rfl (lv_at hl 1 rfl) ?_
  refine va_get (D := D) (ci := 6) (v := .ref (ad 21)) (C := RX2) (T := TX2) (N := 9) hx hb hts inX2 hown hK hP 9 rfl rfl 6 (by decide) (hts _ q74) (fun _ h9 => h9) rfl dX2_copyFrom_96 ?_
  refine lv_iconst (v := 0) hx hb dX2_copyFrom_99 (by decide) ?_
  refine lv_aload_n hx hb dX2_copyFrom_100 rfl (lv_at hl 0 rfl) ?_
  refine va_get (D := D) (ci := 6) (v := .ref (ad 14)) (C := RX2) (T := TX2) (N := 9) hx hb hts inX2 hown hK hP 1 rfl rfl 6 (by decide) (hts _ q74) (fun _ h9 => h9) rfl dX2_copyFrom_101 ?_
  refine lv_iconst (v := 0) hx hb dX2_copyFrom_104 (by decide) ?_
  refine lv_bipush (v := 64) hx hb dX2_copyFrom_105 (by decide) ?_
  refine va_copyi (D := D) (ty := .int) hx hb (hml.trans hl.1.symm) hown (hts _ q236) (hts _ q238) (hts _ q237) (hts _ q45) hK hP hD hS 15 7 0 0 rfl rfl rfl rfl rfl (by decide) (by decide) (by decide) (Nat.le_of_ble_eq_true rfl) (Nat.le_of_ble_eq_true rfl) (fun i _ => rfl) (Nat.le_of_ble_eq_true rfl) (Nat.le_of_ble_eq_true rfl) dX2_copyFrom_107 (fun H locs hP hD hS => ?_)
  have hP : va_P D vwCl (WC ca ad bq bF (va_cpy bO nO (0 : Int32).toNatClampNeg (0 : Int32).toNatClampNeg (40 : Int32).toNatClampNeg) (va_cpy bL nL (0 : Int32).toNatClampNeg (0 : Int32).toNatClampNeg (40 : Int32).toNatClampNeg) nA_11 (va_cpy bC nC (0 : Int32).toNatClampNeg (0 : Int32).toNatClampNeg (640 : Int32).toNatClampNeg) (va_cpy bV nV (0 : Int32).toNatClampNeg (0 : Int32).toNatClampNeg (64 : Int32).toNatClampNeg) (va_cpy bU nU (0 : Int32).toNatClampNeg (0 : Int32).toNatClampNeg (64 : Int32).toNatClampNeg) nP nE bF bO bL bA bC bV bU bP bE cT cK cO cQ cD pT pK pR pW pU pI pC uO uF uE uN wK jM jN jZ jB ++ R) H := hP
  have hD : va_D A (WC ca ad bq bF (va_cpy bO nO (0 : Int32).toNatClampNeg (0 : Int32).toNatClampNeg (40 : Int32).toNatClampNeg) (va_cpy bL nL (0 : Int32).toNatClampNeg (0 : Int32).toNatClampNeg (40 : Int32).toNatClampNeg) nA_11 (va_cpy bC nC (0 : Int32).toNatClampNeg (0 : Int32).toNatClampNeg (640 : Int32).toNatClampNeg) (va_cpy bV nV (0 : Int32).toNatClampNeg (0 : Int32).toNatClampNeg (64 : Int32).toNatClampNeg) (va_cpy bU nU (0 : Int32).toNatClampNeg (0 : Int32).toNatClampNeg (64 : Int32).toNatClampNeg) nP nE bF bO bL bA bC bV bU bP bE cT cK cO cQ cD pT pK pR pW pU pI pC uO uF uE uN wK jM jN jZ jB ++ R) := hD
  refine lv_aload_n hx hb dX2_copyFrom_110 rfl (lv_at hl 1 rfl) ?_
  refine va_get (D := D) (ci := 6) (v := .ref (ad 22)) (C := RX2) (T := TX2) (N := 9) hx hb hts inX2 hown hK hP 9 rfl rfl 7 (by decide) (hts _ q75) (fun _ h9 => h9) rfl dX2_copyFrom_111 ?_
  refine lv_iconst (v := 0) hx hb dX2_copyFrom_114 (by decide) ?_
  refine lv_aload_n hx hb dX2_copyFrom_115 rfl (lv_at hl 0 rfl) ?_
  refine va_get (D := D) (ci := 6) (v := .ref (ad 15)) (C := RX2) (T := TX2) (N := 9) hx hb hts inX2 hown hK hP 1 rfl rfl 7 (by decide) (hts _ q75) (fun _ h9 => h9) rfl dX2_copyFrom_116 ?_
  refine lv_iconst (v := 0) hx hb dX2_copyFrom_119 (by decide) ?_
  refine lv_iconst (v := 4) hx hb dX2_copyFrom_120 (by decide) ?_
  refine va_copyi (D := D) (ty := .int) hx hb (hml.trans hl.1.symm) hown (hts _ q236) (hts _ q238) (hts _ q237) (hts _ q45) hK hP hD hS 16 8 0 0 rfl rfl rfl rfl rfl (by decide) (by decide) (by decide) (Nat.le_of_ble_eq_true rfl) (Nat.le_of_ble_eq_true rfl) (fun i _ => rfl) (Nat.le_of_ble_eq_true rfl) (Nat.le_of_ble_eq_true rfl) dX2_copyFrom_121 (fun H locs hP hD hS => ?_)
  have hP : va_P D vwCl (WC ca ad bq bF (va_cpy bO nO (0 : Int32).toNatClampNeg (0 : Int32).toNatClampNeg (40 : Int32).toNatClampNeg) (va_cpy bL nL (0 : Int32).toNatClampNeg (0 : Int32).toNatClampNeg (40 : Int32).toNatClampNeg) nA_11 (va_cpy bC nC (0 : Int32).toNatClampNeg (0 : Int32).toNatClampNeg (640 : Int32).toNatClampNeg) (va_cpy bV nV (0 : Int32).toNatClampNeg (0 : Int32).toNatClampNeg (64 : Int32).toNatClampNeg) (va_cpy bU nU (0 : Int32).toNatClampNeg (0 : Int32).toNatClampNeg (64 : Int32).toNatClampNeg) (va_cpy bP nP (0 : Int32).toNatClampNeg (0 : Int32).toNatClampNeg (4 : Int32).toNatClampNeg) nE bF bO bL bA bC bV bU bP bE cT cK cO cQ cD pT pK pR pW pU pI pC uO uF uE uN wK jM jN jZ jB ++ R) H := hP
  have hD : va_D A (WC ca ad bq bF (va_cpy bO nO (0 : Int32).toNatClampNeg (0 : Int32).toNatClampNeg (40 : Int32).toNatClampNeg) (va_cpy bL nL (0 : Int32).toNatClampNeg (0 : Int32).toNatClampNeg (40 : Int32).toNatClampNeg) nA_11 (va_cpy bC nC (0 : Int32).toNatClampNeg (0 : Int32).toNatClampNeg (640 : Int32).toNatClampNeg) (va_cpy bV nV (0 : Int32).toNatClampNeg (0 : Int32).toNatClampNeg (64 : Int32).toNatClampNeg) (va_cpy bU nU (0 : Int32).toNatClampNeg (0 : Int32).toNatClampNeg (64 : Int32).toNatClampNeg) (va_cpy bP nP (0 : Int32).toNatClampNeg (0 : Int32).toNatClampNeg (4 : Int32).toNatClampNeg) nE bF bO bL bA bC bV bU bP bE cT cK cO cQ cD pT pK pR pW pU pI pC uO uF uE uN wK jM jN jZ jB ++ R) := hD
  refine lv_aload_n hx hb dX2_copyFrom_124 rfl (lv_at hl 0 rfl) ?_
  refine lv_aload_n hx hb dX2_copyFrom_125 rfl (lv_at hl 1 rfl) ?_
  refine va_get (D := D) (ci := 6) (v := .int bE) (C := RX2) (T := TX2) (N := 9) hx hb hts inX2 hown hK hP 9 rfl rfl 8 (by decide) (hts _ q76) (fun _ h9 => h9) rfl dX2_copyFrom_126 ?_
  refine va_put (D := D) (ci := 6) (v := .int bE) (ty := .int) (C := RX2) (T := TX2) (N := 9) hx hb hts inX2 tyX2 tyX2_ok nmX2 hown hK hP hD hS 1 rfl rfl 8 (by decide) (hts _ q76) (fun _ h9 => h9) rfl (by decide +kernel) rfl rfl (Nat.le_of_ble_eq_true rfl) dX2_copyFrom_129 (fun H locs hP hD hS => ?_)
  have hP : va_P D vwCl (WC ca ad bq bF (va_cpy bO nO (0 : Int32).toNatClampNeg (0 : Int32).toNatClampNeg (40 : Int32).toNatClampNeg) (va_cpy bL nL (0 : Int32).toNatClampNeg (0 : Int32).toNatClampNeg (40 : Int32).toNatClampNeg) nA_11 (va_cpy bC nC (0 : Int32).toNatClampNeg (0 : Int32).toNatClampNeg (640 : Int32).toNatClampNeg) (va_cpy bV nV (0 : Int32).toNatClampNeg (0 : Int32).toNatClampNeg (64 : Int32).toNatClampNeg) (va_cpy bU nU (0 : Int32).toNatClampNeg (0 : Int32).toNatClampNeg (64 : Int32).toNatClampNeg) (va_cpy bP nP (0 : Int32).toNatClampNeg (0 : Int32).toNatClampNeg (4 : Int32).toNatClampNeg) bE bF bO bL bA bC bV bU bP bE cT cK cO cQ cD pT pK pR pW pU pI pC uO uF uE uN wK jM jN jZ jB ++ R) H := hP
  have hD : va_D A (WC ca ad bq bF (va_cpy bO nO (0 : Int32).toNatClampNeg (0 : Int32).toNatClampNeg (40 : Int32).toNatClampNeg) (va_cpy bL nL (0 : Int32).toNatClampNeg (0 : Int32).toNatClampNeg (40 : Int32).toNatClampNeg) nA_11 (va_cpy bC nC (0 : Int32).toNatClampNeg (0 : Int32).toNatClampNeg (640 : Int32).toNatClampNeg) (va_cpy bV nV (0 : Int32).toNatClampNeg (0 : Int32).toNatClampNeg (64 : Int32).toNatClampNeg) (va_cpy bU nU (0 : Int32).toNatClampNeg (0 : Int32).toNatClampNeg (64 : Int32).toNatClampNeg) (va_cpy bP nP (0 : Int32).toNatClampNeg (0 : Int32).toNatClampNeg (4 : Int32).toNatClampNeg) bE bF bO bL bA bC bV bU bP bE cT cK cO cQ cD pT pK pR pW pU pI pC uO uF uE uN wK jM jN jZ jB ++ R) := hD
  cases hf
  exact end_v hAe hQm hx hb hr hlocks hP hD hS dX2_copyFrom_132
def f_S_entryTotal (nE : Int32) : Option (Int32) :=
  some nE
set_option maxHeartbeats 4000000 in
set_option maxRecDepth 100000 in
theorem m_S_entryTotal (l : Launch) {D : va_G} {sl : List (String × Nat × String)} (ca : Nat → ClassId) (ad : Nat → Nat) (bq : Nat) (nF : Int32) (nO : Nat → Int32) (nL : Nat → Int32) (nA : Nat → Int32) (nC : Nat → Int32) (nV : Nat → Int32) (nU : Nat → Int32) (nP : Nat → Int32) (nE : Int32) (bF : Int32) (bO : Nat → Int32) (bL : Nat → Int32) (bA : Nat → Int32) (bC : Nat → Int32) (bV : Nat → Int32) (bU : Nat → Int32) (bP : Nat → Int32) (bE : Int32) (cT : Int32) (cK : Nat → Int32) (cO : Int32) (cQ : Nat → Int32) (cD : Int32) (pT : Int32) (pK : Int32) (pR : Nat → Int32) (pW : Nat → Int32) (pU : Nat → Int32) (pI : Nat → Int32) (pC : Nat → Nat → Int32) (uO : Int32) (uF : Nat → Int32) (uE : Nat → Int32) (uN : Nat → Int32) (wK : Nat → Int32) (jM : Int32) (jN : Int32) (jZ : Nat) (jB : Nat → Int32) (R : va_W) (sz : Nat) (ro : Int32) (hf : f_S_entryTotal nE = some ro) : Met l yX2_entryTotal (wm yX2_entryTotal cX2_entryTotal 1 (some .int)) ({ frames := 0, cells := 0, slots := 0, locals := 0 } : Room) (PRE [.ref (ad 1)] D ca sl (WC ca ad bq nF nO nL nA nC nV nU nP nE bF bO bL bA bC bV bU bP bE cT cK cO cQ cD pT pK pR pW pU pI pC uO uF uE uN wK jM jN jZ jB ++ R) sz) (QI ro D (WC ca ad bq nF nO nL nA nC nV nU nP nE bF bO bL bA bC bV bU bP bE cT cK cO cQ cD pT pK pR pW pU pI pC uO uF uE uN wK jM jN jZ jB ++ R) (WC ca ad bq nF nO nL nA nC nV nU nP nE bF bO bL bA bC bV bU bP bE cT cK cO cQ cD pT pK pR pW pU pI pC uO uF uE uN wK jM jN jZ jB ++ R) sz) 0 0 (va_A (WC ca ad bq nF nO nL nA nC nV nU nP nE bF bO bL bA bC bV bU bP bE cT cK cO cQ cD pT pK pR pW pU pI pC uO uF uE uN wK jM jN jZ jB ++ R) sz) := by
  refine Met.ofW (cc := cX2_entryTotal) (maxL := 1) (ret := (some .int)) (by decide) rfl ?_
  intro p e s m args below meth c s₁ B hml hv
  obtain ⟨rfl, rfl, hP, hE, hD0⟩ := hv
  have hx := B.exec
  have hb := B.bytes
  have hr := B.returns
  have hts := wm_ww (atoms_spec (ws := wm yX2_entryTotal cX2_entryTotal 1 (some .int)) B.pre)
  have hown : s.vm.findClass RX2 = some m.cls := findClass_of_methodNamed B.named
  have hlocks := B.notSynchronized
  have hK := hE.1
  have hD := hD0.self (sz := s.heap.size)
  generalize hAe : va_A (WC ca ad bq nF nO nL nA nC nV nU nP nE bF bO bL bA bC bV bU bP bE cT cK cO cQ cD pT pK pR pW pU pI pC uO uF uE uN wK jM jN jZ jB ++ R) s.heap.size = A at hD ⊢
  have hA : ∀ q : Nat, s.heap.size ≤ q → A q := fun q h => by rw [← hAe]; exact Or.inr h
  have hS : va_S A s.heap s.heap [] := va_S.rf
  have hl := lv_entry ([.ref (ad 1)]) (n := 1) (Nat.le_of_ble_eq_true rfl)
  rw [lg_entry_eq]
  generalize (lg_sl ([.ref (ad 1)]) ++ List.replicate (1 - (lg_sl ([.ref (ad 1)])).length) Slot.unset).toArray = ls at hl ⊢
  have hl : lv_has ls 1 [(0, .ref (ad 1))] := hl
  change W p l e ({ frames := 0, cells := 0, slots := 0, locals := 0 } : Room) s m _ below meth c s.heap [] 0 0 _ _
  generalize hQm : MQ below (QI ro D (WC ca ad bq nF nO nL nA nC nV nU nP nE bF bO bL bA bC bV bU bP bE cT cK cO cQ cD pT pK pR pW pU pI pC uO uF uE uN wK jM jN jZ jB ++ R) (WC ca ad bq nF nO nL nA nC nV nU nP nE bF bO bL bA bC bV bU bP bE cT cK cO cQ cD pT pK pR pW pU pI pC uO uF uE uN wK jM jN jZ jB ++ R) s.heap.size) _ s 0 0 A = Qm
  have hP : va_P D vwCl (WC ca ad bq nF nO nL nA nC nV nU nP nE bF bO bL bA bC bV bU bP bE cT cK cO cQ cD pT pK pR pW pU pI pC uO uF uE uN wK jM jN jZ jB ++ R) s.heap := hP
  generalize hae : ([.ref (ad 1)] : List Value).toArray = args at hts hQm ⊢
  refine lv_aload_n hx hb dX2_entryTotal_0 rfl (lv_at hl 0 rfl) ?_
  refine va_get (D := D) (ci := 6) (v := .int nE) (C := RX2) (T := TX2) (N := 9) hx hb hts inX2 hown hK hP 1 rfl rfl 8 (by decide) (hts _ q76) (fun _ h9 => h9) rfl dX2_entryTotal_1 ?_
  cases hf
  exact end_i hAe hQm hx hb hr hlocks rfl hP hD hS dX2_entryTotal_4
def f_S_setEntries (p1 : Int32) : Option (Int32) :=
  some p1
set_option maxHeartbeats 4000000 in
set_option maxRecDepth 100000 in
theorem m_S_setEntries (l : Launch) {D : va_G} {sl : List (String × Nat × String)} (ca : Nat → ClassId) (ad : Nat → Nat) (bq : Nat) (nF : Int32) (nO : Nat → Int32) (nL : Nat → Int32) (nA : Nat → Int32) (nC : Nat → Int32) (nV : Nat → Int32) (nU : Nat → Int32) (nP : Nat → Int32) (nE : Int32) (bF : Int32) (bO : Nat → Int32) (bL : Nat → Int32) (bA : Nat → Int32) (bC : Nat → Int32) (bV : Nat → Int32) (bU : Nat → Int32) (bP : Nat → Int32) (bE : Int32) (cT : Int32) (cK : Nat → Int32) (cO : Int32) (cQ : Nat → Int32) (cD : Int32) (pT : Int32) (pK : Int32) (pR : Nat → Int32) (pW : Nat → Int32) (pU : Nat → Int32) (pI : Nat → Int32) (pC : Nat → Nat → Int32) (uO : Int32) (uF : Nat → Int32) (uE : Nat → Int32) (uN : Nat → Int32) (wK : Nat → Int32) (jM : Int32) (jN : Int32) (jZ : Nat) (jB : Nat → Int32) (R : va_W) (sz : Nat) (p1 : Int32) (onE : Int32) (hf : f_S_setEntries p1 = some onE) : Met l yX2_setEntries (wm yX2_setEntries cX2_setEntries 2 none) ({ frames := 0, cells := 0, slots := 0, locals := 0 } : Room) (PRE [.ref (ad 1), .int p1] D ca sl (WC ca ad bq nF nO nL nA nC nV nU nP nE bF bO bL bA bC bV bU bP bE cT cK cO cQ cD pT pK pR pW pU pI pC uO uF uE uN wK jM jN jZ jB ++ R) sz) (QV D (WC ca ad bq nF nO nL nA nC nV nU nP onE bF bO bL bA bC bV bU bP bE cT cK cO cQ cD pT pK pR pW pU pI pC uO uF uE uN wK jM jN jZ jB ++ R) (WC ca ad bq nF nO nL nA nC nV nU nP nE bF bO bL bA bC bV bU bP bE cT cK cO cQ cD pT pK pR pW pU pI pC uO uF uE uN wK jM jN jZ jB ++ R) sz) 0 0 (va_A (WC ca ad bq nF nO nL nA nC nV nU nP nE bF bO bL bA bC bV bU bP bE cT cK cO cQ cD pT pK pR pW pU pI pC uO uF uE uN wK jM jN jZ jB ++ R) sz) := by
  refine Met.ofW (cc := cX2_setEntries) (maxL := 2) (ret := none) (by decide) rfl ?_
  intro p e s m args below meth c s₁ B hml hv
  obtain ⟨rfl, rfl, hP, hE, hD0⟩ := hv
  have hx := B.exec
  have hb := B.bytes
  have hr := B.returns
  have hts := wm_ww (atoms_spec (ws := wm yX2_setEntries cX2_setEntries 2 none) B.pre)
  have hown : s.vm.findClass RX2 = some m.cls := findClass_of_methodNamed B.named
  have hlocks := B.notSynchronized
  have hK := hE.1
  have hD := hD0.self (sz := s.heap.size)
  generalize hAe : va_A (WC ca ad bq nF nO nL nA nC nV nU nP nE bF bO bL bA bC bV bU bP bE cT cK cO cQ cD pT pK pR pW pU pI pC uO uF uE uN wK jM jN jZ jB ++ R) s.heap.size = A at hD ⊢
  have hA : ∀ q : Nat, s.heap.size ≤ q → A q := fun q h => by rw [← hAe]; exact Or.inr h
  have hS : va_S A s.heap s.heap [] := va_S.rf
  have hl := lv_entry ([.ref (ad 1), .int p1]) (n := 2) (Nat.le_of_ble_eq_true rfl)
  rw [lg_entry_eq]
  generalize (lg_sl ([.ref (ad 1), .int p1]) ++ List.replicate (2 - (lg_sl ([.ref (ad 1), .int p1])).length) Slot.unset).toArray = ls at hl ⊢
  have hl : lv_has ls 2 [(0, .ref (ad 1)), (1, .int p1)] := hl
  change W p l e ({ frames := 0, cells := 0, slots := 0, locals := 0 } : Room) s m _ below meth c s.heap [] 0 0 _ _
  generalize hQm : MQ below (QV D (WC ca ad bq nF nO nL nA nC nV nU nP onE bF bO bL bA bC bV bU bP bE cT cK cO cQ cD pT pK pR pW pU pI pC uO uF uE uN wK jM jN jZ jB ++ R) (WC ca ad bq nF nO nL nA nC nV nU nP nE bF bO bL bA bC bV bU bP bE cT cK cO cQ cD pT pK pR pW pU pI pC uO uF uE uN wK jM jN jZ jB ++ R) s.heap.size) _ s 0 0 A = Qm
  have hP : va_P D vwCl (WC ca ad bq nF nO nL nA nC nV nU nP nE bF bO bL bA bC bV bU bP bE cT cK cO cQ cD pT pK pR pW pU pI pC uO uF uE uN wK jM jN jZ jB ++ R) s.heap := hP
  generalize hae : ([.ref (ad 1), .int p1] : List Value).toArray = args at hts hQm ⊢
  refine lv_aload_n hx hb dX2_setEntries_0 rfl (lv_at hl 0 rfl) ?_
  refine lv_iload_n hx hb dX2_setEntries_1 rfl (lv_at hl 1 rfl) ?_
  refine va_put (D := D) (ci := 6) (v := .int p1) (ty := .int) (C := RX2) (T := TX2) (N := 9) hx hb hts inX2 tyX2 tyX2_ok nmX2 hown hK hP hD hS 1 rfl rfl 8 (by decide) (hts _ q76) (fun _ h9 => h9) rfl (by decide +kernel) rfl rfl (Nat.le_of_ble_eq_true rfl) dX2_setEntries_2 (fun H locs hP hD hS => ?_)
  have hP : va_P D vwCl (WC ca ad bq nF nO nL nA nC nV nU nP p1 bF bO bL bA bC bV bU bP bE cT cK cO cQ cD pT pK pR pW pU pI pC uO uF uE uN wK jM jN jZ jB ++ R) H := hP
  have hD : va_D A (WC ca ad bq nF nO nL nA nC nV nU nP p1 bF bO bL bA bC bV bU bP bE cT cK cO cQ cD pT pK pR pW pU pI pC uO uF uE uN wK jM jN jZ jB ++ R) := hD
  cases hf
  exact end_v hAe hQm hx hb hr hlocks hP hD hS dX2_setEntries_5
def f_S_fileTotal (nF : Int32) : Option (Int32) :=
  some nF
set_option maxHeartbeats 4000000 in
set_option maxRecDepth 100000 in
theorem m_S_fileTotal (l : Launch) {D : va_G} {sl : List (String × Nat × String)} (ca : Nat → ClassId) (ad : Nat → Nat) (bq : Nat) (nF : Int32) (nO : Nat → Int32) (nL : Nat → Int32) (nA : Nat → Int32) (nC : Nat → Int32) (nV : Nat → Int32) (nU : Nat → Int32) (nP : Nat → Int32) (nE : Int32) (bF : Int32) (bO : Nat → Int32) (bL : Nat → Int32) (bA : Nat → Int32) (bC : Nat → Int32) (bV : Nat → Int32) (bU : Nat → Int32) (bP : Nat → Int32) (bE : Int32) (cT : Int32) (cK : Nat → Int32) (cO : Int32) (cQ : Nat → Int32) (cD : Int32) (pT : Int32) (pK : Int32) (pR : Nat → Int32) (pW : Nat → Int32) (pU : Nat → Int32) (pI : Nat → Int32) (pC : Nat → Nat → Int32) (uO : Int32) (uF : Nat → Int32) (uE : Nat → Int32) (uN : Nat → Int32) (wK : Nat → Int32) (jM : Int32) (jN : Int32) (jZ : Nat) (jB : Nat → Int32) (R : va_W) (sz : Nat) (ro : Int32) (hf : f_S_fileTotal nF = some ro) : Met l yX2_fileTotal (wm yX2_fileTotal cX2_fileTotal 1 (some .int)) ({ frames := 0, cells := 0, slots := 0, locals := 0 } : Room) (PRE [.ref (ad 1)] D ca sl (WC ca ad bq nF nO nL nA nC nV nU nP nE bF bO bL bA bC bV bU bP bE cT cK cO cQ cD pT pK pR pW pU pI pC uO uF uE uN wK jM jN jZ jB ++ R) sz) (QI ro D (WC ca ad bq nF nO nL nA nC nV nU nP nE bF bO bL bA bC bV bU bP bE cT cK cO cQ cD pT pK pR pW pU pI pC uO uF uE uN wK jM jN jZ jB ++ R) (WC ca ad bq nF nO nL nA nC nV nU nP nE bF bO bL bA bC bV bU bP bE cT cK cO cQ cD pT pK pR pW pU pI pC uO uF uE uN wK jM jN jZ jB ++ R) sz) 0 0 (va_A (WC ca ad bq nF nO nL nA nC nV nU nP nE bF bO bL bA bC bV bU bP bE cT cK cO cQ cD pT pK pR pW pU pI pC uO uF uE uN wK jM jN jZ jB ++ R) sz) := by
  refine Met.ofW (cc := cX2_fileTotal) (maxL := 1) (ret := (some .int)) (by decide) rfl ?_
  intro p e s m args below meth c s₁ B hml hv
  obtain ⟨rfl, rfl, hP, hE, hD0⟩ := hv
  have hx := B.exec
  have hb := B.bytes
  have hr := B.returns
  have hts := wm_ww (atoms_spec (ws := wm yX2_fileTotal cX2_fileTotal 1 (some .int)) B.pre)
  have hown : s.vm.findClass RX2 = some m.cls := findClass_of_methodNamed B.named
  have hlocks := B.notSynchronized
  have hK := hE.1
  have hD := hD0.self (sz := s.heap.size)
  generalize hAe : va_A (WC ca ad bq nF nO nL nA nC nV nU nP nE bF bO bL bA bC bV bU bP bE cT cK cO cQ cD pT pK pR pW pU pI pC uO uF uE uN wK jM jN jZ jB ++ R) s.heap.size = A at hD ⊢
  have hA : ∀ q : Nat, s.heap.size ≤ q → A q := fun q h => by rw [← hAe]; exact Or.inr h
  have hS : va_S A s.heap s.heap [] := va_S.rf
  have hl := lv_entry ([.ref (ad 1)]) (n := 1) (Nat.le_of_ble_eq_true rfl)
  rw [lg_entry_eq]
  generalize (lg_sl ([.ref (ad 1)]) ++ List.replicate (1 - (lg_sl ([.ref (ad 1)])).length) Slot.unset).toArray = ls at hl ⊢
  have hl : lv_has ls 1 [(0, .ref (ad 1))] := hl
  change W p l e ({ frames := 0, cells := 0, slots := 0, locals := 0 } : Room) s m _ below meth c s.heap [] 0 0 _ _
  generalize hQm : MQ below (QI ro D (WC ca ad bq nF nO nL nA nC nV nU nP nE bF bO bL bA bC bV bU bP bE cT cK cO cQ cD pT pK pR pW pU pI pC uO uF uE uN wK jM jN jZ jB ++ R) (WC ca ad bq nF nO nL nA nC nV nU nP nE bF bO bL bA bC bV bU bP bE cT cK cO cQ cD pT pK pR pW pU pI pC uO uF uE uN wK jM jN jZ jB ++ R) s.heap.size) _ s 0 0 A = Qm
  have hP : va_P D vwCl (WC ca ad bq nF nO nL nA nC nV nU nP nE bF bO bL bA bC bV bU bP bE cT cK cO cQ cD pT pK pR pW pU pI pC uO uF uE uN wK jM jN jZ jB ++ R) s.heap := hP
  generalize hae : ([.ref (ad 1)] : List Value).toArray = args at hts hQm ⊢
  refine lv_aload_n hx hb dX2_fileTotal_0 rfl (lv_at hl 0 rfl) ?_
  refine va_get (D := D) (ci := 6) (v := .int nF) (C := RX2) (T := TX2) (N := 9) hx hb hts inX2 hown hK hP 1 rfl rfl 0 (by decide) (hts _ q68) (fun _ h9 => h9) rfl dX2_fileTotal_1 ?_
  cases hf
  exact end_i hAe hQm hx hb hr hlocks rfl hP hD hS dX2_fileTotal_4
def f_S_addFile (p1 : Int32) (nF : Int32) (nO : Nat → Int32) (nL : Nat → Int32) (nA : Nat → Int32) : Option (Int32 × Int32 × (Nat → Int32) × (Nat → Int32) × (Nat → Int32)) :=
  if nF < 40 then
    if nF < 0 ∨ 40 ≤ nF.toNatClampNeg then none else
      if nF < 0 ∨ 40 ≤ nF.toNatClampNeg then none else
      if nF < 0 ∨ 40 ≤ nF.toNatClampNeg then none else
      some (nF, (nF + 1), (upd nO nF.toNatClampNeg p1), (upd nL nF.toNatClampNeg 1), (upd nA nF.toNatClampNeg (vp_nar .boolean 1)))
  else
    some ((-1), nF, nO, nL, nA)
set_option maxHeartbeats 4000000 in
set_option maxRecDepth 100000 in
theorem m_S_addFile (l : Launch) {D : va_G} {sl : List (String × Nat × String)} (ca : Nat → ClassId) (ad : Nat → Nat) (bq : Nat) (nF : Int32) (nO : Nat → Int32) (nL : Nat → Int32) (nA : Nat → Int32) (nC : Nat → Int32) (nV : Nat → Int32) (nU : Nat → Int32) (nP : Nat → Int32) (nE : Int32) (bF : Int32) (bO : Nat → Int32) (bL : Nat → Int32) (bA : Nat → Int32) (bC : Nat → Int32) (bV : Nat → Int32) (bU : Nat → Int32) (bP : Nat → Int32) (bE : Int32) (cT : Int32) (cK : Nat → Int32) (cO : Int32) (cQ : Nat → Int32) (cD : Int32) (pT : Int32) (pK : Int32) (pR : Nat → Int32) (pW : Nat → Int32) (pU : Nat → Int32) (pI : Nat → Int32) (pC : Nat → Nat → Int32) (uO : Int32) (uF : Nat → Int32) (uE : Nat → Int32) (uN : Nat → Int32) (wK : Nat → Int32) (jM : Int32) (jN : Int32) (jZ : Nat) (jB : Nat → Int32) (R : va_W) (sz : Nat) (p1 : Int32) (ro : Int32) (onF : Int32) (onO : Nat → Int32) (onL : Nat → Int32) (onA : Nat → Int32) (hf : f_S_addFile p1 nF nO nL nA = some (ro, onF, onO, onL, onA)) : Met l yX2_addFile (wm yX2_addFile cX2_addFile 3 (some .int)) ({ frames := 0, cells := 0, slots := 0, locals := 0 } : Room) (PRE [.ref (ad 1), .int p1] D ca sl (WC ca ad bq nF nO nL nA nC nV nU nP nE bF bO bL bA bC bV bU bP bE cT cK cO cQ cD pT pK pR pW pU pI pC uO uF uE uN wK jM jN jZ jB ++ R) sz) (QI ro D (WC ca ad bq onF onO onL onA nC nV nU nP nE bF bO bL bA bC bV bU bP bE cT cK cO cQ cD pT pK pR pW pU pI pC uO uF uE uN wK jM jN jZ jB ++ R) (WC ca ad bq nF nO nL nA nC nV nU nP nE bF bO bL bA bC bV bU bP bE cT cK cO cQ cD pT pK pR pW pU pI pC uO uF uE uN wK jM jN jZ jB ++ R) sz) 0 0 (va_A (WC ca ad bq nF nO nL nA nC nV nU nP nE bF bO bL bA bC bV bU bP bE cT cK cO cQ cD pT pK pR pW pU pI pC uO uF uE uN wK jM jN jZ jB ++ R) sz) := by
  refine Met.ofW (cc := cX2_addFile) (maxL := 3) (ret := (some .int)) (by decide) rfl ?_
  intro p e s m args below meth c s₁ B hml hv
  obtain ⟨rfl, rfl, hP, hE, hD0⟩ := hv
  have hx := B.exec
  have hb := B.bytes
  have hr := B.returns
  have hts := wm_ww (atoms_spec (ws := wm yX2_addFile cX2_addFile 3 (some .int)) B.pre)
  have hown : s.vm.findClass RX2 = some m.cls := findClass_of_methodNamed B.named
  have hlocks := B.notSynchronized
  have hK := hE.1
  have hD := hD0.self (sz := s.heap.size)
  generalize hAe : va_A (WC ca ad bq nF nO nL nA nC nV nU nP nE bF bO bL bA bC bV bU bP bE cT cK cO cQ cD pT pK pR pW pU pI pC uO uF uE uN wK jM jN jZ jB ++ R) s.heap.size = A at hD ⊢
  have hA : ∀ q : Nat, s.heap.size ≤ q → A q := fun q h => by rw [← hAe]; exact Or.inr h
  have hS : va_S A s.heap s.heap [] := va_S.rf
  have hl := lv_entry ([.ref (ad 1), .int p1]) (n := 3) (Nat.le_of_ble_eq_true rfl)
  rw [lg_entry_eq]
  generalize (lg_sl ([.ref (ad 1), .int p1]) ++ List.replicate (3 - (lg_sl ([.ref (ad 1), .int p1])).length) Slot.unset).toArray = ls at hl ⊢
  have hl : lv_has ls 3 [(0, .ref (ad 1)), (1, .int p1)] := hl
  change W p l e ({ frames := 0, cells := 0, slots := 0, locals := 0 } : Room) s m _ below meth c s.heap [] 0 0 _ _
  generalize hQm : MQ below (QI ro D (WC ca ad bq onF onO onL onA nC nV nU nP nE bF bO bL bA bC bV bU bP bE cT cK cO cQ cD pT pK pR pW pU pI pC uO uF uE uN wK jM jN jZ jB ++ R) (WC ca ad bq nF nO nL nA nC nV nU nP nE bF bO bL bA bC bV bU bP bE cT cK cO cQ cD pT pK pR pW pU pI pC uO uF uE uN wK jM jN jZ jB ++ R) s.heap.size) _ s 0 0 A = Qm
  have hP : va_P D vwCl (WC ca ad bq nF nO nL nA nC nV nU nP nE bF bO bL bA bC bV bU bP bE cT cK cO cQ cD pT pK pR pW pU pI pC uO uF uE uN wK jM jN jZ jB ++ R) s.heap := hP
  generalize hae : ([.ref (ad 1), .int p1] : List Value).toArray = args at hts hQm ⊢
  refine lv_aload_n hx hb dX2_addFile_0 rfl (lv_at hl 0 rfl) ?_
  refine va_get (D := D) (ci := 6) (v := .int nF) (C := RX2) (T := TX2) (N := 9) hx hb hts inX2 hown hK hP 1 rfl rfl 0 (by decide) (hts _ q68) (fun _ h9 => h9) rfl dX2_addFile_1 ?_
  refine lv_bipush (v := 40) hx hb dX2_addFile_4 (by decide) ?_
  refine lv_icmp_lt (tgt := 11) hx hb dX2_addFile_6 (by decide) (fun c1 => ?_) (fun c1 => ?_)
  · have hf := br_pos c1 hf
    refine lv_aload_n hx hb dX2_addFile_11 rfl (lv_at hl 0 rfl) ?_
    refine va_get (D := D) (ci := 6) (v := .int nF) (C := RX2) (T := TX2) (N := 9) hx hb hts inX2 hown hK hP 1 rfl rfl 0 (by decide) (hts _ q68) (fun _ h9 => h9) rfl dX2_addFile_12 ?_
    refine lv_istore_n (lv' := [(2, .int nF), (0, .ref (ad 1)), (1, .int p1)]) hx hb dX2_addFile_15 rfl hl (by decide) rfl (fun ls hl => ?_)
    refine lv_aload_n hx hb dX2_addFile_16 rfl (lv_at hl 1 rfl) ?_
    refine va_get (D := D) (ci := 6) (v := .ref (ad 9)) (C := RX2) (T := TX2) (N := 9) hx hb hts inX2 hown hK hP 1 rfl rfl 1 (by decide) (hts _ q69) (fun _ h9 => h9) rfl dX2_addFile_17 ?_
    refine lv_iload_n hx hb dX2_addFile_20 rfl (lv_at hl 0 rfl) ?_
    refine lv_iload_n hx hb dX2_addFile_21 rfl (lv_at hl 2 rfl) ?_
    obtain ⟨k2, hf⟩ := ck_not hf
    refine va_iast (D := D) hx hb hK hP hD hS 2 0 rfl rfl k2 dX2_addFile_22 (fun H locs hP hD hS => ?_)
    have hP : va_P D vwCl (WC ca ad bq nF (upd nO nF.toNatClampNeg p1) nL nA nC nV nU nP nE bF bO bL bA bC bV bU bP bE cT cK cO cQ cD pT pK pR pW pU pI pC uO uF uE uN wK jM jN jZ jB ++ R) H := hP
    have hD : va_D A (WC ca ad bq nF (upd nO nF.toNatClampNeg p1) nL nA nC nV nU nP nE bF bO bL bA bC bV bU bP bE cT cK cO cQ cD pT pK pR pW pU pI pC uO uF uE uN wK jM jN jZ jB ++ R) := hD
    refine lv_aload_n hx hb dX2_addFile_23 rfl (lv_at hl 1 rfl) ?_
    refine va_get (D := D) (ci := 6) (v := .ref (ad 10)) (C := RX2) (T := TX2) (N := 9) hx hb hts inX2 hown hK hP 1 rfl rfl 2 (by decide) (hts _ q70) (fun _ h9 => h9) rfl dX2_addFile_24 ?_
    refine lv_iload_n hx hb dX2_addFile_27 rfl (lv_at hl 0 rfl) ?_
    refine lv_iconst (v := 1) hx hb dX2_addFile_28 (by decide) ?_
    obtain ⟨k3, hf⟩ := ck_not hf
    refine va_iast (D := D) hx hb hK hP hD hS 3 0 rfl rfl k3 dX2_addFile_29 (fun H locs hP hD hS => ?_)
    have hP : va_P D vwCl (WC ca ad bq nF (upd nO nF.toNatClampNeg p1) (upd nL nF.toNatClampNeg 1) nA nC nV nU nP nE bF bO bL bA bC bV bU bP bE cT cK cO cQ cD pT pK pR pW pU pI pC uO uF uE uN wK jM jN jZ jB ++ R) H := hP
    have hD : va_D A (WC ca ad bq nF (upd nO nF.toNatClampNeg p1) (upd nL nF.toNatClampNeg 1) nA nC nV nU nP nE bF bO bL bA bC bV bU bP bE cT cK cO cQ cD pT pK pR pW pU pI pC uO uF uE uN wK jM jN jZ jB ++ R) := hD
    refine lv_aload_n hx hb dX2_addFile_30 rfl (lv_at hl 1 rfl) ?_
    refine va_get (D := D) (ci := 6) (v := .ref (ad 11)) (C := RX2) (T := TX2) (N := 9) hx hb hts inX2 hown hK hP 1 rfl rfl 3 (by decide) (hts _ q71) (fun _ h9 => h9) rfl dX2_addFile_31 ?_
    refine lv_iload_n hx hb dX2_addFile_34 rfl (lv_at hl 0 rfl) ?_
    refine lv_iconst (v := 1) hx hb dX2_addFile_35 (by decide) ?_
    obtain ⟨k4, hf⟩ := ck_not hf
    refine va_zast (D := D) hx hb hK hP hD hS 4 1 rfl rfl k4 dX2_addFile_36 (fun H locs hP hD hS => ?_)
    have hP : va_P D vwCl (WC ca ad bq nF (upd nO nF.toNatClampNeg p1) (upd nL nF.toNatClampNeg 1) (upd nA nF.toNatClampNeg (vp_nar .boolean 1)) nC nV nU nP nE bF bO bL bA bC bV bU bP bE cT cK cO cQ cD pT pK pR pW pU pI pC uO uF uE uN wK jM jN jZ jB ++ R) H := hP
    have hD : va_D A (WC ca ad bq nF (upd nO nF.toNatClampNeg p1) (upd nL nF.toNatClampNeg 1) (upd nA nF.toNatClampNeg (vp_nar .boolean 1)) nC nV nU nP nE bF bO bL bA bC bV bU bP bE cT cK cO cQ cD pT pK pR pW pU pI pC uO uF uE uN wK jM jN jZ jB ++ R) := hD
    refine lv_aload_n hx hb dX2_addFile_37 rfl (lv_at hl 1 rfl) ?_
    refine lv_iload_n hx hb dX2_addFile_38 rfl (lv_at hl 0 rfl) ?_
    refine lv_iconst (v := 1) hx hb dX2_addFile_39 (by decide) ?_
    refine lv_iadd hx hb dX2_addFile_40 ?_
    refine va_put (D := D) (ci := 6) (v := .int (nF + 1)) (ty := .int) (C := RX2) (T := TX2) (N := 9) hx hb hts inX2 tyX2 tyX2_ok nmX2 hown hK hP hD hS 1 rfl rfl 0 (by decide) (hts _ q68) (fun _ h9 => h9) rfl (by decide +kernel) rfl rfl (Nat.le_of_ble_eq_true rfl) dX2_addFile_41 (fun H locs hP hD hS => ?_)
    have hP : va_P D vwCl (WC ca ad bq (nF + 1) (upd nO nF.toNatClampNeg p1) (upd nL nF.toNatClampNeg 1) (upd nA nF.toNatClampNeg (vp_nar .boolean 1)) nC nV nU nP nE bF bO bL bA bC bV bU bP bE cT cK cO cQ cD pT pK pR pW pU pI pC uO uF uE uN wK jM jN jZ jB ++ R) H := hP
    have hD : va_D A (WC ca ad bq (nF + 1) (upd nO nF.toNatClampNeg p1) (upd nL nF.toNatClampNeg 1) (upd nA nF.toNatClampNeg (vp_nar .boolean 1)) nC nV nU nP nE bF bO bL bA bC bV bU bP bE cT cK cO cQ cD pT pK pR pW pU pI pC uO uF uE uN wK jM jN jZ jB ++ R) := hD
    refine lv_iload_n hx hb dX2_addFile_44 rfl (lv_at hl 0 rfl) ?_
    cases hf
    exact end_i hAe hQm hx hb hr hlocks rfl hP hD hS dX2_addFile_45
  · have hf := br_neg c1 hf
    refine lv_iconst (v := (-1)) hx hb dX2_addFile_9 (by decide) ?_
    cases hf
    exact end_i hAe hQm hx hb hr hlocks rfl hP hD hS dX2_addFile_10
def f_S_setBlock (p1 : Int32) (p2 : Int32) (p3 : Int32) (nF : Int32) (nC : Nat → Int32) (nU : Nat → Int32) : Option ((Nat → Int32) × (Nat → Int32)) :=
  (f_S_hasFile p1 nF).bind fun r1 =>
  if r1 = 0 then
    some (nC, nU)
  else
    (f_C_isPlace p2).bind fun r4 =>
    if r4 = 0 then
      some (nC, nU)
    else
      if ((p1 * 16) + p2) < 0 ∨ 640 ≤ ((p1 * 16) + p2).toNatClampNeg then none else
        (f_S_removeUser (nC ((p1 * 16) + p2).toNatClampNeg) nU).bind fun nU_8 =>
      (f_S_addUser p3 nU_8).bind fun nU_10 =>
      if ((p1 * 16) + p2) < 0 ∨ 640 ≤ ((p1 * 16) + p2).toNatClampNeg then none else
        some ((upd nC ((p1 * 16) + p2).toNatClampNeg p3), nU_10)
set_option maxHeartbeats 4000000 in
set_option maxRecDepth 100000 in
theorem m_S_setBlock (l : Launch) {D : va_G} {sl : List (String × Nat × String)} (ca : Nat → ClassId) (ad : Nat → Nat) (bq : Nat) (nF : Int32) (nO : Nat → Int32) (nL : Nat → Int32) (nA : Nat → Int32) (nC : Nat → Int32) (nV : Nat → Int32) (nU : Nat → Int32) (nP : Nat → Int32) (nE : Int32) (bF : Int32) (bO : Nat → Int32) (bL : Nat → Int32) (bA : Nat → Int32) (bC : Nat → Int32) (bV : Nat → Int32) (bU : Nat → Int32) (bP : Nat → Int32) (bE : Int32) (cT : Int32) (cK : Nat → Int32) (cO : Int32) (cQ : Nat → Int32) (cD : Int32) (pT : Int32) (pK : Int32) (pR : Nat → Int32) (pW : Nat → Int32) (pU : Nat → Int32) (pI : Nat → Int32) (pC : Nat → Nat → Int32) (uO : Int32) (uF : Nat → Int32) (uE : Nat → Int32) (uN : Nat → Int32) (wK : Nat → Int32) (jM : Int32) (jN : Int32) (jZ : Nat) (jB : Nat → Int32) (R : va_W) (sz : Nat) (p1 : Int32) (p2 : Int32) (p3 : Int32) (onC : Nat → Int32) (onU : Nat → Int32) (hf : f_S_setBlock p1 p2 p3 nF nC nU = some (onC, onU)) : Met l yX2_setBlock (wm yX2_setBlock cX2_setBlock 5 none) ({ frames := 2, cells := 0, slots := 0, locals := 41 } : Room) (PRE [.ref (ad 1), .int p1, .int p2, .int p3] D ca sl (WC ca ad bq nF nO nL nA nC nV nU nP nE bF bO bL bA bC bV bU bP bE cT cK cO cQ cD pT pK pR pW pU pI pC uO uF uE uN wK jM jN jZ jB ++ R) sz) (QV D (WC ca ad bq nF nO nL nA onC nV onU nP nE bF bO bL bA bC bV bU bP bE cT cK cO cQ cD pT pK pR pW pU pI pC uO uF uE uN wK jM jN jZ jB ++ R) (WC ca ad bq nF nO nL nA nC nV nU nP nE bF bO bL bA bC bV bU bP bE cT cK cO cQ cD pT pK pR pW pU pI pC uO uF uE uN wK jM jN jZ jB ++ R) sz) 0 0 (va_A (WC ca ad bq nF nO nL nA nC nV nU nP nE bF bO bL bA bC bV bU bP bE cT cK cO cQ cD pT pK pR pW pU pI pC uO uF uE uN wK jM jN jZ jB ++ R) sz) := by
  refine Met.ofW (cc := cX2_setBlock) (maxL := 5) (ret := none) (by decide) rfl ?_
  intro p e s m args below meth c s₁ B hml hv
  obtain ⟨rfl, rfl, hP, hE, hD0⟩ := hv
  have hx := B.exec
  have hb := B.bytes
  have hr := B.returns
  have hts := wm_ww (atoms_spec (ws := wm yX2_setBlock cX2_setBlock 5 none) B.pre)
  have hown : s.vm.findClass RX2 = some m.cls := findClass_of_methodNamed B.named
  have hlocks := B.notSynchronized
  have hK := hE.1
  have hD := hD0.self (sz := s.heap.size)
  generalize hAe : va_A (WC ca ad bq nF nO nL nA nC nV nU nP nE bF bO bL bA bC bV bU bP bE cT cK cO cQ cD pT pK pR pW pU pI pC uO uF uE uN wK jM jN jZ jB ++ R) s.heap.size = A at hD ⊢
  have hA : ∀ q : Nat, s.heap.size ≤ q → A q := fun q h => by rw [← hAe]; exact Or.inr h
  have hS : va_S A s.heap s.heap [] := va_S.rf
  have hl := lv_entry ([.ref (ad 1), .int p1, .int p2, .int p3]) (n := 5) (Nat.le_of_ble_eq_true rfl)
  rw [lg_entry_eq]
  generalize (lg_sl ([.ref (ad 1), .int p1, .int p2, .int p3]) ++ List.replicate (5 - (lg_sl ([.ref (ad 1), .int p1, .int p2, .int p3])).length) Slot.unset).toArray = ls at hl ⊢
  have hl : lv_has ls 5 [(0, .ref (ad 1)), (1, .int p1), (2, .int p2), (3, .int p3)] := hl
  change W p l e ({ frames := 2, cells := 0, slots := 0, locals := 41 } : Room) s m _ below meth c s.heap [] 0 0 _ _
  generalize hQm : MQ below (QV D (WC ca ad bq nF nO nL nA onC nV onU nP nE bF bO bL bA bC bV bU bP bE cT cK cO cQ cD pT pK pR pW pU pI pC uO uF uE uN wK jM jN jZ jB ++ R) (WC ca ad bq nF nO nL nA nC nV nU nP nE bF bO bL bA bC bV bU bP bE cT cK cO cQ cD pT pK pR pW pU pI pC uO uF uE uN wK jM jN jZ jB ++ R) s.heap.size) _ s 0 0 A = Qm
  have hP : va_P D vwCl (WC ca ad bq nF nO nL nA nC nV nU nP nE bF bO bL bA bC bV bU bP bE cT cK cO cQ cD pT pK pR pW pU pI pC uO uF uE uN wK jM jN jZ jB ++ R) s.heap := hP
  generalize hae : ([.ref (ad 1), .int p1, .int p2, .int p3] : List Value).toArray = args at hts hQm ⊢
  refine lv_aload_n hx hb dX2_setBlock_0 rfl (lv_at hl 0 rfl) ?_
  refine lv_iload_n hx hb dX2_setBlock_1 rfl (lv_at hl 1 rfl) ?_
  obtain ⟨r1, h2, hf⟩ := bnd hf
  refine call_vi (rest := []) (m_S_hasFile l ca ad bq nF nO nL nA nC nV nU nP nE bF bO bL bA bC bV bU bP bE cT cK cO cQ cD pT pK pR pW pU pI pC uO uF uE uN wK jM jN jZ jB R _ p1 r1 h2) ⟨hx, hb, hml, hown, hts⟩ (cwV 1 hts (gV q433 q425 q426 q25 q427) rfl rfl rfl (by decide +kernel) ⟨Nat.le_of_ble_eq_true rfl, Nat.le_of_ble_eq_true rfl⟩) (va_recv hK hP (ci := 6) (q0 := 1) rfl rfl) hE hP hD hS hA rfl hl.1 rfl (lv_room (Nat.le_of_ble_eq_true rfl)) dX2_setBlock_2 ⟨Nat.le_of_ble_eq_true rfl, Nat.le_of_ble_eq_true rfl⟩ (fun H locs hP hD hS => ?_)
  refine lv_if_eq (tgt := 47) hx hb dX2_setBlock_5 (by decide) (fun c3 => ?_) (fun c3 => ?_)
  · have hf := br_pos c3 hf
    cases hf
    exact end_v hAe hQm hx hb hr hlocks hP hD hS dX2_setBlock_47
  · have hf := br_neg c3 hf
    refine lv_iload_n hx hb dX2_setBlock_8 rfl (lv_at hl 2 rfl) ?_
    obtain ⟨r4, h5, hf⟩ := bnd hf
    refine call_ni (rest := []) (m_C_isPlace l ca ad bq nF nO nL nA nC nV nU nP nE bF bO bL bA bC bV bU bP bE cT cK cO cQ cD pT pK pR pW pU pI pC uO uF uE uN wK jM jN jZ jB R _ p2 r4 h5) ⟨hx, hb, hml, hown, hts⟩ ⟨va_cnB 1 hts (gM q486) rfl rfl rfl (hE.2.1 _ n484) (hts _ q24) (by decide +kernel) ⟨Nat.le_of_ble_eq_true rfl, Nat.le_of_ble_eq_true rfl⟩, hts _ q485, trivial⟩ hE hP hD hS hA rfl hl.1 rfl (lv_room (Nat.le_of_ble_eq_true rfl)) dX2_setBlock_9 ⟨Nat.le_of_ble_eq_true rfl, Nat.le_of_ble_eq_true rfl⟩ (fun H locs hP hD hS => ?_)
    refine lv_if_eq (tgt := 47) hx hb dX2_setBlock_12 (by decide) (fun c6 => ?_) (fun c6 => ?_)
    · have hf := br_pos c6 hf
      cases hf
      exact end_v hAe hQm hx hb hr hlocks hP hD hS dX2_setBlock_47
    · have hf := br_neg c6 hf
      refine lv_iload_n hx hb dX2_setBlock_15 rfl (lv_at hl 1 rfl) ?_
      refine lv_bipush (v := 16) hx hb dX2_setBlock_16 (by decide) ?_
      refine lv_imul hx hb dX2_setBlock_18 ?_
      refine lv_iload_n hx hb dX2_setBlock_19 rfl (lv_at hl 2 rfl) ?_
      refine lv_iadd hx hb dX2_setBlock_20 ?_
      refine lv_istore (lv' := [(4, .int ((p1 * 16) + p2)), (0, .ref (ad 1)), (1, .int p1), (2, .int p2), (3, .int p3)]) hx hb dX2_setBlock_21 hl (by decide) rfl (fun ls hl => ?_)
      refine lv_aload_n hx hb dX2_setBlock_23 rfl (lv_at hl 1 rfl) ?_
      refine lv_aload_n hx hb dX2_setBlock_24 rfl (lv_at hl 1 rfl) ?_
      refine va_get (D := D) (ci := 6) (v := .ref (ad 12)) (C := RX2) (T := TX2) (N := 9) hx hb hts inX2 hown hK hP 1 rfl rfl 4 (by decide) (hts _ q72) (fun _ h9 => h9) rfl dX2_setBlock_25 ?_
      refine lv_iload hx hb dX2_setBlock_28 (lv_at hl 0 rfl) ?_
      obtain ⟨k7, hf⟩ := ck_not hf
      refine va_iald (D := D) hx hb hK hP 5 0 rfl rfl k7 dX2_setBlock_30 ?_
      obtain ⟨nU_8, h9, hf⟩ := bnd hf
      refine call_vv (rest := []) (m_S_removeUser l ca ad bq nF nO nL nA nC nV nU nP nE bF bO bL bA bC bV bU bP bE cT cK cO cQ cD pT pK pR pW pU pI pC uO uF uE uN wK jM jN jZ jB R _ (nC ((p1 * 16) + p2).toNatClampNeg) nU_8 h9) ⟨hx, hb, hml, hown, hts⟩ (cwV 1 hts (gV q487 q488 q489 q25 q490) rfl rfl rfl (by decide +kernel) ⟨Nat.le_of_ble_eq_true rfl, Nat.le_of_ble_eq_true rfl⟩) (va_recv hK hP (ci := 6) (q0 := 1) rfl rfl) hE hP hD hS hA rfl hl.1 rfl (lv_room (Nat.le_of_ble_eq_true rfl)) dX2_setBlock_31 ⟨Nat.le_of_ble_eq_true rfl, Nat.le_of_ble_eq_true rfl⟩ (fun H locs hP hD hS => ?_)
      refine lv_aload_n hx hb dX2_setBlock_34 rfl (lv_at hl 1 rfl) ?_
      refine lv_iload_n hx hb dX2_setBlock_35 rfl (lv_at hl 4 rfl) ?_
      obtain ⟨nU_10, h11, hf⟩ := bnd hf
      refine call_vv (rest := []) (m_S_addUser l ca ad bq nF nO nL nA nC nV nU_8 nP nE bF bO bL bA bC bV bU bP bE cT cK cO cQ cD pT pK pR pW pU pI pC uO uF uE uN wK jM jN jZ jB R _ p3 nU_10 h11) ⟨hx, hb, hml, hown, hts⟩ (cwV 1 hts (gV q494 q495 q496 q25 q497) rfl rfl rfl (by decide +kernel) ⟨Nat.le_of_ble_eq_true rfl, Nat.le_of_ble_eq_true rfl⟩) (va_recv hK hP (ci := 6) (q0 := 1) rfl rfl) hE hP hD hS hA rfl hl.1 rfl (lv_room (Nat.le_of_ble_eq_true rfl)) dX2_setBlock_36 ⟨Nat.le_of_ble_eq_true rfl, Nat.le_of_ble_eq_true rfl⟩ (fun H locs hP hD hS => ?_)
      refine lv_aload_n hx hb dX2_setBlock_39 rfl (lv_at hl 1 rfl) ?_
      refine va_get (D := D) (ci := 6) (v := .ref (ad 12)) (C := RX2) (T := TX2) (N := 9) hx hb hts inX2 hown hK hP 1 rfl rfl 4 (by decide) (hts _ q72) (fun _ h9 => h9) rfl dX2_setBlock_40 ?_
      refine lv_iload hx hb dX2_setBlock_43 (lv_at hl 0 rfl) ?_
      refine lv_iload_n hx hb dX2_setBlock_45 rfl (lv_at hl 4 rfl) ?_
      obtain ⟨k12, hf⟩ := ck_not hf
      refine va_iast (D := D) hx hb hK hP hD hS 5 0 rfl rfl k12 dX2_setBlock_46 (fun H locs hP hD hS => ?_)
      have hP : va_P D vwCl (WC ca ad bq nF nO nL nA (upd nC ((p1 * 16) + p2).toNatClampNeg p3) nV nU_10 nP nE bF bO bL bA bC bV bU bP bE cT cK cO cQ cD pT pK pR pW pU pI pC uO uF uE uN wK jM jN jZ jB ++ R) H := hP
      have hD : va_D A (WC ca ad bq nF nO nL nA (upd nC ((p1 * 16) + p2).toNatClampNeg p3) nV nU_10 nP nE bF bO bL bA bC bV bU bP bE cT cK cO cQ cD pT pK pR pW pU pI pC uO uF uE uN wK jM jN jZ jB ++ R) := hD
      cases hf
      exact end_v hAe hQm hx hb hr hlocks hP hD hS dX2_setBlock_47
def f_S_removeFile_L17 : Nat → Int32 → Int32 → Int32 → (Nat → Int32) → (Nat → Int32) → Option ((Nat → Int32) × (Nat → Int32))
  | 0, _, _, _, _, _ => none
  | fuel + 1, v1, v2, nF, nC, nU =>
    if 16 ≤ v2 then
      some (nC, nU)
    else
      (f_S_setBlock v1 v2 (-1) nF nC nU).bind fun (nC_10, nU_11) =>
      f_S_removeFile_L17 fuel v1 (v2 + 1) nF nC_10 nU_11
def f_S_removeFile (p1 : Int32) (nF : Int32) (nA : Nat → Int32) (nC : Nat → Int32) (nU : Nat → Int32) : Option ((Nat → Int32) × (Nat → Int32) × (Nat → Int32)) :=
  (f_S_hasFile p1 nF).bind fun r1 =>
  if r1 = 0 then
    some (nA, nC, nU)
  else
    if p1 < 0 ∨ 40 ≤ p1.toNatClampNeg then none else
      (f_S_removeFile_L17 FU p1 0 nF nC nU).bind fun (nC_14, nU_15) =>
    some ((upd nA p1.toNatClampNeg (vp_nar .boolean 0)), nC_14, nU_15)
set_option maxHeartbeats 4000000 in
set_option maxRecDepth 100000 in
theorem m_S_removeFile (l : Launch) {D : va_G} {sl : List (String × Nat × String)} (ca : Nat → ClassId) (ad : Nat → Nat) (bq : Nat) (nF : Int32) (nO : Nat → Int32) (nL : Nat → Int32) (nA : Nat → Int32) (nC : Nat → Int32) (nV : Nat → Int32) (nU : Nat → Int32) (nP : Nat → Int32) (nE : Int32) (bF : Int32) (bO : Nat → Int32) (bL : Nat → Int32) (bA : Nat → Int32) (bC : Nat → Int32) (bV : Nat → Int32) (bU : Nat → Int32) (bP : Nat → Int32) (bE : Int32) (cT : Int32) (cK : Nat → Int32) (cO : Int32) (cQ : Nat → Int32) (cD : Int32) (pT : Int32) (pK : Int32) (pR : Nat → Int32) (pW : Nat → Int32) (pU : Nat → Int32) (pI : Nat → Int32) (pC : Nat → Nat → Int32) (uO : Int32) (uF : Nat → Int32) (uE : Nat → Int32) (uN : Nat → Int32) (wK : Nat → Int32) (jM : Int32) (jN : Int32) (jZ : Nat) (jB : Nat → Int32) (R : va_W) (sz : Nat) (p1 : Int32) (onA : Nat → Int32) (onC : Nat → Int32) (onU : Nat → Int32) (hf : f_S_removeFile p1 nF nA nC nU = some (onA, onC, onU)) : Met l yX2_removeFile (wm yX2_removeFile cX2_removeFile 3 none) ({ frames := 3, cells := 0, slots := 0, locals := 65 } : Room) (PRE [.ref (ad 1), .int p1] D ca sl (WC ca ad bq nF nO nL nA nC nV nU nP nE bF bO bL bA bC bV bU bP bE cT cK cO cQ cD pT pK pR pW pU pI pC uO uF uE uN wK jM jN jZ jB ++ R) sz) (QV D (WC ca ad bq nF nO nL onA onC nV onU nP nE bF bO bL bA bC bV bU bP bE cT cK cO cQ cD pT pK pR pW pU pI pC uO uF uE uN wK jM jN jZ jB ++ R) (WC ca ad bq nF nO nL nA nC nV nU nP nE bF bO bL bA bC bV bU bP bE cT cK cO cQ cD pT pK pR pW pU pI pC uO uF uE uN wK jM jN jZ jB ++ R) sz) 0 0 (va_A (WC ca ad bq nF nO nL nA nC nV nU nP nE bF bO bL bA bC bV bU bP bE cT cK cO cQ cD pT pK pR pW pU pI pC uO uF uE uN wK jM jN jZ jB ++ R) sz) := by
  refine Met.ofW (cc := cX2_removeFile) (maxL := 3) (ret := none) (by decide) rfl ?_
  intro p e s m args below meth c s₁ B hml hv
  obtain ⟨rfl, rfl, hP, hE, hD0⟩ := hv
  have hx := B.exec
  have hb := B.bytes
  have hr := B.returns
  have hts := wm_ww (atoms_spec (ws := wm yX2_removeFile cX2_removeFile 3 none) B.pre)
  have hown : s.vm.findClass RX2 = some m.cls := findClass_of_methodNamed B.named
  have hlocks := B.notSynchronized
  have hK := hE.1
  have hD := hD0.self (sz := s.heap.size)
  generalize hAe : va_A (WC ca ad bq nF nO nL nA nC nV nU nP nE bF bO bL bA bC bV bU bP bE cT cK cO cQ cD pT pK pR pW pU pI pC uO uF uE uN wK jM jN jZ jB ++ R) s.heap.size = A at hD ⊢
  have hA : ∀ q : Nat, s.heap.size ≤ q → A q := fun q h => by rw [← hAe]; exact Or.inr h
  have hS : va_S A s.heap s.heap [] := va_S.rf
  have hl := lv_entry ([.ref (ad 1), .int p1]) (n := 3) (Nat.le_of_ble_eq_true rfl)
  rw [lg_entry_eq]
  generalize (lg_sl ([.ref (ad 1), .int p1]) ++ List.replicate (3 - (lg_sl ([.ref (ad 1), .int p1])).length) Slot.unset).toArray = ls at hl ⊢
  have hl : lv_has ls 3 [(0, .ref (ad 1)), (1, .int p1)] := hl
  change W p l e ({ frames := 3, cells := 0, slots := 0, locals := 65 } : Room) s m _ below meth c s.heap [] 0 0 _ _
  generalize hQm : MQ below (QV D (WC ca ad bq nF nO nL onA onC nV onU nP nE bF bO bL bA bC bV bU bP bE cT cK cO cQ cD pT pK pR pW pU pI pC uO uF uE uN wK jM jN jZ jB ++ R) (WC ca ad bq nF nO nL nA nC nV nU nP nE bF bO bL bA bC bV bU bP bE cT cK cO cQ cD pT pK pR pW pU pI pC uO uF uE uN wK jM jN jZ jB ++ R) s.heap.size) _ s 0 0 A = Qm
  have hP : va_P D vwCl (WC ca ad bq nF nO nL nA nC nV nU nP nE bF bO bL bA bC bV bU bP bE cT cK cO cQ cD pT pK pR pW pU pI pC uO uF uE uN wK jM jN jZ jB ++ R) s.heap := hP
  generalize hae : ([.ref (ad 1), .int p1] : List Value).toArray = args at hts hQm ⊢
  have L17 : ∀ (n : Nat) (v1 : Int32) (v2 : Int32) (nA : Nat → Int32) (nC : Nat → Int32) (nU : Nat → Int32) (znC : Nat → Int32) (znU : Nat → Int32), f_S_removeFile_L17 n v1 v2 nF nC nU = some (znC, znU) → ∀ (H : Heap) (locs : List Loc) (ls : Array Slot), va_P D vwCl (WC ca ad bq nF nO nL nA nC nV nU nP nE bF bO bL bA bC bV bU bP bE cT cK cO cQ cD pT pK pR pW pU pI pC uO uF uE uN wK jM jN jZ jB ++ R) H → va_D A (WC ca ad bq nF nO nL nA nC nV nU nP nE bF bO bL bA bC bV bU bP bE cT cK cO cQ cD pT pK pR pW pU pI pC uO uF uE uN wK jM jN jZ jB ++ R) → va_S A s.heap H locs → lv_has ls 3 [(0, .ref (ad 1)), (1, .int v1), (2, .int v2)] → (∀ (H : Heap) (locs : List Loc) (ls : Array Slot), va_P D vwCl (WC ca ad bq nF nO nL nA znC nV znU nP nE bF bO bL bA bC bV bU bP bE cT cK cO cQ cD pT pK pR pW pU pI pC uO uF uE uN wK jM jN jZ jB ++ R) H → va_D A (WC ca ad bq nF nO nL nA znC nV znU nP nE bF bO bL bA bC bV bU bP bE cT cK cO cQ cD pT pK pR pW pU pI pC uO uF uE uN wK jM jN jZ jB ++ R) → va_S A s.heap H locs → lv_has ls 3 [] → W p l e ({ frames := 3, cells := 0, slots := 0, locals := 65 } : Room) s m args below meth c H locs 0 0 Qm (F0 m 36 ls [])) → W p l e ({ frames := 3, cells := 0, slots := 0, locals := 65 } : Room) s m args below meth c H locs 0 0 Qm (F0 m 17 ls []) := by
    intro n
    induction n with
    | zero => intro v1 v2 nA nC nU znC znU hf; cases hf
    | succ n ih =>
      intro v1 v2 nA nC nU znC znU hf H locs ls hP hD hS hl kk
      unfold f_S_removeFile_L17 at hf
      refine lv_iload_n hx hb dX2_removeFile_17 rfl (lv_at hl 2 rfl) ?_
      refine lv_bipush (v := 16) hx hb dX2_removeFile_18 (by decide) ?_
      refine lv_icmp_ge (tgt := 36) hx hb dX2_removeFile_20 (by decide) (fun c9 => ?_) (fun c9 => ?_)
      · have hf := br_pos c9 hf
        cases hf
        exact kk _ _ _ hP hD hS (lv_sub hl [] rfl)
      · have hf := br_neg c9 hf
        refine lv_aload_n hx hb dX2_removeFile_23 rfl (lv_at hl 0 rfl) ?_
        refine lv_iload_n hx hb dX2_removeFile_24 rfl (lv_at hl 1 rfl) ?_
        refine lv_iload_n hx hb dX2_removeFile_25 rfl (lv_at hl 2 rfl) ?_
        refine lv_iconst (v := (-1)) hx hb dX2_removeFile_26 (by decide) ?_
        obtain ⟨⟨nC_10, nU_11⟩, h12, hf⟩ := bnd hf
        refine call_vv (rest := []) (m_S_setBlock l ca ad bq nF nO nL nA nC nV nU nP nE bF bO bL bA bC bV bU bP bE cT cK cO cQ cD pT pK pR pW pU pI pC uO uF uE uN wK jM jN jZ jB R _ v1 v2 (-1) nC_10 nU_11 h12) ⟨hx, hb, hml, hown, hts⟩ (cwV 3 hts (gV q480 q481 q482 q25 q483) rfl rfl rfl (by decide +kernel) ⟨Nat.le_of_ble_eq_true rfl, Nat.le_of_ble_eq_true rfl⟩) (va_recv hK hP (ci := 6) (q0 := 1) rfl rfl) hE hP hD hS hA rfl hl.1 rfl (lv_room (Nat.le_of_ble_eq_true rfl)) dX2_removeFile_27 ⟨Nat.le_of_ble_eq_true rfl, Nat.le_of_ble_eq_true rfl⟩ (fun H locs hP hD hS => ?_)
        refine lv_iinc (v := (v2 + 1)) (lv' := [(2, .int (v2 + 1)), (0, .ref (ad 1)), (1, .int v1)]) hx hb dX2_removeFile_30 hl (k := 2) rfl rfl (by decide) rfl (fun ls hl => ?_)
        refine lv_goto (tgt := 17) hx hb dX2_removeFile_33 (by decide) ?_
        exact ih v1 (v2 + 1) nA nC_10 nU_11 _ _ hf _ _ _ hP hD hS (lv_sub hl [1, 2, 0] rfl) kk
  refine lv_aload_n hx hb dX2_removeFile_0 rfl (lv_at hl 0 rfl) ?_
  refine lv_iload_n hx hb dX2_removeFile_1 rfl (lv_at hl 1 rfl) ?_
  obtain ⟨r1, h2, hf⟩ := bnd hf
  refine call_vi (rest := []) (m_S_hasFile l ca ad bq nF nO nL nA nC nV nU nP nE bF bO bL bA bC bV bU bP bE cT cK cO cQ cD pT pK pR pW pU pI pC uO uF uE uN wK jM jN jZ jB R _ p1 r1 h2) ⟨hx, hb, hml, hown, hts⟩ (cwV 1 hts (gV q433 q425 q426 q25 q427) rfl rfl rfl (by decide +kernel) ⟨Nat.le_of_ble_eq_true rfl, Nat.le_of_ble_eq_true rfl⟩) (va_recv hK hP (ci := 6) (q0 := 1) rfl rfl) hE hP hD hS hA rfl hl.1 rfl (lv_room (Nat.le_of_ble_eq_true rfl)) dX2_removeFile_2 ⟨Nat.le_of_ble_eq_true rfl, Nat.le_of_ble_eq_true rfl⟩ (fun H locs hP hD hS => ?_)
  refine lv_if_eq (tgt := 36) hx hb dX2_removeFile_5 (by decide) (fun c3 => ?_) (fun c3 => ?_)
  · have hf := br_pos c3 hf
    cases hf
    exact end_v hAe hQm hx hb hr hlocks hP hD hS dX2_removeFile_36
  · have hf := br_neg c3 hf
    refine lv_aload_n hx hb dX2_removeFile_8 rfl (lv_at hl 0 rfl) ?_
    refine va_get (D := D) (ci := 6) (v := .ref (ad 11)) (C := RX2) (T := TX2) (N := 9) hx hb hts inX2 hown hK hP 1 rfl rfl 3 (by decide) (hts _ q71) (fun _ h9 => h9) rfl dX2_removeFile_9 ?_
    refine lv_iload_n hx hb dX2_removeFile_12 rfl (lv_at hl 1 rfl) ?_
    refine lv_iconst (v := 0) hx hb dX2_removeFile_13 (by decide) ?_
    obtain ⟨k4, hf⟩ := ck_not hf
    refine va_zast (D := D) hx hb hK hP hD hS 4 1 rfl rfl k4 dX2_removeFile_14 (fun H locs hP hD hS => ?_)
    have hP : va_P D vwCl (WC ca ad bq nF nO nL (upd nA p1.toNatClampNeg (vp_nar .boolean 0)) nC nV nU nP nE bF bO bL bA bC bV bU bP bE cT cK cO cQ cD pT pK pR pW pU pI pC uO uF uE uN wK jM jN jZ jB ++ R) H := hP
    have hD : va_D A (WC ca ad bq nF nO nL (upd nA p1.toNatClampNeg (vp_nar .boolean 0)) nC nV nU nP nE bF bO bL bA bC bV bU bP bE cT cK cO cQ cD pT pK pR pW pU pI pC uO uF uE uN wK jM jN jZ jB ++ R) := hD
    refine lv_iconst (v := 0) hx hb dX2_removeFile_15 (by decide) ?_
    refine lv_istore_n (lv' := [(2, .int 0), (0, .ref (ad 1)), (1, .int p1)]) hx hb dX2_removeFile_16 rfl hl (by decide) rfl (fun ls hl => ?_)
    obtain ⟨⟨nC_14, nU_15⟩, h13, hf⟩ := bnd hf
    refine L17 FU p1 0 (upd nA p1.toNatClampNeg (vp_nar .boolean 0)) nC nU nC_14 nU_15 h13 _ _ _ hP hD hS (lv_sub hl [1, 2, 0] rfl) (fun H locs ls hP hD hS hl => ?_)
    cases hf
    exact end_v hAe hQm hx hb hr hlocks hP hD hS dX2_removeFile_36
def f_S_ownerIn (p1 : Int32) (nF : Int32) (nO : Nat → Int32) : Option (Int32) :=
  (f_S_hasFile p1 nF).bind fun r1 =>
  if r1 = 0 then
    some (-1)
  else
    if p1 < 0 ∨ 40 ≤ p1.toNatClampNeg then none else
      some (nO p1.toNatClampNeg)
set_option maxHeartbeats 4000000 in
set_option maxRecDepth 100000 in
theorem m_S_ownerIn (l : Launch) {D : va_G} {sl : List (String × Nat × String)} (ca : Nat → ClassId) (ad : Nat → Nat) (bq : Nat) (nF : Int32) (nO : Nat → Int32) (nL : Nat → Int32) (nA : Nat → Int32) (nC : Nat → Int32) (nV : Nat → Int32) (nU : Nat → Int32) (nP : Nat → Int32) (nE : Int32) (bF : Int32) (bO : Nat → Int32) (bL : Nat → Int32) (bA : Nat → Int32) (bC : Nat → Int32) (bV : Nat → Int32) (bU : Nat → Int32) (bP : Nat → Int32) (bE : Int32) (cT : Int32) (cK : Nat → Int32) (cO : Int32) (cQ : Nat → Int32) (cD : Int32) (pT : Int32) (pK : Int32) (pR : Nat → Int32) (pW : Nat → Int32) (pU : Nat → Int32) (pI : Nat → Int32) (pC : Nat → Nat → Int32) (uO : Int32) (uF : Nat → Int32) (uE : Nat → Int32) (uN : Nat → Int32) (wK : Nat → Int32) (jM : Int32) (jN : Int32) (jZ : Nat) (jB : Nat → Int32) (R : va_W) (sz : Nat) (p1 : Int32) (ro : Int32) (hf : f_S_ownerIn p1 nF nO = some ro) : Met l yX2_ownerIn (wm yX2_ownerIn cX2_ownerIn 2 (some .int)) ({ frames := 1, cells := 0, slots := 0, locals := 21 } : Room) (PRE [.ref (ad 1), .int p1] D ca sl (WC ca ad bq nF nO nL nA nC nV nU nP nE bF bO bL bA bC bV bU bP bE cT cK cO cQ cD pT pK pR pW pU pI pC uO uF uE uN wK jM jN jZ jB ++ R) sz) (QI ro D (WC ca ad bq nF nO nL nA nC nV nU nP nE bF bO bL bA bC bV bU bP bE cT cK cO cQ cD pT pK pR pW pU pI pC uO uF uE uN wK jM jN jZ jB ++ R) (WC ca ad bq nF nO nL nA nC nV nU nP nE bF bO bL bA bC bV bU bP bE cT cK cO cQ cD pT pK pR pW pU pI pC uO uF uE uN wK jM jN jZ jB ++ R) sz) 0 0 (va_A (WC ca ad bq nF nO nL nA nC nV nU nP nE bF bO bL bA bC bV bU bP bE cT cK cO cQ cD pT pK pR pW pU pI pC uO uF uE uN wK jM jN jZ jB ++ R) sz) := by
  refine Met.ofW (cc := cX2_ownerIn) (maxL := 2) (ret := (some .int)) (by decide) rfl ?_
  intro p e s m args below meth c s₁ B hml hv
  obtain ⟨rfl, rfl, hP, hE, hD0⟩ := hv
  have hx := B.exec
  have hb := B.bytes
  have hr := B.returns
  have hts := wm_ww (atoms_spec (ws := wm yX2_ownerIn cX2_ownerIn 2 (some .int)) B.pre)
  have hown : s.vm.findClass RX2 = some m.cls := findClass_of_methodNamed B.named
  have hlocks := B.notSynchronized
  have hK := hE.1
  have hD := hD0.self (sz := s.heap.size)
  generalize hAe : va_A (WC ca ad bq nF nO nL nA nC nV nU nP nE bF bO bL bA bC bV bU bP bE cT cK cO cQ cD pT pK pR pW pU pI pC uO uF uE uN wK jM jN jZ jB ++ R) s.heap.size = A at hD ⊢
  have hA : ∀ q : Nat, s.heap.size ≤ q → A q := fun q h => by rw [← hAe]; exact Or.inr h
  have hS : va_S A s.heap s.heap [] := va_S.rf
  have hl := lv_entry ([.ref (ad 1), .int p1]) (n := 2) (Nat.le_of_ble_eq_true rfl)
  rw [lg_entry_eq]
  generalize (lg_sl ([.ref (ad 1), .int p1]) ++ List.replicate (2 - (lg_sl ([.ref (ad 1), .int p1])).length) Slot.unset).toArray = ls at hl ⊢
  have hl : lv_has ls 2 [(0, .ref (ad 1)), (1, .int p1)] := hl
  change W p l e ({ frames := 1, cells := 0, slots := 0, locals := 21 } : Room) s m _ below meth c s.heap [] 0 0 _ _
  generalize hQm : MQ below (QI ro D (WC ca ad bq nF nO nL nA nC nV nU nP nE bF bO bL bA bC bV bU bP bE cT cK cO cQ cD pT pK pR pW pU pI pC uO uF uE uN wK jM jN jZ jB ++ R) (WC ca ad bq nF nO nL nA nC nV nU nP nE bF bO bL bA bC bV bU bP bE cT cK cO cQ cD pT pK pR pW pU pI pC uO uF uE uN wK jM jN jZ jB ++ R) s.heap.size) _ s 0 0 A = Qm
  have hP : va_P D vwCl (WC ca ad bq nF nO nL nA nC nV nU nP nE bF bO bL bA bC bV bU bP bE cT cK cO cQ cD pT pK pR pW pU pI pC uO uF uE uN wK jM jN jZ jB ++ R) s.heap := hP
  generalize hae : ([.ref (ad 1), .int p1] : List Value).toArray = args at hts hQm ⊢
  refine lv_aload_n hx hb dX2_ownerIn_0 rfl (lv_at hl 0 rfl) ?_
  refine lv_iload_n hx hb dX2_ownerIn_1 rfl (lv_at hl 1 rfl) ?_
  obtain ⟨r1, h2, hf⟩ := bnd hf
  refine call_vi (rest := []) (m_S_hasFile l ca ad bq nF nO nL nA nC nV nU nP nE bF bO bL bA bC bV bU bP bE cT cK cO cQ cD pT pK pR pW pU pI pC uO uF uE uN wK jM jN jZ jB R _ p1 r1 h2) ⟨hx, hb, hml, hown, hts⟩ (cwV 1 hts (gV q433 q425 q426 q25 q427) rfl rfl rfl (by decide +kernel) ⟨Nat.le_of_ble_eq_true rfl, Nat.le_of_ble_eq_true rfl⟩) (va_recv hK hP (ci := 6) (q0 := 1) rfl rfl) hE hP hD hS hA rfl hl.1 rfl (lv_room (Nat.le_of_ble_eq_true rfl)) dX2_ownerIn_2 ⟨Nat.le_of_ble_eq_true rfl, Nat.le_of_ble_eq_true rfl⟩ (fun H locs hP hD hS => ?_)
  refine lv_if_eq (tgt := 17) hx hb dX2_ownerIn_5 (by decide) (fun c3 => ?_) (fun c3 => ?_)
  · have hf := br_pos c3 hf
    refine lv_iconst (v := (-1)) hx hb dX2_ownerIn_17 (by decide) ?_
    cases hf
    exact end_i hAe hQm hx hb hr hlocks rfl hP hD hS dX2_ownerIn_18
  · have hf := br_neg c3 hf
    refine lv_aload_n hx hb dX2_ownerIn_8 rfl (lv_at hl 0 rfl) ?_
    refine va_get (D := D) (ci := 6) (v := .ref (ad 9)) (C := RX2) (T := TX2) (N := 9) hx hb hts inX2 hown hK hP 1 rfl rfl 1 (by decide) (hts _ q69) (fun _ h9 => h9) rfl dX2_ownerIn_9 ?_
    refine lv_iload_n hx hb dX2_ownerIn_12 rfl (lv_at hl 1 rfl) ?_
    obtain ⟨k4, hf⟩ := ck_not hf
    refine va_iald (D := D) hx hb hK hP 2 0 rfl rfl k4 dX2_ownerIn_13 ?_
    refine lv_goto (tgt := 18) hx hb dX2_ownerIn_14 (by decide) ?_
    cases hf
    exact end_i hAe hQm hx hb hr hlocks rfl hP hD hS dX2_ownerIn_18
def f_S_linkTotal (p1 : Int32) (nF : Int32) (nL : Nat → Int32) : Option (Int32) :=
  (f_S_hasFile p1 nF).bind fun r1 =>
  if r1 = 0 then
    some 0
  else
    if p1 < 0 ∨ 40 ≤ p1.toNatClampNeg then none else
      some (nL p1.toNatClampNeg)
set_option maxHeartbeats 4000000 in
set_option maxRecDepth 100000 in
theorem m_S_linkTotal (l : Launch) {D : va_G} {sl : List (String × Nat × String)} (ca : Nat → ClassId) (ad : Nat → Nat) (bq : Nat) (nF : Int32) (nO : Nat → Int32) (nL : Nat → Int32) (nA : Nat → Int32) (nC : Nat → Int32) (nV : Nat → Int32) (nU : Nat → Int32) (nP : Nat → Int32) (nE : Int32) (bF : Int32) (bO : Nat → Int32) (bL : Nat → Int32) (bA : Nat → Int32) (bC : Nat → Int32) (bV : Nat → Int32) (bU : Nat → Int32) (bP : Nat → Int32) (bE : Int32) (cT : Int32) (cK : Nat → Int32) (cO : Int32) (cQ : Nat → Int32) (cD : Int32) (pT : Int32) (pK : Int32) (pR : Nat → Int32) (pW : Nat → Int32) (pU : Nat → Int32) (pI : Nat → Int32) (pC : Nat → Nat → Int32) (uO : Int32) (uF : Nat → Int32) (uE : Nat → Int32) (uN : Nat → Int32) (wK : Nat → Int32) (jM : Int32) (jN : Int32) (jZ : Nat) (jB : Nat → Int32) (R : va_W) (sz : Nat) (p1 : Int32) (ro : Int32) (hf : f_S_linkTotal p1 nF nL = some ro) : Met l yX2_linkTotal (wm yX2_linkTotal cX2_linkTotal 2 (some .int)) ({ frames := 1, cells := 0, slots := 0, locals := 21 } : Room) (PRE [.ref (ad 1), .int p1] D ca sl (WC ca ad bq nF nO nL nA nC nV nU nP nE bF bO bL bA bC bV bU bP bE cT cK cO cQ cD pT pK pR pW pU pI pC uO uF uE uN wK jM jN jZ jB ++ R) sz) (QI ro D (WC ca ad bq nF nO nL nA nC nV nU nP nE bF bO bL bA bC bV bU bP bE cT cK cO cQ cD pT pK pR pW pU pI pC uO uF uE uN wK jM jN jZ jB ++ R) (WC ca ad bq nF nO nL nA nC nV nU nP nE bF bO bL bA bC bV bU bP bE cT cK cO cQ cD pT pK pR pW pU pI pC uO uF uE uN wK jM jN jZ jB ++ R) sz) 0 0 (va_A (WC ca ad bq nF nO nL nA nC nV nU nP nE bF bO bL bA bC bV bU bP bE cT cK cO cQ cD pT pK pR pW pU pI pC uO uF uE uN wK jM jN jZ jB ++ R) sz) := by
  refine Met.ofW (cc := cX2_linkTotal) (maxL := 2) (ret := (some .int)) (by decide) rfl ?_
  intro p e s m args below meth c s₁ B hml hv
  obtain ⟨rfl, rfl, hP, hE, hD0⟩ := hv
  have hx := B.exec
  have hb := B.bytes
  have hr := B.returns
  have hts := wm_ww (atoms_spec (ws := wm yX2_linkTotal cX2_linkTotal 2 (some .int)) B.pre)
  have hown : s.vm.findClass RX2 = some m.cls := findClass_of_methodNamed B.named
  have hlocks := B.notSynchronized
  have hK := hE.1
  have hD := hD0.self (sz := s.heap.size)
  generalize hAe : va_A (WC ca ad bq nF nO nL nA nC nV nU nP nE bF bO bL bA bC bV bU bP bE cT cK cO cQ cD pT pK pR pW pU pI pC uO uF uE uN wK jM jN jZ jB ++ R) s.heap.size = A at hD ⊢
  have hA : ∀ q : Nat, s.heap.size ≤ q → A q := fun q h => by rw [← hAe]; exact Or.inr h
  have hS : va_S A s.heap s.heap [] := va_S.rf
  have hl := lv_entry ([.ref (ad 1), .int p1]) (n := 2) (Nat.le_of_ble_eq_true rfl)
  rw [lg_entry_eq]
  generalize (lg_sl ([.ref (ad 1), .int p1]) ++ List.replicate (2 - (lg_sl ([.ref (ad 1), .int p1])).length) Slot.unset).toArray = ls at hl ⊢
  have hl : lv_has ls 2 [(0, .ref (ad 1)), (1, .int p1)] := hl
  change W p l e ({ frames := 1, cells := 0, slots := 0, locals := 21 } : Room) s m _ below meth c s.heap [] 0 0 _ _
  generalize hQm : MQ below (QI ro D (WC ca ad bq nF nO nL nA nC nV nU nP nE bF bO bL bA bC bV bU bP bE cT cK cO cQ cD pT pK pR pW pU pI pC uO uF uE uN wK jM jN jZ jB ++ R) (WC ca ad bq nF nO nL nA nC nV nU nP nE bF bO bL bA bC bV bU bP bE cT cK cO cQ cD pT pK pR pW pU pI pC uO uF uE uN wK jM jN jZ jB ++ R) s.heap.size) _ s 0 0 A = Qm
  have hP : va_P D vwCl (WC ca ad bq nF nO nL nA nC nV nU nP nE bF bO bL bA bC bV bU bP bE cT cK cO cQ cD pT pK pR pW pU pI pC uO uF uE uN wK jM jN jZ jB ++ R) s.heap := hP
  generalize hae : ([.ref (ad 1), .int p1] : List Value).toArray = args at hts hQm ⊢
  refine lv_aload_n hx hb dX2_linkTotal_0 rfl (lv_at hl 0 rfl) ?_
  refine lv_iload_n hx hb dX2_linkTotal_1 rfl (lv_at hl 1 rfl) ?_
  obtain ⟨r1, h2, hf⟩ := bnd hf
  refine call_vi (rest := []) (m_S_hasFile l ca ad bq nF nO nL nA nC nV nU nP nE bF bO bL bA bC bV bU bP bE cT cK cO cQ cD pT pK pR pW pU pI pC uO uF uE uN wK jM jN jZ jB R _ p1 r1 h2) ⟨hx, hb, hml, hown, hts⟩ (cwV 1 hts (gV q433 q425 q426 q25 q427) rfl rfl rfl (by decide +kernel) ⟨Nat.le_of_ble_eq_true rfl, Nat.le_of_ble_eq_true rfl⟩) (va_recv hK hP (ci := 6) (q0 := 1) rfl rfl) hE hP hD hS hA rfl hl.1 rfl (lv_room (Nat.le_of_ble_eq_true rfl)) dX2_linkTotal_2 ⟨Nat.le_of_ble_eq_true rfl, Nat.le_of_ble_eq_true rfl⟩ (fun H locs hP hD hS => ?_)
  refine lv_if_eq (tgt := 17) hx hb dX2_linkTotal_5 (by decide) (fun c3 => ?_) (fun c3 => ?_)
  · have hf := br_pos c3 hf
    refine lv_iconst (v := 0) hx hb dX2_linkTotal_17 (by decide) ?_
    cases hf
    exact end_i hAe hQm hx hb hr hlocks rfl hP hD hS dX2_linkTotal_18
  · have hf := br_neg c3 hf
    refine lv_aload_n hx hb dX2_linkTotal_8 rfl (lv_at hl 0 rfl) ?_
    refine va_get (D := D) (ci := 6) (v := .ref (ad 10)) (C := RX2) (T := TX2) (N := 9) hx hb hts inX2 hown hK hP 1 rfl rfl 2 (by decide) (hts _ q70) (fun _ h9 => h9) rfl dX2_linkTotal_9 ?_
    refine lv_iload_n hx hb dX2_linkTotal_12 rfl (lv_at hl 1 rfl) ?_
    obtain ⟨k4, hf⟩ := ck_not hf
    refine va_iald (D := D) hx hb hK hP 3 0 rfl rfl k4 dX2_linkTotal_13 ?_
    refine lv_goto (tgt := 18) hx hb dX2_linkTotal_14 (by decide) ?_
    cases hf
    exact end_i hAe hQm hx hb hr hlocks rfl hP hD hS dX2_linkTotal_18
def f_S_setLinks (p1 : Int32) (p2 : Int32) (nF : Int32) (nL : Nat → Int32) : Option ((Nat → Int32)) :=
  (f_S_hasFile p1 nF).bind fun r1 =>
  if r1 = 0 then
    some nL
  else
    if p1 < 0 ∨ 40 ≤ p1.toNatClampNeg then none else
      some (upd nL p1.toNatClampNeg p2)
set_option maxHeartbeats 4000000 in
set_option maxRecDepth 100000 in
theorem m_S_setLinks (l : Launch) {D : va_G} {sl : List (String × Nat × String)} (ca : Nat → ClassId) (ad : Nat → Nat) (bq : Nat) (nF : Int32) (nO : Nat → Int32) (nL : Nat → Int32) (nA : Nat → Int32) (nC : Nat → Int32) (nV : Nat → Int32) (nU : Nat → Int32) (nP : Nat → Int32) (nE : Int32) (bF : Int32) (bO : Nat → Int32) (bL : Nat → Int32) (bA : Nat → Int32) (bC : Nat → Int32) (bV : Nat → Int32) (bU : Nat → Int32) (bP : Nat → Int32) (bE : Int32) (cT : Int32) (cK : Nat → Int32) (cO : Int32) (cQ : Nat → Int32) (cD : Int32) (pT : Int32) (pK : Int32) (pR : Nat → Int32) (pW : Nat → Int32) (pU : Nat → Int32) (pI : Nat → Int32) (pC : Nat → Nat → Int32) (uO : Int32) (uF : Nat → Int32) (uE : Nat → Int32) (uN : Nat → Int32) (wK : Nat → Int32) (jM : Int32) (jN : Int32) (jZ : Nat) (jB : Nat → Int32) (R : va_W) (sz : Nat) (p1 : Int32) (p2 : Int32) (onL : Nat → Int32) (hf : f_S_setLinks p1 p2 nF nL = some onL) : Met l yX2_setLinks (wm yX2_setLinks cX2_setLinks 3 none) ({ frames := 1, cells := 0, slots := 0, locals := 21 } : Room) (PRE [.ref (ad 1), .int p1, .int p2] D ca sl (WC ca ad bq nF nO nL nA nC nV nU nP nE bF bO bL bA bC bV bU bP bE cT cK cO cQ cD pT pK pR pW pU pI pC uO uF uE uN wK jM jN jZ jB ++ R) sz) (QV D (WC ca ad bq nF nO onL nA nC nV nU nP nE bF bO bL bA bC bV bU bP bE cT cK cO cQ cD pT pK pR pW pU pI pC uO uF uE uN wK jM jN jZ jB ++ R) (WC ca ad bq nF nO nL nA nC nV nU nP nE bF bO bL bA bC bV bU bP bE cT cK cO cQ cD pT pK pR pW pU pI pC uO uF uE uN wK jM jN jZ jB ++ R) sz) 0 0 (va_A (WC ca ad bq nF nO nL nA nC nV nU nP nE bF bO bL bA bC bV bU bP bE cT cK cO cQ cD pT pK pR pW pU pI pC uO uF uE uN wK jM jN jZ jB ++ R) sz) := by
  refine Met.ofW (cc := cX2_setLinks) (maxL := 3) (ret := none) (by decide) rfl ?_
  intro p e s m args below meth c s₁ B hml hv
  obtain ⟨rfl, rfl, hP, hE, hD0⟩ := hv
  have hx := B.exec
  have hb := B.bytes
  have hr := B.returns
  have hts := wm_ww (atoms_spec (ws := wm yX2_setLinks cX2_setLinks 3 none) B.pre)
  have hown : s.vm.findClass RX2 = some m.cls := findClass_of_methodNamed B.named
  have hlocks := B.notSynchronized
  have hK := hE.1
  have hD := hD0.self (sz := s.heap.size)
  generalize hAe : va_A (WC ca ad bq nF nO nL nA nC nV nU nP nE bF bO bL bA bC bV bU bP bE cT cK cO cQ cD pT pK pR pW pU pI pC uO uF uE uN wK jM jN jZ jB ++ R) s.heap.size = A at hD ⊢
  have hA : ∀ q : Nat, s.heap.size ≤ q → A q := fun q h => by rw [← hAe]; exact Or.inr h
  have hS : va_S A s.heap s.heap [] := va_S.rf
  have hl := lv_entry ([.ref (ad 1), .int p1, .int p2]) (n := 3) (Nat.le_of_ble_eq_true rfl)
  rw [lg_entry_eq]
  generalize (lg_sl ([.ref (ad 1), .int p1, .int p2]) ++ List.replicate (3 - (lg_sl ([.ref (ad 1), .int p1, .int p2])).length) Slot.unset).toArray = ls at hl ⊢
  have hl : lv_has ls 3 [(0, .ref (ad 1)), (1, .int p1), (2, .int p2)] := hl
  change W p l e ({ frames := 1, cells := 0, slots := 0, locals := 21 } : Room) s m _ below meth c s.heap [] 0 0 _ _
  generalize hQm : MQ below (QV D (WC ca ad bq nF nO onL nA nC nV nU nP nE bF bO bL bA bC bV bU bP bE cT cK cO cQ cD pT pK pR pW pU pI pC uO uF uE uN wK jM jN jZ jB ++ R) (WC ca ad bq nF nO nL nA nC nV nU nP nE bF bO bL bA bC bV bU bP bE cT cK cO cQ cD pT pK pR pW pU pI pC uO uF uE uN wK jM jN jZ jB ++ R) s.heap.size) _ s 0 0 A = Qm
  have hP : va_P D vwCl (WC ca ad bq nF nO nL nA nC nV nU nP nE bF bO bL bA bC bV bU bP bE cT cK cO cQ cD pT pK pR pW pU pI pC uO uF uE uN wK jM jN jZ jB ++ R) s.heap := hP
  generalize hae : ([.ref (ad 1), .int p1, .int p2] : List Value).toArray = args at hts hQm ⊢
  refine lv_aload_n hx hb dX2_setLinks_0 rfl (lv_at hl 0 rfl) ?_
  refine lv_iload_n hx hb dX2_setLinks_1 rfl (lv_at hl 1 rfl) ?_
  obtain ⟨r1, h2, hf⟩ := bnd hf
  refine call_vi (rest := []) (m_S_hasFile l ca ad bq nF nO nL nA nC nV nU nP nE bF bO bL bA bC bV bU bP bE cT cK cO cQ cD pT pK pR pW pU pI pC uO uF uE uN wK jM jN jZ jB R _ p1 r1 h2) ⟨hx, hb, hml, hown, hts⟩ (cwV 1 hts (gV q433 q425 q426 q25 q427) rfl rfl rfl (by decide +kernel) ⟨Nat.le_of_ble_eq_true rfl, Nat.le_of_ble_eq_true rfl⟩) (va_recv hK hP (ci := 6) (q0 := 1) rfl rfl) hE hP hD hS hA rfl hl.1 rfl (lv_room (Nat.le_of_ble_eq_true rfl)) dX2_setLinks_2 ⟨Nat.le_of_ble_eq_true rfl, Nat.le_of_ble_eq_true rfl⟩ (fun H locs hP hD hS => ?_)
  refine lv_if_eq (tgt := 15) hx hb dX2_setLinks_5 (by decide) (fun c3 => ?_) (fun c3 => ?_)
  · have hf := br_pos c3 hf
    cases hf
    exact end_v hAe hQm hx hb hr hlocks hP hD hS dX2_setLinks_15
  · have hf := br_neg c3 hf
    refine lv_aload_n hx hb dX2_setLinks_8 rfl (lv_at hl 0 rfl) ?_
    refine va_get (D := D) (ci := 6) (v := .ref (ad 10)) (C := RX2) (T := TX2) (N := 9) hx hb hts inX2 hown hK hP 1 rfl rfl 2 (by decide) (hts _ q70) (fun _ h9 => h9) rfl dX2_setLinks_9 ?_
    refine lv_iload_n hx hb dX2_setLinks_12 rfl (lv_at hl 1 rfl) ?_
    refine lv_iload_n hx hb dX2_setLinks_13 rfl (lv_at hl 2 rfl) ?_
    obtain ⟨k4, hf⟩ := ck_not hf
    refine va_iast (D := D) hx hb hK hP hD hS 3 0 rfl rfl k4 dX2_setLinks_14 (fun H locs hP hD hS => ?_)
    have hP : va_P D vwCl (WC ca ad bq nF nO (upd nL p1.toNatClampNeg p2) nA nC nV nU nP nE bF bO bL bA bC bV bU bP bE cT cK cO cQ cD pT pK pR pW pU pI pC uO uF uE uN wK jM jN jZ jB ++ R) H := hP
    have hD : va_D A (WC ca ad bq nF nO (upd nL p1.toNatClampNeg p2) nA nC nV nU nP nE bF bO bL bA bC bV bU bP bE cT cK cO cQ cD pT pK pR pW pU pI pC uO uF uE uN wK jM jN jZ jB ++ R) := hD
    cases hf
    exact end_v hAe hQm hx hb hr hlocks hP hD hS dX2_setLinks_15
def f_S_blocksInFile_L5 : Nat → Int32 → Int32 → Int64 → Int32 → Int32 → (Nat → Int32) → Option (Int64)
  | 0, _, _, _, _, _, _ => none
  | fuel + 1, v1, v2, v3, v5, nF, nC =>
    if 16 ≤ v5 then
      some v3
    else
      (f_S_blockIn v1 v5 nF nC).bind fun r7 =>
      if v5 = v2 then
        f_S_blocksInFile_L5 fuel v1 v2 v3 (v5 + 1) nF nC
      else
        if r7 = (-1) then
          f_S_blocksInFile_L5 fuel v1 v2 v3 (v5 + 1) nF nC
        else
          f_S_blocksInFile_L5 fuel v1 v2 (v3 ||| (1 <<< ((r7 : Int32).toInt64 &&& 63))) (v5 + 1) nF nC
def f_S_blocksInFile (p1 : Int32) (p2 : Int32) (nF : Int32) (nC : Nat → Int32) : Option (Int64) :=
  (f_S_blocksInFile_L5 FU p1 p2 0 0 nF nC).bind fun x12 =>
  some x12
set_option maxHeartbeats 4000000 in
set_option maxRecDepth 100000 in
theorem m_S_blocksInFile (l : Launch) {D : va_G} {sl : List (String × Nat × String)} (ca : Nat → ClassId) (ad : Nat → Nat) (bq : Nat) (nF : Int32) (nO : Nat → Int32) (nL : Nat → Int32) (nA : Nat → Int32) (nC : Nat → Int32) (nV : Nat → Int32) (nU : Nat → Int32) (nP : Nat → Int32) (nE : Int32) (bF : Int32) (bO : Nat → Int32) (bL : Nat → Int32) (bA : Nat → Int32) (bC : Nat → Int32) (bV : Nat → Int32) (bU : Nat → Int32) (bP : Nat → Int32) (bE : Int32) (cT : Int32) (cK : Nat → Int32) (cO : Int32) (cQ : Nat → Int32) (cD : Int32) (pT : Int32) (pK : Int32) (pR : Nat → Int32) (pW : Nat → Int32) (pU : Nat → Int32) (pI : Nat → Int32) (pC : Nat → Nat → Int32) (uO : Int32) (uF : Nat → Int32) (uE : Nat → Int32) (uN : Nat → Int32) (wK : Nat → Int32) (jM : Int32) (jN : Int32) (jZ : Nat) (jB : Nat → Int32) (R : va_W) (sz : Nat) (p1 : Int32) (p2 : Int32) (ro : Int64) (hf : f_S_blocksInFile p1 p2 nF nC = some ro) : Met l yX2_blocksInFile (wm yX2_blocksInFile cX2_blocksInFile 7 (some .long)) ({ frames := 2, cells := 0, slots := 0, locals := 43 } : Room) (PRE [.ref (ad 1), .int p1, .int p2] D ca sl (WC ca ad bq nF nO nL nA nC nV nU nP nE bF bO bL bA bC bV bU bP bE cT cK cO cQ cD pT pK pR pW pU pI pC uO uF uE uN wK jM jN jZ jB ++ R) sz) (QL ro D (WC ca ad bq nF nO nL nA nC nV nU nP nE bF bO bL bA bC bV bU bP bE cT cK cO cQ cD pT pK pR pW pU pI pC uO uF uE uN wK jM jN jZ jB ++ R) (WC ca ad bq nF nO nL nA nC nV nU nP nE bF bO bL bA bC bV bU bP bE cT cK cO cQ cD pT pK pR pW pU pI pC uO uF uE uN wK jM jN jZ jB ++ R) sz) 0 0 (va_A (WC ca ad bq nF nO nL nA nC nV nU nP nE bF bO bL bA bC bV bU bP bE cT cK cO cQ cD pT pK pR pW pU pI pC uO uF uE uN wK jM jN jZ jB ++ R) sz) := by
  refine Met.ofW (cc := cX2_blocksInFile) (maxL := 7) (ret := (some .long)) (by decide) rfl ?_
  intro p e s m args below meth c s₁ B hml hv
  obtain ⟨rfl, rfl, hP, hE, hD0⟩ := hv
  have hx := B.exec
  have hb := B.bytes
  have hr := B.returns
  have hts := wm_ww (atoms_spec (ws := wm yX2_blocksInFile cX2_blocksInFile 7 (some .long)) B.pre)
  have hown : s.vm.findClass RX2 = some m.cls := findClass_of_methodNamed B.named
  have hlocks := B.notSynchronized
  have hK := hE.1
  have hD := hD0.self (sz := s.heap.size)
  generalize hAe : va_A (WC ca ad bq nF nO nL nA nC nV nU nP nE bF bO bL bA bC bV bU bP bE cT cK cO cQ cD pT pK pR pW pU pI pC uO uF uE uN wK jM jN jZ jB ++ R) s.heap.size = A at hD ⊢
  have hA : ∀ q : Nat, s.heap.size ≤ q → A q := fun q h => by rw [← hAe]; exact Or.inr h
  have hS : va_S A s.heap s.heap [] := va_S.rf
  have hl := lv_entry ([.ref (ad 1), .int p1, .int p2]) (n := 7) (Nat.le_of_ble_eq_true rfl)
  rw [lg_entry_eq]
  generalize (lg_sl ([.ref (ad 1), .int p1, .int p2]) ++ List.replicate (7 - (lg_sl ([.ref (ad 1), .int p1, .int p2])).length) Slot.unset).toArray = ls at hl ⊢
  have hl : lv_has ls 7 [(0, .ref (ad 1)), (1, .int p1), (2, .int p2)] := hl
  change W p l e ({ frames := 2, cells := 0, slots := 0, locals := 43 } : Room) s m _ below meth c s.heap [] 0 0 _ _
  generalize hQm : MQ below (QL ro D (WC ca ad bq nF nO nL nA nC nV nU nP nE bF bO bL bA bC bV bU bP bE cT cK cO cQ cD pT pK pR pW pU pI pC uO uF uE uN wK jM jN jZ jB ++ R) (WC ca ad bq nF nO nL nA nC nV nU nP nE bF bO bL bA bC bV bU bP bE cT cK cO cQ cD pT pK pR pW pU pI pC uO uF uE uN wK jM jN jZ jB ++ R) s.heap.size) _ s 0 0 A = Qm
  have hP : va_P D vwCl (WC ca ad bq nF nO nL nA nC nV nU nP nE bF bO bL bA bC bV bU bP bE cT cK cO cQ cD pT pK pR pW pU pI pC uO uF uE uN wK jM jN jZ jB ++ R) s.heap := hP
  generalize hae : ([.ref (ad 1), .int p1, .int p2] : List Value).toArray = args at hts hQm ⊢
  have L5 : ∀ (n : Nat) (v1 : Int32) (v2 : Int32) (v3 : Int64) (v5 : Int32) (y3 : Int64), f_S_blocksInFile_L5 n v1 v2 v3 v5 nF nC = some y3 → ∀ (H : Heap) (locs : List Loc) (ls : Array Slot), va_P D vwCl (WC ca ad bq nF nO nL nA nC nV nU nP nE bF bO bL bA bC bV bU bP bE cT cK cO cQ cD pT pK pR pW pU pI pC uO uF uE uN wK jM jN jZ jB ++ R) H → va_D A (WC ca ad bq nF nO nL nA nC nV nU nP nE bF bO bL bA bC bV bU bP bE cT cK cO cQ cD pT pK pR pW pU pI pC uO uF uE uN wK jM jN jZ jB ++ R) → va_S A s.heap H locs → lv_has ls 7 [(0, .ref (ad 1)), (1, .int v1), (2, .int v2), (3, .long v3), (5, .int v5)] → (∀ (H : Heap) (locs : List Loc) (ls : Array Slot), va_P D vwCl (WC ca ad bq nF nO nL nA nC nV nU nP nE bF bO bL bA bC bV bU bP bE cT cK cO cQ cD pT pK pR pW pU pI pC uO uF uE uN wK jM jN jZ jB ++ R) H → va_D A (WC ca ad bq nF nO nL nA nC nV nU nP nE bF bO bL bA bC bV bU bP bE cT cK cO cQ cD pT pK pR pW pU pI pC uO uF uE uN wK jM jN jZ jB ++ R) → va_S A s.heap H locs → lv_has ls 7 [(3, .long y3)] → W p l e ({ frames := 2, cells := 0, slots := 0, locals := 43 } : Room) s m args below meth c H locs 0 0 Qm (F0 m 46 ls [])) → W p l e ({ frames := 2, cells := 0, slots := 0, locals := 43 } : Room) s m args below meth c H locs 0 0 Qm (F0 m 5 ls []) := by
    intro n
    induction n with
    | zero => intro v1 v2 v3 v5 y3 hf; cases hf
    | succ n ih =>
      intro v1 v2 v3 v5 y3 hf H locs ls hP hD hS hl kk
      unfold f_S_blocksInFile_L5 at hf
      refine lv_iload hx hb dX2_blocksInFile_5 (lv_at hl 4 rfl) ?_
      refine lv_bipush (v := 16) hx hb dX2_blocksInFile_7 (by decide) ?_
      refine lv_icmp_ge (tgt := 46) hx hb dX2_blocksInFile_9 (by decide) (fun c6 => ?_) (fun c6 => ?_)
      · have hf := br_pos c6 hf
        cases hf
        exact kk _ _ _ hP hD hS (lv_sub hl [3] rfl)
      · have hf := br_neg c6 hf
        refine lv_aload_n hx hb dX2_blocksInFile_12 rfl (lv_at hl 0 rfl) ?_
        refine lv_iload_n hx hb dX2_blocksInFile_13 rfl (lv_at hl 1 rfl) ?_
        refine lv_iload hx hb dX2_blocksInFile_14 (lv_at hl 4 rfl) ?_
        obtain ⟨r7, h8, hf⟩ := bnd hf
        refine call_vi (rest := []) (m_S_blockIn l ca ad bq nF nO nL nA nC nV nU nP nE bF bO bL bA bC bV bU bP bE cT cK cO cQ cD pT pK pR pW pU pI pC uO uF uE uN wK jM jN jZ jB R _ v1 v5 r7 h8) ⟨hx, hb, hml, hown, hts⟩ (cwV 2 hts (gV q533 q509 q510 q25 q511) rfl rfl rfl (by decide +kernel) ⟨Nat.le_of_ble_eq_true rfl, Nat.le_of_ble_eq_true rfl⟩) (va_recv hK hP (ci := 6) (q0 := 1) rfl rfl) hE hP hD hS hA rfl hl.1 rfl (lv_room (Nat.le_of_ble_eq_true rfl)) dX2_blocksInFile_16 ⟨Nat.le_of_ble_eq_true rfl, Nat.le_of_ble_eq_true rfl⟩ (fun H locs hP hD hS => ?_)
        refine lv_istore (lv' := [(6, .int r7), (0, .ref (ad 1)), (1, .int v1), (2, .int v2), (3, .long v3), (5, .int v5)]) hx hb dX2_blocksInFile_19 hl (by decide) rfl (fun ls hl => ?_)
        refine lv_iload hx hb dX2_blocksInFile_21 (lv_at hl 5 rfl) ?_
        refine lv_iload_n hx hb dX2_blocksInFile_23 rfl (lv_at hl 3 rfl) ?_
        refine lv_icmp_eq (tgt := 40) hx hb dX2_blocksInFile_24 (by decide) (fun c9 => ?_) (fun c9 => ?_)
        · have hf := br_pos c9 hf
          refine lv_iinc (v := (v5 + 1)) (lv' := [(5, .int (v5 + 1)), (6, .int r7), (0, .ref (ad 1)), (1, .int v1), (2, .int v2), (3, .long v3)]) hx hb dX2_blocksInFile_40 hl (k := 5) rfl rfl (by decide) rfl (fun ls hl => ?_)
          refine lv_goto (tgt := 5) hx hb dX2_blocksInFile_43 (by decide) ?_
          exact ih v1 v2 v3 (v5 + 1) _ hf _ _ _ hP hD hS (lv_sub hl [2, 3, 4, 5, 0] rfl) kk
        · have hf := br_neg c9 hf
          refine lv_iload hx hb dX2_blocksInFile_27 (lv_at hl 0 rfl) ?_
          refine lv_iconst (v := (-1)) hx hb dX2_blocksInFile_29 (by decide) ?_
          refine lv_icmp_eq (tgt := 40) hx hb dX2_blocksInFile_30 (by decide) (fun c10 => ?_) (fun c10 => ?_)
          · have hf := br_pos c10 hf
            refine lv_iinc (v := (v5 + 1)) (lv' := [(5, .int (v5 + 1)), (6, .int r7), (0, .ref (ad 1)), (1, .int v1), (2, .int v2), (3, .long v3)]) hx hb dX2_blocksInFile_40 hl (k := 5) rfl rfl (by decide) rfl (fun ls hl => ?_)
            refine lv_goto (tgt := 5) hx hb dX2_blocksInFile_43 (by decide) ?_
            exact ih v1 v2 v3 (v5 + 1) _ hf _ _ _ hP hD hS (lv_sub hl [2, 3, 4, 5, 0] rfl) kk
          · have hf := br_neg c10 hf
            refine lv_lload_n hx hb dX2_blocksInFile_33 rfl (lv_at hl 4 rfl) ?_
            refine lv_lconst (v := 1) hx hb dX2_blocksInFile_34 (by decide) ?_
            refine lv_iload hx hb dX2_blocksInFile_35 (lv_at hl 0 rfl) ?_
            refine lv_lshl hx hb dX2_blocksInFile_37 rfl ?_
            refine lv_lor hx hb dX2_blocksInFile_38 ?_
            refine lv_lstore_n (lv' := [(3, .long (v3 ||| (1 <<< ((r7 : Int32).toInt64 &&& 63)))), (6, .int r7), (0, .ref (ad 1)), (1, .int v1), (2, .int v2), (5, .int v5)]) hx hb dX2_blocksInFile_39 rfl hl (by decide) rfl (fun ls hl => ?_)
            refine lv_iinc (v := (v5 + 1)) (lv' := [(5, .int (v5 + 1)), (3, .long (v3 ||| (1 <<< ((r7 : Int32).toInt64 &&& 63)))), (6, .int r7), (0, .ref (ad 1)), (1, .int v1), (2, .int v2)]) hx hb dX2_blocksInFile_40 hl (k := 5) rfl rfl (by decide) rfl (fun ls hl => ?_)
            refine lv_goto (tgt := 5) hx hb dX2_blocksInFile_43 (by decide) ?_
            exact ih v1 v2 (v3 ||| (1 <<< ((r7 : Int32).toInt64 &&& 63))) (v5 + 1) _ hf _ _ _ hP hD hS (lv_sub hl [3, 4, 5, 1, 0] rfl) kk
  refine lv_lconst (v := 0) hx hb dX2_blocksInFile_0 (by decide) ?_
  refine lv_lstore_n (lv' := [(3, .long 0), (0, .ref (ad 1)), (1, .int p1), (2, .int p2)]) hx hb dX2_blocksInFile_1 rfl hl (by decide) rfl (fun ls hl => ?_)
  refine lv_iconst (v := 0) hx hb dX2_blocksInFile_2 (by decide) ?_
  refine lv_istore (lv' := [(5, .int 0), (3, .long 0), (0, .ref (ad 1)), (1, .int p1), (2, .int p2)]) hx hb dX2_blocksInFile_3 hl (by decide) rfl (fun ls hl => ?_)
  obtain ⟨x12, h11, hf⟩ := bnd hf
  refine L5 FU p1 p2 0 0 x12 h11 _ _ _ hP hD hS (lv_sub hl [2, 3, 4, 1, 0] rfl) (fun H locs ls hP hD hS hl => ?_)
  refine lv_lload_n hx hb dX2_blocksInFile_46 rfl (lv_at hl 0 rfl) ?_
  cases hf
  exact end_l hAe hQm hx hb hr hlocks hP hD hS dX2_blocksInFile_47
def f_S_blocksOfOwner_L5 : Nat → Int32 → Int32 → Int64 → Int32 → Int32 → (Nat → Int32) → (Nat → Int32) → Option (Int64)
  | 0, _, _, _, _, _, _, _ => none
  | fuel + 1, v1, v2, v3, v5, nF, nO, nC =>
    if nF ≤ v5 then
      some v3
    else
      if v5 = v2 then
        f_S_blocksOfOwner_L5 fuel v1 v2 v3 (v5 + 1) nF nO nC
      else
        (f_S_ownerIn v5 nF nO).bind fun r10 =>
        if r10 = v1 then
          (f_S_blocksInFile v5 (-1) nF nC).bind fun r13 =>
          f_S_blocksOfOwner_L5 fuel v1 v2 (v3 ||| r13) (v5 + 1) nF nO nC
        else
          f_S_blocksOfOwner_L5 fuel v1 v2 v3 (v5 + 1) nF nO nC
def f_S_blocksOfOwner (p1 : Int32) (p2 : Int32) (nF : Int32) (nO : Nat → Int32) (nC : Nat → Int32) : Option (Int64) :=
  (f_S_blocksOfOwner_L5 FU p1 p2 0 0 nF nO nC).bind fun x16 =>
  some x16
set_option maxHeartbeats 4000000 in
set_option maxRecDepth 100000 in
theorem m_S_blocksOfOwner (l : Launch) {D : va_G} {sl : List (String × Nat × String)} (ca : Nat → ClassId) (ad : Nat → Nat) (bq : Nat) (nF : Int32) (nO : Nat → Int32) (nL : Nat → Int32) (nA : Nat → Int32) (nC : Nat → Int32) (nV : Nat → Int32) (nU : Nat → Int32) (nP : Nat → Int32) (nE : Int32) (bF : Int32) (bO : Nat → Int32) (bL : Nat → Int32) (bA : Nat → Int32) (bC : Nat → Int32) (bV : Nat → Int32) (bU : Nat → Int32) (bP : Nat → Int32) (bE : Int32) (cT : Int32) (cK : Nat → Int32) (cO : Int32) (cQ : Nat → Int32) (cD : Int32) (pT : Int32) (pK : Int32) (pR : Nat → Int32) (pW : Nat → Int32) (pU : Nat → Int32) (pI : Nat → Int32) (pC : Nat → Nat → Int32) (uO : Int32) (uF : Nat → Int32) (uE : Nat → Int32) (uN : Nat → Int32) (wK : Nat → Int32) (jM : Int32) (jN : Int32) (jZ : Nat) (jB : Nat → Int32) (R : va_W) (sz : Nat) (p1 : Int32) (p2 : Int32) (ro : Int64) (hf : f_S_blocksOfOwner p1 p2 nF nO nC = some ro) : Met l yX2_blocksOfOwner (wm yX2_blocksOfOwner cX2_blocksOfOwner 6 (some .long)) ({ frames := 3, cells := 0, slots := 0, locals := 69 } : Room) (PRE [.ref (ad 1), .int p1, .int p2] D ca sl (WC ca ad bq nF nO nL nA nC nV nU nP nE bF bO bL bA bC bV bU bP bE cT cK cO cQ cD pT pK pR pW pU pI pC uO uF uE uN wK jM jN jZ jB ++ R) sz) (QL ro D (WC ca ad bq nF nO nL nA nC nV nU nP nE bF bO bL bA bC bV bU bP bE cT cK cO cQ cD pT pK pR pW pU pI pC uO uF uE uN wK jM jN jZ jB ++ R) (WC ca ad bq nF nO nL nA nC nV nU nP nE bF bO bL bA bC bV bU bP bE cT cK cO cQ cD pT pK pR pW pU pI pC uO uF uE uN wK jM jN jZ jB ++ R) sz) 0 0 (va_A (WC ca ad bq nF nO nL nA nC nV nU nP nE bF bO bL bA bC bV bU bP bE cT cK cO cQ cD pT pK pR pW pU pI pC uO uF uE uN wK jM jN jZ jB ++ R) sz) := by
  refine Met.ofW (cc := cX2_blocksOfOwner) (maxL := 6) (ret := (some .long)) (by decide) rfl ?_
  intro p e s m args below meth c s₁ B hml hv
  obtain ⟨rfl, rfl, hP, hE, hD0⟩ := hv
  have hx := B.exec
  have hb := B.bytes
  have hr := B.returns
  have hts := wm_ww (atoms_spec (ws := wm yX2_blocksOfOwner cX2_blocksOfOwner 6 (some .long)) B.pre)
  have hown : s.vm.findClass RX2 = some m.cls := findClass_of_methodNamed B.named
  have hlocks := B.notSynchronized
  have hK := hE.1
  have hD := hD0.self (sz := s.heap.size)
  generalize hAe : va_A (WC ca ad bq nF nO nL nA nC nV nU nP nE bF bO bL bA bC bV bU bP bE cT cK cO cQ cD pT pK pR pW pU pI pC uO uF uE uN wK jM jN jZ jB ++ R) s.heap.size = A at hD ⊢
  have hA : ∀ q : Nat, s.heap.size ≤ q → A q := fun q h => by rw [← hAe]; exact Or.inr h
  have hS : va_S A s.heap s.heap [] := va_S.rf
  have hl := lv_entry ([.ref (ad 1), .int p1, .int p2]) (n := 6) (Nat.le_of_ble_eq_true rfl)
  rw [lg_entry_eq]
  generalize (lg_sl ([.ref (ad 1), .int p1, .int p2]) ++ List.replicate (6 - (lg_sl ([.ref (ad 1), .int p1, .int p2])).length) Slot.unset).toArray = ls at hl ⊢
  have hl : lv_has ls 6 [(0, .ref (ad 1)), (1, .int p1), (2, .int p2)] := hl
  change W p l e ({ frames := 3, cells := 0, slots := 0, locals := 69 } : Room) s m _ below meth c s.heap [] 0 0 _ _
  generalize hQm : MQ below (QL ro D (WC ca ad bq nF nO nL nA nC nV nU nP nE bF bO bL bA bC bV bU bP bE cT cK cO cQ cD pT pK pR pW pU pI pC uO uF uE uN wK jM jN jZ jB ++ R) (WC ca ad bq nF nO nL nA nC nV nU nP nE bF bO bL bA bC bV bU bP bE cT cK cO cQ cD pT pK pR pW pU pI pC uO uF uE uN wK jM jN jZ jB ++ R) s.heap.size) _ s 0 0 A = Qm
  have hP : va_P D vwCl (WC ca ad bq nF nO nL nA nC nV nU nP nE bF bO bL bA bC bV bU bP bE cT cK cO cQ cD pT pK pR pW pU pI pC uO uF uE uN wK jM jN jZ jB ++ R) s.heap := hP
  generalize hae : ([.ref (ad 1), .int p1, .int p2] : List Value).toArray = args at hts hQm ⊢
  have L5 : ∀ (n : Nat) (v1 : Int32) (v2 : Int32) (v3 : Int64) (v5 : Int32) (y3 : Int64), f_S_blocksOfOwner_L5 n v1 v2 v3 v5 nF nO nC = some y3 → ∀ (H : Heap) (locs : List Loc) (ls : Array Slot), va_P D vwCl (WC ca ad bq nF nO nL nA nC nV nU nP nE bF bO bL bA bC bV bU bP bE cT cK cO cQ cD pT pK pR pW pU pI pC uO uF uE uN wK jM jN jZ jB ++ R) H → va_D A (WC ca ad bq nF nO nL nA nC nV nU nP nE bF bO bL bA bC bV bU bP bE cT cK cO cQ cD pT pK pR pW pU pI pC uO uF uE uN wK jM jN jZ jB ++ R) → va_S A s.heap H locs → lv_has ls 6 [(0, .ref (ad 1)), (1, .int v1), (2, .int v2), (3, .long v3), (5, .int v5)] → (∀ (H : Heap) (locs : List Loc) (ls : Array Slot), va_P D vwCl (WC ca ad bq nF nO nL nA nC nV nU nP nE bF bO bL bA bC bV bU bP bE cT cK cO cQ cD pT pK pR pW pU pI pC uO uF uE uN wK jM jN jZ jB ++ R) H → va_D A (WC ca ad bq nF nO nL nA nC nV nU nP nE bF bO bL bA bC bV bU bP bE cT cK cO cQ cD pT pK pR pW pU pI pC uO uF uE uN wK jM jN jZ jB ++ R) → va_S A s.heap H locs → lv_has ls 6 [(3, .long y3)] → W p l e ({ frames := 3, cells := 0, slots := 0, locals := 69 } : Room) s m args below meth c H locs 0 0 Qm (F0 m 46 ls [])) → W p l e ({ frames := 3, cells := 0, slots := 0, locals := 69 } : Room) s m args below meth c H locs 0 0 Qm (F0 m 5 ls []) := by
    intro n
    induction n with
    | zero => intro v1 v2 v3 v5 y3 hf; cases hf
    | succ n ih =>
      intro v1 v2 v3 v5 y3 hf H locs ls hP hD hS hl kk
      unfold f_S_blocksOfOwner_L5 at hf
      refine lv_iload hx hb dX2_blocksOfOwner_5 (lv_at hl 4 rfl) ?_
      refine lv_aload_n hx hb dX2_blocksOfOwner_7 rfl (lv_at hl 0 rfl) ?_
      refine va_get (D := D) (ci := 6) (v := .int nF) (C := RX2) (T := TX2) (N := 9) hx hb hts inX2 hown hK hP 1 rfl rfl 0 (by decide) (hts _ q68) (fun _ h9 => h9) rfl dX2_blocksOfOwner_8 ?_
      refine lv_icmp_ge (tgt := 46) hx hb dX2_blocksOfOwner_11 (by decide) (fun c8 => ?_) (fun c8 => ?_)
      · have hf := br_pos c8 hf
        cases hf
        exact kk _ _ _ hP hD hS (lv_sub hl [3] rfl)
      · have hf := br_neg c8 hf
        refine lv_iload hx hb dX2_blocksOfOwner_14 (lv_at hl 4 rfl) ?_
        refine lv_iload_n hx hb dX2_blocksOfOwner_16 rfl (lv_at hl 2 rfl) ?_
        refine lv_icmp_eq (tgt := 40) hx hb dX2_blocksOfOwner_17 (by decide) (fun c9 => ?_) (fun c9 => ?_)
        · have hf := br_pos c9 hf
          refine lv_iinc (v := (v5 + 1)) (lv' := [(5, .int (v5 + 1)), (0, .ref (ad 1)), (1, .int v1), (2, .int v2), (3, .long v3)]) hx hb dX2_blocksOfOwner_40 hl (k := 4) rfl rfl (by decide) rfl (fun ls hl => ?_)
          refine lv_goto (tgt := 5) hx hb dX2_blocksOfOwner_43 (by decide) ?_
          exact ih v1 v2 v3 (v5 + 1) _ hf _ _ _ hP hD hS (lv_sub hl [1, 2, 3, 4, 0] rfl) kk
        · have hf := br_neg c9 hf
          refine lv_aload_n hx hb dX2_blocksOfOwner_20 rfl (lv_at hl 0 rfl) ?_
          refine lv_iload hx hb dX2_blocksOfOwner_21 (lv_at hl 4 rfl) ?_
          obtain ⟨r10, h11, hf⟩ := bnd hf
          refine call_vi (rest := []) (m_S_ownerIn l ca ad bq nF nO nL nA nC nV nU nP nE bF bO bL bA bC bV bU bP bE cT cK cO cQ cD pT pK pR pW pU pI pC uO uF uE uN wK jM jN jZ jB R _ v5 r10 h11) ⟨hx, hb, hml, hown, hts⟩ (cwV 1 hts (gV q528 q517 q518 q25 q519) rfl rfl rfl (by decide +kernel) ⟨Nat.le_of_ble_eq_true rfl, Nat.le_of_ble_eq_true rfl⟩) (va_recv hK hP (ci := 6) (q0 := 1) rfl rfl) hE hP hD hS hA rfl hl.1 rfl (lv_room (Nat.le_of_ble_eq_true rfl)) dX2_blocksOfOwner_23 ⟨Nat.le_of_ble_eq_true rfl, Nat.le_of_ble_eq_true rfl⟩ (fun H locs hP hD hS => ?_)
          refine lv_iload_n hx hb dX2_blocksOfOwner_26 rfl (lv_at hl 1 rfl) ?_
          refine lv_icmp_ne (tgt := 40) hx hb dX2_blocksOfOwner_27 (by decide) (fun c12 => ?_) (fun c12 => ?_)
          · have hf := br_neg c12 hf
            refine lv_iinc (v := (v5 + 1)) (lv' := [(5, .int (v5 + 1)), (0, .ref (ad 1)), (1, .int v1), (2, .int v2), (3, .long v3)]) hx hb dX2_blocksOfOwner_40 hl (k := 4) rfl rfl (by decide) rfl (fun ls hl => ?_)
            refine lv_goto (tgt := 5) hx hb dX2_blocksOfOwner_43 (by decide) ?_
            exact ih v1 v2 v3 (v5 + 1) _ hf _ _ _ hP hD hS (lv_sub hl [1, 2, 3, 4, 0] rfl) kk
          · have hf := br_pos c12 hf
            refine lv_lload_n hx hb dX2_blocksOfOwner_30 rfl (lv_at hl 3 rfl) ?_
            refine lv_aload_n hx hb dX2_blocksOfOwner_31 rfl (lv_at hl 0 rfl) ?_
            refine lv_iload hx hb dX2_blocksOfOwner_32 (lv_at hl 4 rfl) ?_
            refine lv_iconst (v := (-1)) hx hb dX2_blocksOfOwner_34 (by decide) ?_
            obtain ⟨r13, h14, hf⟩ := bnd hf
            refine call_vl (rest := [.long v3]) (m_S_blocksInFile l ca ad bq nF nO nL nA nC nV nU nP nE bF bO bL bA bC bV bU bP bE cT cK cO cQ cD pT pK pR pW pU pI pC uO uF uE uN wK jM jN jZ jB R _ v5 (-1) r13 h14) ⟨hx, hb, hml, hown, hts⟩ (cwV 2 hts (gV q529 q530 q531 q25 q532) rfl rfl rfl (by decide +kernel) ⟨Nat.le_of_ble_eq_true rfl, Nat.le_of_ble_eq_true rfl⟩) (va_recv hK hP (ci := 6) (q0 := 1) rfl rfl) hE hP hD hS hA rfl hl.1 rfl (lv_room (Nat.le_of_ble_eq_true rfl)) dX2_blocksOfOwner_35 ⟨Nat.le_of_ble_eq_true rfl, Nat.le_of_ble_eq_true rfl⟩ (fun H locs hP hD hS => ?_)
            refine lv_lor hx hb dX2_blocksOfOwner_38 ?_
            refine lv_lstore_n (lv' := [(3, .long (v3 ||| r13)), (0, .ref (ad 1)), (1, .int v1), (2, .int v2), (5, .int v5)]) hx hb dX2_blocksOfOwner_39 rfl hl (by decide) rfl (fun ls hl => ?_)
            refine lv_iinc (v := (v5 + 1)) (lv' := [(5, .int (v5 + 1)), (3, .long (v3 ||| r13)), (0, .ref (ad 1)), (1, .int v1), (2, .int v2)]) hx hb dX2_blocksOfOwner_40 hl (k := 4) rfl rfl (by decide) rfl (fun ls hl => ?_)
            refine lv_goto (tgt := 5) hx hb dX2_blocksOfOwner_43 (by decide) ?_
            exact ih v1 v2 (v3 ||| r13) (v5 + 1) _ hf _ _ _ hP hD hS (lv_sub hl [2, 3, 4, 1, 0] rfl) kk
  refine lv_lconst (v := 0) hx hb dX2_blocksOfOwner_0 (by decide) ?_
  refine lv_lstore_n (lv' := [(3, .long 0), (0, .ref (ad 1)), (1, .int p1), (2, .int p2)]) hx hb dX2_blocksOfOwner_1 rfl hl (by decide) rfl (fun ls hl => ?_)
  refine lv_iconst (v := 0) hx hb dX2_blocksOfOwner_2 (by decide) ?_
  refine lv_istore (lv' := [(5, .int 0), (3, .long 0), (0, .ref (ad 1)), (1, .int p1), (2, .int p2)]) hx hb dX2_blocksOfOwner_3 hl (by decide) rfl (fun ls hl => ?_)
  obtain ⟨x16, h15, hf⟩ := bnd hf
  refine L5 FU p1 p2 0 0 x16 h15 _ _ _ hP hD hS (lv_sub hl [2, 3, 4, 1, 0] rfl) (fun H locs ls hP hD hS hl => ?_)
  refine lv_lload_n hx hb dX2_blocksOfOwner_46 rfl (lv_at hl 0 rfl) ?_
  cases hf
  exact end_l hAe hQm hx hb hr hlocks hP hD hS dX2_blocksOfOwner_47
def f_S_walkFiles_L12 : Nat → Int32 → Int32 → Int32 → (Nat → Int32) → (Nat → Int32) → Option ((Nat → Int32))
  | 0, _, _, _, _, _ => none
  | fuel + 1, v2, v3, nF, nC, wK =>
    if 16 ≤ v3 then
      some wK
    else
      (f_S_blockIn v2 v3 nF nC).bind fun r21 =>
      (f_C_countUser r21 wK).bind fun wK_23 =>
      f_S_walkFiles_L12 fuel v2 (v3 + 1) nF nC wK_23
def f_S_walkFiles_L2 : Nat → Int32 → Int32 → (Nat → Int32) → (Nat → Int32) → Option ((Nat → Int32))
  | 0, _, _, _, _ => none
  | fuel + 1, v2, nF, nC, wK =>
    if nF ≤ v2 then
      some wK
    else
      (f_S_walkFiles_L12 FU v2 0 nF nC wK).bind fun wK_26 =>
      f_S_walkFiles_L2 fuel (v2 + 1) nF nC wK_26
def f_S_walkFiles (nF : Int32) (nC : Nat → Int32) (wK : Nat → Int32) : Option ((Nat → Int32)) :=
  (f_S_walkFiles_L2 FU 0 nF nC wK).bind fun wK_28 =>
  some wK_28
set_option maxHeartbeats 4000000 in
set_option maxRecDepth 100000 in
theorem m_S_walkFiles (l : Launch) {D : va_G} {sl : List (String × Nat × String)} (ca : Nat → ClassId) (ad : Nat → Nat) (bq : Nat) (nF : Int32) (nO : Nat → Int32) (nL : Nat → Int32) (nA : Nat → Int32) (nC : Nat → Int32) (nV : Nat → Int32) (nU : Nat → Int32) (nP : Nat → Int32) (nE : Int32) (bF : Int32) (bO : Nat → Int32) (bL : Nat → Int32) (bA : Nat → Int32) (bC : Nat → Int32) (bV : Nat → Int32) (bU : Nat → Int32) (bP : Nat → Int32) (bE : Int32) (cT : Int32) (cK : Nat → Int32) (cO : Int32) (cQ : Nat → Int32) (cD : Int32) (pT : Int32) (pK : Int32) (pR : Nat → Int32) (pW : Nat → Int32) (pU : Nat → Int32) (pI : Nat → Int32) (pC : Nat → Nat → Int32) (uO : Int32) (uF : Nat → Int32) (uE : Nat → Int32) (uN : Nat → Int32) (wK : Nat → Int32) (jM : Int32) (jN : Int32) (jZ : Nat) (jB : Nat → Int32) (R : va_W) (sz : Nat) (owK : Nat → Int32) (hf : f_S_walkFiles nF nC wK = some owK) : Met l yX2_walkFiles (wm yX2_walkFiles cX2_walkFiles 4 none) ({ frames := 2, cells := 0, slots := 0, locals := 43 } : Room) (PRE [.ref (ad 1), .ref (ad 8)] D ca sl (WC ca ad bq nF nO nL nA nC nV nU nP nE bF bO bL bA bC bV bU bP bE cT cK cO cQ cD pT pK pR pW pU pI pC uO uF uE uN wK jM jN jZ jB ++ R) sz) (QV D (WC ca ad bq nF nO nL nA nC nV nU nP nE bF bO bL bA bC bV bU bP bE cT cK cO cQ cD pT pK pR pW pU pI pC uO uF uE uN owK jM jN jZ jB ++ R) (WC ca ad bq nF nO nL nA nC nV nU nP nE bF bO bL bA bC bV bU bP bE cT cK cO cQ cD pT pK pR pW pU pI pC uO uF uE uN wK jM jN jZ jB ++ R) sz) 0 0 (va_A (WC ca ad bq nF nO nL nA nC nV nU nP nE bF bO bL bA bC bV bU bP bE cT cK cO cQ cD pT pK pR pW pU pI pC uO uF uE uN wK jM jN jZ jB ++ R) sz) := by
  refine Met.ofW (cc := cX2_walkFiles) (maxL := 4) (ret := none) (by decide) rfl ?_
  intro p e s m args below meth c s₁ B hml hv
  obtain ⟨rfl, rfl, hP, hE, hD0⟩ := hv
  have hx := B.exec
  have hb := B.bytes
  have hr := B.returns
  have hts := wm_ww (atoms_spec (ws := wm yX2_walkFiles cX2_walkFiles 4 none) B.pre)
  have hown : s.vm.findClass RX2 = some m.cls := findClass_of_methodNamed B.named
  have hlocks := B.notSynchronized
  have hK := hE.1
  have hD := hD0.self (sz := s.heap.size)
  generalize hAe : va_A (WC ca ad bq nF nO nL nA nC nV nU nP nE bF bO bL bA bC bV bU bP bE cT cK cO cQ cD pT pK pR pW pU pI pC uO uF uE uN wK jM jN jZ jB ++ R) s.heap.size = A at hD ⊢
  have hA : ∀ q : Nat, s.heap.size ≤ q → A q := fun q h => by rw [← hAe]; exact Or.inr h
  have hS : va_S A s.heap s.heap [] := va_S.rf
  have hl := lv_entry ([.ref (ad 1), .ref (ad 8)]) (n := 4) (Nat.le_of_ble_eq_true rfl)
  rw [lg_entry_eq]
  generalize (lg_sl ([.ref (ad 1), .ref (ad 8)]) ++ List.replicate (4 - (lg_sl ([.ref (ad 1), .ref (ad 8)])).length) Slot.unset).toArray = ls at hl ⊢
  have hl : lv_has ls 4 [(0, .ref (ad 1)), (1, .ref (ad 8))] := hl
  change W p l e ({ frames := 2, cells := 0, slots := 0, locals := 43 } : Room) s m _ below meth c s.heap [] 0 0 _ _
  generalize hQm : MQ below (QV D (WC ca ad bq nF nO nL nA nC nV nU nP nE bF bO bL bA bC bV bU bP bE cT cK cO cQ cD pT pK pR pW pU pI pC uO uF uE uN owK jM jN jZ jB ++ R) (WC ca ad bq nF nO nL nA nC nV nU nP nE bF bO bL bA bC bV bU bP bE cT cK cO cQ cD pT pK pR pW pU pI pC uO uF uE uN wK jM jN jZ jB ++ R) s.heap.size) _ s 0 0 A = Qm
  have hP : va_P D vwCl (WC ca ad bq nF nO nL nA nC nV nU nP nE bF bO bL bA bC bV bU bP bE cT cK cO cQ cD pT pK pR pW pU pI pC uO uF uE uN wK jM jN jZ jB ++ R) s.heap := hP
  generalize hae : ([.ref (ad 1), .ref (ad 8)] : List Value).toArray = args at hts hQm ⊢
  have L12 : ∀ (n : Nat) (v2 : Int32) (v3 : Int32) (wK : Nat → Int32) (zwK : Nat → Int32), f_S_walkFiles_L12 n v2 v3 nF nC wK = some zwK → ∀ (H : Heap) (locs : List Loc) (ls : Array Slot), va_P D vwCl (WC ca ad bq nF nO nL nA nC nV nU nP nE bF bO bL bA bC bV bU bP bE cT cK cO cQ cD pT pK pR pW pU pI pC uO uF uE uN wK jM jN jZ jB ++ R) H → va_D A (WC ca ad bq nF nO nL nA nC nV nU nP nE bF bO bL bA bC bV bU bP bE cT cK cO cQ cD pT pK pR pW pU pI pC uO uF uE uN wK jM jN jZ jB ++ R) → va_S A s.heap H locs → lv_has ls 4 [(0, .ref (ad 1)), (1, .ref (ad 8)), (2, .int v2), (3, .int v3)] → (∀ (H : Heap) (locs : List Loc) (ls : Array Slot), va_P D vwCl (WC ca ad bq nF nO nL nA nC nV nU nP nE bF bO bL bA bC bV bU bP bE cT cK cO cQ cD pT pK pR pW pU pI pC uO uF uE uN zwK jM jN jZ jB ++ R) H → va_D A (WC ca ad bq nF nO nL nA nC nV nU nP nE bF bO bL bA bC bV bU bP bE cT cK cO cQ cD pT pK pR pW pU pI pC uO uF uE uN zwK jM jN jZ jB ++ R) → va_S A s.heap H locs → lv_has ls 4 [(0, .ref (ad 1)), (1, .ref (ad 8)), (2, .int v2)] → W p l e ({ frames := 2, cells := 0, slots := 0, locals := 43 } : Room) s m args below meth c H locs 0 0 Qm (F0 m 34 ls [])) → W p l e ({ frames := 2, cells := 0, slots := 0, locals := 43 } : Room) s m args below meth c H locs 0 0 Qm (F0 m 12 ls []) := by
    intro n
    induction n with
    | zero => intro v2 v3 wK zwK hf; cases hf
    | succ n ih =>
      intro v2 v3 wK zwK hf H locs ls hP hD hS hl kk
      unfold f_S_walkFiles_L12 at hf
      refine lv_iload_n hx hb dX2_walkFiles_12 rfl (lv_at hl 3 rfl) ?_
      refine lv_bipush (v := 16) hx hb dX2_walkFiles_13 (by decide) ?_
      refine lv_icmp_ge (tgt := 34) hx hb dX2_walkFiles_15 (by decide) (fun c20 => ?_) (fun c20 => ?_)
      · have hf := br_pos c20 hf
        cases hf
        exact kk _ _ _ hP hD hS (lv_sub hl [0, 1, 2] rfl)
      · have hf := br_neg c20 hf
        refine lv_aload_n hx hb dX2_walkFiles_18 rfl (lv_at hl 1 rfl) ?_
        refine lv_aload_n hx hb dX2_walkFiles_19 rfl (lv_at hl 0 rfl) ?_
        refine lv_iload_n hx hb dX2_walkFiles_20 rfl (lv_at hl 2 rfl) ?_
        refine lv_iload_n hx hb dX2_walkFiles_21 rfl (lv_at hl 3 rfl) ?_
        obtain ⟨r21, h22, hf⟩ := bnd hf
        refine call_vi (rest := [.ref (ad 8)]) (m_S_blockIn l ca ad bq nF nO nL nA nC nV nU nP nE bF bO bL bA bC bV bU bP bE cT cK cO cQ cD pT pK pR pW pU pI pC uO uF uE uN wK jM jN jZ jB R _ v2 v3 r21 h22) ⟨hx, hb, hml, hown, hts⟩ (cwV 2 hts (gV q533 q509 q510 q25 q511) rfl rfl rfl (by decide +kernel) ⟨Nat.le_of_ble_eq_true rfl, Nat.le_of_ble_eq_true rfl⟩) (va_recv hK hP (ci := 6) (q0 := 1) rfl rfl) hE hP hD hS hA rfl hl.1 rfl (lv_room (Nat.le_of_ble_eq_true rfl)) dX2_walkFiles_22 ⟨Nat.le_of_ble_eq_true rfl, Nat.le_of_ble_eq_true rfl⟩ (fun H locs hP hD hS => ?_)
        obtain ⟨wK_23, h24, hf⟩ := bnd hf
        refine call_nv (rest := []) (m_C_countUser l ca ad bq nF nO nL nA nC nV nU nP nE bF bO bL bA bC bV bU bP bE cT cK cO cQ cD pT pK pR pW pU pI pC uO uF uE uN wK jM jN jZ jB R _ r21 wK_23 h24) ⟨hx, hb, hml, hown, hts⟩ ⟨va_cnB 2 hts (gM q661) rfl rfl rfl (hE.2.1 _ n659) (hts _ q24) (by decide +kernel) ⟨Nat.le_of_ble_eq_true rfl, Nat.le_of_ble_eq_true rfl⟩, hts _ q660, trivial⟩ hE hP hD hS hA rfl hl.1 rfl (lv_room (Nat.le_of_ble_eq_true rfl)) dX2_walkFiles_25 ⟨Nat.le_of_ble_eq_true rfl, Nat.le_of_ble_eq_true rfl⟩ (fun H locs hP hD hS => ?_)
        refine lv_iinc (v := (v3 + 1)) (lv' := [(3, .int (v3 + 1)), (0, .ref (ad 1)), (1, .ref (ad 8)), (2, .int v2)]) hx hb dX2_walkFiles_28 hl (k := 3) rfl rfl (by decide) rfl (fun ls hl => ?_)
        refine lv_goto (tgt := 12) hx hb dX2_walkFiles_31 (by decide) ?_
        exact ih v2 (v3 + 1) wK_23 _ hf _ _ _ hP hD hS (lv_sub hl [1, 2, 3, 0] rfl) kk
  have L2 : ∀ (n : Nat) (v2 : Int32) (wK : Nat → Int32) (zwK : Nat → Int32), f_S_walkFiles_L2 n v2 nF nC wK = some zwK → ∀ (H : Heap) (locs : List Loc) (ls : Array Slot), va_P D vwCl (WC ca ad bq nF nO nL nA nC nV nU nP nE bF bO bL bA bC bV bU bP bE cT cK cO cQ cD pT pK pR pW pU pI pC uO uF uE uN wK jM jN jZ jB ++ R) H → va_D A (WC ca ad bq nF nO nL nA nC nV nU nP nE bF bO bL bA bC bV bU bP bE cT cK cO cQ cD pT pK pR pW pU pI pC uO uF uE uN wK jM jN jZ jB ++ R) → va_S A s.heap H locs → lv_has ls 4 [(0, .ref (ad 1)), (1, .ref (ad 8)), (2, .int v2)] → (∀ (H : Heap) (locs : List Loc) (ls : Array Slot), va_P D vwCl (WC ca ad bq nF nO nL nA nC nV nU nP nE bF bO bL bA bC bV bU bP bE cT cK cO cQ cD pT pK pR pW pU pI pC uO uF uE uN zwK jM jN jZ jB ++ R) H → va_D A (WC ca ad bq nF nO nL nA nC nV nU nP nE bF bO bL bA bC bV bU bP bE cT cK cO cQ cD pT pK pR pW pU pI pC uO uF uE uN zwK jM jN jZ jB ++ R) → va_S A s.heap H locs → lv_has ls 4 [] → W p l e ({ frames := 2, cells := 0, slots := 0, locals := 43 } : Room) s m args below meth c H locs 0 0 Qm (F0 m 40 ls [])) → W p l e ({ frames := 2, cells := 0, slots := 0, locals := 43 } : Room) s m args below meth c H locs 0 0 Qm (F0 m 2 ls []) := by
    intro n
    induction n with
    | zero => intro v2 wK zwK hf; cases hf
    | succ n ih =>
      intro v2 wK zwK hf H locs ls hP hD hS hl kk
      unfold f_S_walkFiles_L2 at hf
      refine lv_iload_n hx hb dX2_walkFiles_2 rfl (lv_at hl 2 rfl) ?_
      refine lv_aload_n hx hb dX2_walkFiles_3 rfl (lv_at hl 0 rfl) ?_
      refine va_get (D := D) (ci := 6) (v := .int nF) (C := RX2) (T := TX2) (N := 9) hx hb hts inX2 hown hK hP 1 rfl rfl 0 (by decide) (hts _ q68) (fun _ h9 => h9) rfl dX2_walkFiles_4 ?_
      refine lv_icmp_ge (tgt := 40) hx hb dX2_walkFiles_7 (by decide) (fun c14 => ?_) (fun c14 => ?_)
      · have hf := br_pos c14 hf
        cases hf
        exact kk _ _ _ hP hD hS (lv_sub hl [] rfl)
      · have hf := br_neg c14 hf
        refine lv_iconst (v := 0) hx hb dX2_walkFiles_10 (by decide) ?_
        refine lv_istore_n (lv' := [(3, .int 0), (0, .ref (ad 1)), (1, .ref (ad 8)), (2, .int v2)]) hx hb dX2_walkFiles_11 rfl hl (by decide) rfl (fun ls hl => ?_)
        obtain ⟨wK_26, h25, hf⟩ := bnd hf
        refine L12 FU v2 0 wK wK_26 h25 _ _ _ hP hD hS (lv_sub hl [1, 2, 3, 0] rfl) (fun H locs ls hP hD hS hl => ?_)
        refine lv_iinc (v := (v2 + 1)) (lv' := [(2, .int (v2 + 1)), (0, .ref (ad 1)), (1, .ref (ad 8))]) hx hb dX2_walkFiles_34 hl (k := 2) rfl rfl (by decide) rfl (fun ls hl => ?_)
        refine lv_goto (tgt := 2) hx hb dX2_walkFiles_37 (by decide) ?_
        exact ih (v2 + 1) wK_26 _ hf _ _ _ hP hD hS (lv_sub hl [1, 2, 0] rfl) kk
  refine lv_iconst (v := 0) hx hb dX2_walkFiles_0 (by decide) ?_
  refine lv_istore_n (lv' := [(2, .int 0), (0, .ref (ad 1)), (1, .ref (ad 8))]) hx hb dX2_walkFiles_1 rfl hl (by decide) rfl (fun ls hl => ?_)
  obtain ⟨wK_28, h27, hf⟩ := bnd hf
  refine L2 FU 0 wK wK_28 h27 _ _ _ hP hD hS (lv_sub hl [1, 2, 0] rfl) (fun H locs ls hP hD hS hl => ?_)
  cases hf
  exact end_v hAe hQm hx hb hr hlocks hP hD hS dX2_walkFiles_40
def f_S_userTotal (p1 : Int32) (nU : Nat → Int32) : Option (Int32) :=
  (f_C_isBlock p1).bind fun r1 =>
  if r1 = 0 then
    some 0
  else
    if p1 < 0 ∨ 64 ≤ p1.toNatClampNeg then none else
      some (nU p1.toNatClampNeg)
set_option maxHeartbeats 4000000 in
set_option maxRecDepth 100000 in
theorem m_S_userTotal (l : Launch) {D : va_G} {sl : List (String × Nat × String)} (ca : Nat → ClassId) (ad : Nat → Nat) (bq : Nat) (nF : Int32) (nO : Nat → Int32) (nL : Nat → Int32) (nA : Nat → Int32) (nC : Nat → Int32) (nV : Nat → Int32) (nU : Nat → Int32) (nP : Nat → Int32) (nE : Int32) (bF : Int32) (bO : Nat → Int32) (bL : Nat → Int32) (bA : Nat → Int32) (bC : Nat → Int32) (bV : Nat → Int32) (bU : Nat → Int32) (bP : Nat → Int32) (bE : Int32) (cT : Int32) (cK : Nat → Int32) (cO : Int32) (cQ : Nat → Int32) (cD : Int32) (pT : Int32) (pK : Int32) (pR : Nat → Int32) (pW : Nat → Int32) (pU : Nat → Int32) (pI : Nat → Int32) (pC : Nat → Nat → Int32) (uO : Int32) (uF : Nat → Int32) (uE : Nat → Int32) (uN : Nat → Int32) (wK : Nat → Int32) (jM : Int32) (jN : Int32) (jZ : Nat) (jB : Nat → Int32) (R : va_W) (sz : Nat) (p1 : Int32) (ro : Int32) (hf : f_S_userTotal p1 nU = some ro) : Met l yX2_userTotal (wm yX2_userTotal cX2_userTotal 2 (some .int)) ({ frames := 1, cells := 0, slots := 0, locals := 20 } : Room) (PRE [.ref (ad 1), .int p1] D ca sl (WC ca ad bq nF nO nL nA nC nV nU nP nE bF bO bL bA bC bV bU bP bE cT cK cO cQ cD pT pK pR pW pU pI pC uO uF uE uN wK jM jN jZ jB ++ R) sz) (QI ro D (WC ca ad bq nF nO nL nA nC nV nU nP nE bF bO bL bA bC bV bU bP bE cT cK cO cQ cD pT pK pR pW pU pI pC uO uF uE uN wK jM jN jZ jB ++ R) (WC ca ad bq nF nO nL nA nC nV nU nP nE bF bO bL bA bC bV bU bP bE cT cK cO cQ cD pT pK pR pW pU pI pC uO uF uE uN wK jM jN jZ jB ++ R) sz) 0 0 (va_A (WC ca ad bq nF nO nL nA nC nV nU nP nE bF bO bL bA bC bV bU bP bE cT cK cO cQ cD pT pK pR pW pU pI pC uO uF uE uN wK jM jN jZ jB ++ R) sz) := by
  refine Met.ofW (cc := cX2_userTotal) (maxL := 2) (ret := (some .int)) (by decide) rfl ?_
  intro p e s m args below meth c s₁ B hml hv
  obtain ⟨rfl, rfl, hP, hE, hD0⟩ := hv
  have hx := B.exec
  have hb := B.bytes
  have hr := B.returns
  have hts := wm_ww (atoms_spec (ws := wm yX2_userTotal cX2_userTotal 2 (some .int)) B.pre)
  have hown : s.vm.findClass RX2 = some m.cls := findClass_of_methodNamed B.named
  have hlocks := B.notSynchronized
  have hK := hE.1
  have hD := hD0.self (sz := s.heap.size)
  generalize hAe : va_A (WC ca ad bq nF nO nL nA nC nV nU nP nE bF bO bL bA bC bV bU bP bE cT cK cO cQ cD pT pK pR pW pU pI pC uO uF uE uN wK jM jN jZ jB ++ R) s.heap.size = A at hD ⊢
  have hA : ∀ q : Nat, s.heap.size ≤ q → A q := fun q h => by rw [← hAe]; exact Or.inr h
  have hS : va_S A s.heap s.heap [] := va_S.rf
  have hl := lv_entry ([.ref (ad 1), .int p1]) (n := 2) (Nat.le_of_ble_eq_true rfl)
  rw [lg_entry_eq]
  generalize (lg_sl ([.ref (ad 1), .int p1]) ++ List.replicate (2 - (lg_sl ([.ref (ad 1), .int p1])).length) Slot.unset).toArray = ls at hl ⊢
  have hl : lv_has ls 2 [(0, .ref (ad 1)), (1, .int p1)] := hl
  change W p l e ({ frames := 1, cells := 0, slots := 0, locals := 20 } : Room) s m _ below meth c s.heap [] 0 0 _ _
  generalize hQm : MQ below (QI ro D (WC ca ad bq nF nO nL nA nC nV nU nP nE bF bO bL bA bC bV bU bP bE cT cK cO cQ cD pT pK pR pW pU pI pC uO uF uE uN wK jM jN jZ jB ++ R) (WC ca ad bq nF nO nL nA nC nV nU nP nE bF bO bL bA bC bV bU bP bE cT cK cO cQ cD pT pK pR pW pU pI pC uO uF uE uN wK jM jN jZ jB ++ R) s.heap.size) _ s 0 0 A = Qm
  have hP : va_P D vwCl (WC ca ad bq nF nO nL nA nC nV nU nP nE bF bO bL bA bC bV bU bP bE cT cK cO cQ cD pT pK pR pW pU pI pC uO uF uE uN wK jM jN jZ jB ++ R) s.heap := hP
  generalize hae : ([.ref (ad 1), .int p1] : List Value).toArray = args at hts hQm ⊢
  refine lv_iload_n hx hb dX2_userTotal_0 rfl (lv_at hl 1 rfl) ?_
  obtain ⟨r1, h2, hf⟩ := bnd hf
  refine call_ni (rest := []) (m_C_isBlock l ca ad bq nF nO nL nA nC nV nU nP nE bF bO bL bA bC bV bU bP bE cT cK cO cQ cD pT pK pR pW pU pI pC uO uF uE uN wK jM jN jZ jB R _ p1 r1 h2) ⟨hx, hb, hml, hown, hts⟩ ⟨va_cnB 1 hts (gM q493) rfl rfl rfl (hE.2.1 _ n491) (hts _ q24) (by decide +kernel) ⟨Nat.le_of_ble_eq_true rfl, Nat.le_of_ble_eq_true rfl⟩, hts _ q492, trivial⟩ hE hP hD hS hA rfl hl.1 rfl (lv_room (Nat.le_of_ble_eq_true rfl)) dX2_userTotal_1 ⟨Nat.le_of_ble_eq_true rfl, Nat.le_of_ble_eq_true rfl⟩ (fun H locs hP hD hS => ?_)
  refine lv_if_eq (tgt := 16) hx hb dX2_userTotal_4 (by decide) (fun c3 => ?_) (fun c3 => ?_)
  · have hf := br_pos c3 hf
    refine lv_iconst (v := 0) hx hb dX2_userTotal_16 (by decide) ?_
    cases hf
    exact end_i hAe hQm hx hb hr hlocks rfl hP hD hS dX2_userTotal_17
  · have hf := br_neg c3 hf
    refine lv_aload_n hx hb dX2_userTotal_7 rfl (lv_at hl 0 rfl) ?_
    refine va_get (D := D) (ci := 6) (v := .ref (ad 14)) (C := RX2) (T := TX2) (N := 9) hx hb hts inX2 hown hK hP 1 rfl rfl 6 (by decide) (hts _ q74) (fun _ h9 => h9) rfl dX2_userTotal_8 ?_
    refine lv_iload_n hx hb dX2_userTotal_11 rfl (lv_at hl 1 rfl) ?_
    obtain ⟨k4, hf⟩ := ck_not hf
    refine va_iald (D := D) hx hb hK hP 7 0 rfl rfl k4 dX2_userTotal_12 ?_
    refine lv_goto (tgt := 17) hx hb dX2_userTotal_13 (by decide) ?_
    cases hf
    exact end_i hAe hQm hx hb hr hlocks rfl hP hD hS dX2_userTotal_17
def f_S_valueIn (p1 : Int32) (nV : Nat → Int32) : Option (Int32) :=
  (f_C_isBlock p1).bind fun r1 =>
  if r1 = 0 then
    some 0
  else
    if p1 < 0 ∨ 64 ≤ p1.toNatClampNeg then none else
      some (nV p1.toNatClampNeg)
set_option maxHeartbeats 4000000 in
set_option maxRecDepth 100000 in
theorem m_S_valueIn (l : Launch) {D : va_G} {sl : List (String × Nat × String)} (ca : Nat → ClassId) (ad : Nat → Nat) (bq : Nat) (nF : Int32) (nO : Nat → Int32) (nL : Nat → Int32) (nA : Nat → Int32) (nC : Nat → Int32) (nV : Nat → Int32) (nU : Nat → Int32) (nP : Nat → Int32) (nE : Int32) (bF : Int32) (bO : Nat → Int32) (bL : Nat → Int32) (bA : Nat → Int32) (bC : Nat → Int32) (bV : Nat → Int32) (bU : Nat → Int32) (bP : Nat → Int32) (bE : Int32) (cT : Int32) (cK : Nat → Int32) (cO : Int32) (cQ : Nat → Int32) (cD : Int32) (pT : Int32) (pK : Int32) (pR : Nat → Int32) (pW : Nat → Int32) (pU : Nat → Int32) (pI : Nat → Int32) (pC : Nat → Nat → Int32) (uO : Int32) (uF : Nat → Int32) (uE : Nat → Int32) (uN : Nat → Int32) (wK : Nat → Int32) (jM : Int32) (jN : Int32) (jZ : Nat) (jB : Nat → Int32) (R : va_W) (sz : Nat) (p1 : Int32) (ro : Int32) (hf : f_S_valueIn p1 nV = some ro) : Met l yX2_valueIn (wm yX2_valueIn cX2_valueIn 2 (some .int)) ({ frames := 1, cells := 0, slots := 0, locals := 20 } : Room) (PRE [.ref (ad 1), .int p1] D ca sl (WC ca ad bq nF nO nL nA nC nV nU nP nE bF bO bL bA bC bV bU bP bE cT cK cO cQ cD pT pK pR pW pU pI pC uO uF uE uN wK jM jN jZ jB ++ R) sz) (QI ro D (WC ca ad bq nF nO nL nA nC nV nU nP nE bF bO bL bA bC bV bU bP bE cT cK cO cQ cD pT pK pR pW pU pI pC uO uF uE uN wK jM jN jZ jB ++ R) (WC ca ad bq nF nO nL nA nC nV nU nP nE bF bO bL bA bC bV bU bP bE cT cK cO cQ cD pT pK pR pW pU pI pC uO uF uE uN wK jM jN jZ jB ++ R) sz) 0 0 (va_A (WC ca ad bq nF nO nL nA nC nV nU nP nE bF bO bL bA bC bV bU bP bE cT cK cO cQ cD pT pK pR pW pU pI pC uO uF uE uN wK jM jN jZ jB ++ R) sz) := by
  refine Met.ofW (cc := cX2_valueIn) (maxL := 2) (ret := (some .int)) (by decide) rfl ?_
  intro p e s m args below meth c s₁ B hml hv
  obtain ⟨rfl, rfl, hP, hE, hD0⟩ := hv
  have hx := B.exec
  have hb := B.bytes
  have hr := B.returns
  have hts := wm_ww (atoms_spec (ws := wm yX2_valueIn cX2_valueIn 2 (some .int)) B.pre)
  have hown : s.vm.findClass RX2 = some m.cls := findClass_of_methodNamed B.named
  have hlocks := B.notSynchronized
  have hK := hE.1
  have hD := hD0.self (sz := s.heap.size)
  generalize hAe : va_A (WC ca ad bq nF nO nL nA nC nV nU nP nE bF bO bL bA bC bV bU bP bE cT cK cO cQ cD pT pK pR pW pU pI pC uO uF uE uN wK jM jN jZ jB ++ R) s.heap.size = A at hD ⊢
  have hA : ∀ q : Nat, s.heap.size ≤ q → A q := fun q h => by rw [← hAe]; exact Or.inr h
  have hS : va_S A s.heap s.heap [] := va_S.rf
  have hl := lv_entry ([.ref (ad 1), .int p1]) (n := 2) (Nat.le_of_ble_eq_true rfl)
  rw [lg_entry_eq]
  generalize (lg_sl ([.ref (ad 1), .int p1]) ++ List.replicate (2 - (lg_sl ([.ref (ad 1), .int p1])).length) Slot.unset).toArray = ls at hl ⊢
  have hl : lv_has ls 2 [(0, .ref (ad 1)), (1, .int p1)] := hl
  change W p l e ({ frames := 1, cells := 0, slots := 0, locals := 20 } : Room) s m _ below meth c s.heap [] 0 0 _ _
  generalize hQm : MQ below (QI ro D (WC ca ad bq nF nO nL nA nC nV nU nP nE bF bO bL bA bC bV bU bP bE cT cK cO cQ cD pT pK pR pW pU pI pC uO uF uE uN wK jM jN jZ jB ++ R) (WC ca ad bq nF nO nL nA nC nV nU nP nE bF bO bL bA bC bV bU bP bE cT cK cO cQ cD pT pK pR pW pU pI pC uO uF uE uN wK jM jN jZ jB ++ R) s.heap.size) _ s 0 0 A = Qm
  have hP : va_P D vwCl (WC ca ad bq nF nO nL nA nC nV nU nP nE bF bO bL bA bC bV bU bP bE cT cK cO cQ cD pT pK pR pW pU pI pC uO uF uE uN wK jM jN jZ jB ++ R) s.heap := hP
  generalize hae : ([.ref (ad 1), .int p1] : List Value).toArray = args at hts hQm ⊢
  refine lv_iload_n hx hb dX2_valueIn_0 rfl (lv_at hl 1 rfl) ?_
  obtain ⟨r1, h2, hf⟩ := bnd hf
  refine call_ni (rest := []) (m_C_isBlock l ca ad bq nF nO nL nA nC nV nU nP nE bF bO bL bA bC bV bU bP bE cT cK cO cQ cD pT pK pR pW pU pI pC uO uF uE uN wK jM jN jZ jB R _ p1 r1 h2) ⟨hx, hb, hml, hown, hts⟩ ⟨va_cnB 1 hts (gM q493) rfl rfl rfl (hE.2.1 _ n491) (hts _ q24) (by decide +kernel) ⟨Nat.le_of_ble_eq_true rfl, Nat.le_of_ble_eq_true rfl⟩, hts _ q492, trivial⟩ hE hP hD hS hA rfl hl.1 rfl (lv_room (Nat.le_of_ble_eq_true rfl)) dX2_valueIn_1 ⟨Nat.le_of_ble_eq_true rfl, Nat.le_of_ble_eq_true rfl⟩ (fun H locs hP hD hS => ?_)
  refine lv_if_eq (tgt := 16) hx hb dX2_valueIn_4 (by decide) (fun c3 => ?_) (fun c3 => ?_)
  · have hf := br_pos c3 hf
    refine lv_iconst (v := 0) hx hb dX2_valueIn_16 (by decide) ?_
    cases hf
    exact end_i hAe hQm hx hb hr hlocks rfl hP hD hS dX2_valueIn_17
  · have hf := br_neg c3 hf
    refine lv_aload_n hx hb dX2_valueIn_7 rfl (lv_at hl 0 rfl) ?_
    refine va_get (D := D) (ci := 6) (v := .ref (ad 13)) (C := RX2) (T := TX2) (N := 9) hx hb hts inX2 hown hK hP 1 rfl rfl 5 (by decide) (hts _ q73) (fun _ h9 => h9) rfl dX2_valueIn_8 ?_
    refine lv_iload_n hx hb dX2_valueIn_11 rfl (lv_at hl 1 rfl) ?_
    obtain ⟨k4, hf⟩ := ck_not hf
    refine va_iald (D := D) hx hb hK hP 6 0 rfl rfl k4 dX2_valueIn_12 ?_
    refine lv_goto (tgt := 17) hx hb dX2_valueIn_13 (by decide) ?_
    cases hf
    exact end_i hAe hQm hx hb hr hlocks rfl hP hD hS dX2_valueIn_17
def f_S_setValue (p1 : Int32) (p2 : Int32) (nV : Nat → Int32) : Option ((Nat → Int32)) :=
  (f_C_isBlock p1).bind fun r1 =>
  if r1 = 0 then
    some nV
  else
    if p1 < 0 ∨ 64 ≤ p1.toNatClampNeg then none else
      some (upd nV p1.toNatClampNeg p2)
set_option maxHeartbeats 4000000 in
set_option maxRecDepth 100000 in
theorem m_S_setValue (l : Launch) {D : va_G} {sl : List (String × Nat × String)} (ca : Nat → ClassId) (ad : Nat → Nat) (bq : Nat) (nF : Int32) (nO : Nat → Int32) (nL : Nat → Int32) (nA : Nat → Int32) (nC : Nat → Int32) (nV : Nat → Int32) (nU : Nat → Int32) (nP : Nat → Int32) (nE : Int32) (bF : Int32) (bO : Nat → Int32) (bL : Nat → Int32) (bA : Nat → Int32) (bC : Nat → Int32) (bV : Nat → Int32) (bU : Nat → Int32) (bP : Nat → Int32) (bE : Int32) (cT : Int32) (cK : Nat → Int32) (cO : Int32) (cQ : Nat → Int32) (cD : Int32) (pT : Int32) (pK : Int32) (pR : Nat → Int32) (pW : Nat → Int32) (pU : Nat → Int32) (pI : Nat → Int32) (pC : Nat → Nat → Int32) (uO : Int32) (uF : Nat → Int32) (uE : Nat → Int32) (uN : Nat → Int32) (wK : Nat → Int32) (jM : Int32) (jN : Int32) (jZ : Nat) (jB : Nat → Int32) (R : va_W) (sz : Nat) (p1 : Int32) (p2 : Int32) (onV : Nat → Int32) (hf : f_S_setValue p1 p2 nV = some onV) : Met l yX2_setValue (wm yX2_setValue cX2_setValue 3 none) ({ frames := 1, cells := 0, slots := 0, locals := 20 } : Room) (PRE [.ref (ad 1), .int p1, .int p2] D ca sl (WC ca ad bq nF nO nL nA nC nV nU nP nE bF bO bL bA bC bV bU bP bE cT cK cO cQ cD pT pK pR pW pU pI pC uO uF uE uN wK jM jN jZ jB ++ R) sz) (QV D (WC ca ad bq nF nO nL nA nC onV nU nP nE bF bO bL bA bC bV bU bP bE cT cK cO cQ cD pT pK pR pW pU pI pC uO uF uE uN wK jM jN jZ jB ++ R) (WC ca ad bq nF nO nL nA nC nV nU nP nE bF bO bL bA bC bV bU bP bE cT cK cO cQ cD pT pK pR pW pU pI pC uO uF uE uN wK jM jN jZ jB ++ R) sz) 0 0 (va_A (WC ca ad bq nF nO nL nA nC nV nU nP nE bF bO bL bA bC bV bU bP bE cT cK cO cQ cD pT pK pR pW pU pI pC uO uF uE uN wK jM jN jZ jB ++ R) sz) := by
  refine Met.ofW (cc := cX2_setValue) (maxL := 3) (ret := none) (by decide) rfl ?_
  intro p e s m args below meth c s₁ B hml hv
  obtain ⟨rfl, rfl, hP, hE, hD0⟩ := hv
  have hx := B.exec
  have hb := B.bytes
  have hr := B.returns
  have hts := wm_ww (atoms_spec (ws := wm yX2_setValue cX2_setValue 3 none) B.pre)
  have hown : s.vm.findClass RX2 = some m.cls := findClass_of_methodNamed B.named
  have hlocks := B.notSynchronized
  have hK := hE.1
  have hD := hD0.self (sz := s.heap.size)
  generalize hAe : va_A (WC ca ad bq nF nO nL nA nC nV nU nP nE bF bO bL bA bC bV bU bP bE cT cK cO cQ cD pT pK pR pW pU pI pC uO uF uE uN wK jM jN jZ jB ++ R) s.heap.size = A at hD ⊢
  have hA : ∀ q : Nat, s.heap.size ≤ q → A q := fun q h => by rw [← hAe]; exact Or.inr h
  have hS : va_S A s.heap s.heap [] := va_S.rf
  have hl := lv_entry ([.ref (ad 1), .int p1, .int p2]) (n := 3) (Nat.le_of_ble_eq_true rfl)
  rw [lg_entry_eq]
  generalize (lg_sl ([.ref (ad 1), .int p1, .int p2]) ++ List.replicate (3 - (lg_sl ([.ref (ad 1), .int p1, .int p2])).length) Slot.unset).toArray = ls at hl ⊢
  have hl : lv_has ls 3 [(0, .ref (ad 1)), (1, .int p1), (2, .int p2)] := hl
  change W p l e ({ frames := 1, cells := 0, slots := 0, locals := 20 } : Room) s m _ below meth c s.heap [] 0 0 _ _
  generalize hQm : MQ below (QV D (WC ca ad bq nF nO nL nA nC onV nU nP nE bF bO bL bA bC bV bU bP bE cT cK cO cQ cD pT pK pR pW pU pI pC uO uF uE uN wK jM jN jZ jB ++ R) (WC ca ad bq nF nO nL nA nC nV nU nP nE bF bO bL bA bC bV bU bP bE cT cK cO cQ cD pT pK pR pW pU pI pC uO uF uE uN wK jM jN jZ jB ++ R) s.heap.size) _ s 0 0 A = Qm
  have hP : va_P D vwCl (WC ca ad bq nF nO nL nA nC nV nU nP nE bF bO bL bA bC bV bU bP bE cT cK cO cQ cD pT pK pR pW pU pI pC uO uF uE uN wK jM jN jZ jB ++ R) s.heap := hP
  generalize hae : ([.ref (ad 1), .int p1, .int p2] : List Value).toArray = args at hts hQm ⊢
  refine lv_iload_n hx hb dX2_setValue_0 rfl (lv_at hl 1 rfl) ?_
  obtain ⟨r1, h2, hf⟩ := bnd hf
  refine call_ni (rest := []) (m_C_isBlock l ca ad bq nF nO nL nA nC nV nU nP nE bF bO bL bA bC bV bU bP bE cT cK cO cQ cD pT pK pR pW pU pI pC uO uF uE uN wK jM jN jZ jB R _ p1 r1 h2) ⟨hx, hb, hml, hown, hts⟩ ⟨va_cnB 1 hts (gM q493) rfl rfl rfl (hE.2.1 _ n491) (hts _ q24) (by decide +kernel) ⟨Nat.le_of_ble_eq_true rfl, Nat.le_of_ble_eq_true rfl⟩, hts _ q492, trivial⟩ hE hP hD hS hA rfl hl.1 rfl (lv_room (Nat.le_of_ble_eq_true rfl)) dX2_setValue_1 ⟨Nat.le_of_ble_eq_true rfl, Nat.le_of_ble_eq_true rfl⟩ (fun H locs hP hD hS => ?_)
  refine lv_if_eq (tgt := 14) hx hb dX2_setValue_4 (by decide) (fun c3 => ?_) (fun c3 => ?_)
  · have hf := br_pos c3 hf
    cases hf
    exact end_v hAe hQm hx hb hr hlocks hP hD hS dX2_setValue_14
  · have hf := br_neg c3 hf
    refine lv_aload_n hx hb dX2_setValue_7 rfl (lv_at hl 0 rfl) ?_
    refine va_get (D := D) (ci := 6) (v := .ref (ad 13)) (C := RX2) (T := TX2) (N := 9) hx hb hts inX2 hown hK hP 1 rfl rfl 5 (by decide) (hts _ q73) (fun _ h9 => h9) rfl dX2_setValue_8 ?_
    refine lv_iload_n hx hb dX2_setValue_11 rfl (lv_at hl 1 rfl) ?_
    refine lv_iload_n hx hb dX2_setValue_12 rfl (lv_at hl 2 rfl) ?_
    obtain ⟨k4, hf⟩ := ck_not hf
    refine va_iast (D := D) hx hb hK hP hD hS 6 0 rfl rfl k4 dX2_setValue_13 (fun H locs hP hD hS => ?_)
    have hP : va_P D vwCl (WC ca ad bq nF nO nL nA nC (upd nV p1.toNatClampNeg p2) nU nP nE bF bO bL bA bC bV bU bP bE cT cK cO cQ cD pT pK pR pW pU pI pC uO uF uE uN wK jM jN jZ jB ++ R) H := hP
    have hD : va_D A (WC ca ad bq nF nO nL nA nC (upd nV p1.toNatClampNeg p2) nU nP nE bF bO bL bA bC bV bU bP bE cT cK cO cQ cD pT pK pR pW pU pI pC uO uF uE uN wK jM jN jZ jB ++ R) := hD
    cases hf
    exact end_v hAe hQm hx hb hr hlocks hP hD hS dX2_setValue_14
def f_S_freeTotal_L4 : Nat → Int32 → Int32 → (Nat → Int32) → Option (Int32)
  | 0, _, _, _ => none
  | fuel + 1, v1, v2, nU =>
    if 64 ≤ v2 then
      some v1
    else
      if v2 < 0 ∨ 64 ≤ v2.toNatClampNeg then none else
        if (nU v2.toNatClampNeg) = 0 then
        f_S_freeTotal_L4 fuel (v1 + 1) (v2 + 1) nU
      else
        f_S_freeTotal_L4 fuel v1 (v2 + 1) nU
def f_S_freeTotal (nU : Nat → Int32) : Option (Int32) :=
  (f_S_freeTotal_L4 FU 0 0 nU).bind fun x8 =>
  some x8
set_option maxHeartbeats 4000000 in
set_option maxRecDepth 100000 in
theorem m_S_freeTotal (l : Launch) {D : va_G} {sl : List (String × Nat × String)} (ca : Nat → ClassId) (ad : Nat → Nat) (bq : Nat) (nF : Int32) (nO : Nat → Int32) (nL : Nat → Int32) (nA : Nat → Int32) (nC : Nat → Int32) (nV : Nat → Int32) (nU : Nat → Int32) (nP : Nat → Int32) (nE : Int32) (bF : Int32) (bO : Nat → Int32) (bL : Nat → Int32) (bA : Nat → Int32) (bC : Nat → Int32) (bV : Nat → Int32) (bU : Nat → Int32) (bP : Nat → Int32) (bE : Int32) (cT : Int32) (cK : Nat → Int32) (cO : Int32) (cQ : Nat → Int32) (cD : Int32) (pT : Int32) (pK : Int32) (pR : Nat → Int32) (pW : Nat → Int32) (pU : Nat → Int32) (pI : Nat → Int32) (pC : Nat → Nat → Int32) (uO : Int32) (uF : Nat → Int32) (uE : Nat → Int32) (uN : Nat → Int32) (wK : Nat → Int32) (jM : Int32) (jN : Int32) (jZ : Nat) (jB : Nat → Int32) (R : va_W) (sz : Nat) (ro : Int32) (hf : f_S_freeTotal nU = some ro) : Met l yX2_freeTotal (wm yX2_freeTotal cX2_freeTotal 3 (some .int)) ({ frames := 0, cells := 0, slots := 0, locals := 0 } : Room) (PRE [.ref (ad 1)] D ca sl (WC ca ad bq nF nO nL nA nC nV nU nP nE bF bO bL bA bC bV bU bP bE cT cK cO cQ cD pT pK pR pW pU pI pC uO uF uE uN wK jM jN jZ jB ++ R) sz) (QI ro D (WC ca ad bq nF nO nL nA nC nV nU nP nE bF bO bL bA bC bV bU bP bE cT cK cO cQ cD pT pK pR pW pU pI pC uO uF uE uN wK jM jN jZ jB ++ R) (WC ca ad bq nF nO nL nA nC nV nU nP nE bF bO bL bA bC bV bU bP bE cT cK cO cQ cD pT pK pR pW pU pI pC uO uF uE uN wK jM jN jZ jB ++ R) sz) 0 0 (va_A (WC ca ad bq nF nO nL nA nC nV nU nP nE bF bO bL bA bC bV bU bP bE cT cK cO cQ cD pT pK pR pW pU pI pC uO uF uE uN wK jM jN jZ jB ++ R) sz) := by
  refine Met.ofW (cc := cX2_freeTotal) (maxL := 3) (ret := (some .int)) (by decide) rfl ?_
  intro p e s m args below meth c s₁ B hml hv
  obtain ⟨rfl, rfl, hP, hE, hD0⟩ := hv
  have hx := B.exec
  have hb := B.bytes
  have hr := B.returns
  have hts := wm_ww (atoms_spec (ws := wm yX2_freeTotal cX2_freeTotal 3 (some .int)) B.pre)
  have hown : s.vm.findClass RX2 = some m.cls := findClass_of_methodNamed B.named
  have hlocks := B.notSynchronized
  have hK := hE.1
  have hD := hD0.self (sz := s.heap.size)
  generalize hAe : va_A (WC ca ad bq nF nO nL nA nC nV nU nP nE bF bO bL bA bC bV bU bP bE cT cK cO cQ cD pT pK pR pW pU pI pC uO uF uE uN wK jM jN jZ jB ++ R) s.heap.size = A at hD ⊢
  have hA : ∀ q : Nat, s.heap.size ≤ q → A q := fun q h => by rw [← hAe]; exact Or.inr h
  have hS : va_S A s.heap s.heap [] := va_S.rf
  have hl := lv_entry ([.ref (ad 1)]) (n := 3) (Nat.le_of_ble_eq_true rfl)
  rw [lg_entry_eq]
  generalize (lg_sl ([.ref (ad 1)]) ++ List.replicate (3 - (lg_sl ([.ref (ad 1)])).length) Slot.unset).toArray = ls at hl ⊢
  have hl : lv_has ls 3 [(0, .ref (ad 1))] := hl
  change W p l e ({ frames := 0, cells := 0, slots := 0, locals := 0 } : Room) s m _ below meth c s.heap [] 0 0 _ _
  generalize hQm : MQ below (QI ro D (WC ca ad bq nF nO nL nA nC nV nU nP nE bF bO bL bA bC bV bU bP bE cT cK cO cQ cD pT pK pR pW pU pI pC uO uF uE uN wK jM jN jZ jB ++ R) (WC ca ad bq nF nO nL nA nC nV nU nP nE bF bO bL bA bC bV bU bP bE cT cK cO cQ cD pT pK pR pW pU pI pC uO uF uE uN wK jM jN jZ jB ++ R) s.heap.size) _ s 0 0 A = Qm
  have hP : va_P D vwCl (WC ca ad bq nF nO nL nA nC nV nU nP nE bF bO bL bA bC bV bU bP bE cT cK cO cQ cD pT pK pR pW pU pI pC uO uF uE uN wK jM jN jZ jB ++ R) s.heap := hP
  generalize hae : ([.ref (ad 1)] : List Value).toArray = args at hts hQm ⊢
  have L4 : ∀ (n : Nat) (v1 : Int32) (v2 : Int32) (y1 : Int32), f_S_freeTotal_L4 n v1 v2 nU = some y1 → ∀ (H : Heap) (locs : List Loc) (ls : Array Slot), va_P D vwCl (WC ca ad bq nF nO nL nA nC nV nU nP nE bF bO bL bA bC bV bU bP bE cT cK cO cQ cD pT pK pR pW pU pI pC uO uF uE uN wK jM jN jZ jB ++ R) H → va_D A (WC ca ad bq nF nO nL nA nC nV nU nP nE bF bO bL bA bC bV bU bP bE cT cK cO cQ cD pT pK pR pW pU pI pC uO uF uE uN wK jM jN jZ jB ++ R) → va_S A s.heap H locs → lv_has ls 3 [(0, .ref (ad 1)), (1, .int v1), (2, .int v2)] → (∀ (H : Heap) (locs : List Loc) (ls : Array Slot), va_P D vwCl (WC ca ad bq nF nO nL nA nC nV nU nP nE bF bO bL bA bC bV bU bP bE cT cK cO cQ cD pT pK pR pW pU pI pC uO uF uE uN wK jM jN jZ jB ++ R) H → va_D A (WC ca ad bq nF nO nL nA nC nV nU nP nE bF bO bL bA bC bV bU bP bE cT cK cO cQ cD pT pK pR pW pU pI pC uO uF uE uN wK jM jN jZ jB ++ R) → va_S A s.heap H locs → lv_has ls 3 [(1, .int y1)] → W p l e ({ frames := 0, cells := 0, slots := 0, locals := 0 } : Room) s m args below meth c H locs 0 0 Qm (F0 m 28 ls [])) → W p l e ({ frames := 0, cells := 0, slots := 0, locals := 0 } : Room) s m args below meth c H locs 0 0 Qm (F0 m 4 ls []) := by
    intro n
    induction n with
    | zero => intro v1 v2 y1 hf; cases hf
    | succ n ih =>
      intro v1 v2 y1 hf H locs ls hP hD hS hl kk
      unfold f_S_freeTotal_L4 at hf
      refine lv_iload_n hx hb dX2_freeTotal_4 rfl (lv_at hl 2 rfl) ?_
      refine lv_bipush (v := 64) hx hb dX2_freeTotal_5 (by decide) ?_
      refine lv_icmp_ge (tgt := 28) hx hb dX2_freeTotal_7 (by decide) (fun c4 => ?_) (fun c4 => ?_)
      · have hf := br_pos c4 hf
        cases hf
        exact kk _ _ _ hP hD hS (lv_sub hl [1] rfl)
      · have hf := br_neg c4 hf
        refine lv_aload_n hx hb dX2_freeTotal_10 rfl (lv_at hl 0 rfl) ?_
        refine va_get (D := D) (ci := 6) (v := .ref (ad 14)) (C := RX2) (T := TX2) (N := 9) hx hb hts inX2 hown hK hP 1 rfl rfl 6 (by decide) (hts _ q74) (fun _ h9 => h9) rfl dX2_freeTotal_11 ?_
        refine lv_iload_n hx hb dX2_freeTotal_14 rfl (lv_at hl 2 rfl) ?_
        obtain ⟨k5, hf⟩ := ck_not hf
        refine va_iald (D := D) hx hb hK hP 7 0 rfl rfl k5 dX2_freeTotal_15 ?_
        refine lv_if_ne (tgt := 22) hx hb dX2_freeTotal_16 (by decide) (fun c6 => ?_) (fun c6 => ?_)
        · have hf := br_neg c6 hf
          refine lv_iinc (v := (v2 + 1)) (lv' := [(2, .int (v2 + 1)), (0, .ref (ad 1)), (1, .int v1)]) hx hb dX2_freeTotal_22 hl (k := 2) rfl rfl (by decide) rfl (fun ls hl => ?_)
          refine lv_goto (tgt := 4) hx hb dX2_freeTotal_25 (by decide) ?_
          exact ih v1 (v2 + 1) _ hf _ _ _ hP hD hS (lv_sub hl [1, 2, 0] rfl) kk
        · have hf := br_pos c6 hf
          refine lv_iinc (v := (v1 + 1)) (lv' := [(1, .int (v1 + 1)), (0, .ref (ad 1)), (2, .int v2)]) hx hb dX2_freeTotal_19 hl (k := 1) rfl rfl (by decide) rfl (fun ls hl => ?_)
          refine lv_iinc (v := (v2 + 1)) (lv' := [(2, .int (v2 + 1)), (1, .int (v1 + 1)), (0, .ref (ad 1))]) hx hb dX2_freeTotal_22 hl (k := 2) rfl rfl (by decide) rfl (fun ls hl => ?_)
          refine lv_goto (tgt := 4) hx hb dX2_freeTotal_25 (by decide) ?_
          exact ih (v1 + 1) (v2 + 1) _ hf _ _ _ hP hD hS (lv_sub hl [2, 1, 0] rfl) kk
  refine lv_iconst (v := 0) hx hb dX2_freeTotal_0 (by decide) ?_
  refine lv_istore_n (lv' := [(1, .int 0), (0, .ref (ad 1))]) hx hb dX2_freeTotal_1 rfl hl (by decide) rfl (fun ls hl => ?_)
  refine lv_iconst (v := 0) hx hb dX2_freeTotal_2 (by decide) ?_
  refine lv_istore_n (lv' := [(2, .int 0), (1, .int 0), (0, .ref (ad 1))]) hx hb dX2_freeTotal_3 rfl hl (by decide) rfl (fun ls hl => ?_)
  obtain ⟨x8, h7, hf⟩ := bnd hf
  refine L4 FU 0 0 x8 h7 _ _ _ hP hD hS (lv_sub hl [2, 1, 0] rfl) (fun H locs ls hP hD hS hl => ?_)
  refine lv_iload_n hx hb dX2_freeTotal_28 rfl (lv_at hl 0 rfl) ?_
  cases hf
  exact end_i hAe hQm hx hb hr hlocks rfl hP hD hS dX2_freeTotal_29
def f_S_promisedFor (p1 : Int32) (nP : Nat → Int32) : Option (Int32) :=
  if p1 < 0 then
    some 0
  else
    if 4 ≤ p1 then
      some 0
    else
      if p1 < 0 ∨ 4 ≤ p1.toNatClampNeg then none else
        some (nP p1.toNatClampNeg)
set_option maxHeartbeats 4000000 in
set_option maxRecDepth 100000 in
theorem m_S_promisedFor (l : Launch) {D : va_G} {sl : List (String × Nat × String)} (ca : Nat → ClassId) (ad : Nat → Nat) (bq : Nat) (nF : Int32) (nO : Nat → Int32) (nL : Nat → Int32) (nA : Nat → Int32) (nC : Nat → Int32) (nV : Nat → Int32) (nU : Nat → Int32) (nP : Nat → Int32) (nE : Int32) (bF : Int32) (bO : Nat → Int32) (bL : Nat → Int32) (bA : Nat → Int32) (bC : Nat → Int32) (bV : Nat → Int32) (bU : Nat → Int32) (bP : Nat → Int32) (bE : Int32) (cT : Int32) (cK : Nat → Int32) (cO : Int32) (cQ : Nat → Int32) (cD : Int32) (pT : Int32) (pK : Int32) (pR : Nat → Int32) (pW : Nat → Int32) (pU : Nat → Int32) (pI : Nat → Int32) (pC : Nat → Nat → Int32) (uO : Int32) (uF : Nat → Int32) (uE : Nat → Int32) (uN : Nat → Int32) (wK : Nat → Int32) (jM : Int32) (jN : Int32) (jZ : Nat) (jB : Nat → Int32) (R : va_W) (sz : Nat) (p1 : Int32) (ro : Int32) (hf : f_S_promisedFor p1 nP = some ro) : Met l yX2_promisedFor (wm yX2_promisedFor cX2_promisedFor 2 (some .int)) ({ frames := 0, cells := 0, slots := 0, locals := 0 } : Room) (PRE [.ref (ad 1), .int p1] D ca sl (WC ca ad bq nF nO nL nA nC nV nU nP nE bF bO bL bA bC bV bU bP bE cT cK cO cQ cD pT pK pR pW pU pI pC uO uF uE uN wK jM jN jZ jB ++ R) sz) (QI ro D (WC ca ad bq nF nO nL nA nC nV nU nP nE bF bO bL bA bC bV bU bP bE cT cK cO cQ cD pT pK pR pW pU pI pC uO uF uE uN wK jM jN jZ jB ++ R) (WC ca ad bq nF nO nL nA nC nV nU nP nE bF bO bL bA bC bV bU bP bE cT cK cO cQ cD pT pK pR pW pU pI pC uO uF uE uN wK jM jN jZ jB ++ R) sz) 0 0 (va_A (WC ca ad bq nF nO nL nA nC nV nU nP nE bF bO bL bA bC bV bU bP bE cT cK cO cQ cD pT pK pR pW pU pI pC uO uF uE uN wK jM jN jZ jB ++ R) sz) := by
  refine Met.ofW (cc := cX2_promisedFor) (maxL := 2) (ret := (some .int)) (by decide) rfl ?_
  intro p e s m args below meth c s₁ B hml hv
  obtain ⟨rfl, rfl, hP, hE, hD0⟩ := hv
  have hx := B.exec
  have hb := B.bytes
  have hr := B.returns
  have hts := wm_ww (atoms_spec (ws := wm yX2_promisedFor cX2_promisedFor 2 (some .int)) B.pre)
  have hown : s.vm.findClass RX2 = some m.cls := findClass_of_methodNamed B.named
  have hlocks := B.notSynchronized
  have hK := hE.1
  have hD := hD0.self (sz := s.heap.size)
  generalize hAe : va_A (WC ca ad bq nF nO nL nA nC nV nU nP nE bF bO bL bA bC bV bU bP bE cT cK cO cQ cD pT pK pR pW pU pI pC uO uF uE uN wK jM jN jZ jB ++ R) s.heap.size = A at hD ⊢
  have hA : ∀ q : Nat, s.heap.size ≤ q → A q := fun q h => by rw [← hAe]; exact Or.inr h
  have hS : va_S A s.heap s.heap [] := va_S.rf
  have hl := lv_entry ([.ref (ad 1), .int p1]) (n := 2) (Nat.le_of_ble_eq_true rfl)
  rw [lg_entry_eq]
  generalize (lg_sl ([.ref (ad 1), .int p1]) ++ List.replicate (2 - (lg_sl ([.ref (ad 1), .int p1])).length) Slot.unset).toArray = ls at hl ⊢
  have hl : lv_has ls 2 [(0, .ref (ad 1)), (1, .int p1)] := hl
  change W p l e ({ frames := 0, cells := 0, slots := 0, locals := 0 } : Room) s m _ below meth c s.heap [] 0 0 _ _
  generalize hQm : MQ below (QI ro D (WC ca ad bq nF nO nL nA nC nV nU nP nE bF bO bL bA bC bV bU bP bE cT cK cO cQ cD pT pK pR pW pU pI pC uO uF uE uN wK jM jN jZ jB ++ R) (WC ca ad bq nF nO nL nA nC nV nU nP nE bF bO bL bA bC bV bU bP bE cT cK cO cQ cD pT pK pR pW pU pI pC uO uF uE uN wK jM jN jZ jB ++ R) s.heap.size) _ s 0 0 A = Qm
  have hP : va_P D vwCl (WC ca ad bq nF nO nL nA nC nV nU nP nE bF bO bL bA bC bV bU bP bE cT cK cO cQ cD pT pK pR pW pU pI pC uO uF uE uN wK jM jN jZ jB ++ R) s.heap := hP
  generalize hae : ([.ref (ad 1), .int p1] : List Value).toArray = args at hts hQm ⊢
  refine lv_iload_n hx hb dX2_promisedFor_0 rfl (lv_at hl 1 rfl) ?_
  refine lv_if_lt (tgt := 18) hx hb dX2_promisedFor_1 (by decide) (fun c1 => ?_) (fun c1 => ?_)
  · have hf := br_pos c1 hf
    refine lv_iconst (v := 0) hx hb dX2_promisedFor_18 (by decide) ?_
    cases hf
    exact end_i hAe hQm hx hb hr hlocks rfl hP hD hS dX2_promisedFor_19
  · have hf := br_neg c1 hf
    refine lv_iload_n hx hb dX2_promisedFor_4 rfl (lv_at hl 1 rfl) ?_
    refine lv_iconst (v := 4) hx hb dX2_promisedFor_5 (by decide) ?_
    refine lv_icmp_ge (tgt := 18) hx hb dX2_promisedFor_6 (by decide) (fun c2 => ?_) (fun c2 => ?_)
    · have hf := br_pos c2 hf
      refine lv_iconst (v := 0) hx hb dX2_promisedFor_18 (by decide) ?_
      cases hf
      exact end_i hAe hQm hx hb hr hlocks rfl hP hD hS dX2_promisedFor_19
    · have hf := br_neg c2 hf
      refine lv_aload_n hx hb dX2_promisedFor_9 rfl (lv_at hl 0 rfl) ?_
      refine va_get (D := D) (ci := 6) (v := .ref (ad 15)) (C := RX2) (T := TX2) (N := 9) hx hb hts inX2 hown hK hP 1 rfl rfl 7 (by decide) (hts _ q75) (fun _ h9 => h9) rfl dX2_promisedFor_10 ?_
      refine lv_iload_n hx hb dX2_promisedFor_13 rfl (lv_at hl 1 rfl) ?_
      obtain ⟨k3, hf⟩ := ck_not hf
      refine va_iald (D := D) hx hb hK hP 8 0 rfl rfl k3 dX2_promisedFor_14 ?_
      refine lv_goto (tgt := 19) hx hb dX2_promisedFor_15 (by decide) ?_
      cases hf
      exact end_i hAe hQm hx hb hr hlocks rfl hP hD hS dX2_promisedFor_19
def f_S_setPromised (p1 : Int32) (p2 : Int32) (nP : Nat → Int32) : Option ((Nat → Int32)) :=
  if p1 < 0 then
    some nP
  else
    if 4 ≤ p1 then
      some nP
    else
      if p1 < 0 ∨ 4 ≤ p1.toNatClampNeg then none else
        some (upd nP p1.toNatClampNeg p2)
set_option maxHeartbeats 4000000 in
set_option maxRecDepth 100000 in
theorem m_S_setPromised (l : Launch) {D : va_G} {sl : List (String × Nat × String)} (ca : Nat → ClassId) (ad : Nat → Nat) (bq : Nat) (nF : Int32) (nO : Nat → Int32) (nL : Nat → Int32) (nA : Nat → Int32) (nC : Nat → Int32) (nV : Nat → Int32) (nU : Nat → Int32) (nP : Nat → Int32) (nE : Int32) (bF : Int32) (bO : Nat → Int32) (bL : Nat → Int32) (bA : Nat → Int32) (bC : Nat → Int32) (bV : Nat → Int32) (bU : Nat → Int32) (bP : Nat → Int32) (bE : Int32) (cT : Int32) (cK : Nat → Int32) (cO : Int32) (cQ : Nat → Int32) (cD : Int32) (pT : Int32) (pK : Int32) (pR : Nat → Int32) (pW : Nat → Int32) (pU : Nat → Int32) (pI : Nat → Int32) (pC : Nat → Nat → Int32) (uO : Int32) (uF : Nat → Int32) (uE : Nat → Int32) (uN : Nat → Int32) (wK : Nat → Int32) (jM : Int32) (jN : Int32) (jZ : Nat) (jB : Nat → Int32) (R : va_W) (sz : Nat) (p1 : Int32) (p2 : Int32) (onP : Nat → Int32) (hf : f_S_setPromised p1 p2 nP = some onP) : Met l yX2_setPromised (wm yX2_setPromised cX2_setPromised 3 none) ({ frames := 0, cells := 0, slots := 0, locals := 0 } : Room) (PRE [.ref (ad 1), .int p1, .int p2] D ca sl (WC ca ad bq nF nO nL nA nC nV nU nP nE bF bO bL bA bC bV bU bP bE cT cK cO cQ cD pT pK pR pW pU pI pC uO uF uE uN wK jM jN jZ jB ++ R) sz) (QV D (WC ca ad bq nF nO nL nA nC nV nU onP nE bF bO bL bA bC bV bU bP bE cT cK cO cQ cD pT pK pR pW pU pI pC uO uF uE uN wK jM jN jZ jB ++ R) (WC ca ad bq nF nO nL nA nC nV nU nP nE bF bO bL bA bC bV bU bP bE cT cK cO cQ cD pT pK pR pW pU pI pC uO uF uE uN wK jM jN jZ jB ++ R) sz) 0 0 (va_A (WC ca ad bq nF nO nL nA nC nV nU nP nE bF bO bL bA bC bV bU bP bE cT cK cO cQ cD pT pK pR pW pU pI pC uO uF uE uN wK jM jN jZ jB ++ R) sz) := by
  refine Met.ofW (cc := cX2_setPromised) (maxL := 3) (ret := none) (by decide) rfl ?_
  intro p e s m args below meth c s₁ B hml hv
  obtain ⟨rfl, rfl, hP, hE, hD0⟩ := hv
  have hx := B.exec
  have hb := B.bytes
  have hr := B.returns
  have hts := wm_ww (atoms_spec (ws := wm yX2_setPromised cX2_setPromised 3 none) B.pre)
  have hown : s.vm.findClass RX2 = some m.cls := findClass_of_methodNamed B.named
  have hlocks := B.notSynchronized
  have hK := hE.1
  have hD := hD0.self (sz := s.heap.size)
  generalize hAe : va_A (WC ca ad bq nF nO nL nA nC nV nU nP nE bF bO bL bA bC bV bU bP bE cT cK cO cQ cD pT pK pR pW pU pI pC uO uF uE uN wK jM jN jZ jB ++ R) s.heap.size = A at hD ⊢
  have hA : ∀ q : Nat, s.heap.size ≤ q → A q := fun q h => by rw [← hAe]; exact Or.inr h
  have hS : va_S A s.heap s.heap [] := va_S.rf
  have hl := lv_entry ([.ref (ad 1), .int p1, .int p2]) (n := 3) (Nat.le_of_ble_eq_true rfl)
  rw [lg_entry_eq]
  generalize (lg_sl ([.ref (ad 1), .int p1, .int p2]) ++ List.replicate (3 - (lg_sl ([.ref (ad 1), .int p1, .int p2])).length) Slot.unset).toArray = ls at hl ⊢
  have hl : lv_has ls 3 [(0, .ref (ad 1)), (1, .int p1), (2, .int p2)] := hl
  change W p l e ({ frames := 0, cells := 0, slots := 0, locals := 0 } : Room) s m _ below meth c s.heap [] 0 0 _ _
  generalize hQm : MQ below (QV D (WC ca ad bq nF nO nL nA nC nV nU onP nE bF bO bL bA bC bV bU bP bE cT cK cO cQ cD pT pK pR pW pU pI pC uO uF uE uN wK jM jN jZ jB ++ R) (WC ca ad bq nF nO nL nA nC nV nU nP nE bF bO bL bA bC bV bU bP bE cT cK cO cQ cD pT pK pR pW pU pI pC uO uF uE uN wK jM jN jZ jB ++ R) s.heap.size) _ s 0 0 A = Qm
  have hP : va_P D vwCl (WC ca ad bq nF nO nL nA nC nV nU nP nE bF bO bL bA bC bV bU bP bE cT cK cO cQ cD pT pK pR pW pU pI pC uO uF uE uN wK jM jN jZ jB ++ R) s.heap := hP
  generalize hae : ([.ref (ad 1), .int p1, .int p2] : List Value).toArray = args at hts hQm ⊢
  refine lv_iload_n hx hb dX2_setPromised_0 rfl (lv_at hl 1 rfl) ?_
  refine lv_if_lt (tgt := 16) hx hb dX2_setPromised_1 (by decide) (fun c1 => ?_) (fun c1 => ?_)
  · have hf := br_pos c1 hf
    cases hf
    exact end_v hAe hQm hx hb hr hlocks hP hD hS dX2_setPromised_16
  · have hf := br_neg c1 hf
    refine lv_iload_n hx hb dX2_setPromised_4 rfl (lv_at hl 1 rfl) ?_
    refine lv_iconst (v := 4) hx hb dX2_setPromised_5 (by decide) ?_
    refine lv_icmp_ge (tgt := 16) hx hb dX2_setPromised_6 (by decide) (fun c2 => ?_) (fun c2 => ?_)
    · have hf := br_pos c2 hf
      cases hf
      exact end_v hAe hQm hx hb hr hlocks hP hD hS dX2_setPromised_16
    · have hf := br_neg c2 hf
      refine lv_aload_n hx hb dX2_setPromised_9 rfl (lv_at hl 0 rfl) ?_
      refine va_get (D := D) (ci := 6) (v := .ref (ad 15)) (C := RX2) (T := TX2) (N := 9) hx hb hts inX2 hown hK hP 1 rfl rfl 7 (by decide) (hts _ q75) (fun _ h9 => h9) rfl dX2_setPromised_10 ?_
      refine lv_iload_n hx hb dX2_setPromised_13 rfl (lv_at hl 1 rfl) ?_
      refine lv_iload_n hx hb dX2_setPromised_14 rfl (lv_at hl 2 rfl) ?_
      obtain ⟨k3, hf⟩ := ck_not hf
      refine va_iast (D := D) hx hb hK hP hD hS 8 0 rfl rfl k3 dX2_setPromised_15 (fun H locs hP hD hS => ?_)
      have hP : va_P D vwCl (WC ca ad bq nF nO nL nA nC nV nU (upd nP p1.toNatClampNeg p2) nE bF bO bL bA bC bV bU bP bE cT cK cO cQ cD pT pK pR pW pU pI pC uO uF uE uN wK jM jN jZ jB ++ R) H := hP
      have hD : va_D A (WC ca ad bq nF nO nL nA nC nV nU (upd nP p1.toNatClampNeg p2) nE bF bO bL bA bC bV bU bP bE cT cK cO cQ cD pT pK pR pW pU pI pC uO uF uE uN wK jM jN jZ jB ++ R) := hD
      cases hf
      exact end_v hAe hQm hx hb hr hlocks hP hD hS dX2_setPromised_16
def f_S_takeBlock_L2 : Nat → Int32 → Int32 → (Nat → Int32) → (Nat → Int32) → Option (Int32 × (Nat → Int32))
  | 0, _, _, _, _ => none
  | fuel + 1, v1, v2, nU, nP =>
    if 64 ≤ v2 then
      some ((-1), nP)
    else
      if v2 < 0 ∨ 64 ≤ v2.toNatClampNeg then none else
        if (nU v2.toNatClampNeg) = 0 then
        (f_S_promisedFor v1 nP).bind fun r11 =>
        (f_S_setPromised v1 (if 0 < (r11 - 1) then (r11 - 1) else 0) nP).bind fun nP_13 =>
        some (v2, nP_13)
      else
        f_S_takeBlock_L2 fuel v1 (v2 + 1) nU nP
def f_S_takeBlock (p1 : Int32) (nU : Nat → Int32) (nP : Nat → Int32) : Option (Int32 × (Nat → Int32)) :=
  f_S_takeBlock_L2 FU p1 0 nU nP
set_option maxHeartbeats 4000000 in
set_option maxRecDepth 100000 in
theorem m_S_takeBlock (l : Launch) {D : va_G} {sl : List (String × Nat × String)} (ca : Nat → ClassId) (ad : Nat → Nat) (bq : Nat) (nF : Int32) (nO : Nat → Int32) (nL : Nat → Int32) (nA : Nat → Int32) (nC : Nat → Int32) (nV : Nat → Int32) (nU : Nat → Int32) (nP : Nat → Int32) (nE : Int32) (bF : Int32) (bO : Nat → Int32) (bL : Nat → Int32) (bA : Nat → Int32) (bC : Nat → Int32) (bV : Nat → Int32) (bU : Nat → Int32) (bP : Nat → Int32) (bE : Int32) (cT : Int32) (cK : Nat → Int32) (cO : Int32) (cQ : Nat → Int32) (cD : Int32) (pT : Int32) (pK : Int32) (pR : Nat → Int32) (pW : Nat → Int32) (pU : Nat → Int32) (pI : Nat → Int32) (pC : Nat → Nat → Int32) (uO : Int32) (uF : Nat → Int32) (uE : Nat → Int32) (uN : Nat → Int32) (wK : Nat → Int32) (jM : Int32) (jN : Int32) (jZ : Nat) (jB : Nat → Int32) (R : va_W) (sz : Nat) (p1 : Int32) (ro : Int32) (onP : Nat → Int32) (hf : f_S_takeBlock p1 nU nP = some (ro, onP)) : Met l yX2_takeBlock (wm yX2_takeBlock cX2_takeBlock 3 (some .int)) ({ frames := 1, cells := 0, slots := 0, locals := 40 } : Room) (PRE [.ref (ad 1), .int p1] D ca sl (WC ca ad bq nF nO nL nA nC nV nU nP nE bF bO bL bA bC bV bU bP bE cT cK cO cQ cD pT pK pR pW pU pI pC uO uF uE uN wK jM jN jZ jB ++ R) sz) (QI ro D (WC ca ad bq nF nO nL nA nC nV nU onP nE bF bO bL bA bC bV bU bP bE cT cK cO cQ cD pT pK pR pW pU pI pC uO uF uE uN wK jM jN jZ jB ++ R) (WC ca ad bq nF nO nL nA nC nV nU nP nE bF bO bL bA bC bV bU bP bE cT cK cO cQ cD pT pK pR pW pU pI pC uO uF uE uN wK jM jN jZ jB ++ R) sz) 0 0 (va_A (WC ca ad bq nF nO nL nA nC nV nU nP nE bF bO bL bA bC bV bU bP bE cT cK cO cQ cD pT pK pR pW pU pI pC uO uF uE uN wK jM jN jZ jB ++ R) sz) := by
  refine Met.ofW (cc := cX2_takeBlock) (maxL := 3) (ret := (some .int)) (by decide) rfl ?_
  intro p e s m args below meth c s₁ B hml hv
  obtain ⟨rfl, rfl, hP, hE, hD0⟩ := hv
  have hx := B.exec
  have hb := B.bytes
  have hr := B.returns
  have hts := wm_ww (atoms_spec (ws := wm yX2_takeBlock cX2_takeBlock 3 (some .int)) B.pre)
  have hown : s.vm.findClass RX2 = some m.cls := findClass_of_methodNamed B.named
  have hlocks := B.notSynchronized
  have hK := hE.1
  have hD := hD0.self (sz := s.heap.size)
  generalize hAe : va_A (WC ca ad bq nF nO nL nA nC nV nU nP nE bF bO bL bA bC bV bU bP bE cT cK cO cQ cD pT pK pR pW pU pI pC uO uF uE uN wK jM jN jZ jB ++ R) s.heap.size = A at hD ⊢
  have hA : ∀ q : Nat, s.heap.size ≤ q → A q := fun q h => by rw [← hAe]; exact Or.inr h
  have hS : va_S A s.heap s.heap [] := va_S.rf
  have hl := lv_entry ([.ref (ad 1), .int p1]) (n := 3) (Nat.le_of_ble_eq_true rfl)
  rw [lg_entry_eq]
  generalize (lg_sl ([.ref (ad 1), .int p1]) ++ List.replicate (3 - (lg_sl ([.ref (ad 1), .int p1])).length) Slot.unset).toArray = ls at hl ⊢
  have hl : lv_has ls 3 [(0, .ref (ad 1)), (1, .int p1)] := hl
  change W p l e ({ frames := 1, cells := 0, slots := 0, locals := 40 } : Room) s m _ below meth c s.heap [] 0 0 _ _
  generalize hQm : MQ below (QI ro D (WC ca ad bq nF nO nL nA nC nV nU onP nE bF bO bL bA bC bV bU bP bE cT cK cO cQ cD pT pK pR pW pU pI pC uO uF uE uN wK jM jN jZ jB ++ R) (WC ca ad bq nF nO nL nA nC nV nU nP nE bF bO bL bA bC bV bU bP bE cT cK cO cQ cD pT pK pR pW pU pI pC uO uF uE uN wK jM jN jZ jB ++ R) s.heap.size) _ s 0 0 A = Qm
  have hP : va_P D vwCl (WC ca ad bq nF nO nL nA nC nV nU nP nE bF bO bL bA bC bV bU bP bE cT cK cO cQ cD pT pK pR pW pU pI pC uO uF uE uN wK jM jN jZ jB ++ R) s.heap := hP
  generalize hae : ([.ref (ad 1), .int p1] : List Value).toArray = args at hts hQm ⊢
  have L2 : ∀ (n : Nat) (v1 : Int32) (v2 : Int32) (nP : Nat → Int32), f_S_takeBlock_L2 n v1 v2 nU nP = some (ro, onP) → ∀ (H : Heap) (locs : List Loc) (ls : Array Slot), va_P D vwCl (WC ca ad bq nF nO nL nA nC nV nU nP nE bF bO bL bA bC bV bU bP bE cT cK cO cQ cD pT pK pR pW pU pI pC uO uF uE uN wK jM jN jZ jB ++ R) H → va_D A (WC ca ad bq nF nO nL nA nC nV nU nP nE bF bO bL bA bC bV bU bP bE cT cK cO cQ cD pT pK pR pW pU pI pC uO uF uE uN wK jM jN jZ jB ++ R) → va_S A s.heap H locs → lv_has ls 3 [(0, .ref (ad 1)), (1, .int v1), (2, .int v2)] → W p l e ({ frames := 1, cells := 0, slots := 0, locals := 40 } : Room) s m args below meth c H locs 0 0 Qm (F0 m 2 ls []) := by
    intro n
    induction n with
    | zero => intro v1 v2 nP hf; cases hf
    | succ n ih =>
      intro v1 v2 nP hf H locs ls hP hD hS hl
      unfold f_S_takeBlock_L2 at hf
      refine lv_iload_n hx hb dX2_takeBlock_2 rfl (lv_at hl 2 rfl) ?_
      refine lv_bipush (v := 64) hx hb dX2_takeBlock_3 (by decide) ?_
      refine lv_icmp_ge (tgt := 41) hx hb dX2_takeBlock_5 (by decide) (fun c8 => ?_) (fun c8 => ?_)
      · have hf := br_pos c8 hf
        refine lv_iconst (v := (-1)) hx hb dX2_takeBlock_41 (by decide) ?_
        cases hf
        exact end_i hAe hQm hx hb hr hlocks rfl hP hD hS dX2_takeBlock_42
      · have hf := br_neg c8 hf
        refine lv_aload_n hx hb dX2_takeBlock_8 rfl (lv_at hl 0 rfl) ?_
        refine va_get (D := D) (ci := 6) (v := .ref (ad 14)) (C := RX2) (T := TX2) (N := 9) hx hb hts inX2 hown hK hP 1 rfl rfl 6 (by decide) (hts _ q74) (fun _ h9 => h9) rfl dX2_takeBlock_9 ?_
        refine lv_iload_n hx hb dX2_takeBlock_12 rfl (lv_at hl 2 rfl) ?_
        obtain ⟨k9, hf⟩ := ck_not hf
        refine va_iald (D := D) hx hb hK hP 7 0 rfl rfl k9 dX2_takeBlock_13 ?_
        refine lv_if_ne (tgt := 35) hx hb dX2_takeBlock_14 (by decide) (fun c10 => ?_) (fun c10 => ?_)
        · have hf := br_neg c10 hf
          refine lv_iinc (v := (v2 + 1)) (lv' := [(2, .int (v2 + 1)), (0, .ref (ad 1)), (1, .int v1)]) hx hb dX2_takeBlock_35 hl (k := 2) rfl rfl (by decide) rfl (fun ls hl => ?_)
          refine lv_goto (tgt := 2) hx hb dX2_takeBlock_38 (by decide) ?_
          exact ih v1 (v2 + 1) nP hf _ _ _ hP hD hS (lv_sub hl [1, 2, 0] rfl)
        · have hf := br_pos c10 hf
          refine lv_aload_n hx hb dX2_takeBlock_17 rfl (lv_at hl 0 rfl) ?_
          refine lv_iload_n hx hb dX2_takeBlock_18 rfl (lv_at hl 1 rfl) ?_
          refine lv_iconst (v := 0) hx hb dX2_takeBlock_19 (by decide) ?_
          refine lv_aload_n hx hb dX2_takeBlock_20 rfl (lv_at hl 0 rfl) ?_
          refine lv_iload_n hx hb dX2_takeBlock_21 rfl (lv_at hl 1 rfl) ?_
          obtain ⟨r11, h12, hf⟩ := bnd hf
          refine call_vi (rest := [.int 0, .int v1, .ref (ad 1)]) (m_S_promisedFor l ca ad bq nF nO nL nA nC nV nU nP nE bF bO bL bA bC bV bU bP bE cT cK cO cQ cD pT pK pR pW pU pI pC uO uF uE uN wK jM jN jZ jB R _ v1 r11 h12) ⟨hx, hb, hml, hown, hts⟩ (cwV 1 hts (gV q578 q570 q571 q25 q572) rfl rfl rfl (by decide +kernel) ⟨Nat.le_of_ble_eq_true rfl, Nat.le_of_ble_eq_true rfl⟩) (va_recv hK hP (ci := 6) (q0 := 1) rfl rfl) hE hP hD hS hA rfl hl.1 rfl (lv_room (Nat.le_of_ble_eq_true rfl)) dX2_takeBlock_22 ⟨Nat.le_of_ble_eq_true rfl, Nat.le_of_ble_eq_true rfl⟩ (fun H locs hP hD hS => ?_)
          refine lv_iconst (v := 1) hx hb dX2_takeBlock_25 (by decide) ?_
          refine lv_isub hx hb dX2_takeBlock_26 ?_
          refine va_mmax hx hb (hml.trans hl.1.symm) hown (hts _ q579) (hts _ q580) (hts _ q43) (hts _ q581) (Nat.le_of_ble_eq_true rfl) (Nat.le_of_ble_eq_true rfl) (Nat.le_of_ble_eq_true rfl) (Nat.le_of_ble_eq_true rfl) dX2_takeBlock_27 ?_
          obtain ⟨nP_13, h14, hf⟩ := bnd hf
          refine call_vv (rest := []) (m_S_setPromised l ca ad bq nF nO nL nA nC nV nU nP nE bF bO bL bA bC bV bU bP bE cT cK cO cQ cD pT pK pR pW pU pI pC uO uF uE uN wK jM jN jZ jB R _ v1 (if 0 < (r11 - 1) then (r11 - 1) else 0) nP_13 h14) ⟨hx, hb, hml, hown, hts⟩ (cwV 2 hts (gV q582 q583 q584 q25 q585) rfl rfl rfl (by decide +kernel) ⟨Nat.le_of_ble_eq_true rfl, Nat.le_of_ble_eq_true rfl⟩) (va_recv hK hP (ci := 6) (q0 := 1) rfl rfl) hE hP hD hS hA rfl hl.1 rfl (lv_room (Nat.le_of_ble_eq_true rfl)) dX2_takeBlock_30 ⟨Nat.le_of_ble_eq_true rfl, Nat.le_of_ble_eq_true rfl⟩ (fun H locs hP hD hS => ?_)
          refine lv_iload_n hx hb dX2_takeBlock_33 rfl (lv_at hl 2 rfl) ?_
          cases hf
          exact end_i hAe hQm hx hb hr hlocks rfl hP hD hS dX2_takeBlock_34
  refine lv_iconst (v := 0) hx hb dX2_takeBlock_0 (by decide) ?_
  refine lv_istore_n (lv' := [(2, .int 0), (0, .ref (ad 1)), (1, .int p1)]) hx hb dX2_takeBlock_1 rfl hl (by decide) rfl (fun ls hl => ?_)
  exact L2 FU p1 0 nP hf _ _ _ hP hD hS (lv_sub hl [1, 2, 0] rfl)
def f_S_promisedInAll_L4 : Nat → Int32 → Int32 → (Nat → Int32) → Option (Int32)
  | 0, _, _, _ => none
  | fuel + 1, v1, v2, nP =>
    if 4 ≤ v2 then
      some v1
    else
      if v2 < 0 ∨ 4 ≤ v2.toNatClampNeg then none else
        f_S_promisedInAll_L4 fuel (v1 + (nP v2.toNatClampNeg)) (v2 + 1) nP
def f_S_promisedInAll (nP : Nat → Int32) : Option (Int32) :=
  (f_S_promisedInAll_L4 FU 0 0 nP).bind fun x6 =>
  some x6
set_option maxHeartbeats 4000000 in
set_option maxRecDepth 100000 in
theorem m_S_promisedInAll (l : Launch) {D : va_G} {sl : List (String × Nat × String)} (ca : Nat → ClassId) (ad : Nat → Nat) (bq : Nat) (nF : Int32) (nO : Nat → Int32) (nL : Nat → Int32) (nA : Nat → Int32) (nC : Nat → Int32) (nV : Nat → Int32) (nU : Nat → Int32) (nP : Nat → Int32) (nE : Int32) (bF : Int32) (bO : Nat → Int32) (bL : Nat → Int32) (bA : Nat → Int32) (bC : Nat → Int32) (bV : Nat → Int32) (bU : Nat → Int32) (bP : Nat → Int32) (bE : Int32) (cT : Int32) (cK : Nat → Int32) (cO : Int32) (cQ : Nat → Int32) (cD : Int32) (pT : Int32) (pK : Int32) (pR : Nat → Int32) (pW : Nat → Int32) (pU : Nat → Int32) (pI : Nat → Int32) (pC : Nat → Nat → Int32) (uO : Int32) (uF : Nat → Int32) (uE : Nat → Int32) (uN : Nat → Int32) (wK : Nat → Int32) (jM : Int32) (jN : Int32) (jZ : Nat) (jB : Nat → Int32) (R : va_W) (sz : Nat) (ro : Int32) (hf : f_S_promisedInAll nP = some ro) : Met l yX2_promisedInAll (wm yX2_promisedInAll cX2_promisedInAll 3 (some .int)) ({ frames := 0, cells := 0, slots := 0, locals := 0 } : Room) (PRE [.ref (ad 1)] D ca sl (WC ca ad bq nF nO nL nA nC nV nU nP nE bF bO bL bA bC bV bU bP bE cT cK cO cQ cD pT pK pR pW pU pI pC uO uF uE uN wK jM jN jZ jB ++ R) sz) (QI ro D (WC ca ad bq nF nO nL nA nC nV nU nP nE bF bO bL bA bC bV bU bP bE cT cK cO cQ cD pT pK pR pW pU pI pC uO uF uE uN wK jM jN jZ jB ++ R) (WC ca ad bq nF nO nL nA nC nV nU nP nE bF bO bL bA bC bV bU bP bE cT cK cO cQ cD pT pK pR pW pU pI pC uO uF uE uN wK jM jN jZ jB ++ R) sz) 0 0 (va_A (WC ca ad bq nF nO nL nA nC nV nU nP nE bF bO bL bA bC bV bU bP bE cT cK cO cQ cD pT pK pR pW pU pI pC uO uF uE uN wK jM jN jZ jB ++ R) sz) := by
  refine Met.ofW (cc := cX2_promisedInAll) (maxL := 3) (ret := (some .int)) (by decide) rfl ?_
  intro p e s m args below meth c s₁ B hml hv
  obtain ⟨rfl, rfl, hP, hE, hD0⟩ := hv
  have hx := B.exec
  have hb := B.bytes
  have hr := B.returns
  have hts := wm_ww (atoms_spec (ws := wm yX2_promisedInAll cX2_promisedInAll 3 (some .int)) B.pre)
  have hown : s.vm.findClass RX2 = some m.cls := findClass_of_methodNamed B.named
  have hlocks := B.notSynchronized
  have hK := hE.1
  have hD := hD0.self (sz := s.heap.size)
  generalize hAe : va_A (WC ca ad bq nF nO nL nA nC nV nU nP nE bF bO bL bA bC bV bU bP bE cT cK cO cQ cD pT pK pR pW pU pI pC uO uF uE uN wK jM jN jZ jB ++ R) s.heap.size = A at hD ⊢
  have hA : ∀ q : Nat, s.heap.size ≤ q → A q := fun q h => by rw [← hAe]; exact Or.inr h
  have hS : va_S A s.heap s.heap [] := va_S.rf
  have hl := lv_entry ([.ref (ad 1)]) (n := 3) (Nat.le_of_ble_eq_true rfl)
  rw [lg_entry_eq]
  generalize (lg_sl ([.ref (ad 1)]) ++ List.replicate (3 - (lg_sl ([.ref (ad 1)])).length) Slot.unset).toArray = ls at hl ⊢
  have hl : lv_has ls 3 [(0, .ref (ad 1))] := hl
  change W p l e ({ frames := 0, cells := 0, slots := 0, locals := 0 } : Room) s m _ below meth c s.heap [] 0 0 _ _
  generalize hQm : MQ below (QI ro D (WC ca ad bq nF nO nL nA nC nV nU nP nE bF bO bL bA bC bV bU bP bE cT cK cO cQ cD pT pK pR pW pU pI pC uO uF uE uN wK jM jN jZ jB ++ R) (WC ca ad bq nF nO nL nA nC nV nU nP nE bF bO bL bA bC bV bU bP bE cT cK cO cQ cD pT pK pR pW pU pI pC uO uF uE uN wK jM jN jZ jB ++ R) s.heap.size) _ s 0 0 A = Qm
  have hP : va_P D vwCl (WC ca ad bq nF nO nL nA nC nV nU nP nE bF bO bL bA bC bV bU bP bE cT cK cO cQ cD pT pK pR pW pU pI pC uO uF uE uN wK jM jN jZ jB ++ R) s.heap := hP
  generalize hae : ([.ref (ad 1)] : List Value).toArray = args at hts hQm ⊢
  have L4 : ∀ (n : Nat) (v1 : Int32) (v2 : Int32) (y1 : Int32), f_S_promisedInAll_L4 n v1 v2 nP = some y1 → ∀ (H : Heap) (locs : List Loc) (ls : Array Slot), va_P D vwCl (WC ca ad bq nF nO nL nA nC nV nU nP nE bF bO bL bA bC bV bU bP bE cT cK cO cQ cD pT pK pR pW pU pI pC uO uF uE uN wK jM jN jZ jB ++ R) H → va_D A (WC ca ad bq nF nO nL nA nC nV nU nP nE bF bO bL bA bC bV bU bP bE cT cK cO cQ cD pT pK pR pW pU pI pC uO uF uE uN wK jM jN jZ jB ++ R) → va_S A s.heap H locs → lv_has ls 3 [(0, .ref (ad 1)), (1, .int v1), (2, .int v2)] → (∀ (H : Heap) (locs : List Loc) (ls : Array Slot), va_P D vwCl (WC ca ad bq nF nO nL nA nC nV nU nP nE bF bO bL bA bC bV bU bP bE cT cK cO cQ cD pT pK pR pW pU pI pC uO uF uE uN wK jM jN jZ jB ++ R) H → va_D A (WC ca ad bq nF nO nL nA nC nV nU nP nE bF bO bL bA bC bV bU bP bE cT cK cO cQ cD pT pK pR pW pU pI pC uO uF uE uN wK jM jN jZ jB ++ R) → va_S A s.heap H locs → lv_has ls 3 [(1, .int y1)] → W p l e ({ frames := 0, cells := 0, slots := 0, locals := 0 } : Room) s m args below meth c H locs 0 0 Qm (F0 m 24 ls [])) → W p l e ({ frames := 0, cells := 0, slots := 0, locals := 0 } : Room) s m args below meth c H locs 0 0 Qm (F0 m 4 ls []) := by
    intro n
    induction n with
    | zero => intro v1 v2 y1 hf; cases hf
    | succ n ih =>
      intro v1 v2 y1 hf H locs ls hP hD hS hl kk
      unfold f_S_promisedInAll_L4 at hf
      refine lv_iload_n hx hb dX2_promisedInAll_4 rfl (lv_at hl 2 rfl) ?_
      refine lv_iconst (v := 4) hx hb dX2_promisedInAll_5 (by decide) ?_
      refine lv_icmp_ge (tgt := 24) hx hb dX2_promisedInAll_6 (by decide) (fun c3 => ?_) (fun c3 => ?_)
      · have hf := br_pos c3 hf
        cases hf
        exact kk _ _ _ hP hD hS (lv_sub hl [1] rfl)
      · have hf := br_neg c3 hf
        refine lv_iload_n hx hb dX2_promisedInAll_9 rfl (lv_at hl 1 rfl) ?_
        refine lv_aload_n hx hb dX2_promisedInAll_10 rfl (lv_at hl 0 rfl) ?_
        refine va_get (D := D) (ci := 6) (v := .ref (ad 15)) (C := RX2) (T := TX2) (N := 9) hx hb hts inX2 hown hK hP 1 rfl rfl 7 (by decide) (hts _ q75) (fun _ h9 => h9) rfl dX2_promisedInAll_11 ?_
        refine lv_iload_n hx hb dX2_promisedInAll_14 rfl (lv_at hl 2 rfl) ?_
        obtain ⟨k4, hf⟩ := ck_not hf
        refine va_iald (D := D) hx hb hK hP 8 0 rfl rfl k4 dX2_promisedInAll_15 ?_
        refine lv_iadd hx hb dX2_promisedInAll_16 ?_
        refine lv_istore_n (lv' := [(1, .int (v1 + (nP v2.toNatClampNeg))), (0, .ref (ad 1)), (2, .int v2)]) hx hb dX2_promisedInAll_17 rfl hl (by decide) rfl (fun ls hl => ?_)
        refine lv_iinc (v := (v2 + 1)) (lv' := [(2, .int (v2 + 1)), (1, .int (v1 + (nP v2.toNatClampNeg))), (0, .ref (ad 1))]) hx hb dX2_promisedInAll_18 hl (k := 2) rfl rfl (by decide) rfl (fun ls hl => ?_)
        refine lv_goto (tgt := 4) hx hb dX2_promisedInAll_21 (by decide) ?_
        exact ih (v1 + (nP v2.toNatClampNeg)) (v2 + 1) _ hf _ _ _ hP hD hS (lv_sub hl [2, 1, 0] rfl) kk
  refine lv_iconst (v := 0) hx hb dX2_promisedInAll_0 (by decide) ?_
  refine lv_istore_n (lv' := [(1, .int 0), (0, .ref (ad 1))]) hx hb dX2_promisedInAll_1 rfl hl (by decide) rfl (fun ls hl => ?_)
  refine lv_iconst (v := 0) hx hb dX2_promisedInAll_2 (by decide) ?_
  refine lv_istore_n (lv' := [(2, .int 0), (1, .int 0), (0, .ref (ad 1))]) hx hb dX2_promisedInAll_3 rfl hl (by decide) rfl (fun ls hl => ?_)
  obtain ⟨x6, h5, hf⟩ := bnd hf
  refine L4 FU 0 0 x6 h5 _ _ _ hP hD hS (lv_sub hl [2, 1, 0] rfl) (fun H locs ls hP hD hS hl => ?_)
  refine lv_iload_n hx hb dX2_promisedInAll_24 rfl (lv_at hl 0 rfl) ?_
  cases hf
  exact end_i hAe hQm hx hb hr hlocks rfl hP hD hS dX2_promisedInAll_25
def f_S_copyFrom_b_L40 : Nat → Int32 → (Nat → Int32) → (Nat → Int32) → Option ((Nat → Int32))
  | 0, _, _, _ => none
  | fuel + 1, v2, nA, bA =>
    if 40 ≤ v2 then
      some bA
    else
      if v2 < 0 ∨ 40 ≤ v2.toNatClampNeg then none else
        if v2 < 0 ∨ 40 ≤ v2.toNatClampNeg then none else
        f_S_copyFrom_b_L40 fuel (v2 + 1) nA (upd bA v2.toNatClampNeg (vp_nar .boolean (nA v2.toNatClampNeg)))
def f_S_copyFrom_b (nF : Int32) (nO : Nat → Int32) (nL : Nat → Int32) (nA : Nat → Int32) (nC : Nat → Int32) (nV : Nat → Int32) (nU : Nat → Int32) (nP : Nat → Int32) (nE : Int32) (bO : Nat → Int32) (bL : Nat → Int32) (bA : Nat → Int32) (bC : Nat → Int32) (bV : Nat → Int32) (bU : Nat → Int32) (bP : Nat → Int32) : Option (Int32 × (Nat → Int32) × (Nat → Int32) × (Nat → Int32) × (Nat → Int32) × (Nat → Int32) × (Nat → Int32) × (Nat → Int32) × Int32) :=
  (f_S_copyFrom_b_L40 FU 0 nA bA).bind fun bA_11 =>
  some (nF, (va_cpy nO bO (0 : Int32).toNatClampNeg (0 : Int32).toNatClampNeg (40 : Int32).toNatClampNeg), (va_cpy nL bL (0 : Int32).toNatClampNeg (0 : Int32).toNatClampNeg (40 : Int32).toNatClampNeg), bA_11, (va_cpy nC bC (0 : Int32).toNatClampNeg (0 : Int32).toNatClampNeg (640 : Int32).toNatClampNeg), (va_cpy nV bV (0 : Int32).toNatClampNeg (0 : Int32).toNatClampNeg (64 : Int32).toNatClampNeg), (va_cpy nU bU (0 : Int32).toNatClampNeg (0 : Int32).toNatClampNeg (64 : Int32).toNatClampNeg), (va_cpy nP bP (0 : Int32).toNatClampNeg (0 : Int32).toNatClampNeg (4 : Int32).toNatClampNeg), nE)
set_option maxHeartbeats 4000000 in
set_option maxRecDepth 100000 in
theorem m_S_copyFrom_b (l : Launch) {D : va_G} {sl : List (String × Nat × String)} (ca : Nat → ClassId) (ad : Nat → Nat) (bq : Nat) (nF : Int32) (nO : Nat → Int32) (nL : Nat → Int32) (nA : Nat → Int32) (nC : Nat → Int32) (nV : Nat → Int32) (nU : Nat → Int32) (nP : Nat → Int32) (nE : Int32) (bF : Int32) (bO : Nat → Int32) (bL : Nat → Int32) (bA : Nat → Int32) (bC : Nat → Int32) (bV : Nat → Int32) (bU : Nat → Int32) (bP : Nat → Int32) (bE : Int32) (cT : Int32) (cK : Nat → Int32) (cO : Int32) (cQ : Nat → Int32) (cD : Int32) (pT : Int32) (pK : Int32) (pR : Nat → Int32) (pW : Nat → Int32) (pU : Nat → Int32) (pI : Nat → Int32) (pC : Nat → Nat → Int32) (uO : Int32) (uF : Nat → Int32) (uE : Nat → Int32) (uN : Nat → Int32) (wK : Nat → Int32) (jM : Int32) (jN : Int32) (jZ : Nat) (jB : Nat → Int32) (R : va_W) (sz : Nat) (obF : Int32) (obO : Nat → Int32) (obL : Nat → Int32) (obA : Nat → Int32) (obC : Nat → Int32) (obV : Nat → Int32) (obU : Nat → Int32) (obP : Nat → Int32) (obE : Int32) (hf : f_S_copyFrom_b nF nO nL nA nC nV nU nP nE bO bL bA bC bV bU bP = some (obF, obO, obL, obA, obC, obV, obU, obP, obE)) : Met l yX2_copyFrom (wm yX2_copyFrom cX2_copyFrom 3 none) ({ frames := 1, cells := 0, slots := 0, locals := 60 } : Room) (PRE [.ref (ad 2), .ref (ad 1)] D ca sl (WC ca ad bq nF nO nL nA nC nV nU nP nE bF bO bL bA bC bV bU bP bE cT cK cO cQ cD pT pK pR pW pU pI pC uO uF uE uN wK jM jN jZ jB ++ R) sz) (QV D (WC ca ad bq nF nO nL nA nC nV nU nP nE obF obO obL obA obC obV obU obP obE cT cK cO cQ cD pT pK pR pW pU pI pC uO uF uE uN wK jM jN jZ jB ++ R) (WC ca ad bq nF nO nL nA nC nV nU nP nE bF bO bL bA bC bV bU bP bE cT cK cO cQ cD pT pK pR pW pU pI pC uO uF uE uN wK jM jN jZ jB ++ R) sz) 0 0 (va_A (WC ca ad bq nF nO nL nA nC nV nU nP nE bF bO bL bA bC bV bU bP bE cT cK cO cQ cD pT pK pR pW pU pI pC uO uF uE uN wK jM jN jZ jB ++ R) sz) := by
  refine Met.ofW (cc := cX2_copyFrom) (maxL := 3) (ret := none) (by decide) rfl ?_
  intro p e s m args below meth c s₁ B hml hv
  obtain ⟨rfl, rfl, hP, hE, hD0⟩ := hv
  have hx := B.exec
  have hb := B.bytes
  have hr := B.returns
  have hts := wm_ww (atoms_spec (ws := wm yX2_copyFrom cX2_copyFrom 3 none) B.pre)
  have hown : s.vm.findClass RX2 = some m.cls := findClass_of_methodNamed B.named
  have hlocks := B.notSynchronized
  have hK := hE.1
  have hD := hD0.self (sz := s.heap.size)
  generalize hAe : va_A (WC ca ad bq nF nO nL nA nC nV nU nP nE bF bO bL bA bC bV bU bP bE cT cK cO cQ cD pT pK pR pW pU pI pC uO uF uE uN wK jM jN jZ jB ++ R) s.heap.size = A at hD ⊢
  have hA : ∀ q : Nat, s.heap.size ≤ q → A q := fun q h => by rw [← hAe]; exact Or.inr h
  have hS : va_S A s.heap s.heap [] := va_S.rf
  have hl := lv_entry ([.ref (ad 2), .ref (ad 1)]) (n := 3) (Nat.le_of_ble_eq_true rfl)
  rw [lg_entry_eq]
  generalize (lg_sl ([.ref (ad 2), .ref (ad 1)]) ++ List.replicate (3 - (lg_sl ([.ref (ad 2), .ref (ad 1)])).length) Slot.unset).toArray = ls at hl ⊢
  have hl : lv_has ls 3 [(0, .ref (ad 2)), (1, .ref (ad 1))] := hl
  change W p l e ({ frames := 1, cells := 0, slots := 0, locals := 60 } : Room) s m _ below meth c s.heap [] 0 0 _ _
  generalize hQm : MQ below (QV D (WC ca ad bq nF nO nL nA nC nV nU nP nE obF obO obL obA obC obV obU obP obE cT cK cO cQ cD pT pK pR pW pU pI pC uO uF uE uN wK jM jN jZ jB ++ R) (WC ca ad bq nF nO nL nA nC nV nU nP nE bF bO bL bA bC bV bU bP bE cT cK cO cQ cD pT pK pR pW pU pI pC uO uF uE uN wK jM jN jZ jB ++ R) s.heap.size) _ s 0 0 A = Qm
  have hP : va_P D vwCl (WC ca ad bq nF nO nL nA nC nV nU nP nE bF bO bL bA bC bV bU bP bE cT cK cO cQ cD pT pK pR pW pU pI pC uO uF uE uN wK jM jN jZ jB ++ R) s.heap := hP
  generalize hae : ([.ref (ad 2), .ref (ad 1)] : List Value).toArray = args at hts hQm ⊢
  have L40 : ∀ (n : Nat) (v2 : Int32) (bF : Int32) (bO : Nat → Int32) (bL : Nat → Int32) (bA : Nat → Int32) (bC : Nat → Int32) (bV : Nat → Int32) (bU : Nat → Int32) (bP : Nat → Int32) (bE : Int32) (zbA : Nat → Int32), f_S_copyFrom_b_L40 n v2 nA bA = some zbA → ∀ (H : Heap) (locs : List Loc) (ls : Array Slot), va_P D vwCl (WC ca ad bq nF nO nL nA nC nV nU nP nE bF bO bL bA bC bV bU bP bE cT cK cO cQ cD pT pK pR pW pU pI pC uO uF uE uN wK jM jN jZ jB ++ R) H → va_D A (WC ca ad bq nF nO nL nA nC nV nU nP nE bF bO bL bA bC bV bU bP bE cT cK cO cQ cD pT pK pR pW pU pI pC uO uF uE uN wK jM jN jZ jB ++ R) → va_S A s.heap H locs → lv_has ls 3 [(0, .ref (ad 2)), (1, .ref (ad 1)), (2, .int v2)] → (∀ (H : Heap) (locs : List Loc) (ls : Array Slot), va_P D vwCl (WC ca ad bq nF nO nL nA nC nV nU nP nE bF bO bL zbA bC bV bU bP bE cT cK cO cQ cD pT pK pR pW pU pI pC uO uF uE uN wK jM jN jZ jB ++ R) H → va_D A (WC ca ad bq nF nO nL nA nC nV nU nP nE bF bO bL zbA bC bV bU bP bE cT cK cO cQ cD pT pK pR pW pU pI pC uO uF uE uN wK jM jN jZ jB ++ R) → va_S A s.heap H locs → lv_has ls 3 [(0, .ref (ad 2)), (1, .ref (ad 1))] → W p l e ({ frames := 1, cells := 0, slots := 0, locals := 60 } : Room) s m args below meth c H locs 0 0 Qm (F0 m 64 ls [])) → W p l e ({ frames := 1, cells := 0, slots := 0, locals := 60 } : Room) s m args below meth c H locs 0 0 Qm (F0 m 40 ls []) := by
    intro n
    induction n with
    | zero => intro v2 bF bO bL bA bC bV bU bP bE zbA hf; cases hf
    | succ n ih =>
      intro v2 bF bO bL bA bC bV bU bP bE zbA hf H locs ls hP hD hS hl kk
      unfold f_S_copyFrom_b_L40 at hf
      refine lv_iload_n hx hb dX2_copyFrom_40 rfl (lv_at hl 2 rfl) ?_
      refine lv_bipush (v := 40) hx hb dX2_copyFrom_41 (by decide) ?_
      refine lv_icmp_ge (tgt := 64) hx hb dX2_copyFrom_43 (by decide) (fun c7 => ?_) (fun c7 => ?_)
      · have hf := br_pos c7 hf
        cases hf
        exact kk _ _ _ hP hD hS (lv_sub hl [0, 1] rfl)
      · have hf := br_neg c7 hf
        refine lv_aload_n hx hb dX2_copyFrom_46 rfl (lv_at hl 0 rfl) ?_
        refine va_get (D := D) (ci := 6) (v := .ref (ad 18)) (C := RX2) (T := TX2) (N := 9) hx hb hts inX2 hown hK hP 9 rfl rfl 3 (by decide) (hts _ q71) (fun _ h9 => h9) rfl dX2_copyFrom_47 ?_
        refine lv_iload_n hx hb dX2_copyFrom_50 rfl (lv_at hl 2 rfl) ?_
        refine lv_aload_n hx hb dX2_copyFrom_51 rfl (lv_at hl 1 rfl) ?_
        refine va_get (D := D) (ci := 6) (v := .ref (ad 11)) (C := RX2) (T := TX2) (N := 9) hx hb hts inX2 hown hK hP 1 rfl rfl 3 (by decide) (hts _ q71) (fun _ h9 => h9) rfl dX2_copyFrom_52 ?_
        refine lv_iload_n hx hb dX2_copyFrom_55 rfl (lv_at hl 2 rfl) ?_
        obtain ⟨k8, hf⟩ := ck_not hf
        refine va_zald (D := D) hx hb hK hP 4 1 rfl rfl k8 dX2_copyFrom_56 ?_
        obtain ⟨k9, hf⟩ := ck_not hf
        refine va_zast (D := D) hx hb hK hP hD hS 12 1 rfl rfl k9 dX2_copyFrom_57 (fun H locs hP hD hS => ?_)
        have hP : va_P D vwCl (WC ca ad bq nF nO nL nA nC nV nU nP nE bF bO bL (upd bA v2.toNatClampNeg (vp_nar .boolean (nA v2.toNatClampNeg))) bC bV bU bP bE cT cK cO cQ cD pT pK pR pW pU pI pC uO uF uE uN wK jM jN jZ jB ++ R) H := hP
        have hD : va_D A (WC ca ad bq nF nO nL nA nC nV nU nP nE bF bO bL (upd bA v2.toNatClampNeg (vp_nar .boolean (nA v2.toNatClampNeg))) bC bV bU bP bE cT cK cO cQ cD pT pK pR pW pU pI pC uO uF uE uN wK jM jN jZ jB ++ R) := hD
        refine lv_iinc (v := (v2 + 1)) (lv' := [(2, .int (v2 + 1)), (0, .ref (ad 2)), (1, .ref (ad 1))]) hx hb dX2_copyFrom_58 hl (k := 2) rfl rfl (by decide) rfl (fun ls hl => ?_)
        refine lv_goto (tgt := 40) hx hb dX2_copyFrom_61 (by decide) ?_
        exact ih (v2 + 1) bF bO bL (upd bA v2.toNatClampNeg (vp_nar .boolean (nA v2.toNatClampNeg))) bC bV bU bP bE _ hf _ _ _ hP hD hS (lv_sub hl [1, 2, 0] rfl) kk
  refine lv_aload_n hx hb dX2_copyFrom_0 rfl (lv_at hl 0 rfl) ?_
  refine lv_aload_n hx hb dX2_copyFrom_1 rfl (lv_at hl 1 rfl) ?_
  refine va_get (D := D) (ci := 6) (v := .int nF) (C := RX2) (T := TX2) (N := 9) hx hb hts inX2 hown hK hP 1 rfl rfl 0 (by decide) (hts _ q68) (fun _ h9 => h9) rfl dX2_copyFrom_2 ?_
  refine va_put (D := D) (ci := 6) (v := .int nF) (ty := .int) (C := RX2) (T := TX2) (N := 9) hx hb hts inX2 tyX2 tyX2_ok nmX2 hown hK hP hD hS 9 rfl rfl 0 (by decide) (hts _ q68) (fun _ h9 => h9) rfl (by decide +kernel) rfl rfl (Nat.le_of_ble_eq_true rfl) dX2_copyFrom_5 (fun H locs hP hD hS => ?_)
  have hP : va_P D vwCl (WC ca ad bq nF nO nL nA nC nV nU nP nE nF bO bL bA bC bV bU bP bE cT cK cO cQ cD pT pK pR pW pU pI pC uO uF uE uN wK jM jN jZ jB ++ R) H := hP
  have hD : va_D A (WC ca ad bq nF nO nL nA nC nV nU nP nE nF bO bL bA bC bV bU bP bE cT cK cO cQ cD pT pK pR pW pU pI pC uO uF uE uN wK jM jN jZ jB ++ R) := hD
  refine lv_aload_n hx hb dX2_copyFrom_8 rfl (lv_at hl 1 rfl) ?_
  refine va_get (D := D) (ci := 6) (v := .ref (ad 9)) (C := RX2) (T := TX2) (N := 9) hx hb hts inX2 hown hK hP 1 rfl rfl 1 (by decide) (hts _ q69) (fun _ h9 => h9) rfl dX2_copyFrom_9 ?_
  refine lv_iconst (v := 0) hx hb dX2_copyFrom_12 (by decide) ?_
  refine lv_aload_n hx hb dX2_copyFrom_13 rfl (lv_at hl 0 rfl) ?_
  refine va_get (D := D) (ci := 6) (v := .ref (ad 16)) (C := RX2) (T := TX2) (N := 9) hx hb hts inX2 hown hK hP 9 rfl rfl 1 (by decide) (hts _ q69) (fun _ h9 => h9) rfl dX2_copyFrom_14 ?_
  refine lv_iconst (v := 0) hx hb dX2_copyFrom_17 (by decide) ?_
  refine lv_bipush (v := 40) hx hb dX2_copyFrom_18 (by decide) ?_
  refine va_copyi (D := D) (ty := .int) hx hb (hml.trans hl.1.symm) hown (hts _ q236) (hts _ q238) (hts _ q237) (hts _ q45) hK hP hD hS 2 10 0 0 rfl rfl rfl rfl rfl (by decide) (by decide) (by decide) (Nat.le_of_ble_eq_true rfl) (Nat.le_of_ble_eq_true rfl) (fun i _ => rfl) (Nat.le_of_ble_eq_true rfl) (Nat.le_of_ble_eq_true rfl) dX2_copyFrom_20 (fun H locs hP hD hS => ?_)
  have hP : va_P D vwCl (WC ca ad bq nF nO nL nA nC nV nU nP nE nF (va_cpy nO bO (0 : Int32).toNatClampNeg (0 : Int32).toNatClampNeg (40 : Int32).toNatClampNeg) bL bA bC bV bU bP bE cT cK cO cQ cD pT pK pR pW pU pI pC uO uF uE uN wK jM jN jZ jB ++ R) H := hP
  have hD : va_D A (WC ca ad bq nF nO nL nA nC nV nU nP nE nF (va_cpy nO bO (0 : Int32).toNatClampNeg (0 : Int32).toNatClampNeg (40 : Int32).toNatClampNeg) bL bA bC bV bU bP bE cT cK cO cQ cD pT pK pR pW pU pI pC uO uF uE uN wK jM jN jZ jB ++ R) := hD
  refine lv_aload_n hx hb dX2_copyFrom_23 rfl (lv_at hl 1 rfl) ?_
  refine va_get (D := D) (ci := 6) (v := .ref (ad 10)) (C := RX2) (T := TX2) (N := 9) hx hb hts inX2 hown hK hP 1 rfl rfl 2 (by decide) (hts _ q70) (fun _ h9 => h9) rfl dX2_copyFrom_24 ?_
  refine lv_iconst (v := 0) hx hb dX2_copyFrom_27 (by decide) ?_
  refine lv_aload_n hx hb dX2_copyFrom_28 rfl (lv_at hl 0 rfl) ?_
  refine va_get (D := D) (ci := 6) (v := .ref (ad 17)) (C := RX2) (T := TX2) (N := 9) hx hb hts inX2 hown hK hP 9 rfl rfl 2 (by decide) (hts _ q70) (fun _ h9 => h9) rfl dX2_copyFrom_29 ?_
  refine lv_iconst (v := 0) hx hb dX2_copyFrom_32 (by decide) ?_
  refine lv_bipush (v := 40) hx hb dX2_copyFrom_33 (by decide) ?_
  refine va_copyi (D := D) (ty := .int) hx hb (hml.trans hl.1.symm) hown (hts _ q236) (hts _ q238) (hts _ q237) (hts _ q45) hK hP hD hS 3 11 0 0 rfl rfl rfl rfl rfl (by decide) (by decide) (by decide) (Nat.le_of_ble_eq_true rfl) (Nat.le_of_ble_eq_true rfl) (fun i _ => rfl) (Nat.le_of_ble_eq_true rfl) (Nat.le_of_ble_eq_true rfl) dX2_copyFrom_35 (fun H locs hP hD hS => ?_)
  have hP : va_P D vwCl (WC ca ad bq nF nO nL nA nC nV nU nP nE nF (va_cpy nO bO (0 : Int32).toNatClampNeg (0 : Int32).toNatClampNeg (40 : Int32).toNatClampNeg) (va_cpy nL bL (0 : Int32).toNatClampNeg (0 : Int32).toNatClampNeg (40 : Int32).toNatClampNeg) bA bC bV bU bP bE cT cK cO cQ cD pT pK pR pW pU pI pC uO uF uE uN wK jM jN jZ jB ++ R) H := hP
  have hD : va_D A (WC ca ad bq nF nO nL nA nC nV nU nP nE nF (va_cpy nO bO (0 : Int32).toNatClampNeg (0 : Int32).toNatClampNeg (40 : Int32).toNatClampNeg) (va_cpy nL bL (0 : Int32).toNatClampNeg (0 : Int32).toNatClampNeg (40 : Int32).toNatClampNeg) bA bC bV bU bP bE cT cK cO cQ cD pT pK pR pW pU pI pC uO uF uE uN wK jM jN jZ jB ++ R) := hD
  refine lv_iconst (v := 0) hx hb dX2_copyFrom_38 (by decide) ?_
  refine lv_istore_n (lv' := [(2, .int 0), (0, .ref (ad 2)), (1, .ref (ad 1))]) hx hb dX2_copyFrom_39 rfl hl (by decide) rfl (fun ls hl => ?_)
  obtain ⟨bA_11, h10, hf⟩ := bnd hf
  refine L40 FU 0 nF (va_cpy nO bO (0 : Int32).toNatClampNeg (0 : Int32).toNatClampNeg (40 : Int32).toNatClampNeg) (va_cpy nL bL (0 : Int32).toNatClampNeg (0 : Int32).toNatClampNeg (40 : Int32).toNatClampNeg) bA bC bV bU bP bE bA_11 h10 _ _ _ hP hD hS (lv_sub hl [1, 2, 0] rfl) (fun H locs ls hP hD hS hl => ?_)
  refine lv_aload_n hx hb dX2_copyFrom_64 rfl (lv_at hl 1 rfl) ?_
  refine va_get (D := D) (ci := 6) (v := .ref (ad 12)) (C := RX2) (T := TX2) (N := 9) hx hb hts inX2 hown hK hP 1 rfl rfl 4 (by decide) (hts _ q72) (fun _ h9 => h9) rfl dX2_copyFrom_65 ?_
  refine lv_iconst (v := 0) hx hb dX2_copyFrom_68 (by decide) ?_
  refine lv_aload_n hx hb dX2_copyFrom_69 rfl (lv_at hl 0 rfl) ?_
  refine va_get (D := D) (ci := 6) (v := .ref (ad 19)) (C := RX2) (T := TX2) (N := 9) hx hb hts inX2 hown hK hP 9 rfl rfl 4 (by decide) (hts _ q72) (fun _ h9 => h9) rfl dX2_copyFrom_70 ?_
  refine lv_iconst (v := 0) hx hb dX2_copyFrom_73 (by decide) ?_
  refine lv_sipush (v := 640) hx hb dX2_copyFrom_74 (by decide) ?_
  refine va_copyi (D := D) (ty := .int) hx hb (hml.trans hl.1.symm) hown (hts _ q236) (hts _ q238) (hts _ q237) (hts _ q45) hK hP hD hS 5 13 0 0 rfl rfl rfl rfl rfl (by decide) (by decide) (by decide) (Nat.le_of_ble_eq_true rfl) (Nat.le_of_ble_eq_true rfl) (fun i _ => rfl) (Nat.le_of_ble_eq_true rfl) (Nat.le_of_ble_eq_true rfl) dX2_copyFrom_77 (fun H locs hP hD hS => ?_)
  have hP : va_P D vwCl (WC ca ad bq nF nO nL nA nC nV nU nP nE nF (va_cpy nO bO (0 : Int32).toNatClampNeg (0 : Int32).toNatClampNeg (40 : Int32).toNatClampNeg) (va_cpy nL bL (0 : Int32).toNatClampNeg (0 : Int32).toNatClampNeg (40 : Int32).toNatClampNeg) bA_11 (va_cpy nC bC (0 : Int32).toNatClampNeg (0 : Int32).toNatClampNeg (640 : Int32).toNatClampNeg) bV bU bP bE cT cK cO cQ cD pT pK pR pW pU pI pC uO uF uE uN wK jM jN jZ jB ++ R) H := hP
  have hD : va_D A (WC ca ad bq nF nO nL nA nC nV nU nP nE nF (va_cpy nO bO (0 : Int32).toNatClampNeg (0 : Int32).toNatClampNeg (40 : Int32).toNatClampNeg) (va_cpy nL bL (0 : Int32).toNatClampNeg (0 : Int32).toNatClampNeg (40 : Int32).toNatClampNeg) bA_11 (va_cpy nC bC (0 : Int32).toNatClampNeg (0 : Int32).toNatClampNeg (640 : Int32).toNatClampNeg) bV bU bP bE cT cK cO cQ cD pT pK pR pW pU pI pC uO uF uE uN wK jM jN jZ jB ++ R) := hD
  refine lv_aload_n hx hb dX2_copyFrom_80 rfl (lv_at hl 1 rfl) ?_
  refine va_get (D := D) (ci := 6) (v := .ref (ad 13)) (C := RX2) (T := TX2) (N := 9) hx hb hts inX2 hown hK hP 1 rfl rfl 5 (by decide) (hts _ q73) (fun _ h9 => h9) rfl dX2_copyFrom_81 ?_
  refine lv_iconst (v := 0) hx hb dX2_copyFrom_84 (by decide) ?_
  refine lv_aload_n hx hb dX2_copyFrom_85 rfl (lv_at hl 0 rfl) ?_
  refine va_get (D := D) (ci := 6) (v := .ref (ad 20)) (C := RX2) (T := TX2) (N := 9) hx hb hts inX2 hown hK hP 9 rfl rfl 5 (by decide) (hts _ q73) (fun _ h9 => h9) rfl dX2_copyFrom_86 ?_
  refine lv_iconst (v := 0) hx hb dX2_copyFrom_89 (by decide) ?_
  refine lv_bipush (v := 64) hx hb dX2_copyFrom_90 (by decide) ?_
  refine va_copyi (D := D) (ty := .int) hx hb (hml.trans hl.1.symm) hown (hts _ q236) (hts _ q238) (hts _ q237) (hts _ q45) hK hP hD hS 6 14 0 0 rfl rfl rfl rfl rfl (by decide) (by decide) (by decide) (Nat.le_of_ble_eq_true rfl) (Nat.le_of_ble_eq_true rfl) (fun i _ => rfl) (Nat.le_of_ble_eq_true rfl) (Nat.le_of_ble_eq_true rfl) dX2_copyFrom_92 (fun H locs hP hD hS => ?_)
  have hP : va_P D vwCl (WC ca ad bq nF nO nL nA nC nV nU nP nE nF (va_cpy nO bO (0 : Int32).toNatClampNeg (0 : Int32).toNatClampNeg (40 : Int32).toNatClampNeg) (va_cpy nL bL (0 : Int32).toNatClampNeg (0 : Int32).toNatClampNeg (40 : Int32).toNatClampNeg) bA_11 (va_cpy nC bC (0 : Int32).toNatClampNeg (0 : Int32).toNatClampNeg (640 : Int32).toNatClampNeg) (va_cpy nV bV (0 : Int32).toNatClampNeg (0 : Int32).toNatClampNeg (64 : Int32).toNatClampNeg) bU bP bE cT cK cO cQ cD pT pK pR pW pU pI pC uO uF uE uN wK jM jN jZ jB ++ R) H := hP
  have hD : va_D A (WC ca ad bq nF nO nL nA nC nV nU nP nE nF (va_cpy nO bO (0 : Int32).toNatClampNeg (0 : Int32).toNatClampNeg (40 : Int32).toNatClampNeg) (va_cpy nL bL (0 : Int32).toNatClampNeg (0 : Int32).toNatClampNeg (40 : Int32).toNatClampNeg) bA_11 (va_cpy nC bC (0 : Int32).toNatClampNeg (0 : Int32).toNatClampNeg (640 : Int32).toNatClampNeg) (va_cpy nV bV (0 : Int32).toNatClampNeg (0 : Int32).toNatClampNeg (64 : Int32).toNatClampNeg) bU bP bE cT cK cO cQ cD pT pK pR pW pU pI pC uO uF uE uN wK jM jN jZ jB ++ R) := hD
  refine lv_aload_n hx hb dX2_copyFrom_95 rfl (lv_at hl 1 rfl) ?_
  refine va_get (D := D) (ci := 6) (v := .ref (ad 14)) (C := RX2) (T := TX2) (N := 9) hx hb hts inX2 hown hK hP 1 rfl rfl 6 (by decide) (hts _ q74) (fun _ h9 => h9) rfl dX2_copyFrom_96 ?_
  refine lv_iconst (v := 0) hx hb dX2_copyFrom_99 (by decide) ?_
  refine lv_aload_n hx hb dX2_copyFrom_100 rfl (lv_at hl 0 rfl) ?_
  refine va_get (D := D) (ci := 6) (v := .ref (ad 21)) (C := RX2) (T := TX2) (N := 9) hx hb hts inX2 hown hK hP 9 rfl rfl 6 (by decide) (hts _ q74) (fun _ h9 => h9) rfl dX2_copyFrom_101 ?_
  refine lv_iconst (v := 0) hx hb dX2_copyFrom_104 (by decide) ?_
  refine lv_bipush (v := 64) hx hb dX2_copyFrom_105 (by decide) ?_
  refine va_copyi (D := D) (ty := .int) hx hb (hml.trans hl.1.symm) hown (hts _ q236) (hts _ q238) (hts _ q237) (hts _ q45) hK hP hD hS 7 15 0 0 rfl rfl rfl rfl rfl (by decide) (by decide) (by decide) (Nat.le_of_ble_eq_true rfl) (Nat.le_of_ble_eq_true rfl) (fun i _ => rfl) (Nat.le_of_ble_eq_true rfl) (Nat.le_of_ble_eq_true rfl) dX2_copyFrom_107 (fun H locs hP hD hS => ?_)
  have hP : va_P D vwCl (WC ca ad bq nF nO nL nA nC nV nU nP nE nF (va_cpy nO bO (0 : Int32).toNatClampNeg (0 : Int32).toNatClampNeg (40 : Int32).toNatClampNeg) (va_cpy nL bL (0 : Int32).toNatClampNeg (0 : Int32).toNatClampNeg (40 : Int32).toNatClampNeg) bA_11 (va_cpy nC bC (0 : Int32).toNatClampNeg (0 : Int32).toNatClampNeg (640 : Int32).toNatClampNeg) (va_cpy nV bV (0 : Int32).toNatClampNeg (0 : Int32).toNatClampNeg (64 : Int32).toNatClampNeg) (va_cpy nU bU (0 : Int32).toNatClampNeg (0 : Int32).toNatClampNeg (64 : Int32).toNatClampNeg) bP bE cT cK cO cQ cD pT pK pR pW pU pI pC uO uF uE uN wK jM jN jZ jB ++ R) H := hP
  have hD : va_D A (WC ca ad bq nF nO nL nA nC nV nU nP nE nF (va_cpy nO bO (0 : Int32).toNatClampNeg (0 : Int32).toNatClampNeg (40 : Int32).toNatClampNeg) (va_cpy nL bL (0 : Int32).toNatClampNeg (0 : Int32).toNatClampNeg (40 : Int32).toNatClampNeg) bA_11 (va_cpy nC bC (0 : Int32).toNatClampNeg (0 : Int32).toNatClampNeg (640 : Int32).toNatClampNeg) (va_cpy nV bV (0 : Int32).toNatClampNeg (0 : Int32).toNatClampNeg (64 : Int32).toNatClampNeg) (va_cpy nU bU (0 : Int32).toNatClampNeg (0 : Int32).toNatClampNeg (64 : Int32).toNatClampNeg) bP bE cT cK cO cQ cD pT pK pR pW pU pI pC uO uF uE uN wK jM jN jZ jB ++ R) := hD
  refine lv_aload_n hx hb dX2_copyFrom_110 rfl (lv_at hl 1 rfl) ?_
  refine va_get (D := D) (ci := 6) (v := .ref (ad 15)) (C := RX2) (T := TX2) (N := 9) hx hb hts inX2 hown hK hP 1 rfl rfl 7 (by decide) (hts _ q75) (fun _ h9 => h9) rfl dX2_copyFrom_111 ?_
  refine lv_iconst (v := 0) hx hb dX2_copyFrom_114 (by decide) ?_
  refine lv_aload_n hx hb dX2_copyFrom_115 rfl (lv_at hl 0 rfl) ?_
  refine va_get (D := D) (ci := 6) (v := .ref (ad 22)) (C := RX2) (T := TX2) (N := 9) hx hb hts inX2 hown hK hP 9 rfl rfl 7 (by decide) (hts _ q75) (fun _ h9 => h9) rfl dX2_copyFrom_116 ?_
  refine lv_iconst (v := 0) hx hb dX2_copyFrom_119 (by decide) ?_
  refine lv_iconst (v := 4) hx hb dX2_copyFrom_120 (by decide) ?_
  refine va_copyi (D := D) (ty := .int) hx hb (hml.trans hl.1.symm) hown (hts _ q236) (hts _ q238) (hts _ q237) (hts _ q45) hK hP hD hS 8 16 0 0 rfl rfl rfl rfl rfl (by decide) (by decide) (by decide) (Nat.le_of_ble_eq_true rfl) (Nat.le_of_ble_eq_true rfl) (fun i _ => rfl) (Nat.le_of_ble_eq_true rfl) (Nat.le_of_ble_eq_true rfl) dX2_copyFrom_121 (fun H locs hP hD hS => ?_)
  have hP : va_P D vwCl (WC ca ad bq nF nO nL nA nC nV nU nP nE nF (va_cpy nO bO (0 : Int32).toNatClampNeg (0 : Int32).toNatClampNeg (40 : Int32).toNatClampNeg) (va_cpy nL bL (0 : Int32).toNatClampNeg (0 : Int32).toNatClampNeg (40 : Int32).toNatClampNeg) bA_11 (va_cpy nC bC (0 : Int32).toNatClampNeg (0 : Int32).toNatClampNeg (640 : Int32).toNatClampNeg) (va_cpy nV bV (0 : Int32).toNatClampNeg (0 : Int32).toNatClampNeg (64 : Int32).toNatClampNeg) (va_cpy nU bU (0 : Int32).toNatClampNeg (0 : Int32).toNatClampNeg (64 : Int32).toNatClampNeg) (va_cpy nP bP (0 : Int32).toNatClampNeg (0 : Int32).toNatClampNeg (4 : Int32).toNatClampNeg) bE cT cK cO cQ cD pT pK pR pW pU pI pC uO uF uE uN wK jM jN jZ jB ++ R) H := hP
  have hD : va_D A (WC ca ad bq nF nO nL nA nC nV nU nP nE nF (va_cpy nO bO (0 : Int32).toNatClampNeg (0 : Int32).toNatClampNeg (40 : Int32).toNatClampNeg) (va_cpy nL bL (0 : Int32).toNatClampNeg (0 : Int32).toNatClampNeg (40 : Int32).toNatClampNeg) bA_11 (va_cpy nC bC (0 : Int32).toNatClampNeg (0 : Int32).toNatClampNeg (640 : Int32).toNatClampNeg) (va_cpy nV bV (0 : Int32).toNatClampNeg (0 : Int32).toNatClampNeg (64 : Int32).toNatClampNeg) (va_cpy nU bU (0 : Int32).toNatClampNeg (0 : Int32).toNatClampNeg (64 : Int32).toNatClampNeg) (va_cpy nP bP (0 : Int32).toNatClampNeg (0 : Int32).toNatClampNeg (4 : Int32).toNatClampNeg) bE cT cK cO cQ cD pT pK pR pW pU pI pC uO uF uE uN wK jM jN jZ jB ++ R) := hD
  refine lv_aload_n hx hb dX2_copyFrom_124 rfl (lv_at hl 0 rfl) ?_
  refine lv_aload_n hx hb dX2_copyFrom_125 rfl (lv_at hl 1 rfl) ?_
  refine va_get (D := D) (ci := 6) (v := .int nE) (C := RX2) (T := TX2) (N := 9) hx hb hts inX2 hown hK hP 1 rfl rfl 8 (by decide) (hts _ q76) (fun _ h9 => h9) rfl dX2_copyFrom_126 ?_
  refine va_put (D := D) (ci := 6) (v := .int nE) (ty := .int) (C := RX2) (T := TX2) (N := 9) hx hb hts inX2 tyX2 tyX2_ok nmX2 hown hK hP hD hS 9 rfl rfl 8 (by decide) (hts _ q76) (fun _ h9 => h9) rfl (by decide +kernel) rfl rfl (Nat.le_of_ble_eq_true rfl) dX2_copyFrom_129 (fun H locs hP hD hS => ?_)
  have hP : va_P D vwCl (WC ca ad bq nF nO nL nA nC nV nU nP nE nF (va_cpy nO bO (0 : Int32).toNatClampNeg (0 : Int32).toNatClampNeg (40 : Int32).toNatClampNeg) (va_cpy nL bL (0 : Int32).toNatClampNeg (0 : Int32).toNatClampNeg (40 : Int32).toNatClampNeg) bA_11 (va_cpy nC bC (0 : Int32).toNatClampNeg (0 : Int32).toNatClampNeg (640 : Int32).toNatClampNeg) (va_cpy nV bV (0 : Int32).toNatClampNeg (0 : Int32).toNatClampNeg (64 : Int32).toNatClampNeg) (va_cpy nU bU (0 : Int32).toNatClampNeg (0 : Int32).toNatClampNeg (64 : Int32).toNatClampNeg) (va_cpy nP bP (0 : Int32).toNatClampNeg (0 : Int32).toNatClampNeg (4 : Int32).toNatClampNeg) nE cT cK cO cQ cD pT pK pR pW pU pI pC uO uF uE uN wK jM jN jZ jB ++ R) H := hP
  have hD : va_D A (WC ca ad bq nF nO nL nA nC nV nU nP nE nF (va_cpy nO bO (0 : Int32).toNatClampNeg (0 : Int32).toNatClampNeg (40 : Int32).toNatClampNeg) (va_cpy nL bL (0 : Int32).toNatClampNeg (0 : Int32).toNatClampNeg (40 : Int32).toNatClampNeg) bA_11 (va_cpy nC bC (0 : Int32).toNatClampNeg (0 : Int32).toNatClampNeg (640 : Int32).toNatClampNeg) (va_cpy nV bV (0 : Int32).toNatClampNeg (0 : Int32).toNatClampNeg (64 : Int32).toNatClampNeg) (va_cpy nU bU (0 : Int32).toNatClampNeg (0 : Int32).toNatClampNeg (64 : Int32).toNatClampNeg) (va_cpy nP bP (0 : Int32).toNatClampNeg (0 : Int32).toNatClampNeg (4 : Int32).toNatClampNeg) nE cT cK cO cQ cD pT pK pR pW pU pI pC uO uF uE uN wK jM jN jZ jB ++ R) := hD
  cases hf
  exact end_v hAe hQm hx hb hr hlocks hP hD hS dX2_copyFrom_132
def f_S_entryTotal_b (bE : Int32) : Option (Int32) :=
  some bE
set_option maxHeartbeats 4000000 in
set_option maxRecDepth 100000 in
theorem m_S_entryTotal_b (l : Launch) {D : va_G} {sl : List (String × Nat × String)} (ca : Nat → ClassId) (ad : Nat → Nat) (bq : Nat) (nF : Int32) (nO : Nat → Int32) (nL : Nat → Int32) (nA : Nat → Int32) (nC : Nat → Int32) (nV : Nat → Int32) (nU : Nat → Int32) (nP : Nat → Int32) (nE : Int32) (bF : Int32) (bO : Nat → Int32) (bL : Nat → Int32) (bA : Nat → Int32) (bC : Nat → Int32) (bV : Nat → Int32) (bU : Nat → Int32) (bP : Nat → Int32) (bE : Int32) (cT : Int32) (cK : Nat → Int32) (cO : Int32) (cQ : Nat → Int32) (cD : Int32) (pT : Int32) (pK : Int32) (pR : Nat → Int32) (pW : Nat → Int32) (pU : Nat → Int32) (pI : Nat → Int32) (pC : Nat → Nat → Int32) (uO : Int32) (uF : Nat → Int32) (uE : Nat → Int32) (uN : Nat → Int32) (wK : Nat → Int32) (jM : Int32) (jN : Int32) (jZ : Nat) (jB : Nat → Int32) (R : va_W) (sz : Nat) (ro : Int32) (hf : f_S_entryTotal_b bE = some ro) : Met l yX2_entryTotal (wm yX2_entryTotal cX2_entryTotal 1 (some .int)) ({ frames := 0, cells := 0, slots := 0, locals := 0 } : Room) (PRE [.ref (ad 2)] D ca sl (WC ca ad bq nF nO nL nA nC nV nU nP nE bF bO bL bA bC bV bU bP bE cT cK cO cQ cD pT pK pR pW pU pI pC uO uF uE uN wK jM jN jZ jB ++ R) sz) (QI ro D (WC ca ad bq nF nO nL nA nC nV nU nP nE bF bO bL bA bC bV bU bP bE cT cK cO cQ cD pT pK pR pW pU pI pC uO uF uE uN wK jM jN jZ jB ++ R) (WC ca ad bq nF nO nL nA nC nV nU nP nE bF bO bL bA bC bV bU bP bE cT cK cO cQ cD pT pK pR pW pU pI pC uO uF uE uN wK jM jN jZ jB ++ R) sz) 0 0 (va_A (WC ca ad bq nF nO nL nA nC nV nU nP nE bF bO bL bA bC bV bU bP bE cT cK cO cQ cD pT pK pR pW pU pI pC uO uF uE uN wK jM jN jZ jB ++ R) sz) := by
  refine Met.ofW (cc := cX2_entryTotal) (maxL := 1) (ret := (some .int)) (by decide) rfl ?_
  intro p e s m args below meth c s₁ B hml hv
  obtain ⟨rfl, rfl, hP, hE, hD0⟩ := hv
  have hx := B.exec
  have hb := B.bytes
  have hr := B.returns
  have hts := wm_ww (atoms_spec (ws := wm yX2_entryTotal cX2_entryTotal 1 (some .int)) B.pre)
  have hown : s.vm.findClass RX2 = some m.cls := findClass_of_methodNamed B.named
  have hlocks := B.notSynchronized
  have hK := hE.1
  have hD := hD0.self (sz := s.heap.size)
  generalize hAe : va_A (WC ca ad bq nF nO nL nA nC nV nU nP nE bF bO bL bA bC bV bU bP bE cT cK cO cQ cD pT pK pR pW pU pI pC uO uF uE uN wK jM jN jZ jB ++ R) s.heap.size = A at hD ⊢
  have hA : ∀ q : Nat, s.heap.size ≤ q → A q := fun q h => by rw [← hAe]; exact Or.inr h
  have hS : va_S A s.heap s.heap [] := va_S.rf
  have hl := lv_entry ([.ref (ad 2)]) (n := 1) (Nat.le_of_ble_eq_true rfl)
  rw [lg_entry_eq]
  generalize (lg_sl ([.ref (ad 2)]) ++ List.replicate (1 - (lg_sl ([.ref (ad 2)])).length) Slot.unset).toArray = ls at hl ⊢
  have hl : lv_has ls 1 [(0, .ref (ad 2))] := hl
  change W p l e ({ frames := 0, cells := 0, slots := 0, locals := 0 } : Room) s m _ below meth c s.heap [] 0 0 _ _
  generalize hQm : MQ below (QI ro D (WC ca ad bq nF nO nL nA nC nV nU nP nE bF bO bL bA bC bV bU bP bE cT cK cO cQ cD pT pK pR pW pU pI pC uO uF uE uN wK jM jN jZ jB ++ R) (WC ca ad bq nF nO nL nA nC nV nU nP nE bF bO bL bA bC bV bU bP bE cT cK cO cQ cD pT pK pR pW pU pI pC uO uF uE uN wK jM jN jZ jB ++ R) s.heap.size) _ s 0 0 A = Qm
  have hP : va_P D vwCl (WC ca ad bq nF nO nL nA nC nV nU nP nE bF bO bL bA bC bV bU bP bE cT cK cO cQ cD pT pK pR pW pU pI pC uO uF uE uN wK jM jN jZ jB ++ R) s.heap := hP
  generalize hae : ([.ref (ad 2)] : List Value).toArray = args at hts hQm ⊢
  refine lv_aload_n hx hb dX2_entryTotal_0 rfl (lv_at hl 0 rfl) ?_
  refine va_get (D := D) (ci := 6) (v := .int bE) (C := RX2) (T := TX2) (N := 9) hx hb hts inX2 hown hK hP 9 rfl rfl 8 (by decide) (hts _ q76) (fun _ h9 => h9) rfl dX2_entryTotal_1 ?_
  cases hf
  exact end_i hAe hQm hx hb hr hlocks rfl hP hD hS dX2_entryTotal_4
