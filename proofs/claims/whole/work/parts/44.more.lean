theorem q1022 : (Cond.codeWith yL_writeFile cL_writeFile 4 (some .int) [(0, 9, 12, 20)]) ∈ WW := WW_mem 1022 (by decide +kernel) rfl
/-! A CALL IN A WORLD TURNED ROUND; THE OTHER WAYS OF WRITEFILE AND LINEAT -/
theorem perm3 {α : Type} (x n r : List α) : (x ++ (n ++ r)).Perm (n ++ (x ++ r)) := by
  rw [← List.append_assoc]
  exact new_perm x n r
section ZQS
variable {p : Program} {l : Launch} {e : Env} {Rm : Room} {s : State} {m : MethodId} {args : Array Value} {below : List Frame} {meth : Method} {c : Code} {H : Heap} {locs : List Loc} {cells slots : Nat} {Q : State → Prop}
variable {y : MethodName} {bytes cc : ByteArray} {maxL nL mc ms n index : Nat} {ret : Option FieldType} {rm : Room} {own C : String} {b : Nat} {As rest st : List Value} {pc : Nat} {ls : Array Slot}
variable {D : va_G} {ca : Nat → ClassId} {sl : List (String × Nat × String)} {w w2 : va_W} {A0 : Nat → Prop}
theorem zq_i {r : Int32} (hp : w.Perm w2) (hM : Met l y (wm y bytes maxL ret) rm (PREX (.ref b :: As) D ca sl w2 H.size) (QI r D w2 w2 H.size) mc ms (va_A w2 H.size)) (S : CallFix p m c cc nL s args WW own) (cw : CallW Rm s args own C index y bytes maxL ret (wm y bytes maxL ret) rm mc ms n)
    (hrecv : ∃ cellB : Cell, H[b]? = some cellB ∧ cellB.vm.isStatics = false ∧ s.vm.findClass C = some cellB.cls) (hE : EE D ca sl s) (hP : va_P D vwCl w H) (hD : va_D A0 w) (hS : va_S A0 s.heap H locs) (hA : ∀ q, s.heap.size ≤ q → A0 q) (hZ : ZZ A0 s s.heap)
    (hn : As.length = n) (hsize : ls.size = nL) (hst : st = As.reverse ++ .ref b :: rest) (hW : 2 * (F0 m pc ls st).monitorRoom + (rest.map fun v => v.category).sum ≤ 8) (hdg : decode cc pc = .ok (.invokevirtual index, 3)) (hf : cells + mc ≤ Rm.cells ∧ slots + ms ≤ Rm.slots)
    (kk : ∀ (H1 : Heap) (locs1 : List Loc), va_P D vwCl w H1 → va_D A0 w → va_S A0 s.heap H1 locs1 → W p l e Rm s m args below meth c H1 locs1 (cells + mc) (slots + ms) Q (F0 m (pc + 3) ls (.int r :: rest))) : W p l e Rm s m args below meth c H locs cells slots Q (F0 m pc ls st) :=
  zv_i hM S cw hrecv hE (hP.perm hp) (hD.perm hp) hS hA hZ hn hsize hst hW hdg hf (fun H1 locs1 h1 h2 h3 => kk H1 locs1 (h1.perm hp.symm) (h2.perm hp.symm) h3)
end ZQS
def f_C_writeFile (p1 : Int32) (nF : Int32) : Option (Except Nat Int32) :=
  (f_C_requireFile p1 nF).bind fun x1 =>
  match x1 with
  | .error n3 => some (.error n3)
  | .ok _ =>
  none
set_option maxHeartbeats 4000000 in
set_option maxRecDepth 100000 in
theorem m_C_writeFile (l : Launch) (hst : l.stackTraces = false) {D : va_G} (ca : Nat → ClassId) (ad : Nat → Nat) (bq : Nat) (nF : Int32) (nO : Nat → Int32) (nL : Nat → Int32) (nA : Nat → Int32) (nC : Nat → Int32) (nV : Nat → Int32) (nU : Nat → Int32) (nP : Nat → Int32) (nE : Int32) (bF : Int32) (bO : Nat → Int32) (bL : Nat → Int32) (bA : Nat → Int32) (bC : Nat → Int32) (bV : Nat → Int32) (bU : Nat → Int32) (bP : Nat → Int32) (bE : Int32) (cT : Int32) (cK : Nat → Int32) (cO : Int32) (cQ : Nat → Int32) (cD : Int32) (pT : Int32) (pK : Int32) (pR : Nat → Int32) (pW : Nat → Int32) (pU : Nat → Int32) (pI : Nat → Int32) (pC : Nat → Nat → Int32) (uO : Int32) (uF : Nat → Int32) (uE : Nat → Int32) (uN : Nat → Int32) (wK : Nat → Int32) (jM : Int32) (jN : Int32) (jZ : Nat) (jB : Nat → Int32) (R : va_W) (sz : Nat) (p1 : Int32) (ro : Except Nat Int32) (hf : f_C_writeFile p1 nF = some ro) : vx_Met l yX3_writeFile (wm yX3_writeFile cX3_writeFile 4 (some .int)) ({ frames := 7, cells := 1, slots := 6, locals := 111 } : Room) (PREX [.ref (ad 0), .int p1] D ca SL0 (WC ca ad bq nF nO nL nA nC nV nU nP nE bF bO bL bA bC bV bU bP bE cT cK cO cQ cD pT pK pR pW pU pI pC uO uF uE uN wK jM jN jZ jB ++ R) sz) (QXI ro D (WC ca ad bq nF nO nL nA nC nV nU nP nE bF bO bL bA bC bV bU bP bE cT cK cO cQ cD pT pK pR pW pU pI pC uO uF uE uN wK jM jN jZ jB ++ R) (WC ca ad bq nF nO nL nA nC nV nU nP nE bF bO bL bA bC bV bU bP bE cT cK cO cQ cD pT pK pR pW pU pI pC uO uF uE uN wK jM jN jZ jB ++ R) sz) (QXE ro D (WC ca ad bq nF nO nL nA nC nV nU nP nE bF bO bL bA bC bV bU bP bE cT cK cO cQ cD pT pK pR pW pU pI pC uO uF uE uN wK jM jN jZ jB ++ R) (WC ca ad bq nF nO nL nA nC nV nU nP nE bF bO bL bA bC bV bU bP bE cT cK cO cQ cD pT pK pR pW pU pI pC uO uF uE uN wK jM jN jZ jB ++ R) sz) 1 6 (va_A (WC ca ad bq nF nO nL nA nC nV nU nP nE bF bO bL bA bC bV bU bP bE cT cK cO cQ cD pT pK pR pW pU pI pC uO uF uE uN wK jM jN jZ jB ++ R) sz) := by
  refine vx_ofW (cc := cX3_writeFile) (maxL := 4) (ret := (some .int)) (by decide) rfl ?_
  intro p e s m args below meth c s₁ B hml htab hv
  obtain ⟨rfl, rfl, hP, hE, hD0, hZ⟩ := hv
  have hx := B.exec
  have hb := B.bytes
  have hr := B.returns
  have hts := wm_ww (atoms_spec (ws := wm yX3_writeFile cX3_writeFile 4 (some .int)) B.pre)
  have hown : s.vm.findClass RX3 = some m.cls := findClass_of_methodNamed B.named
  have hlocks := B.notSynchronized
  have hK := hE.1
  have hD := hD0.self (sz := s.heap.size)
  generalize hAe : va_A (WC ca ad bq nF nO nL nA nC nV nU nP nE bF bO bL bA bC bV bU bP bE cT cK cO cQ cD pT pK pR pW pU pI pC uO uF uE uN wK jM jN jZ jB ++ R) s.heap.size = A at hD hZ ⊢
  have hA : ∀ q : Nat, s.heap.size ≤ q → A q := fun q h => by rw [← hAe]; exact Or.inr h
  have hS : va_S A s.heap s.heap [] := va_S.rf
  have hl := lv_entry ([.ref (ad 0), .int p1]) (n := 4) (Nat.le_of_ble_eq_true rfl)
  rw [lg_entry_eq]
  generalize (lg_sl ([.ref (ad 0), .int p1]) ++ List.replicate (4 - (lg_sl ([.ref (ad 0), .int p1])).length) Slot.unset).toArray = ls at hl ⊢
  have hl : lv_has ls 4 [(0, .ref (ad 0)), (1, .int p1)] := hl
  change W p l e ({ frames := 7, cells := 1, slots := 6, locals := 111 } : Room) s m _ below meth c s.heap [] 0 0 _ _
  generalize hQm : vx_MQ below (QXI ro D (WC ca ad bq nF nO nL nA nC nV nU nP nE bF bO bL bA bC bV bU bP bE cT cK cO cQ cD pT pK pR pW pU pI pC uO uF uE uN wK jM jN jZ jB ++ R) (WC ca ad bq nF nO nL nA nC nV nU nP nE bF bO bL bA bC bV bU bP bE cT cK cO cQ cD pT pK pR pW pU pI pC uO uF uE uN wK jM jN jZ jB ++ R) s.heap.size) (QXE ro D (WC ca ad bq nF nO nL nA nC nV nU nP nE bF bO bL bA bC bV bU bP bE cT cK cO cQ cD pT pK pR pW pU pI pC uO uF uE uN wK jM jN jZ jB ++ R) (WC ca ad bq nF nO nL nA nC nV nU nP nE bF bO bL bA bC bV bU bP bE cT cK cO cQ cD pT pK pR pW pU pI pC uO uF uE uN wK jM jN jZ jB ++ R) s.heap.size) _ s 1 6 A = Qm
  have hP : va_P D vwCl (WC ca ad bq nF nO nL nA nC nV nU nP nE bF bO bL bA bC bV bU bP bE cT cK cO cQ cD pT pK pR pW pU pI pC uO uF uE uN wK jM jN jZ jB ++ R) s.heap := hP
  generalize hae : ([.ref (ad 0), .int p1] : List Value).toArray = args at hts hQm ⊢
  refine lv_aload_n hx hb dX3_writeFile_0 rfl (lv_at hl 0 rfl) ?_
  refine lv_iload_n hx hb dX3_writeFile_1 rfl (lv_at hl 1 rfl) ?_
  obtain ⟨x1, h2, hf⟩ := bnd hf
  rcases x1 with n3 | _
  · have hf : some (.error n3) = some ro := hf
    cases hf
    exact cx_vv_err (rest := []) (m_C_requireFile l hst ca ad bq nF nO nL nA nC nV nU nP nE bF bO bL bA bC bV bU bP bE cT cK cO cQ cD pT pK pR pW pU pI pC uO uF uE uN wK jM jN jZ jB R _ p1 (.error n3) h2) ⟨hx, hb, hml, hown, hts⟩ (cwV 1 hts (gV q523 q525 q9 q41 q526) rfl rfl rfl (by decide +kernel) ⟨Nat.le_of_ble_eq_true rfl, Nat.le_of_ble_eq_true rfl⟩) (va_recv hK hP (ci := 7) (q0 := 0) rfl rfl) hE hP hD hS hA hZ rfl hl.1 rfl (lv_room (Nat.le_of_ble_eq_true rfl)) dX3_writeFile_2 ⟨Nat.le_of_ble_eq_true rfl, Nat.le_of_ble_eq_true rfl⟩ hAe hQm htab hlocks (Nat.le_of_ble_eq_true rfl) (Nat.le_of_ble_eq_true rfl)
  refine cx_vv_ok (rest := []) (m_C_requireFile l hst ca ad bq nF nO nL nA nC nV nU nP nE bF bO bL bA bC bV bU bP bE cT cK cO cQ cD pT pK pR pW pU pI pC uO uF uE uN wK jM jN jZ jB R _ p1 (.ok ()) h2) ⟨hx, hb, hml, hown, hts⟩ (cwV 1 hts (gV q523 q525 q9 q41 q526) rfl rfl rfl (by decide +kernel) ⟨Nat.le_of_ble_eq_true rfl, Nat.le_of_ble_eq_true rfl⟩) (va_recv hK hP (ci := 7) (q0 := 0) rfl rfl) hE hP hD hS hA hZ rfl hl.1 rfl (lv_room (Nat.le_of_ble_eq_true rfl)) dX3_writeFile_2 ⟨Nat.le_of_ble_eq_true rfl, Nat.le_of_ble_eq_true rfl⟩ (fun H locs hP hD hS => ?_)
  cases hf
def f_C_lineAt (p1 : Int32) (jN : Int32) (jZ : Nat) (jB : Nat → Int32) : Option (Except Nat Int32) :=
  if p1 < 0 then
    some (.error 3)
  else
    (f_B_J4_length_8abf5 jN).bind fun r2 =>
    if p1 < r2 then
      (f_B_J4_charAt_5068e p1 jN jZ jB).bind fun r5 =>
      if vp_nar .char r5 = r5 then some (.ok r5) else none
    else
      some (.error 3)
set_option maxHeartbeats 4000000 in
set_option maxRecDepth 100000 in
theorem m_C_lineAt (l : Launch) (hst : l.stackTraces = false) {D : va_G} (ca : Nat → ClassId) (ad : Nat → Nat) (bq : Nat) (nF : Int32) (nO : Nat → Int32) (nL : Nat → Int32) (nA : Nat → Int32) (nC : Nat → Int32) (nV : Nat → Int32) (nU : Nat → Int32) (nP : Nat → Int32) (nE : Int32) (bF : Int32) (bO : Nat → Int32) (bL : Nat → Int32) (bA : Nat → Int32) (bC : Nat → Int32) (bV : Nat → Int32) (bU : Nat → Int32) (bP : Nat → Int32) (bE : Int32) (cT : Int32) (cK : Nat → Int32) (cO : Int32) (cQ : Nat → Int32) (cD : Int32) (pT : Int32) (pK : Int32) (pR : Nat → Int32) (pW : Nat → Int32) (pU : Nat → Int32) (pI : Nat → Int32) (pC : Nat → Nat → Int32) (uO : Int32) (uF : Nat → Int32) (uE : Nat → Int32) (uN : Nat → Int32) (wK : Nat → Int32) (jM : Int32) (jN : Int32) (jZ : Nat) (jB : Nat → Int32) (R : va_W) (sz : Nat) (p1 : Int32) (ro : Except Nat Int32) (hf : f_C_lineAt p1 jN jZ jB = some ro) : vx_Met l yX3_lineAt (wm yX3_lineAt cX3_lineAt 2 (some .char)) ({ frames := 6, cells := 1, slots := 6, locals := 90 } : Room) (PREX [.ref (ad 0), .int p1] D ca SL0 (WC ca ad bq nF nO nL nA nC nV nU nP nE bF bO bL bA bC bV bU bP bE cT cK cO cQ cD pT pK pR pW pU pI pC uO uF uE uN wK jM jN jZ jB ++ R) sz) (QXI ro D (WC ca ad bq nF nO nL nA nC nV nU nP nE bF bO bL bA bC bV bU bP bE cT cK cO cQ cD pT pK pR pW pU pI pC uO uF uE uN wK jM jN jZ jB ++ R) (WC ca ad bq nF nO nL nA nC nV nU nP nE bF bO bL bA bC bV bU bP bE cT cK cO cQ cD pT pK pR pW pU pI pC uO uF uE uN wK jM jN jZ jB ++ R) sz) (QXE ro D (WC ca ad bq nF nO nL nA nC nV nU nP nE bF bO bL bA bC bV bU bP bE cT cK cO cQ cD pT pK pR pW pU pI pC uO uF uE uN wK jM jN jZ jB ++ R) (WC ca ad bq nF nO nL nA nC nV nU nP nE bF bO bL bA bC bV bU bP bE cT cK cO cQ cD pT pK pR pW pU pI pC uO uF uE uN wK jM jN jZ jB ++ R) sz) 1 6 (va_A (WC ca ad bq nF nO nL nA nC nV nU nP nE bF bO bL bA bC bV bU bP bE cT cK cO cQ cD pT pK pR pW pU pI pC uO uF uE uN wK jM jN jZ jB ++ R) sz) := by
  refine vx_ofW (cc := cX3_lineAt) (maxL := 2) (ret := (some .char)) (by decide) rfl ?_
  intro p e s m args below meth c s₁ B hml htab hv
  obtain ⟨rfl, rfl, hP, hE, hD0, hZ⟩ := hv
  have hx := B.exec
  have hb := B.bytes
  have hr := B.returns
  have hts := wm_ww (atoms_spec (ws := wm yX3_lineAt cX3_lineAt 2 (some .char)) B.pre)
  have hown : s.vm.findClass RX3 = some m.cls := findClass_of_methodNamed B.named
  have hlocks := B.notSynchronized
  have hK := hE.1
  have hD := hD0.self (sz := s.heap.size)
  generalize hAe : va_A (WC ca ad bq nF nO nL nA nC nV nU nP nE bF bO bL bA bC bV bU bP bE cT cK cO cQ cD pT pK pR pW pU pI pC uO uF uE uN wK jM jN jZ jB ++ R) s.heap.size = A at hD hZ ⊢
  have hA : ∀ q : Nat, s.heap.size ≤ q → A q := fun q h => by rw [← hAe]; exact Or.inr h
  have hS : va_S A s.heap s.heap [] := va_S.rf
  have hl := lv_entry ([.ref (ad 0), .int p1]) (n := 2) (Nat.le_of_ble_eq_true rfl)
  rw [lg_entry_eq]
  generalize (lg_sl ([.ref (ad 0), .int p1]) ++ List.replicate (2 - (lg_sl ([.ref (ad 0), .int p1])).length) Slot.unset).toArray = ls at hl ⊢
  have hl : lv_has ls 2 [(0, .ref (ad 0)), (1, .int p1)] := hl
  change W p l e ({ frames := 6, cells := 1, slots := 6, locals := 90 } : Room) s m _ below meth c s.heap [] 0 0 _ _
  generalize hQm : vx_MQ below (QXI ro D (WC ca ad bq nF nO nL nA nC nV nU nP nE bF bO bL bA bC bV bU bP bE cT cK cO cQ cD pT pK pR pW pU pI pC uO uF uE uN wK jM jN jZ jB ++ R) (WC ca ad bq nF nO nL nA nC nV nU nP nE bF bO bL bA bC bV bU bP bE cT cK cO cQ cD pT pK pR pW pU pI pC uO uF uE uN wK jM jN jZ jB ++ R) s.heap.size) (QXE ro D (WC ca ad bq nF nO nL nA nC nV nU nP nE bF bO bL bA bC bV bU bP bE cT cK cO cQ cD pT pK pR pW pU pI pC uO uF uE uN wK jM jN jZ jB ++ R) (WC ca ad bq nF nO nL nA nC nV nU nP nE bF bO bL bA bC bV bU bP bE cT cK cO cQ cD pT pK pR pW pU pI pC uO uF uE uN wK jM jN jZ jB ++ R) s.heap.size) _ s 1 6 A = Qm
  have hP : va_P D vwCl (WC ca ad bq nF nO nL nA nC nV nU nP nE bF bO bL bA bC bV bU bP bE cT cK cO cQ cD pT pK pR pW pU pI pC uO uF uE uN wK jM jN jZ jB ++ R) s.heap := hP
  generalize hae : ([.ref (ad 0), .int p1] : List Value).toArray = args at hts hQm ⊢
  refine lv_iload_n hx hb dX3_lineAt_0 rfl (lv_at hl 1 rfl) ?_
  refine lv_if_lt (tgt := 15) hx hb dX3_lineAt_1 (by decide) (fun c1 => ?_) (fun c1 => ?_)
  · have hf := br_pos c1 hf
    cases hf
    exact endx_throwW 3 rfl hAe hQm hst hx hb hts hE hown htab hlocks (by decide +kernel) q490 q56 sl20 at283 hZ (hl.1.trans hml.symm) hP hD hS dX3_lineAt_15 dX3_lineAt_18 dX3_lineAt_19 dX3_lineAt_22 dX3_lineAt_25 (Nat.le_of_ble_eq_true rfl) (Nat.le_of_ble_eq_true rfl) (Nat.le_of_ble_eq_true rfl) (Nat.le_of_ble_eq_true rfl) (Nat.le_of_ble_eq_true rfl) (Nat.le_of_ble_eq_true rfl)
  · have hf := br_neg c1 hf
    refine lv_iload_n hx hb dX3_lineAt_4 rfl (lv_at hl 1 rfl) ?_
    refine lv_aload_n hx hb dX3_lineAt_5 rfl (lv_at hl 0 rfl) ?_
    refine va_get (D := D) (ci := 7) (v := .ref (ad 7)) (C := RX3) (T := TX3) (N := 11) hx hb hts inX3 hown hK hP 0 rfl rfl 9 (by decide) (hts _ q210) (fun _ h9 => h9) rfl dX3_lineAt_6 ?_
    obtain ⟨r2, h3, hf⟩ := bnd hf
    refine zq_i (rest := [.int p1]) (WC_sb ca ad bq nF nO nL nA nC nV nU nP nE bF bO bL bA bC bV bU bP bE cT cK cO cQ cD pT pK pR pW pU pI pC uO uF uE uN wK jM jN jZ jB R) (m_B_J4_length_8abf5 l ca (ad 7) bq jM jN jZ jB (WCr ca ad nF nO nL nA nC nV nU nP nE bF bO bL bA bC bV bU bP bE cT cK cO cQ cD pT pK pR pW pU pI pC uO uF uE uN wK ++ R) _ r2 h3) ⟨hx, hb, hml, hown, hts⟩ (cwV 0 hts (gV q1303 q1204 q1698 q47 q1205) rfl rfl rfl (by decide +kernel) ⟨Nat.le_of_ble_eq_true rfl, Nat.le_of_ble_eq_true rfl⟩) (va_recv hK (hP.perm (WC_sb ca ad bq nF nO nL nA nC nV nU nP nE bF bO bL bA bC bV bU bP bE cT cK cO cQ cD pT pK pR pW pU pI pC uO uF uE uN wK jM jN jZ jB R)) (ci := 1) (q0 := 0) rfl rfl) hE hP hD hS hA hZ rfl hl.1 rfl (lv_room (Nat.le_of_ble_eq_true rfl)) dX3_lineAt_9 ⟨Nat.le_of_ble_eq_true rfl, Nat.le_of_ble_eq_true rfl⟩ (fun H locs hP hD hS => ?_)
    refine lv_icmp_lt (tgt := 26) hx hb dX3_lineAt_12 (by decide) (fun c4 => ?_) (fun c4 => ?_)
    · have hf := br_pos c4 hf
      refine lv_aload_n hx hb dX3_lineAt_26 rfl (lv_at hl 0 rfl) ?_
      refine va_get (D := D) (ci := 7) (v := .ref (ad 7)) (C := RX3) (T := TX3) (N := 11) hx hb hts inX3 hown hK hP 0 rfl rfl 9 (by decide) (hts _ q210) (fun _ h9 => h9) rfl dX3_lineAt_27 ?_
      refine lv_iload_n hx hb dX3_lineAt_30 rfl (lv_at hl 1 rfl) ?_
      obtain ⟨r5, h6, hf⟩ := bnd hf
      refine zq_i (rest := []) (WC_sb ca ad bq nF nO nL nA nC nV nU nP nE bF bO bL bA bC bV bU bP bE cT cK cO cQ cD pT pK pR pW pU pI pC uO uF uE uN wK jM jN jZ jB R) (m_B_J4_charAt_5068e l ca (ad 7) bq jM jN jZ jB (WCr ca ad nF nO nL nA nC nV nU nP nE bF bO bL bA bC bV bU bP bE cT cK cO cQ cD pT pK pR pW pU pI pC uO uF uE uN wK ++ R) _ p1 r5 h6) ⟨hx, hb, hml, hown, hts⟩ (cwV 1 hts (gV q1312 q1313 q1314 q47 q1315) rfl rfl rfl (by decide +kernel) ⟨Nat.le_of_ble_eq_true rfl, Nat.le_of_ble_eq_true rfl⟩) (va_recv hK (hP.perm (WC_sb ca ad bq nF nO nL nA nC nV nU nP nE bF bO bL bA bC bV bU bP bE cT cK cO cQ cD pT pK pR pW pU pI pC uO uF uE uN wK jM jN jZ jB R)) (ci := 1) (q0 := 0) rfl rfl) hE hP hD hS hA hZ rfl hl.1 rfl (lv_room (Nat.le_of_ble_eq_true rfl)) dX3_lineAt_31 ⟨Nat.le_of_ble_eq_true rfl, Nat.le_of_ble_eq_true rfl⟩ (fun H locs hP hD hS => ?_)
      obtain ⟨k7, hf⟩ := ck_yes hf
      cases hf
      exact endx_i hAe hQm hx hb hr hlocks (nar_c k7) hP hD hS dX3_lineAt_34 (Nat.le_of_ble_eq_true rfl) (Nat.le_of_ble_eq_true rfl)
    · have hf := br_neg c4 hf
      cases hf
      exact endx_throwW 3 rfl hAe hQm hst hx hb hts hE hown htab hlocks (by decide +kernel) q490 q56 sl20 at283 hZ (hl.1.trans hml.symm) hP hD hS dX3_lineAt_15 dX3_lineAt_18 dX3_lineAt_19 dX3_lineAt_22 dX3_lineAt_25 (Nat.le_of_ble_eq_true rfl) (Nat.le_of_ble_eq_true rfl) (Nat.le_of_ble_eq_true rfl) (Nat.le_of_ble_eq_true rfl) (Nat.le_of_ble_eq_true rfl) (Nat.le_of_ble_eq_true rfl)
def f_M_writeFile (p1 : Int32) (mfiles : Int32) : Option (Int32 × Int32) :=
  (f_M_isFile p1 mfiles).bind fun r1 =>
  if r1 = 0 then
    (f_M_fails 1).bind fun (r4, mcode_5) =>
    some (r4, mcode_5)
  else
    none
set_option maxHeartbeats 4000000 in
set_option maxRecDepth 100000 in
theorem m_M_writeFile (l : Launch) {D : va_G} {sl : List (String × Nat × String)} (ca : Nat → ClassId) (ad : Nat → Nat) (lq : Nat) (mcode : Int32) (mday : Int32) (mown : Int32) (mquot : Nat → Int32) (mprom : Nat → Int32) (mfiles : Int32) (mowner : Nat → Int32) (mlinks : Nat → Int32) (mblocks : Nat → Int32) (mvals : Nat → Int32) (msnaps : Int32) (mranks : Nat → Int32) (mkept : Nat → Int32) (mshot : Nat → Int32) (mwas : Nat → Int32) (mholds : Int32) (mheld : Nat → Int32) (mends : Nat → Int32) (mopen : Nat → Int32) (mentr : Int32) (mkinds : Nat → Int32) (misop : Int32) (mfilesT : Int32) (mentrT : Int32) (mpromT : Nat → Int32) (mlinksT : Nat → Int32) (mblocksT : Nat → Int32) (mvalsT : Nat → Int32) (R : va_W) (sz : Nat) (p1 : Int32) (ro : Int32) (omcode : Int32) (hf : f_M_writeFile p1 mfiles = some (ro, omcode)) : Met l yX4_writeFile (wm yX4_writeFile cX4_writeFile 4 (some .int)) ({ frames := 2, cells := 0, slots := 0, locals := 43 } : Room) (PRE [.ref (ad 0), .int p1] D ca sl (WM ca ad lq mcode mday mown mquot mprom mfiles mowner mlinks mblocks mvals msnaps mranks mkept mshot mwas mholds mheld mends mopen mentr mkinds misop mfilesT mentrT mpromT mlinksT mblocksT mvalsT ++ R) sz) (QI ro D (WM ca ad lq omcode mday mown mquot mprom mfiles mowner mlinks mblocks mvals msnaps mranks mkept mshot mwas mholds mheld mends mopen mentr mkinds misop mfilesT mentrT mpromT mlinksT mblocksT mvalsT ++ R) (WM ca ad lq mcode mday mown mquot mprom mfiles mowner mlinks mblocks mvals msnaps mranks mkept mshot mwas mholds mheld mends mopen mentr mkinds misop mfilesT mentrT mpromT mlinksT mblocksT mvalsT ++ R) sz) 0 0 (va_A (WM ca ad lq mcode mday mown mquot mprom mfiles mowner mlinks mblocks mvals msnaps mranks mkept mshot mwas mholds mheld mends mopen mentr mkinds misop mfilesT mentrT mpromT mlinksT mblocksT mvalsT ++ R) sz) := by
  refine Met.ofW (cc := cX4_writeFile) (maxL := 4) (ret := (some .int)) (by decide) rfl ?_
  intro p e s m args below meth c s₁ B hml hv
  obtain ⟨rfl, rfl, hP, hE, hD0⟩ := hv
  have hx := B.exec
  have hb := B.bytes
  have hr := B.returns
  have hts := wm_ww (atoms_spec (ws := wm yX4_writeFile cX4_writeFile 4 (some .int)) B.pre)
  have hown : s.vm.findClass RX4 = some m.cls := findClass_of_methodNamed B.named
  have hlocks := B.notSynchronized
  have hK := hE.1
  have hD := hD0.self (sz := s.heap.size)
  generalize hAe : va_A (WM ca ad lq mcode mday mown mquot mprom mfiles mowner mlinks mblocks mvals msnaps mranks mkept mshot mwas mholds mheld mends mopen mentr mkinds misop mfilesT mentrT mpromT mlinksT mblocksT mvalsT ++ R) s.heap.size = A at hD ⊢
  have hA : ∀ q : Nat, s.heap.size ≤ q → A q := fun q h => by rw [← hAe]; exact Or.inr h
  have hS : va_S A s.heap s.heap [] := va_S.rf
  have hl := lv_entry ([.ref (ad 0), .int p1]) (n := 4) (Nat.le_of_ble_eq_true rfl)
  rw [lg_entry_eq]
  generalize (lg_sl ([.ref (ad 0), .int p1]) ++ List.replicate (4 - (lg_sl ([.ref (ad 0), .int p1])).length) Slot.unset).toArray = ls at hl ⊢
  have hl : lv_has ls 4 [(0, .ref (ad 0)), (1, .int p1)] := hl
  change W p l e ({ frames := 2, cells := 0, slots := 0, locals := 43 } : Room) s m _ below meth c s.heap [] 0 0 _ _
  generalize hQm : MQ below (QI ro D (WM ca ad lq omcode mday mown mquot mprom mfiles mowner mlinks mblocks mvals msnaps mranks mkept mshot mwas mholds mheld mends mopen mentr mkinds misop mfilesT mentrT mpromT mlinksT mblocksT mvalsT ++ R) (WM ca ad lq mcode mday mown mquot mprom mfiles mowner mlinks mblocks mvals msnaps mranks mkept mshot mwas mholds mheld mends mopen mentr mkinds misop mfilesT mentrT mpromT mlinksT mblocksT mvalsT ++ R) s.heap.size) _ s 0 0 A = Qm
  have hP : va_P D vwCl (WM ca ad lq mcode mday mown mquot mprom mfiles mowner mlinks mblocks mvals msnaps mranks mkept mshot mwas mholds mheld mends mopen mentr mkinds misop mfilesT mentrT mpromT mlinksT mblocksT mvalsT ++ R) s.heap := hP
  generalize hae : ([.ref (ad 0), .int p1] : List Value).toArray = args at hts hQm ⊢
  refine lv_aload_n hx hb dX4_writeFile_0 rfl (lv_at hl 0 rfl) ?_
  refine lv_iconst (v := 0) hx hb dX4_writeFile_1 (by decide) ?_
  refine va_put (D := D) (ci := 8) (v := .int 0) (ty := .int) (C := RX4) (T := TX4) (N := 29) hx hb hts inX4 tyX4 tyX4_ok nmX4 hown hK hP hD hS 0 rfl rfl 0 (by decide) (hts _ q1329) (fun _ h9 => h9) rfl (by decide +kernel) rfl rfl (Nat.le_of_ble_eq_true rfl) dX4_writeFile_2 (fun H locs hP hD hS => ?_)
  have hP : va_P D vwCl (WM ca ad lq 0 mday mown mquot mprom mfiles mowner mlinks mblocks mvals msnaps mranks mkept mshot mwas mholds mheld mends mopen mentr mkinds misop mfilesT mentrT mpromT mlinksT mblocksT mvalsT ++ R) H := hP
  have hD : va_D A (WM ca ad lq 0 mday mown mquot mprom mfiles mowner mlinks mblocks mvals msnaps mranks mkept mshot mwas mholds mheld mends mopen mentr mkinds misop mfilesT mentrT mpromT mlinksT mblocksT mvalsT ++ R) := hD
  refine lv_aload_n hx hb dX4_writeFile_5 rfl (lv_at hl 0 rfl) ?_
  refine lv_iload_n hx hb dX4_writeFile_6 rfl (lv_at hl 1 rfl) ?_
  obtain ⟨r1, h2, hf⟩ := bnd hf
  refine call_vi (rest := []) (m_M_isFile l ca ad lq 0 mday mown mquot mprom mfiles mowner mlinks mblocks mvals msnaps mranks mkept mshot mwas mholds mheld mends mopen mentr mkinds misop mfilesT mentrT mpromT mlinksT mblocksT mvalsT R _ p1 r1 h2) ⟨hx, hb, hml, hown, hts⟩ (cwV 1 hts (gV q1452 q1454 q26 q50 q1455) rfl rfl rfl (by decide +kernel) ⟨Nat.le_of_ble_eq_true rfl, Nat.le_of_ble_eq_true rfl⟩) (va_recv hK hP (ci := 8) (q0 := 0) rfl rfl) hE hP hD hS hA rfl hl.1 rfl (lv_room (Nat.le_of_ble_eq_true rfl)) dX4_writeFile_7 ⟨Nat.le_of_ble_eq_true rfl, Nat.le_of_ble_eq_true rfl⟩ (fun H locs hP hD hS => ?_)
  refine lv_if_ne (tgt := 19) hx hb dX4_writeFile_10 (by decide) (fun c3 => ?_) (fun c3 => ?_)
  · have hf := br_neg c3 hf
    cases hf
  · have hf := br_pos c3 hf
    refine lv_aload_n hx hb dX4_writeFile_13 rfl (lv_at hl 0 rfl) ?_
    refine lv_iconst (v := 1) hx hb dX4_writeFile_14 (by decide) ?_
    obtain ⟨⟨r4, mcode_5⟩, h6, hf⟩ := bnd hf
    refine call_vi (rest := []) (m_M_fails l ca ad lq 0 mday mown mquot mprom mfiles mowner mlinks mblocks mvals msnaps mranks mkept mshot mwas mholds mheld mends mopen mentr mkinds misop mfilesT mentrT mpromT mlinksT mblocksT mvalsT R _ 1 r4 mcode_5 h6) ⟨hx, hb, hml, hown, hts⟩ (cwV 1 hts (gV q1428 q1430 q23 q50 q1431) rfl rfl rfl (by decide +kernel) ⟨Nat.le_of_ble_eq_true rfl, Nat.le_of_ble_eq_true rfl⟩) (va_recv hK hP (ci := 8) (q0 := 0) rfl rfl) hE hP hD hS hA rfl hl.1 rfl (lv_room (Nat.le_of_ble_eq_true rfl)) dX4_writeFile_15 ⟨Nat.le_of_ble_eq_true rfl, Nat.le_of_ble_eq_true rfl⟩ (fun H locs hP hD hS => ?_)
    cases hf
    exact end_i hAe hQm hx hb hr hlocks rfl hP hD hS dX4_writeFile_18
def f_L_writeFile (p1 : Int32) (nF : Int32) (oL : Nat → Int64) : Option (Int32 × (Nat → Int64)) :=
  (f_C_writeFile p1 nF).bind fun x1 =>
  match x1 with
  | .error n3 => if n3 = 3 then some (1, oL) else none
  | .ok r4 =>
  some (0, (vp_updL oL (0 : Int32).toNatClampNeg ((r4).toInt64)))
set_option maxHeartbeats 4000000 in
set_option maxRecDepth 100000 in
theorem m_L_writeFile (l : Launch) (hst : l.stackTraces = false) {D : va_G} (ca : Nat → ClassId) (ad : Nat → Nat) (bq : Nat) (oa od : Nat) (nF : Int32) (nO : Nat → Int32) (nL : Nat → Int32) (nA : Nat → Int32) (nC : Nat → Int32) (nV : Nat → Int32) (nU : Nat → Int32) (nP : Nat → Int32) (nE : Int32) (bF : Int32) (bO : Nat → Int32) (bL : Nat → Int32) (bA : Nat → Int32) (bC : Nat → Int32) (bV : Nat → Int32) (bU : Nat → Int32) (bP : Nat → Int32) (bE : Int32) (cT : Int32) (cK : Nat → Int32) (cO : Int32) (cQ : Nat → Int32) (cD : Int32) (pT : Int32) (pK : Int32) (pR : Nat → Int32) (pW : Nat → Int32) (pU : Nat → Int32) (pI : Nat → Int32) (pC : Nat → Nat → Int32) (uO : Int32) (uF : Nat → Int32) (uE : Nat → Int32) (uN : Nat → Int32) (wK : Nat → Int32) (jM : Int32) (jN : Int32) (jZ : Nat) (jB : Nat → Int32) (oL : Nat → Int64) (oD : Nat → UInt64) (R : va_W) (sz : Nat) (p1 : Int32) (ro : Int32) (ooL : Nat → Int64) (hf : f_L_writeFile p1 nF oL = some (ro, ooL)) : vx_Met l yL_writeFile (wmW yL_writeFile cL_writeFile 4 (some .int) [(0, 9, 12, 20)]) ({ frames := 8, cells := 1, slots := 6, locals := 134 } : Room) (PREL [.ref (ad 0), .int p1, .ref oa] D ca SL0 (WC ca ad bq nF nO nL nA nC nV nU nP nE bF bO bL bA bC bV bU bP bE cT cK cO cQ cD pT pK pR pW pU pI pC uO uF uE uN wK jM jN jZ jB ++ (WO ca oa od oL oD ++ R)) sz) (QI ro D (WC ca ad bq nF nO nL nA nC nV nU nP nE bF bO bL bA bC bV bU bP bE cT cK cO cQ cD pT pK pR pW pU pI pC uO uF uE uN wK jM jN jZ jB ++ (WO ca oa od ooL oD ++ R)) (WC ca ad bq nF nO nL nA nC nV nU nP nE bF bO bL bA bC bV bU bP bE cT cK cO cQ cD pT pK pR pW pU pI pC uO uF uE uN wK jM jN jZ jB ++ (WO ca oa od oL oD ++ R)) sz) (fun _ _ _ => False) 1 6 (va_A (WC ca ad bq nF nO nL nA nC nV nU nP nE bF bO bL bA bC bV bU bP bE cT cK cO cQ cD pT pK pR pW pU pI pC uO uF uE uN wK jM jN jZ jB ++ (WO ca oa od oL oD ++ R)) sz) := by
  refine vx_ofWH (cc := cL_writeFile) (maxL := 4) (ret := (some .int)) (hh := [(0, 9, 12, 20)]) (by decide) rfl ?_
  intro p e s m args below meth c s₁ B hml hv
  obtain ⟨rfl, rfl, hP, hE, hD0, hZ, hNC⟩ := hv
  have hx := B.exec
  have hb := B.bytes
  have hr := B.returns
  have hts0 := atoms_spec (ws := wmW yL_writeFile cL_writeFile 4 (some .int) [(0, 9, 12, 20)]) B.pre
  have hts := wmW_ww hts0
  have htab := vx_table (x := yL_writeFile) B (hts0 _ List.mem_cons_self)
  have hown : s.vm.findClass RL = some m.cls := findClass_of_methodNamed B.named
  have hlocks := B.notSynchronized
  have hK := hE.1
  have hD := hD0.self (sz := s.heap.size)
  generalize hAe : va_A (WC ca ad bq nF nO nL nA nC nV nU nP nE bF bO bL bA bC bV bU bP bE cT cK cO cQ cD pT pK pR pW pU pI pC uO uF uE uN wK jM jN jZ jB ++ (WO ca oa od oL oD ++ R)) s.heap.size = A at hD hZ ⊢
  have hA : ∀ q : Nat, s.heap.size ≤ q → A q := fun q h => by rw [← hAe]; exact Or.inr h
  have hS : va_S A s.heap s.heap [] := va_S.rf
  have hl := lv_entry ([.ref (ad 0), .int p1, .ref oa]) (n := 4) (Nat.le_of_ble_eq_true rfl)
  rw [lg_entry_eq]
  generalize (lg_sl ([.ref (ad 0), .int p1, .ref oa]) ++ List.replicate (4 - (lg_sl ([.ref (ad 0), .int p1, .ref oa])).length) Slot.unset).toArray = ls at hl ⊢
  have hl : lv_has ls 4 [(0, .ref (ad 0)), (1, .int p1), (2, .ref oa)] := hl
  change W p l e ({ frames := 8, cells := 1, slots := 6, locals := 134 } : Room) s m _ below meth c s.heap [] 0 0 _ _
  generalize hQm : vx_MQ below (QI ro D (WC ca ad bq nF nO nL nA nC nV nU nP nE bF bO bL bA bC bV bU bP bE cT cK cO cQ cD pT pK pR pW pU pI pC uO uF uE uN wK jM jN jZ jB ++ (WO ca oa od ooL oD ++ R)) (WC ca ad bq nF nO nL nA nC nV nU nP nE bF bO bL bA bC bV bU bP bE cT cK cO cQ cD pT pK pR pW pU pI pC uO uF uE uN wK jM jN jZ jB ++ (WO ca oa od oL oD ++ R)) s.heap.size) (fun _ _ _ => False) _ s 1 6 A = Qm
  have hP : va_P D vwCl (WC ca ad bq nF nO nL nA nC nV nU nP nE bF bO bL bA bC bV bU bP bE cT cK cO cQ cD pT pK pR pW pU pI pC uO uF uE uN wK jM jN jZ jB ++ (WO ca oa od oL oD ++ R)) s.heap := hP
  generalize hae : ([.ref (ad 0), .int p1, .ref oa] : List Value).toArray = args at hts hQm ⊢
  refine lv_aload_n hx hb dL_writeFile_0 rfl (lv_at hl 2 rfl) ?_
  refine lv_iconst (v := 0) hx hb dL_writeFile_1 (by decide) ?_
  refine lv_aload_n hx hb dL_writeFile_2 rfl (lv_at hl 0 rfl) ?_
  refine lv_iload_n hx hb dL_writeFile_3 rfl (lv_at hl 1 rfl) ?_
  obtain ⟨x1, h2, hf⟩ := bnd hf
  rcases x1 with n3 | r4
  · have hf : (if n3 = 3 then some (1, oL) else none) = some (ro, ooL) := hf
    by_cases c5 : n3 = 3
    · subst c5
      have hf := br_pos rfl hf
      refine cw_vi_err (rest := [.int 0, .ref oa]) (m_C_writeFile l hst ca ad bq nF nO nL nA nC nV nU nP nE bF bO bL bA bC bV bU bP bE cT cK cO cQ cD pT pK pR pW pU pI pC uO uF uE uN wK jM jN jZ jB (WO ca oa od oL oD ++ R) _ p1 (.error 3) h2) ⟨hx, hb, hml, hown, hts⟩ (cwV 1 hts (gV q1023 q1024 q1025 q41 q1026) rfl rfl rfl (by decide +kernel) ⟨Nat.le_of_ble_eq_true rfl, Nat.le_of_ble_eq_true rfl⟩) (va_recv hK hP (ci := 7) (q0 := 0) rfl rfl) hE hP hD hS hA hZ rfl hl.1 rfl (lv_room (Nat.le_of_ble_eq_true rfl)) dL_writeFile_4 ⟨Nat.le_of_ble_eq_true rfl, Nat.le_of_ble_eq_true rfl⟩ (fun H locs q9 ce hP hD hS hce hv9 hcl => ?_)
      refine vx_catch (E := "java/lang/IndexOutOfBoundsException") hown [] ⟨0, 9, 12, 20⟩ [] htab (fun _ h => absurd h List.not_mem_nil) (by decide) (by decide) (hts _ q458) (va_Nw.use rfl (hE.2.1 _ n492)) hce hv9 hcl ?_
      refine lv_astore_n (lv' := [(3, .ref q9), (0, .ref (ad 0)), (1, .int p1), (2, .ref oa)]) hx hb dL_writeFile_12 rfl hl (by decide) rfl (fun ls hl => ?_)
      refine lv_iconst (v := 1) hx hb dL_writeFile_13 (by decide) ?_
      cases hf
      exact endw_i hAe hQm hx hb hr hlocks rfl hP hD hS dL_writeFile_14 (Nat.le_of_ble_eq_true rfl) (Nat.le_of_ble_eq_true rfl)
    have hf := br_neg c5 hf
    cases hf
  refine cw_vi_ok (rest := [.int 0, .ref oa]) (m_C_writeFile l hst ca ad bq nF nO nL nA nC nV nU nP nE bF bO bL bA bC bV bU bP bE cT cK cO cQ cD pT pK pR pW pU pI pC uO uF uE uN wK jM jN jZ jB (WO ca oa od oL oD ++ R) _ p1 (.ok r4) h2) ⟨hx, hb, hml, hown, hts⟩ (cwV 1 hts (gV q1023 q1024 q1025 q41 q1026) rfl rfl rfl (by decide +kernel) ⟨Nat.le_of_ble_eq_true rfl, Nat.le_of_ble_eq_true rfl⟩) (va_recv hK hP (ci := 7) (q0 := 0) rfl rfl) hE hP hD hS hA hZ rfl hl.1 rfl (lv_room (Nat.le_of_ble_eq_true rfl)) dL_writeFile_4 ⟨Nat.le_of_ble_eq_true rfl, Nat.le_of_ble_eq_true rfl⟩ (fun H locs hP hD hS => ?_)
  refine lv_i2l hx hb dL_writeFile_7 rfl ?_
  refine va_last (D := D) hx hb hK hP hD hS 40 5 rfl rfl (by unfold vp_in; decide) dL_writeFile_8 (fun H locs hP hD hS => ?_)
  have hP : va_P D vwCl (WC ca ad bq nF nO nL nA nC nV nU nP nE bF bO bL bA bC bV bU bP bE cT cK cO cQ cD pT pK pR pW pU pI pC uO uF uE uN wK jM jN jZ jB ++ (WO ca oa od (vp_updL oL (0 : Int32).toNatClampNeg ((r4).toInt64)) oD ++ R)) H := hP
  have hD : va_D A (WC ca ad bq nF nO nL nA nC nV nU nP nE bF bO bL bA bC bV bU bP bE cT cK cO cQ cD pT pK pR pW pU pI pC uO uF uE uN wK jM jN jZ jB ++ (WO ca oa od (vp_updL oL (0 : Int32).toNatClampNeg ((r4).toInt64)) oD ++ R)) := hD
  refine lv_goto (tgt := 15) hx hb dL_writeFile_9 (by decide) ?_
  refine lv_iconst (v := 0) hx hb dL_writeFile_15 (by decide) ?_
  cases hf
  exact endw_i hAe hQm hx hb hr hlocks rfl hP hD hS dL_writeFile_16 (Nat.le_of_ble_eq_true rfl) (Nat.le_of_ble_eq_true rfl)
def f_L_lineAt (p1 : Int32) (jN : Int32) (jZ : Nat) (jB : Nat → Int32) (oL : Nat → Int64) : Option (Int32 × (Nat → Int64)) :=
  (f_C_lineAt p1 jN jZ jB).bind fun x1 =>
  match x1 with
  | .error n3 => if n3 = 3 then some (1, oL) else none
  | .ok r4 =>
  some (0, (vp_updL oL (0 : Int32).toNatClampNeg ((r4).toInt64)))
set_option maxHeartbeats 4000000 in
set_option maxRecDepth 100000 in
theorem m_L_lineAt (l : Launch) (hst : l.stackTraces = false) {D : va_G} (ca : Nat → ClassId) (ad : Nat → Nat) (bq : Nat) (oa od : Nat) (nF : Int32) (nO : Nat → Int32) (nL : Nat → Int32) (nA : Nat → Int32) (nC : Nat → Int32) (nV : Nat → Int32) (nU : Nat → Int32) (nP : Nat → Int32) (nE : Int32) (bF : Int32) (bO : Nat → Int32) (bL : Nat → Int32) (bA : Nat → Int32) (bC : Nat → Int32) (bV : Nat → Int32) (bU : Nat → Int32) (bP : Nat → Int32) (bE : Int32) (cT : Int32) (cK : Nat → Int32) (cO : Int32) (cQ : Nat → Int32) (cD : Int32) (pT : Int32) (pK : Int32) (pR : Nat → Int32) (pW : Nat → Int32) (pU : Nat → Int32) (pI : Nat → Int32) (pC : Nat → Nat → Int32) (uO : Int32) (uF : Nat → Int32) (uE : Nat → Int32) (uN : Nat → Int32) (wK : Nat → Int32) (jM : Int32) (jN : Int32) (jZ : Nat) (jB : Nat → Int32) (oL : Nat → Int64) (oD : Nat → UInt64) (R : va_W) (sz : Nat) (p1 : Int32) (ro : Int32) (ooL : Nat → Int64) (hf : f_L_lineAt p1 jN jZ jB oL = some (ro, ooL)) : vx_Met l yL_lineAt (wmW yL_lineAt cL_lineAt 4 (some .int) [(0, 9, 12, 20)]) ({ frames := 7, cells := 1, slots := 6, locals := 111 } : Room) (PREL [.ref (ad 0), .int p1, .ref oa] D ca SL0 (WC ca ad bq nF nO nL nA nC nV nU nP nE bF bO bL bA bC bV bU bP bE cT cK cO cQ cD pT pK pR pW pU pI pC uO uF uE uN wK jM jN jZ jB ++ (WO ca oa od oL oD ++ R)) sz) (QI ro D (WC ca ad bq nF nO nL nA nC nV nU nP nE bF bO bL bA bC bV bU bP bE cT cK cO cQ cD pT pK pR pW pU pI pC uO uF uE uN wK jM jN jZ jB ++ (WO ca oa od ooL oD ++ R)) (WC ca ad bq nF nO nL nA nC nV nU nP nE bF bO bL bA bC bV bU bP bE cT cK cO cQ cD pT pK pR pW pU pI pC uO uF uE uN wK jM jN jZ jB ++ (WO ca oa od oL oD ++ R)) sz) (fun _ _ _ => False) 1 6 (va_A (WC ca ad bq nF nO nL nA nC nV nU nP nE bF bO bL bA bC bV bU bP bE cT cK cO cQ cD pT pK pR pW pU pI pC uO uF uE uN wK jM jN jZ jB ++ (WO ca oa od oL oD ++ R)) sz) := by
  refine vx_ofWH (cc := cL_lineAt) (maxL := 4) (ret := (some .int)) (hh := [(0, 9, 12, 20)]) (by decide) rfl ?_
  intro p e s m args below meth c s₁ B hml hv
  obtain ⟨rfl, rfl, hP, hE, hD0, hZ, hNC⟩ := hv
  have hx := B.exec
  have hb := B.bytes
  have hr := B.returns
  have hts0 := atoms_spec (ws := wmW yL_lineAt cL_lineAt 4 (some .int) [(0, 9, 12, 20)]) B.pre
  have hts := wmW_ww hts0
  have htab := vx_table (x := yL_lineAt) B (hts0 _ List.mem_cons_self)
  have hown : s.vm.findClass RL = some m.cls := findClass_of_methodNamed B.named
  have hlocks := B.notSynchronized
  have hK := hE.1
  have hD := hD0.self (sz := s.heap.size)
  generalize hAe : va_A (WC ca ad bq nF nO nL nA nC nV nU nP nE bF bO bL bA bC bV bU bP bE cT cK cO cQ cD pT pK pR pW pU pI pC uO uF uE uN wK jM jN jZ jB ++ (WO ca oa od oL oD ++ R)) s.heap.size = A at hD hZ ⊢
  have hA : ∀ q : Nat, s.heap.size ≤ q → A q := fun q h => by rw [← hAe]; exact Or.inr h
  have hS : va_S A s.heap s.heap [] := va_S.rf
  have hl := lv_entry ([.ref (ad 0), .int p1, .ref oa]) (n := 4) (Nat.le_of_ble_eq_true rfl)
  rw [lg_entry_eq]
  generalize (lg_sl ([.ref (ad 0), .int p1, .ref oa]) ++ List.replicate (4 - (lg_sl ([.ref (ad 0), .int p1, .ref oa])).length) Slot.unset).toArray = ls at hl ⊢
  have hl : lv_has ls 4 [(0, .ref (ad 0)), (1, .int p1), (2, .ref oa)] := hl
  change W p l e ({ frames := 7, cells := 1, slots := 6, locals := 111 } : Room) s m _ below meth c s.heap [] 0 0 _ _
  generalize hQm : vx_MQ below (QI ro D (WC ca ad bq nF nO nL nA nC nV nU nP nE bF bO bL bA bC bV bU bP bE cT cK cO cQ cD pT pK pR pW pU pI pC uO uF uE uN wK jM jN jZ jB ++ (WO ca oa od ooL oD ++ R)) (WC ca ad bq nF nO nL nA nC nV nU nP nE bF bO bL bA bC bV bU bP bE cT cK cO cQ cD pT pK pR pW pU pI pC uO uF uE uN wK jM jN jZ jB ++ (WO ca oa od oL oD ++ R)) s.heap.size) (fun _ _ _ => False) _ s 1 6 A = Qm
  have hP : va_P D vwCl (WC ca ad bq nF nO nL nA nC nV nU nP nE bF bO bL bA bC bV bU bP bE cT cK cO cQ cD pT pK pR pW pU pI pC uO uF uE uN wK jM jN jZ jB ++ (WO ca oa od oL oD ++ R)) s.heap := hP
  generalize hae : ([.ref (ad 0), .int p1, .ref oa] : List Value).toArray = args at hts hQm ⊢
  refine lv_aload_n hx hb dL_lineAt_0 rfl (lv_at hl 2 rfl) ?_
  refine lv_iconst (v := 0) hx hb dL_lineAt_1 (by decide) ?_
  refine lv_aload_n hx hb dL_lineAt_2 rfl (lv_at hl 0 rfl) ?_
  refine lv_iload_n hx hb dL_lineAt_3 rfl (lv_at hl 1 rfl) ?_
  obtain ⟨x1, h2, hf⟩ := bnd hf
  rcases x1 with n3 | r4
  · have hf : (if n3 = 3 then some (1, oL) else none) = some (ro, ooL) := hf
    by_cases c5 : n3 = 3
    · subst c5
      have hf := br_pos rfl hf
      refine cw_vi_err (rest := [.int 0, .ref oa]) (m_C_lineAt l hst ca ad bq nF nO nL nA nC nV nU nP nE bF bO bL bA bC bV bU bP bE cT cK cO cQ cD pT pK pR pW pU pI pC uO uF uE uN wK jM jN jZ jB (WO ca oa od oL oD ++ R) _ p1 (.error 3) h2) ⟨hx, hb, hml, hown, hts⟩ (cwV 1 hts (gV q1307 q1308 q1309 q41 q1310) rfl rfl rfl (by decide +kernel) ⟨Nat.le_of_ble_eq_true rfl, Nat.le_of_ble_eq_true rfl⟩) (va_recv hK hP (ci := 7) (q0 := 0) rfl rfl) hE hP hD hS hA hZ rfl hl.1 rfl (lv_room (Nat.le_of_ble_eq_true rfl)) dL_lineAt_4 ⟨Nat.le_of_ble_eq_true rfl, Nat.le_of_ble_eq_true rfl⟩ (fun H locs q9 ce hP hD hS hce hv9 hcl => ?_)
      refine vx_catch (E := "java/lang/IndexOutOfBoundsException") hown [] ⟨0, 9, 12, 20⟩ [] htab (fun _ h => absurd h List.not_mem_nil) (by decide) (by decide) (hts _ q458) (va_Nw.use rfl (hE.2.1 _ n492)) hce hv9 hcl ?_
      refine lv_astore_n (lv' := [(3, .ref q9), (0, .ref (ad 0)), (1, .int p1), (2, .ref oa)]) hx hb dL_lineAt_12 rfl hl (by decide) rfl (fun ls hl => ?_)
      refine lv_iconst (v := 1) hx hb dL_lineAt_13 (by decide) ?_
      cases hf
      exact endw_i hAe hQm hx hb hr hlocks rfl hP hD hS dL_lineAt_14 (Nat.le_of_ble_eq_true rfl) (Nat.le_of_ble_eq_true rfl)
    have hf := br_neg c5 hf
    cases hf
  refine cw_vi_ok (rest := [.int 0, .ref oa]) (m_C_lineAt l hst ca ad bq nF nO nL nA nC nV nU nP nE bF bO bL bA bC bV bU bP bE cT cK cO cQ cD pT pK pR pW pU pI pC uO uF uE uN wK jM jN jZ jB (WO ca oa od oL oD ++ R) _ p1 (.ok r4) h2) ⟨hx, hb, hml, hown, hts⟩ (cwV 1 hts (gV q1307 q1308 q1309 q41 q1310) rfl rfl rfl (by decide +kernel) ⟨Nat.le_of_ble_eq_true rfl, Nat.le_of_ble_eq_true rfl⟩) (va_recv hK hP (ci := 7) (q0 := 0) rfl rfl) hE hP hD hS hA hZ rfl hl.1 rfl (lv_room (Nat.le_of_ble_eq_true rfl)) dL_lineAt_4 ⟨Nat.le_of_ble_eq_true rfl, Nat.le_of_ble_eq_true rfl⟩ (fun H locs hP hD hS => ?_)
  refine lv_i2l hx hb dL_lineAt_7 rfl ?_
  refine va_last (D := D) hx hb hK hP hD hS 40 5 rfl rfl (by unfold vp_in; decide) dL_lineAt_8 (fun H locs hP hD hS => ?_)
  have hP : va_P D vwCl (WC ca ad bq nF nO nL nA nC nV nU nP nE bF bO bL bA bC bV bU bP bE cT cK cO cQ cD pT pK pR pW pU pI pC uO uF uE uN wK jM jN jZ jB ++ (WO ca oa od (vp_updL oL (0 : Int32).toNatClampNeg ((r4).toInt64)) oD ++ R)) H := hP
  have hD : va_D A (WC ca ad bq nF nO nL nA nC nV nU nP nE bF bO bL bA bC bV bU bP bE cT cK cO cQ cD pT pK pR pW pU pI pC uO uF uE uN wK jM jN jZ jB ++ (WO ca oa od (vp_updL oL (0 : Int32).toNatClampNeg ((r4).toInt64)) oD ++ R)) := hD
  refine lv_goto (tgt := 15) hx hb dL_lineAt_9 (by decide) ?_
  refine lv_iconst (v := 0) hx hb dL_lineAt_15 (by decide) ?_
  cases hf
  exact endw_i hAe hQm hx hb hr hlocks rfl hP hD hS dL_lineAt_16 (Nat.le_of_ble_eq_true rfl) (Nat.le_of_ble_eq_true rfl)
def f_B_X4_in (p0 : Int32) (p1 : Int32) (p2 : Int32) : Option (Int32) :=
  if p0 < p1 then
    some 0
  else
    if p2 < p0 then
      some 0
    else
      some 1
set_option maxHeartbeats 4000000 in
set_option maxRecDepth 100000 in
theorem m_B_X4_in (l : Launch) {D : va_G} {sl : List (String × Nat × String)} (ca : Nat → ClassId) (R : va_W) (sz : Nat) (p0 : Int32) (p1 : Int32) (p2 : Int32) (ro : Int32) (hf : f_B_X4_in p0 p1 p2 = some ro) : Met l yX4_in (wm yX4_in cX4_in 3 (some .boolean)) ({ frames := 0, cells := 0, slots := 0, locals := 0 } : Room) (PREX [.int p0, .int p1, .int p2] D ca sl R sz) (QI ro D R R sz) 0 0 (va_A R sz) := by
  refine Met.ofW (cc := cX4_in) (maxL := 3) (ret := (some .boolean)) (by decide) rfl ?_
  intro p e s m args below meth c s₁ B hml hv
  obtain ⟨rfl, rfl, hP, hE, hD0, hZ⟩ := hv
  have hx := B.exec
  have hb := B.bytes
  have hr := B.returns
  have hts := wm_ww (atoms_spec (ws := wm yX4_in cX4_in 3 (some .boolean)) B.pre)
  have hown : s.vm.findClass RX4 = some m.cls := findClass_of_methodNamed B.named
  have hlocks := B.notSynchronized
  have hK := hE.1
  have hD := hD0.self (sz := s.heap.size)
  generalize hAe : va_A R s.heap.size = A at hD hZ ⊢
  have hA : ∀ q : Nat, s.heap.size ≤ q → A q := fun q h => by rw [← hAe]; exact Or.inr h
  have hS : va_S A s.heap s.heap [] := va_S.rf
  have hl := lv_entry ([.int p0, .int p1, .int p2]) (n := 3) (Nat.le_of_ble_eq_true rfl)
  rw [lg_entry_eq]
  generalize (lg_sl ([.int p0, .int p1, .int p2]) ++ List.replicate (3 - (lg_sl ([.int p0, .int p1, .int p2])).length) Slot.unset).toArray = ls at hl ⊢
  have hl : lv_has ls 3 [(0, .int p0), (1, .int p1), (2, .int p2)] := hl
  change W p l e ({ frames := 0, cells := 0, slots := 0, locals := 0 } : Room) s m _ below meth c s.heap [] 0 0 _ _
  generalize hQm : MQ below (QI ro D R R s.heap.size) _ s 0 0 A = Qm
  have hP : va_P D vwCl R s.heap := hP
  generalize hae : ([.int p0, .int p1, .int p2] : List Value).toArray = args at hts hQm ⊢
  refine lv_iload_n hx hb dX4_in_0 rfl (lv_at hl 0 rfl) ?_
  refine lv_iload_n hx hb dX4_in_1 rfl (lv_at hl 1 rfl) ?_
  refine lv_icmp_lt (tgt := 14) hx hb dX4_in_2 (by decide) (fun c1 => ?_) (fun c1 => ?_)
  · have hf := br_pos c1 hf
    refine lv_iconst (v := 0) hx hb dX4_in_14 (by decide) ?_
    cases hf
    exact end_i hAe hQm hx hb hr hlocks rfl hP hD hS dX4_in_15
  · have hf := br_neg c1 hf
    refine lv_iload_n hx hb dX4_in_5 rfl (lv_at hl 0 rfl) ?_
    refine lv_iload_n hx hb dX4_in_6 rfl (lv_at hl 2 rfl) ?_
    refine lv_icmp_gt (tgt := 14) hx hb dX4_in_7 (by decide) (fun c2 => ?_) (fun c2 => ?_)
    · have hf := br_pos c2 hf
      refine lv_iconst (v := 0) hx hb dX4_in_14 (by decide) ?_
      cases hf
      exact end_i hAe hQm hx hb hr hlocks rfl hP hD hS dX4_in_15
    · have hf := br_neg c2 hf
      refine lv_iconst (v := 1) hx hb dX4_in_10 (by decide) ?_
      refine lv_goto (tgt := 15) hx hb dX4_in_11 (by decide) ?_
      cases hf
      exact end_i hAe hQm hx hb hr hlocks rfl hP hD hS dX4_in_15
def f_B_X4_lineAt (p1 : Int32) (sZ : Nat) (sB : Nat → Int32) : Option (Int32 × Int32) :=
  (f_B_J0_length_8abf5 sZ).bind fun r1 =>
  (f_B_X4_in p1 0 (r1 - 1)).bind fun r3 =>
  if r3 = 0 then
    some (0, 1)
  else
    (f_B_J0_charAt_5068e p1 sZ sB).bind fun r8 =>
    if vp_nar .char r8 = r8 then some (r8, 0) else none
set_option maxHeartbeats 4000000 in
set_option maxRecDepth 100000 in
theorem m_B_X4_lineAt (l : Launch) {D : va_G} {sl : List (String × Nat × String)} (ca : Nat → ClassId) (ad : Nat → Nat) (lq : Nat) (vq : Nat) (mcode : Int32) (mday : Int32) (mown : Int32) (mquot : Nat → Int32) (mprom : Nat → Int32) (mfiles : Int32) (mowner : Nat → Int32) (mlinks : Nat → Int32) (mblocks : Nat → Int32) (mvals : Nat → Int32) (msnaps : Int32) (mranks : Nat → Int32) (mkept : Nat → Int32) (mshot : Nat → Int32) (mwas : Nat → Int32) (mholds : Int32) (mheld : Nat → Int32) (mends : Nat → Int32) (mopen : Nat → Int32) (mentr : Int32) (mkinds : Nat → Int32) (misop : Int32) (mfilesT : Int32) (mentrT : Int32) (mpromT : Nat → Int32) (mlinksT : Nat → Int32) (mblocksT : Nat → Int32) (mvalsT : Nat → Int32) (sZ : Nat) (sB : Nat → Int32) (R : va_W) (sz : Nat) (p1 : Int32) (ro : Int32) (omcode : Int32) (hf : f_B_X4_lineAt p1 sZ sB = some (ro, omcode)) : Met l yX4_lineAt (wm yX4_lineAt cX4_lineAt 2 (some .char)) ({ frames := 4, cells := 0, slots := 0, locals := 85 } : Room) (PREX [.ref (ad 0), .int p1] D ca sl (WM ca ad lq mcode mday mown mquot mprom mfiles mowner mlinks mblocks mvals msnaps mranks mkept mshot mwas mholds mheld mends mopen mentr mkinds misop mfilesT mentrT mpromT mlinksT mblocksT mvalsT ++ (WS ca lq vq sZ sB ++ R)) sz) (QI ro D (WM ca ad lq omcode mday mown mquot mprom mfiles mowner mlinks mblocks mvals msnaps mranks mkept mshot mwas mholds mheld mends mopen mentr mkinds misop mfilesT mentrT mpromT mlinksT mblocksT mvalsT ++ (WS ca lq vq sZ sB ++ R)) (WM ca ad lq mcode mday mown mquot mprom mfiles mowner mlinks mblocks mvals msnaps mranks mkept mshot mwas mholds mheld mends mopen mentr mkinds misop mfilesT mentrT mpromT mlinksT mblocksT mvalsT ++ (WS ca lq vq sZ sB ++ R)) sz) 0 0 (va_A (WM ca ad lq mcode mday mown mquot mprom mfiles mowner mlinks mblocks mvals msnaps mranks mkept mshot mwas mholds mheld mends mopen mentr mkinds misop mfilesT mentrT mpromT mlinksT mblocksT mvalsT ++ (WS ca lq vq sZ sB ++ R)) sz) := by
  refine Met.ofW (cc := cX4_lineAt) (maxL := 2) (ret := (some .char)) (by decide) rfl ?_
  intro p e s m args below meth c s₁ B hml hv
  obtain ⟨rfl, rfl, hP, hE, hD0, hZ⟩ := hv
  have hx := B.exec
  have hb := B.bytes
  have hr := B.returns
  have hts := wm_ww (atoms_spec (ws := wm yX4_lineAt cX4_lineAt 2 (some .char)) B.pre)
  have hown : s.vm.findClass RX4 = some m.cls := findClass_of_methodNamed B.named
  have hlocks := B.notSynchronized
  have hK := hE.1
  have hD := hD0.self (sz := s.heap.size)
  generalize hAe : va_A (WM ca ad lq mcode mday mown mquot mprom mfiles mowner mlinks mblocks mvals msnaps mranks mkept mshot mwas mholds mheld mends mopen mentr mkinds misop mfilesT mentrT mpromT mlinksT mblocksT mvalsT ++ (WS ca lq vq sZ sB ++ R)) s.heap.size = A at hD hZ ⊢
  have hA : ∀ q : Nat, s.heap.size ≤ q → A q := fun q h => by rw [← hAe]; exact Or.inr h
  have hS : va_S A s.heap s.heap [] := va_S.rf
  have hl := lv_entry ([.ref (ad 0), .int p1]) (n := 2) (Nat.le_of_ble_eq_true rfl)
  rw [lg_entry_eq]
  generalize (lg_sl ([.ref (ad 0), .int p1]) ++ List.replicate (2 - (lg_sl ([.ref (ad 0), .int p1])).length) Slot.unset).toArray = ls at hl ⊢
  have hl : lv_has ls 2 [(0, .ref (ad 0)), (1, .int p1)] := hl
  change W p l e ({ frames := 4, cells := 0, slots := 0, locals := 85 } : Room) s m _ below meth c s.heap [] 0 0 _ _
  generalize hQm : MQ below (QI ro D (WM ca ad lq omcode mday mown mquot mprom mfiles mowner mlinks mblocks mvals msnaps mranks mkept mshot mwas mholds mheld mends mopen mentr mkinds misop mfilesT mentrT mpromT mlinksT mblocksT mvalsT ++ (WS ca lq vq sZ sB ++ R)) (WM ca ad lq mcode mday mown mquot mprom mfiles mowner mlinks mblocks mvals msnaps mranks mkept mshot mwas mholds mheld mends mopen mentr mkinds misop mfilesT mentrT mpromT mlinksT mblocksT mvalsT ++ (WS ca lq vq sZ sB ++ R)) s.heap.size) _ s 0 0 A = Qm
  have hP : va_P D vwCl (WM ca ad lq mcode mday mown mquot mprom mfiles mowner mlinks mblocks mvals msnaps mranks mkept mshot mwas mholds mheld mends mopen mentr mkinds misop mfilesT mentrT mpromT mlinksT mblocksT mvalsT ++ (WS ca lq vq sZ sB ++ R)) s.heap := hP
  generalize hae : ([.ref (ad 0), .int p1] : List Value).toArray = args at hts hQm ⊢
  refine lv_aload_n hx hb dX4_lineAt_0 rfl (lv_at hl 0 rfl) ?_
  refine lv_iload_n hx hb dX4_lineAt_1 rfl (lv_at hl 1 rfl) ?_
  refine lv_iconst (v := 0) hx hb dX4_lineAt_2 (by decide) ?_
  refine lv_aload_n hx hb dX4_lineAt_3 rfl (lv_at hl 0 rfl) ?_
  refine va_get (D := D) (ci := 8) (v := .ref lq) (C := RX4) (T := TX4) (N := 29) hx hb hts inX4 hown hK hP 0 rfl rfl 28 (by decide) (hts _ q1357) (fun _ h9 => h9) rfl dX4_lineAt_4 ?_
  obtain ⟨r1, h2, hf⟩ := bnd hf
  refine zq_i (rest := [.int 0, .int p1, .ref (ad 0)]) (perm3 (WM ca ad lq mcode mday mown mquot mprom mfiles mowner mlinks mblocks mvals msnaps mranks mkept mshot mwas mholds mheld mends mopen mentr mkinds misop mfilesT mentrT mpromT mlinksT mblocksT mvalsT) (WS ca lq vq sZ sB) R) (m_B_J0_length_8abf5 l ca lq vq sZ sB ((WM ca ad lq mcode mday mown mquot mprom mfiles mowner mlinks mblocks mvals msnaps mranks mkept mshot mwas mholds mheld mends mopen mentr mkinds misop mfilesT mentrT mpromT mlinksT mblocksT mvalsT) ++ R) _ r1 h2) ⟨hx, hb, hml, hown, hts⟩ (cwV 0 hts (gV q1665 q1116 q1117 q48 q1118) rfl rfl rfl (by decide +kernel) ⟨Nat.le_of_ble_eq_true rfl, Nat.le_of_ble_eq_true rfl⟩) (va_recv hK (hP.perm (perm3 (WM ca ad lq mcode mday mown mquot mprom mfiles mowner mlinks mblocks mvals msnaps mranks mkept mshot mwas mholds mheld mends mopen mentr mkinds misop mfilesT mentrT mpromT mlinksT mblocksT mvalsT) (WS ca lq vq sZ sB) R)) (ci := 0) (q0 := 0) rfl rfl) hE hP hD hS hA hZ rfl hl.1 rfl (lv_room (Nat.le_of_ble_eq_true rfl)) dX4_lineAt_7 ⟨Nat.le_of_ble_eq_true rfl, Nat.le_of_ble_eq_true rfl⟩ (fun H locs hP hD hS => ?_)
  refine lv_iconst (v := 1) hx hb dX4_lineAt_10 (by decide) ?_
  refine lv_isub hx hb dX4_lineAt_11 ?_
  obtain ⟨r3, h4, hf⟩ := bnd hf
  refine zs_i (rest := [.ref (ad 0)]) (m_B_X4_in l ca (WM ca ad lq mcode mday mown mquot mprom mfiles mowner mlinks mblocks mvals msnaps mranks mkept mshot mwas mholds mheld mends mopen mentr mkinds misop mfilesT mentrT mpromT mlinksT mblocksT mvalsT ++ (WS ca lq vq sZ sB ++ R)) _ p1 0 (r1 - 1) r3 h4) ⟨hx, hb, hml, hown, hts⟩ (va_cwS 3 hts (gS q1425 q1426 q50 q1427) rfl rfl rfl (by decide +kernel) ⟨Nat.le_of_ble_eq_true rfl, Nat.le_of_ble_eq_true rfl⟩) hE hP hD hS hA hZ rfl hl.1 rfl (lv_room (Nat.le_of_ble_eq_true rfl)) dX4_lineAt_12 ⟨Nat.le_of_ble_eq_true rfl, Nat.le_of_ble_eq_true rfl⟩ (fun H locs hP hD hS => ?_)
  refine lv_if_eq (tgt := 22) hx hb dX4_lineAt_15 (by decide) (fun c5 => ?_) (fun c5 => ?_)
  · have hf := br_pos c5 hf
    refine lv_iconst (v := 1) hx hb dX4_lineAt_22 (by decide) ?_
    refine va_put (D := D) (ci := 8) (v := .int 1) (ty := .int) (C := RX4) (T := TX4) (N := 29) hx hb hts inX4 tyX4 tyX4_ok nmX4 hown hK hP hD hS 0 rfl rfl 0 (by decide) (hts _ q1329) (fun _ h9 => h9) rfl (by decide +kernel) rfl rfl (Nat.le_of_ble_eq_true rfl) dX4_lineAt_23 (fun H locs hP hD hS => ?_)
    have hP : va_P D vwCl (WM ca ad lq 1 mday mown mquot mprom mfiles mowner mlinks mblocks mvals msnaps mranks mkept mshot mwas mholds mheld mends mopen mentr mkinds misop mfilesT mentrT mpromT mlinksT mblocksT mvalsT ++ (WS ca lq vq sZ sB ++ R)) H := hP
    have hD : va_D A (WM ca ad lq 1 mday mown mquot mprom mfiles mowner mlinks mblocks mvals msnaps mranks mkept mshot mwas mholds mheld mends mopen mentr mkinds misop mfilesT mentrT mpromT mlinksT mblocksT mvalsT ++ (WS ca lq vq sZ sB ++ R)) := hD
    refine lv_aload_n hx hb dX4_lineAt_26 rfl (lv_at hl 0 rfl) ?_
    refine va_get (D := D) (ci := 8) (v := .int 1) (C := RX4) (T := TX4) (N := 29) hx hb hts inX4 hown hK hP 0 rfl rfl 0 (by decide) (hts _ q1329) (fun _ h9 => h9) rfl dX4_lineAt_27 ?_
    refine lv_if_le (tgt := 37) hx hb dX4_lineAt_30 (by decide) (fun c6 => ?_) (fun c6 => ?_)
    · exact absurd c6 (by decide)
    refine lv_iconst (v := 0) hx hb dX4_lineAt_33 (by decide) ?_
    refine lv_goto (tgt := 45) hx hb dX4_lineAt_34 (by decide) ?_
    have hj0 := Option.some.inj hf
    obtain ⟨hg0, hj1⟩ := Prod.mk.inj hj0
    subst hg0
    subst hj1
    exact end_i hAe hQm hx hb hr hlocks rfl hP hD hS dX4_lineAt_45
  · have hf := br_neg c5 hf
    refine lv_iconst (v := 0) hx hb dX4_lineAt_18 (by decide) ?_
    refine lv_goto (tgt := 23) hx hb dX4_lineAt_19 (by decide) ?_
    refine va_put (D := D) (ci := 8) (v := .int 0) (ty := .int) (C := RX4) (T := TX4) (N := 29) hx hb hts inX4 tyX4 tyX4_ok nmX4 hown hK hP hD hS 0 rfl rfl 0 (by decide) (hts _ q1329) (fun _ h9 => h9) rfl (by decide +kernel) rfl rfl (Nat.le_of_ble_eq_true rfl) dX4_lineAt_23 (fun H locs hP hD hS => ?_)
    have hP : va_P D vwCl (WM ca ad lq 0 mday mown mquot mprom mfiles mowner mlinks mblocks mvals msnaps mranks mkept mshot mwas mholds mheld mends mopen mentr mkinds misop mfilesT mentrT mpromT mlinksT mblocksT mvalsT ++ (WS ca lq vq sZ sB ++ R)) H := hP
    have hD : va_D A (WM ca ad lq 0 mday mown mquot mprom mfiles mowner mlinks mblocks mvals msnaps mranks mkept mshot mwas mholds mheld mends mopen mentr mkinds misop mfilesT mentrT mpromT mlinksT mblocksT mvalsT ++ (WS ca lq vq sZ sB ++ R)) := hD
    refine lv_aload_n hx hb dX4_lineAt_26 rfl (lv_at hl 0 rfl) ?_
    refine va_get (D := D) (ci := 8) (v := .int 0) (C := RX4) (T := TX4) (N := 29) hx hb hts inX4 hown hK hP 0 rfl rfl 0 (by decide) (hts _ q1329) (fun _ h9 => h9) rfl dX4_lineAt_27 ?_
    refine lv_if_le (tgt := 37) hx hb dX4_lineAt_30 (by decide) (fun c7 => ?_) (fun c7 => ?_)
    rotate_left
    · exact absurd c7 (by decide)
    refine lv_aload_n hx hb dX4_lineAt_37 rfl (lv_at hl 0 rfl) ?_
    refine va_get (D := D) (ci := 8) (v := .ref lq) (C := RX4) (T := TX4) (N := 29) hx hb hts inX4 hown hK hP 0 rfl rfl 28 (by decide) (hts _ q1357) (fun _ h9 => h9) rfl dX4_lineAt_38 ?_
    refine lv_iload_n hx hb dX4_lineAt_41 rfl (lv_at hl 1 rfl) ?_
    obtain ⟨r8, h9, hf⟩ := bnd hf
    refine zq_i (rest := []) (perm3 (WM ca ad lq 0 mday mown mquot mprom mfiles mowner mlinks mblocks mvals msnaps mranks mkept mshot mwas mholds mheld mends mopen mentr mkinds misop mfilesT mentrT mpromT mlinksT mblocksT mvalsT) (WS ca lq vq sZ sB) R) (m_B_J0_charAt_5068e l ca lq vq sZ sB ((WM ca ad lq 0 mday mown mquot mprom mfiles mowner mlinks mblocks mvals msnaps mranks mkept mshot mwas mholds mheld mends mopen mentr mkinds misop mfilesT mentrT mpromT mlinksT mblocksT mvalsT) ++ R) _ p1 r8 h9) ⟨hx, hb, hml, hown, hts⟩ (cwV 1 hts (gV q1670 q1671 q1672 q48 q1673) rfl rfl rfl (by decide +kernel) ⟨Nat.le_of_ble_eq_true rfl, Nat.le_of_ble_eq_true rfl⟩) (va_recv hK (hP.perm (perm3 (WM ca ad lq 0 mday mown mquot mprom mfiles mowner mlinks mblocks mvals msnaps mranks mkept mshot mwas mholds mheld mends mopen mentr mkinds misop mfilesT mentrT mpromT mlinksT mblocksT mvalsT) (WS ca lq vq sZ sB) R)) (ci := 0) (q0 := 0) rfl rfl) hE hP hD hS hA hZ rfl hl.1 rfl (lv_room (Nat.le_of_ble_eq_true rfl)) dX4_lineAt_42 ⟨Nat.le_of_ble_eq_true rfl, Nat.le_of_ble_eq_true rfl⟩ (fun H locs hP hD hS => ?_)
    obtain ⟨k10, hf⟩ := ck_yes hf
    have hj0 := Option.some.inj hf
    obtain ⟨hg0, hj1⟩ := Prod.mk.inj hj0
    subst hg0
    subst hj1
    exact end_i hAe hQm hx hb hr hlocks (nar_c k10) hP hD hS dX4_lineAt_45
def f_case40 (p1 : Int32) (nF : Int32) (oL : Nat → Int64) (mfiles : Int32) : Option ((Nat → Int64) × Int32) :=
  (f_L_writeFile p1 nF oL).bind fun (r1, oL_2) =>
  (f_M_writeFile p1 mfiles).bind fun (r4, mcode_5) =>
  (f_M_thrown mcode_5).bind fun r7 =>
  if r7 = r1 then
    if r1 = 0 then
      if (lg_cmp (oL_2 (0 : Int32).toNatClampNeg) ((r4).toInt64)) = 0 then
        some (oL_2, mcode_5)
      else
        none
    else
      some (oL_2, mcode_5)
  else
    none
set_option maxHeartbeats 4000000 in
set_option maxRecDepth 100000 in
theorem l_case40 {p : Program} {l : Launch} {e : Env} {s : State} {m : MethodId} {below : List Frame} {meth : Method} {c : Code} {Q : State → Prop} {D : va_G} {A : Nat → Prop} {b L : Nat} {xs : Nat → Int32} (ca : Nat → ClassId) (hst : l.stackTraces = false) (hx : p.tables.exec = Jvm.exec) (hb : c.code = code) (hml : c.maxLocals = 9) (hown : s.vm.findClass RL = some m.cls) (hts : ∀ w ∈ WW, w.before #[Value.ref b] s = true) (hE : EE D ca SL0 s) (hA : ∀ q, s.heap.size ≤ q → A q) (hZ : ZZ A s s.heap) (hNC : NCE s) (hX : va_X b L xs s s.heap) (hbl : b < s.heap.size) (hbA : ¬ A b) (ad am : Nat → Nat) (bq oa od lq : Nat) (nF : Int32) (nO : Nat → Int32) (nL : Nat → Int32) (nA : Nat → Int32) (nC : Nat → Int32) (nV : Nat → Int32) (nU : Nat → Int32) (nP : Nat → Int32) (nE : Int32) (bF : Int32) (bO : Nat → Int32) (bL : Nat → Int32) (bA : Nat → Int32) (bC : Nat → Int32) (bV : Nat → Int32) (bU : Nat → Int32) (bP : Nat → Int32) (bE : Int32) (cT : Int32) (cK : Nat → Int32) (cO : Int32) (cQ : Nat → Int32) (cD : Int32) (pT : Int32) (pK : Int32) (pR : Nat → Int32) (pW : Nat → Int32) (pU : Nat → Int32) (pI : Nat → Int32) (pC : Nat → Nat → Int32) (uO : Int32) (uF : Nat → Int32) (uE : Nat → Int32) (uN : Nat → Int32) (wK : Nat → Int32) (jM : Int32) (jN : Int32) (jZ : Nat) (jB : Nat → Int32) (oL : Nat → Int64) (oD : Nat → UInt64) (mcode : Int32) (mday : Int32) (mown : Int32) (mquot : Nat → Int32) (mprom : Nat → Int32) (mfiles : Int32) (mowner : Nat → Int32) (mlinks : Nat → Int32) (mblocks : Nat → Int32) (mvals : Nat → Int32) (msnaps : Int32) (mranks : Nat → Int32) (mkept : Nat → Int32) (mshot : Nat → Int32) (mwas : Nat → Int32) (mholds : Int32) (mheld : Nat → Int32) (mends : Nat → Int32) (mopen : Nat → Int32) (mentr : Int32) (mkinds : Nat → Int32) (misop : Int32) (mfilesT : Int32) (mentrT : Int32) (mpromT : Nat → Int32) (mlinksT : Nat → Int32) (mblocksT : Nat → Int32) (mvalsT : Nat → Int32) (R : va_W) (x5 : Int32) (hi1 : vp_in (x5 + 1) L) (hi2 : vp_in (x5 + 2) L) (hi3 : vp_in (x5 + 3) L) (cN sN : Nat) (hcN : cN + 1100 ≤ 603072) (hsN : sN + 13000 ≤ 7198826) (ooL : Nat → Int64) (omcode : Int32) (hf : f_case40 (xs (x5 + 1).toNatClampNeg) nF oL mfiles = some (ooL, omcode)) {H : Heap} {locs : List Loc} {ls : Array Slot} (hP : va_P D vwCl (WC ca ad bq nF nO nL nA nC nV nU nP nE bF bO bL bA bC bV bU bP bE cT cK cO cQ cD pT pK pR pW pU pI pC uO uF uE uN wK jM jN jZ jB ++ (WO ca oa od oL oD ++ (WM ca am lq mcode mday mown mquot mprom mfiles mowner mlinks mblocks mvals msnaps mranks mkept mshot mwas mholds mheld mends mopen mentr mkinds misop mfilesT mentrT mpromT mlinksT mblocksT mvalsT ++ R))) H) (hD : va_D A (WC ca ad bq nF nO nL nA nC nV nU nP nE bF bO bL bA bC bV bU bP bE cT cK cO cQ cD pT pK pR pW pU pI pC uO uF uE uN wK jM jN jZ jB ++ (WO ca oa od oL oD ++ (WM ca am lq mcode mday mown mquot mprom mfiles mowner mlinks mblocks mvals msnaps mranks mkept mshot mwas mholds mheld mends mopen mentr mkinds misop mfilesT mentrT mpromT mlinksT mblocksT mvalsT ++ R)))) (hS : va_S A s.heap H locs) (hl : lv_has ls 9 [(0, .ref b), (1, .ref (ad 0)), (2, .ref (am 0)), (3, .ref oa), (4, .ref od), (5, .int x5)]) (kk : ∀ (H : Heap) (locs : List Loc) (ls : Array Slot), va_P D vwCl (WC ca ad bq nF nO nL nA nC nV nU nP nE bF bO bL bA bC bV bU bP bE cT cK cO cQ cD pT pK pR pW pU pI pC uO uF uE uN wK jM jN jZ jB ++ (WO ca oa od ooL oD ++ (WM ca am lq omcode mday mown mquot mprom mfiles mowner mlinks mblocks mvals msnaps mranks mkept mshot mwas mholds mheld mends mopen mentr mkinds misop mfilesT mentrT mpromT mlinksT mblocksT mvalsT ++ R))) H → va_D A (WC ca ad bq nF nO nL nA nC nV nU nP nE bF bO bL bA bC bV bU bP bE cT cK cO cQ cD pT pK pR pW pU pI pC uO uF uE uN wK jM jN jZ jB ++ (WO ca oa od ooL oD ++ (WM ca am lq omcode mday mown mquot mprom mfiles mowner mlinks mblocks mvals msnaps mranks mkept mshot mwas mholds mheld mends mopen mentr mkinds misop mfilesT mentrT mpromT mlinksT mblocksT mvalsT ++ R))) → va_S A s.heap H locs → lv_has ls 9 [(0, .ref b), (1, .ref (ad 0)), (2, .ref (am 0)), (3, .ref oa), (4, .ref od), (5, .int x5)] → W p l e room_1 s m #[Value.ref b] below meth c H locs (cN + 1100) (sN + 13000) Q (F0 m 2434 ls [])) : W p l e room_1 s m #[Value.ref b] below meth c H locs cN sN Q (F0 m 2322 ls []) := by
  have hK := hE.1
  unfold f_case40 at hf
  change W p l e room_1 s m #[Value.ref b] below meth c H locs (cN + 0) (sN + 0) Q (F0 m 2322 ls [])
  refine lv_aload_n hx hb dL_law_2322 rfl (lv_at hl 1 rfl) ?_
  refine lv_aload_n hx hb dL_law_2323 rfl (lv_at hl 0 rfl) ?_
  refine lv_iload hx hb dL_law_2324 (lv_at hl 5 rfl) ?_
  refine lv_iconst (v := 1) hx hb dL_law_2326 (by decide) ?_
  refine lv_iadd hx hb dL_law_2327 ?_
  refine va_sld hx hb hX hbl hbA hS hi1 dL_law_2328 ?_
  refine lv_aload_n hx hb dL_law_2329 rfl (lv_at hl 3 rfl) ?_
  obtain ⟨⟨r1, oL_2⟩, h3, hf⟩ := bnd hf
  refine cl_wi (rest := []) (m_L_writeFile l hst ca ad bq oa od nF nO nL nA nC nV nU nP nE bF bO bL bA bC bV bU bP bE cT cK cO cQ cD pT pK pR pW pU pI pC uO uF uE uN wK jM jN jZ jB oL oD (WM ca am lq mcode mday mown mquot mprom mfiles mowner mlinks mblocks mvals msnaps mranks mkept mshot mwas mholds mheld mends mopen mentr mkinds misop mfilesT mentrT mpromT mlinksT mblocksT mvalsT ++ R) _ (xs (x5 + 1).toNatClampNeg) r1 oL_2 h3) ⟨hx, hb, hml, hown, hts⟩ (vx_cwSW 3 hts (gSW q1020 q1021 q40 q1022) rfl rfl rfl (by decide +kernel) ⟨Nat.le_of_ble_eq_true rfl, Nat.le_of_ble_eq_true rfl⟩) hE hP hD hS hA hZ hNC rfl hl.1 rfl (lv_room (Nat.le_of_ble_eq_true rfl)) dL_law_2330 ⟨by show _ ≤ 603072; omega, by show _ ≤ 7198826; omega⟩ (fun H locs hP hD hS => ?_)
  refine lv_istore (lv' := [(6, .int r1), (0, .ref b), (1, .ref (ad 0)), (2, .ref (am 0)), (3, .ref oa), (4, .ref od), (5, .int x5)]) hx hb dL_law_2333 hl (by decide) rfl (fun ls hl => ?_)
  refine lv_aload_n hx hb dL_law_2335 rfl (lv_at hl 3 rfl) ?_
  refine lv_aload_n hx hb dL_law_2336 rfl (lv_at hl 1 rfl) ?_
  refine lv_iload hx hb dL_law_2337 (lv_at hl 6 rfl) ?_
  refine lv_iconst (v := 1) hx hb dL_law_2339 (by decide) ?_
  refine lv_iadd hx hb dL_law_2340 ?_
  refine va_sld hx hb hX hbl hbA hS hi1 dL_law_2341 ?_
  obtain ⟨⟨r4, mcode_5⟩, h6, hf⟩ := bnd hf
  refine cm_i (rest := []) (m_M_writeFile l ca am lq mcode mday mown mquot mprom mfiles mowner mlinks mblocks mvals msnaps mranks mkept mshot mwas mholds mheld mends mopen mentr mkinds misop mfilesT mentrT mpromT mlinksT mblocksT mvalsT (WC ca ad bq nF nO nL nA nC nV nU nP nE bF bO bL bA bC bV bU bP bE cT cK cO cQ cD pT pK pR pW pU pI pC uO uF uE uN wK jM jN jZ jB ++ (WO ca oa od oL_2 oD ++ R)) _ (xs (x5 + 1).toNatClampNeg) r4 mcode_5 h6) ⟨hx, hb, hml, hown, hts⟩ (cwV 1 hts (gV q1656 q1657 q1658 q50 q1659) rfl rfl rfl (by decide +kernel) ⟨Nat.le_of_ble_eq_true rfl, Nat.le_of_ble_eq_true rfl⟩) (va_recv hK hP (ci := 8) (q0 := 42) rfl rfl) hE hP hD hS hA rfl hl.1 rfl (lv_room (Nat.le_of_ble_eq_true rfl)) dL_law_2342 ⟨by show _ ≤ 603072; omega, by show _ ≤ 7198826; omega⟩ (fun H locs hP hD hS => ?_)
  refine lv_istore (lv' := [(7, .int r4), (6, .int r1), (0, .ref b), (1, .ref (ad 0)), (2, .ref (am 0)), (3, .ref oa), (4, .ref od), (5, .int x5)]) hx hb dL_law_2345 hl (by decide) rfl (fun ls hl => ?_)
  refine lv_aload_n hx hb dL_law_2347 rfl (lv_at hl 4 rfl) ?_
  obtain ⟨r7, h8, hf⟩ := bnd hf
  refine cm_i (rest := []) (m_M_thrown l ca am lq mcode_5 mday mown mquot mprom mfiles mowner mlinks mblocks mvals msnaps mranks mkept mshot mwas mholds mheld mends mopen mentr mkinds misop mfilesT mentrT mpromT mlinksT mblocksT mvalsT (WC ca ad bq nF nO nL nA nC nV nU nP nE bF bO bL bA bC bV bU bP bE cT cK cO cQ cD pT pK pR pW pU pI pC uO uF uE uN wK jM jN jZ jB ++ (WO ca oa od oL_2 oD ++ R)) _ r7 h8) ⟨hx, hb, hml, hown, hts⟩ (cwV 0 hts (gV q1417 q1418 q1419 q50 q1420) rfl rfl rfl (by decide +kernel) ⟨Nat.le_of_ble_eq_true rfl, Nat.le_of_ble_eq_true rfl⟩) (va_recv hK hP (ci := 8) (q0 := 42) rfl rfl) hE hP hD hS hA rfl hl.1 rfl (lv_room (Nat.le_of_ble_eq_true rfl)) dL_law_2348 ⟨by show _ ≤ 603072; omega, by show _ ≤ 7198826; omega⟩ (fun H locs hP hD hS => ?_)
  refine lv_iload hx hb dL_law_2351 (lv_at hl 1 rfl) ?_
  refine lv_icmp_eq (tgt := 2358) hx hb dL_law_2353 (by decide) (fun c9 => ?_) (fun c9 => ?_)
  · have hf := br_pos c9 hf
    refine lv_iload hx hb dL_law_2358 (lv_at hl 1 rfl) ?_
    refine lv_if_ne (tgt := 2375) hx hb dL_law_2360 (by decide) (fun c10 => ?_) (fun c10 => ?_)
    · have hf := br_neg c10 hf
      refine lv_goto (tgt := 2434) hx hb dL_law_2375 (by decide) ?_
      cases hf
      refine W.widen (k := cN + 1100) (n := sN + 13000) (by omega) (by omega) ?_
      exact kk _ _ _ hP hD hS (lv_sub hl [2, 3, 4, 5, 6, 7] rfl)
    · have hf := br_pos c10 hf
      refine lv_aload_n hx hb dL_law_2363 rfl (lv_at hl 5 rfl) ?_
      refine lv_iconst (v := 0) hx hb dL_law_2364 (by decide) ?_
      refine va_lald (D := D) hx hb hK hP 40 5 rfl rfl (by unfold vp_in; decide) dL_law_2365 ?_
      refine lv_iload hx hb dL_law_2366 (lv_at hl 0 rfl) ?_
      refine lv_i2l hx hb dL_law_2368 rfl ?_
      refine W.lcmp hx hb dL_law_2369 ?_
      refine lv_if_eq (tgt := 2375) hx hb dL_law_2370 (by decide) (fun c11 => ?_) (fun c11 => ?_)
      · have hf := br_pos c11 hf
        refine lv_goto (tgt := 2434) hx hb dL_law_2375 (by decide) ?_
        cases hf
        refine W.widen (k := cN + 1100) (n := sN + 13000) (by omega) (by omega) ?_
        exact kk _ _ _ hP hD hS (lv_sub hl [2, 3, 4, 5, 6, 7] rfl)
      · have hf := br_neg c11 hf
        refine lv_iconst (v := 0) hx hb dL_law_2373 (by decide) ?_
        cases hf
  · have hf := br_neg c9 hf
    refine lv_iconst (v := 0) hx hb dL_law_2356 (by decide) ?_
    cases hf
