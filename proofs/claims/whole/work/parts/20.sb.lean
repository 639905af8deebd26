/-! the line's builder: its world, the leaves of its methods (printed by program) -/
abbrev WB (ca : Nat → ClassId) (aq : Nat) (bq : Nat) (jM : Int32) (jN : Int32) (jZ : Nat) (jB : Nat → Int32) : va_W :=
  [(aq, .inr (1, [.ref bq, .int 0, .int jM, .int jN])),
   (bq, .inl (ca 3, jZ, .inl jB))]
/-! THE LINE'S BUILDER: calls in a world with the statics -/
theorem gU {own C owner : String} {idx : Nat} {x y : MethodName} {cc : ByteArray} {n : Nat} {r : Option FieldType} (h1 : Cond.methodLink own idx x ∈ WW) (h2 : Cond.sameMethod x.cls owner x.name x.desc ∈ WW) (h3 : Cond.selects C x y ∈ WW) (h4 : Cond.instanceMethod y ∈ WW) (h5 : Cond.initialized y.cls ∈ WW) (h6 : Cond.code y cc n r ∈ WW) : GoodIn WW (va_wsU own idx C owner x y (wm y cc n r)) :=
  goodIn_app (gW fun w hw => by
    rcases List.mem_cons.mp hw with rfl | hw
    · exact h1
    rcases List.mem_cons.mp hw with rfl | hw
    · exact h2
    rcases List.mem_cons.mp hw with rfl | hw
    · exact h3
    rcases List.mem_cons.mp hw with rfl | hw
    · exact h4
    rcases List.mem_cons.mp hw with rfl | hw
    · exact h5
    cases hw) (gM h6)
theorem gSU {own : String} {idx : Nat} {y : MethodName} {cc : ByteArray} {n : Nat} {r : Option FieldType} (h1 : Cond.methodLink own idx y ∈ WW) (h2 : Cond.sameMethod y.cls y.cls y.name y.desc ∈ WW) (h3 : Cond.superclass own y.cls ∈ WW) (h4 : Cond.instanceMethod y ∈ WW) (h5 : Cond.initialized y.cls ∈ WW) (h6 : Cond.code y cc n r ∈ WW) : GoodIn WW (va_wsSU own idx y (wm y cc n r)) :=
  goodIn_app (gW fun w hw => by
    rcases List.mem_cons.mp hw with rfl | hw
    · exact h1
    rcases List.mem_cons.mp hw with rfl | hw
    · exact h2
    rcases List.mem_cons.mp hw with rfl | hw
    · exact h3
    rcases List.mem_cons.mp hw with rfl | hw
    · exact h4
    rcases List.mem_cons.mp hw with rfl | hw
    · exact h5
    cases hw) (gM h6)
theorem clsAt {D : va_G} {tys : List (ClassId × FieldType)} {s : State} (hK : va_K D vwCl tys s) {ci : Nat} {q : vw_C} (h : vwCl[ci]? = some q) : ClassAt s q.1 (D.1 ci) := by
  obtain ⟨-, hfc, kC, hkC, hkind⟩ := hK.1 ci q h
  exact ⟨hfc, kC, hkC, hkind⟩
section ZCALL
variable {p : Program} {l : Launch} {e : Env} {Rm : Room} {s : State} {m : MethodId} {args : Array Value} {below : List Frame} {meth : Method} {c : Code} {H : Heap} {locs : List Loc} {cells slots : Nat} {Q : State → Prop}
variable {y x : MethodName} {bytes cc : ByteArray} {maxL nL mc ms n index : Nat} {ret : Option FieldType} {rm : Room} {own C owner : String} {b : Nat} {As rest st : List Value} {pc : Nat} {ls : Array Slot}
variable {D : va_G} {ca : Nat → ClassId} {sl : List (String × Nat × String)} {w w' : va_W} {A0 : Nat → Prop}
theorem zs_i {r : Int32} (hM : Met l y (wm y bytes maxL ret) rm (PREX As D ca sl w H.size) (QI r D w' w H.size) mc ms (va_A w H.size)) (S : CallFix p m c cc nL s args WW own) (cw : CallB Rm s args own index y bytes maxL ret (wm y bytes maxL ret) rm mc ms n ∧ (Cond.static y).before args s = true)
    (hE : EE D ca sl s) (hP : va_P D vwCl w H) (hD : va_D A0 w) (hS : va_S A0 s.heap H locs) (hA : ∀ q, s.heap.size ≤ q → A0 q) (hZ : ZZ A0 s s.heap)
    (hn : As.length = n) (hsize : ls.size = nL) (hst : st = As.reverse ++ rest) (hW : 2 * (F0 m pc ls st).monitorRoom + (rest.map fun v => v.category).sum ≤ 8) (hdg : decode cc pc = .ok (.invokestatic index, 3)) (hf : cells + mc ≤ Rm.cells ∧ slots + ms ≤ Rm.slots)
    (kk : ∀ (H1 : Heap) (locs1 : List Loc), va_P D vwCl w' H1 → va_D A0 w' → va_S A0 s.heap H1 locs1 → W p l e Rm s m args below meth c H1 locs1 (cells + mc) (slots + ms) Q (F0 m (pc + 3) ls (.int r :: rest))) : W p l e Rm s m args below meth c H locs cells slots Q (F0 m pc ls st) :=
  va_calli (va_runS S hM cw ⟨PREX_blind, prex_ok hE hP hD hS hA hZ⟩ rfl hn hsize hst hW hdg hf) hS (fun q _ h => vaA_sub hD hS hA q h) (vaA_sub hD hS hA) (fun r' u t H1 locs1 ht hvm hw hB hz1 hk1 hS1 => by
    obtain ⟨hP1, hD1⟩ := bw_ok hD hS hA ht hB
    rw [show r' = r from hw]
    exact kk H1 locs1 hP1 hD1 hS1)
theorem zs_v (hM : Met l y (wm y bytes maxL ret) rm (PREX As D ca sl w H.size) (QV D w' w H.size) mc ms (va_A w H.size)) (S : CallFix p m c cc nL s args WW own) (cw : CallB Rm s args own index y bytes maxL ret (wm y bytes maxL ret) rm mc ms n ∧ (Cond.static y).before args s = true)
    (hE : EE D ca sl s) (hP : va_P D vwCl w H) (hD : va_D A0 w) (hS : va_S A0 s.heap H locs) (hA : ∀ q, s.heap.size ≤ q → A0 q) (hZ : ZZ A0 s s.heap)
    (hn : As.length = n) (hsize : ls.size = nL) (hst : st = As.reverse ++ rest) (hW : 2 * (F0 m pc ls st).monitorRoom + (rest.map fun v => v.category).sum ≤ 8) (hdg : decode cc pc = .ok (.invokestatic index, 3)) (hf : cells + mc ≤ Rm.cells ∧ slots + ms ≤ Rm.slots)
    (kk : ∀ (H1 : Heap) (locs1 : List Loc), va_P D vwCl w' H1 → va_D A0 w' → va_S A0 s.heap H1 locs1 → W p l e Rm s m args below meth c H1 locs1 (cells + mc) (slots + ms) Q (F0 m (pc + 3) ls rest)) : W p l e Rm s m args below meth c H locs cells slots Q (F0 m pc ls st) :=
  va_callv (va_runS S hM cw ⟨PREX_blind, prex_ok hE hP hD hS hA hZ⟩ rfl hn hsize hst hW hdg hf) hS (fun q _ h => vaA_sub hD hS hA q h) (vaA_sub hD hS hA) (fun u t H1 locs1 ht hvm hw hB hz1 hk1 hS1 => by
    obtain ⟨hP1, hD1⟩ := bw_ok hD hS hA ht hB
    exact kk H1 locs1 hP1 hD1 hS1)
theorem zv_i {r : Int32} (hM : Met l y (wm y bytes maxL ret) rm (PREX (.ref b :: As) D ca sl w H.size) (QI r D w' w H.size) mc ms (va_A w H.size)) (S : CallFix p m c cc nL s args WW own) (cw : CallW Rm s args own C index y bytes maxL ret (wm y bytes maxL ret) rm mc ms n)
    (hrecv : ∃ cellB : Cell, H[b]? = some cellB ∧ cellB.vm.isStatics = false ∧ s.vm.findClass C = some cellB.cls) (hE : EE D ca sl s) (hP : va_P D vwCl w H) (hD : va_D A0 w) (hS : va_S A0 s.heap H locs) (hA : ∀ q, s.heap.size ≤ q → A0 q) (hZ : ZZ A0 s s.heap)
    (hn : As.length = n) (hsize : ls.size = nL) (hst : st = As.reverse ++ .ref b :: rest) (hW : 2 * (F0 m pc ls st).monitorRoom + (rest.map fun v => v.category).sum ≤ 8) (hdg : decode cc pc = .ok (.invokevirtual index, 3)) (hf : cells + mc ≤ Rm.cells ∧ slots + ms ≤ Rm.slots)
    (kk : ∀ (H1 : Heap) (locs1 : List Loc), va_P D vwCl w' H1 → va_D A0 w' → va_S A0 s.heap H1 locs1 → W p l e Rm s m args below meth c H1 locs1 (cells + mc) (slots + ms) Q (F0 m (pc + 3) ls (.int r :: rest))) : W p l e Rm s m args below meth c H locs cells slots Q (F0 m pc ls st) :=
  va_calli (va_runV S hM cw ⟨PREX_blind, hrecv, prex_ok hE hP hD hS hA hZ⟩ rfl hn hsize hst hW hdg hf) hS (fun q _ h => vaA_sub hD hS hA q h) (vaA_sub hD hS hA) (fun r' u t H1 locs1 ht hvm hw hB hz1 hk1 hS1 => by
    obtain ⟨hP1, hD1⟩ := bw_ok hD hS hA ht hB
    rw [show r' = r from hw]
    exact kk H1 locs1 hP1 hD1 hS1)
theorem zv_v (hM : Met l y (wm y bytes maxL ret) rm (PREX (.ref b :: As) D ca sl w H.size) (QV D w' w H.size) mc ms (va_A w H.size)) (S : CallFix p m c cc nL s args WW own) (cw : CallW Rm s args own C index y bytes maxL ret (wm y bytes maxL ret) rm mc ms n)
    (hrecv : ∃ cellB : Cell, H[b]? = some cellB ∧ cellB.vm.isStatics = false ∧ s.vm.findClass C = some cellB.cls) (hE : EE D ca sl s) (hP : va_P D vwCl w H) (hD : va_D A0 w) (hS : va_S A0 s.heap H locs) (hA : ∀ q, s.heap.size ≤ q → A0 q) (hZ : ZZ A0 s s.heap)
    (hn : As.length = n) (hsize : ls.size = nL) (hst : st = As.reverse ++ .ref b :: rest) (hW : 2 * (F0 m pc ls st).monitorRoom + (rest.map fun v => v.category).sum ≤ 8) (hdg : decode cc pc = .ok (.invokevirtual index, 3)) (hf : cells + mc ≤ Rm.cells ∧ slots + ms ≤ Rm.slots)
    (kk : ∀ (H1 : Heap) (locs1 : List Loc), va_P D vwCl w' H1 → va_D A0 w' → va_S A0 s.heap H1 locs1 → W p l e Rm s m args below meth c H1 locs1 (cells + mc) (slots + ms) Q (F0 m (pc + 3) ls rest)) : W p l e Rm s m args below meth c H locs cells slots Q (F0 m pc ls st) :=
  va_callv (va_runV S hM cw ⟨PREX_blind, hrecv, prex_ok hE hP hD hS hA hZ⟩ rfl hn hsize hst hW hdg hf) hS (fun q _ h => vaA_sub hD hS hA q h) (vaA_sub hD hS hA) (fun u t H1 locs1 ht hvm hw hB hz1 hk1 hS1 => by
    obtain ⟨hP1, hD1⟩ := bw_ok hD hS hA ht hB
    exact kk H1 locs1 hP1 hD1 hS1)
theorem zu_i {r : Int32} (hM : Met l y (wm y bytes maxL ret) rm (PREX (.ref b :: As) D ca sl w H.size) (QI r D w' w H.size) mc ms (va_A w H.size)) (S : CallFix p m c cc nL s args WW own) (cw : va_CU Rm s args own C owner index x y bytes maxL ret (wm y bytes maxL ret) rm mc ms n)
    (hrecv : ∃ cellB : Cell, H[b]? = some cellB ∧ cellB.vm.isStatics = false ∧ s.vm.findClass C = some cellB.cls) (hE : EE D ca sl s) (hP : va_P D vwCl w H) (hD : va_D A0 w) (hS : va_S A0 s.heap H locs) (hA : ∀ q, s.heap.size ≤ q → A0 q) (hZ : ZZ A0 s s.heap)
    (hn : As.length = n) (hsize : ls.size = nL) (hst : st = As.reverse ++ .ref b :: rest) (hW : 2 * (F0 m pc ls st).monitorRoom + (rest.map fun v => v.category).sum ≤ 8) (hdg : decode cc pc = .ok (.invokevirtual index, 3)) (hf : cells + mc ≤ Rm.cells ∧ slots + ms ≤ Rm.slots)
    (kk : ∀ (H1 : Heap) (locs1 : List Loc), va_P D vwCl w' H1 → va_D A0 w' → va_S A0 s.heap H1 locs1 → W p l e Rm s m args below meth c H1 locs1 (cells + mc) (slots + ms) Q (F0 m (pc + 3) ls (.int r :: rest))) : W p l e Rm s m args below meth c H locs cells slots Q (F0 m pc ls st) :=
  va_calli (va_runU S hM cw ⟨PREX_blind, hrecv, prex_ok hE hP hD hS hA hZ⟩ rfl hn hsize hst hW hdg hf) hS (fun q _ h => vaA_sub hD hS hA q h) (vaA_sub hD hS hA) (fun r' u t H1 locs1 ht hvm hw hB hz1 hk1 hS1 => by
    obtain ⟨hP1, hD1⟩ := bw_ok hD hS hA ht hB
    rw [show r' = r from hw]
    exact kk H1 locs1 hP1 hD1 hS1)
theorem zu_v (hM : Met l y (wm y bytes maxL ret) rm (PREX (.ref b :: As) D ca sl w H.size) (QV D w' w H.size) mc ms (va_A w H.size)) (S : CallFix p m c cc nL s args WW own) (cw : va_CU Rm s args own C owner index x y bytes maxL ret (wm y bytes maxL ret) rm mc ms n)
    (hrecv : ∃ cellB : Cell, H[b]? = some cellB ∧ cellB.vm.isStatics = false ∧ s.vm.findClass C = some cellB.cls) (hE : EE D ca sl s) (hP : va_P D vwCl w H) (hD : va_D A0 w) (hS : va_S A0 s.heap H locs) (hA : ∀ q, s.heap.size ≤ q → A0 q) (hZ : ZZ A0 s s.heap)
    (hn : As.length = n) (hsize : ls.size = nL) (hst : st = As.reverse ++ .ref b :: rest) (hW : 2 * (F0 m pc ls st).monitorRoom + (rest.map fun v => v.category).sum ≤ 8) (hdg : decode cc pc = .ok (.invokevirtual index, 3)) (hf : cells + mc ≤ Rm.cells ∧ slots + ms ≤ Rm.slots)
    (kk : ∀ (H1 : Heap) (locs1 : List Loc), va_P D vwCl w' H1 → va_D A0 w' → va_S A0 s.heap H1 locs1 → W p l e Rm s m args below meth c H1 locs1 (cells + mc) (slots + ms) Q (F0 m (pc + 3) ls rest)) : W p l e Rm s m args below meth c H locs cells slots Q (F0 m pc ls st) :=
  va_callv (va_runU S hM cw ⟨PREX_blind, hrecv, prex_ok hE hP hD hS hA hZ⟩ rfl hn hsize hst hW hdg hf) hS (fun q _ h => vaA_sub hD hS hA q h) (vaA_sub hD hS hA) (fun u t H1 locs1 ht hvm hw hB hz1 hk1 hS1 => by
    obtain ⟨hP1, hD1⟩ := bw_ok hD hS hA ht hB
    exact kk H1 locs1 hP1 hD1 hS1)
theorem zp_i {r : Int32} {cC : ClassId} (hM : Met l y (wm y bytes maxL ret) rm (PREX (.ref b :: As) D ca sl w H.size) (QI r D w' w H.size) mc ms (va_A w H.size)) (hat : ClassAt s C cC) (S : CallFix p m c cc nL s args WW own) (cw : va_CS Rm s args own index y bytes maxL ret (wm y bytes maxL ret) rm mc ms n)
    (hrecv : ∃ cellB : Cell, H[b]? = some cellB ∧ cellB.vm.isStatics = false ∧ s.vm.findClass C = some cellB.cls) (hE : EE D ca sl s) (hP : va_P D vwCl w H) (hD : va_D A0 w) (hS : va_S A0 s.heap H locs) (hA : ∀ q, s.heap.size ≤ q → A0 q) (hZ : ZZ A0 s s.heap)
    (hn : As.length = n) (hsize : ls.size = nL) (hst : st = As.reverse ++ .ref b :: rest) (hW : 2 * (F0 m pc ls st).monitorRoom + (rest.map fun v => v.category).sum ≤ 8) (hdg : decode cc pc = .ok (.invokespecial index, 3)) (hf : cells + mc ≤ Rm.cells ∧ slots + ms ≤ Rm.slots)
    (kk : ∀ (H1 : Heap) (locs1 : List Loc), va_P D vwCl w' H1 → va_D A0 w' → va_S A0 s.heap H1 locs1 → W p l e Rm s m args below meth c H1 locs1 (cells + mc) (slots + ms) Q (F0 m (pc + 3) ls (.int r :: rest))) : W p l e Rm s m args below meth c H locs cells slots Q (F0 m pc ls st) :=
  va_calli (va_runSU hat S hM cw ⟨PREX_blind, hrecv, prex_ok hE hP hD hS hA hZ⟩ rfl hn hsize hst hW hdg hf) hS (fun q _ h => vaA_sub hD hS hA q h) (vaA_sub hD hS hA) (fun r' u t H1 locs1 ht hvm hw hB hz1 hk1 hS1 => by
    obtain ⟨hP1, hD1⟩ := bw_ok hD hS hA ht hB
    rw [show r' = r from hw]
    exact kk H1 locs1 hP1 hD1 hS1)
theorem zp_v {cC : ClassId} (hM : Met l y (wm y bytes maxL ret) rm (PREX (.ref b :: As) D ca sl w H.size) (QV D w' w H.size) mc ms (va_A w H.size)) (hat : ClassAt s C cC) (S : CallFix p m c cc nL s args WW own) (cw : va_CS Rm s args own index y bytes maxL ret (wm y bytes maxL ret) rm mc ms n)
    (hrecv : ∃ cellB : Cell, H[b]? = some cellB ∧ cellB.vm.isStatics = false ∧ s.vm.findClass C = some cellB.cls) (hE : EE D ca sl s) (hP : va_P D vwCl w H) (hD : va_D A0 w) (hS : va_S A0 s.heap H locs) (hA : ∀ q, s.heap.size ≤ q → A0 q) (hZ : ZZ A0 s s.heap)
    (hn : As.length = n) (hsize : ls.size = nL) (hst : st = As.reverse ++ .ref b :: rest) (hW : 2 * (F0 m pc ls st).monitorRoom + (rest.map fun v => v.category).sum ≤ 8) (hdg : decode cc pc = .ok (.invokespecial index, 3)) (hf : cells + mc ≤ Rm.cells ∧ slots + ms ≤ Rm.slots)
    (kk : ∀ (H1 : Heap) (locs1 : List Loc), va_P D vwCl w' H1 → va_D A0 w' → va_S A0 s.heap H1 locs1 → W p l e Rm s m args below meth c H1 locs1 (cells + mc) (slots + ms) Q (F0 m (pc + 3) ls rest)) : W p l e Rm s m args below meth c H locs cells slots Q (F0 m pc ls st) :=
  va_callv (va_runSU hat S hM cw ⟨PREX_blind, hrecv, prex_ok hE hP hD hS hA hZ⟩ rfl hn hsize hst hW hdg hf) hS (fun q _ h => vaA_sub hD hS hA q h) (vaA_sub hD hS hA) (fun u t H1 locs1 ht hvm hw hB hz1 hk1 hS1 => by
    obtain ⟨hP1, hD1⟩ := bw_ok hD hS hA ht hB
    exact kk H1 locs1 hP1 hD1 hS1)
end ZCALL
def f_B_J5_isLatin1_aae02  : Option (Int32) :=
  some 1
set_option maxHeartbeats 4000000 in
set_option maxRecDepth 100000 in
theorem m_B_J5_isLatin1_aae02 (l : Launch) {D : va_G} {sl : List (String × Nat × String)} (ca : Nat → ClassId) (aq : Nat) (bq : Nat) (jM : Int32) (jN : Int32) (jZ : Nat) (jB : Nat → Int32) (R : va_W) (sz : Nat) (ro : Int32) (hf : f_B_J5_isLatin1_aae02 = some ro) : Met l yJ5_isLatin1_aae02 (wm yJ5_isLatin1_aae02 cJ5_isLatin1_aae02 1 (some .boolean)) ({ frames := 0, cells := 0, slots := 0, locals := 0 } : Room) (PREX [.ref aq] D ca sl (WB ca aq bq jM jN jZ jB ++ R) sz) (QI ro D (WB ca aq bq jM jN jZ jB ++ R) (WB ca aq bq jM jN jZ jB ++ R) sz) 0 0 (va_A (WB ca aq bq jM jN jZ jB ++ R) sz) := by
  refine Met.ofW (cc := cJ5_isLatin1_aae02) (maxL := 1) (ret := (some .boolean)) (by decide) rfl ?_
  intro p e s m args below meth c s₁ B hml hv
  obtain ⟨rfl, rfl, hP, hE, hD0, hZ⟩ := hv
  have hx := B.exec
  have hb := B.bytes
  have hr := B.returns
  have hts := wm_ww (atoms_spec (ws := wm yJ5_isLatin1_aae02 cJ5_isLatin1_aae02 1 (some .boolean)) B.pre)
  have hown : s.vm.findClass RJ5 = some m.cls := findClass_of_methodNamed B.named
  have hlocks := B.notSynchronized
  have hK := hE.1
  have hD := hD0.self (sz := s.heap.size)
  generalize hAe : va_A (WB ca aq bq jM jN jZ jB ++ R) s.heap.size = A at hD hZ ⊢
  have hA : ∀ q : Nat, s.heap.size ≤ q → A q := fun q h => by rw [← hAe]; exact Or.inr h
  have hS : va_S A s.heap s.heap [] := va_S.rf
  have hl := lv_entry ([.ref aq]) (n := 1) (Nat.le_of_ble_eq_true rfl)
  rw [lg_entry_eq]
  generalize (lg_sl ([.ref aq]) ++ List.replicate (1 - (lg_sl ([.ref aq])).length) Slot.unset).toArray = ls at hl ⊢
  have hl : lv_has ls 1 [(0, .ref aq)] := hl
  change W p l e ({ frames := 0, cells := 0, slots := 0, locals := 0 } : Room) s m _ below meth c s.heap [] 0 0 _ _
  generalize hQm : MQ below (QI ro D (WB ca aq bq jM jN jZ jB ++ R) (WB ca aq bq jM jN jZ jB ++ R) s.heap.size) _ s 0 0 A = Qm
  have hP : va_P D vwCl (WB ca aq bq jM jN jZ jB ++ R) s.heap := hP
  generalize hae : ([.ref aq] : List Value).toArray = args at hts hQm ⊢
  refine va_gets (v := .int 1) hx hb hZ.2.2.1 hS hown (hts _ q177) (fun _ h9 => h9) dJ5_isLatin1_aae02_0 ?_
  refine lv_if_eq (tgt := 17) hx hb dJ5_isLatin1_aae02_3 (by decide) (fun c1 => ?_) (fun c1 => ?_)
  · exact absurd c1 (by decide)
  refine lv_aload_n hx hb dJ5_isLatin1_aae02_6 rfl (lv_at hl 0 rfl) ?_
  refine va_get (D := D) (ci := 1) (v := .int 0) (C := RJ4) (T := TJ4) (N := 4) hx hb hts inJ4 hown hK hP 0 rfl rfl 1 (by decide) (hts _ q187) (fun _ h9 => h9) rfl dJ5_isLatin1_aae02_7 ?_
  refine lv_if_ne (tgt := 17) hx hb dJ5_isLatin1_aae02_10 (by decide) (fun c2 => ?_) (fun c2 => ?_)
  · exact absurd c2 (by decide)
  refine lv_iconst (v := 1) hx hb dJ5_isLatin1_aae02_13 (by decide) ?_
  refine lv_goto (tgt := 18) hx hb dJ5_isLatin1_aae02_14 (by decide) ?_
  cases hf
  exact end_i hAe hQm hx hb hr hlocks rfl hP hD hS dJ5_isLatin1_aae02_18
def f_B_J5_length_8abf5 (jN : Int32) : Option (Int32) :=
  some jN
set_option maxHeartbeats 4000000 in
set_option maxRecDepth 100000 in
theorem m_B_J5_length_8abf5 (l : Launch) {D : va_G} {sl : List (String × Nat × String)} (ca : Nat → ClassId) (aq : Nat) (bq : Nat) (jM : Int32) (jN : Int32) (jZ : Nat) (jB : Nat → Int32) (R : va_W) (sz : Nat) (ro : Int32) (hf : f_B_J5_length_8abf5 jN = some ro) : Met l yJ5_length_8abf5 (wm yJ5_length_8abf5 cJ5_length_8abf5 1 (some .int)) ({ frames := 0, cells := 0, slots := 0, locals := 0 } : Room) (PREX [.ref aq] D ca sl (WB ca aq bq jM jN jZ jB ++ R) sz) (QI ro D (WB ca aq bq jM jN jZ jB ++ R) (WB ca aq bq jM jN jZ jB ++ R) sz) 0 0 (va_A (WB ca aq bq jM jN jZ jB ++ R) sz) := by
  refine Met.ofW (cc := cJ5_length_8abf5) (maxL := 1) (ret := (some .int)) (by decide) rfl ?_
  intro p e s m args below meth c s₁ B hml hv
  obtain ⟨rfl, rfl, hP, hE, hD0, hZ⟩ := hv
  have hx := B.exec
  have hb := B.bytes
  have hr := B.returns
  have hts := wm_ww (atoms_spec (ws := wm yJ5_length_8abf5 cJ5_length_8abf5 1 (some .int)) B.pre)
  have hown : s.vm.findClass RJ5 = some m.cls := findClass_of_methodNamed B.named
  have hlocks := B.notSynchronized
  have hK := hE.1
  have hD := hD0.self (sz := s.heap.size)
  generalize hAe : va_A (WB ca aq bq jM jN jZ jB ++ R) s.heap.size = A at hD hZ ⊢
  have hA : ∀ q : Nat, s.heap.size ≤ q → A q := fun q h => by rw [← hAe]; exact Or.inr h
  have hS : va_S A s.heap s.heap [] := va_S.rf
  have hl := lv_entry ([.ref aq]) (n := 1) (Nat.le_of_ble_eq_true rfl)
  rw [lg_entry_eq]
  generalize (lg_sl ([.ref aq]) ++ List.replicate (1 - (lg_sl ([.ref aq])).length) Slot.unset).toArray = ls at hl ⊢
  have hl : lv_has ls 1 [(0, .ref aq)] := hl
  change W p l e ({ frames := 0, cells := 0, slots := 0, locals := 0 } : Room) s m _ below meth c s.heap [] 0 0 _ _
  generalize hQm : MQ below (QI ro D (WB ca aq bq jM jN jZ jB ++ R) (WB ca aq bq jM jN jZ jB ++ R) s.heap.size) _ s 0 0 A = Qm
  have hP : va_P D vwCl (WB ca aq bq jM jN jZ jB ++ R) s.heap := hP
  generalize hae : ([.ref aq] : List Value).toArray = args at hts hQm ⊢
  refine lv_aload_n hx hb dJ5_length_8abf5_0 rfl (lv_at hl 0 rfl) ?_
  refine va_get (D := D) (ci := 1) (v := .int jN) (C := RJ4) (T := TJ4) (N := 4) hx hb hts inJ4 hown hK hP 0 rfl rfl 3 (by decide) (hts _ q190) (fun _ h9 => h9) rfl dJ5_length_8abf5_1 ?_
  cases hf
  exact end_i hAe hQm hx hb hr hlocks rfl hP hD hS dJ5_length_8abf5_4
def f_B_J1_canEncode_fc78d (p0 : Int32) : Option (Int32) :=
  if 255 < p0 then
    some 0
  else
    some 1
set_option maxHeartbeats 4000000 in
set_option maxRecDepth 100000 in
theorem m_B_J1_canEncode_fc78d (l : Launch) {D : va_G} {sl : List (String × Nat × String)} (ca : Nat → ClassId) (R : va_W) (sz : Nat) (p0 : Int32) (ro : Int32) (hf : f_B_J1_canEncode_fc78d p0 = some ro) : Met l yJ1_canEncode_fc78d (wm yJ1_canEncode_fc78d cJ1_canEncode_fc78d 1 (some .boolean)) ({ frames := 0, cells := 0, slots := 0, locals := 0 } : Room) (PREX [.int p0] D ca sl R sz) (QI ro D R R sz) 0 0 (va_A R sz) := by
  refine Met.ofW (cc := cJ1_canEncode_fc78d) (maxL := 1) (ret := (some .boolean)) (by decide) rfl ?_
  intro p e s m args below meth c s₁ B hml hv
  obtain ⟨rfl, rfl, hP, hE, hD0, hZ⟩ := hv
  have hx := B.exec
  have hb := B.bytes
  have hr := B.returns
  have hts := wm_ww (atoms_spec (ws := wm yJ1_canEncode_fc78d cJ1_canEncode_fc78d 1 (some .boolean)) B.pre)
  have hown : s.vm.findClass RJ1 = some m.cls := findClass_of_methodNamed B.named
  have hlocks := B.notSynchronized
  have hK := hE.1
  have hD := hD0.self (sz := s.heap.size)
  generalize hAe : va_A R s.heap.size = A at hD hZ ⊢
  have hA : ∀ q : Nat, s.heap.size ≤ q → A q := fun q h => by rw [← hAe]; exact Or.inr h
  have hS : va_S A s.heap s.heap [] := va_S.rf
  have hl := lv_entry ([.int p0]) (n := 1) (Nat.le_of_ble_eq_true rfl)
  rw [lg_entry_eq]
  generalize (lg_sl ([.int p0]) ++ List.replicate (1 - (lg_sl ([.int p0])).length) Slot.unset).toArray = ls at hl ⊢
  have hl : lv_has ls 1 [(0, .int p0)] := hl
  change W p l e ({ frames := 0, cells := 0, slots := 0, locals := 0 } : Room) s m _ below meth c s.heap [] 0 0 _ _
  generalize hQm : MQ below (QI ro D R R s.heap.size) _ s 0 0 A = Qm
  have hP : va_P D vwCl R s.heap := hP
  generalize hae : ([.int p0] : List Value).toArray = args at hts hQm ⊢
  refine lv_iload_n hx hb dJ1_canEncode_fc78d_0 rfl (lv_at hl 0 rfl) ?_
  refine lv_sipush (v := 255) hx hb dJ1_canEncode_fc78d_1 (by decide) ?_
  refine lv_icmp_gt (tgt := 11) hx hb dJ1_canEncode_fc78d_4 (by decide) (fun c1 => ?_) (fun c1 => ?_)
  · have hf := br_pos c1 hf
    refine lv_iconst (v := 0) hx hb dJ1_canEncode_fc78d_11 (by decide) ?_
    cases hf
    exact end_i hAe hQm hx hb hr hlocks rfl hP hD hS dJ1_canEncode_fc78d_12
  · have hf := br_neg c1 hf
    refine lv_iconst (v := 1) hx hb dJ1_canEncode_fc78d_7 (by decide) ?_
    refine lv_goto (tgt := 12) hx hb dJ1_canEncode_fc78d_8 (by decide) ?_
    cases hf
    exact end_i hAe hQm hx hb hr hlocks rfl hP hD hS dJ1_canEncode_fc78d_12
def f_B_J6_stringSize_0f7a4_L16 : Nat → Int32 → Int32 → Int32 → Int32 → Option (Int32)
  | 0, _, _, _, _ => none
  | fuel + 1, v0, v1, v2, v3 =>
    if 10 ≤ v3 then
      some (10 + v1)
    else
      if v0 ≤ v2 then
        f_B_J6_stringSize_0f7a4_L16 fuel v0 v1 (10 * v2) (v3 + 1)
      else
        some (v3 + v1)
def f_B_J6_stringSize_0f7a4 (p0 : Int32) : Option (Int32) :=
  if p0 < 0 then
    f_B_J6_stringSize_0f7a4_L16 FU p0 1 (-10) 1
  else
    f_B_J6_stringSize_0f7a4_L16 FU (-p0) 0 (-10) 1
set_option maxHeartbeats 4000000 in
set_option maxRecDepth 100000 in
theorem m_B_J6_stringSize_0f7a4 (l : Launch) {D : va_G} {sl : List (String × Nat × String)} (ca : Nat → ClassId) (R : va_W) (sz : Nat) (p0 : Int32) (ro : Int32) (hf : f_B_J6_stringSize_0f7a4 p0 = some ro) : Met l yJ6_stringSize_0f7a4 (wm yJ6_stringSize_0f7a4 cJ6_stringSize_0f7a4 4 (some .int)) ({ frames := 0, cells := 0, slots := 0, locals := 0 } : Room) (PREX [.int p0] D ca sl R sz) (QI ro D R R sz) 0 0 (va_A R sz) := by
  refine Met.ofW (cc := cJ6_stringSize_0f7a4) (maxL := 4) (ret := (some .int)) (by decide) rfl ?_
  intro p e s m args below meth c s₁ B hml hv
  obtain ⟨rfl, rfl, hP, hE, hD0, hZ⟩ := hv
  have hx := B.exec
  have hb := B.bytes
  have hr := B.returns
  have hts := wm_ww (atoms_spec (ws := wm yJ6_stringSize_0f7a4 cJ6_stringSize_0f7a4 4 (some .int)) B.pre)
  have hown : s.vm.findClass RJ6 = some m.cls := findClass_of_methodNamed B.named
  have hlocks := B.notSynchronized
  have hK := hE.1
  have hD := hD0.self (sz := s.heap.size)
  generalize hAe : va_A R s.heap.size = A at hD hZ ⊢
  have hA : ∀ q : Nat, s.heap.size ≤ q → A q := fun q h => by rw [← hAe]; exact Or.inr h
  have hS : va_S A s.heap s.heap [] := va_S.rf
  have hl := lv_entry ([.int p0]) (n := 4) (Nat.le_of_ble_eq_true rfl)
  rw [lg_entry_eq]
  generalize (lg_sl ([.int p0]) ++ List.replicate (4 - (lg_sl ([.int p0])).length) Slot.unset).toArray = ls at hl ⊢
  have hl : lv_has ls 4 [(0, .int p0)] := hl
  change W p l e ({ frames := 0, cells := 0, slots := 0, locals := 0 } : Room) s m _ below meth c s.heap [] 0 0 _ _
  generalize hQm : MQ below (QI ro D R R s.heap.size) _ s 0 0 A = Qm
  have hP : va_P D vwCl R s.heap := hP
  generalize hae : ([.int p0] : List Value).toArray = args at hts hQm ⊢
  have L16 : ∀ (n : Nat) (v0 : Int32) (v1 : Int32) (v2 : Int32) (v3 : Int32), f_B_J6_stringSize_0f7a4_L16 n v0 v1 v2 v3 = some ro → ∀ (H : Heap) (locs : List Loc) (ls : Array Slot), va_P D vwCl R H → va_D A R → va_S A s.heap H locs → lv_has ls 4 [(0, .int v0), (1, .int v1), (2, .int v2), (3, .int v3)] → W p l e ({ frames := 0, cells := 0, slots := 0, locals := 0 } : Room) s m args below meth c H locs 0 0 Qm (F0 m 16 ls []) := by
    intro n
    induction n with
    | zero => intro v0 v1 v2 v3 hf; cases hf
    | succ n ih =>
      intro v0 v1 v2 v3 hf H locs ls hP hD hS hl
      unfold f_B_J6_stringSize_0f7a4_L16 at hf
      refine lv_iload_n hx hb dJ6_stringSize_0f7a4_16 rfl (lv_at hl 3 rfl) ?_
      refine lv_bipush (v := 10) hx hb dJ6_stringSize_0f7a4_17 (by decide) ?_
      refine lv_icmp_ge (tgt := 42) hx hb dJ6_stringSize_0f7a4_19 (by decide) (fun c2 => ?_) (fun c2 => ?_)
      · have hf := br_pos c2 hf
        refine lv_bipush (v := 10) hx hb dJ6_stringSize_0f7a4_42 (by decide) ?_
        refine lv_iload_n hx hb dJ6_stringSize_0f7a4_44 rfl (lv_at hl 1 rfl) ?_
        refine lv_iadd hx hb dJ6_stringSize_0f7a4_45 ?_
        cases hf
        exact end_i hAe hQm hx hb hr hlocks rfl hP hD hS dJ6_stringSize_0f7a4_46
      · have hf := br_neg c2 hf
        refine lv_iload_n hx hb dJ6_stringSize_0f7a4_22 rfl (lv_at hl 0 rfl) ?_
        refine lv_iload_n hx hb dJ6_stringSize_0f7a4_23 rfl (lv_at hl 2 rfl) ?_
        refine lv_icmp_le (tgt := 31) hx hb dJ6_stringSize_0f7a4_24 (by decide) (fun c3 => ?_) (fun c3 => ?_)
        · have hf := br_pos c3 hf
          refine lv_bipush (v := 10) hx hb dJ6_stringSize_0f7a4_31 (by decide) ?_
          refine lv_iload_n hx hb dJ6_stringSize_0f7a4_33 rfl (lv_at hl 2 rfl) ?_
          refine lv_imul hx hb dJ6_stringSize_0f7a4_34 ?_
          refine lv_istore_n (lv' := [(2, .int (10 * v2)), (0, .int v0), (1, .int v1), (3, .int v3)]) hx hb dJ6_stringSize_0f7a4_35 rfl hl (by decide) rfl (fun ls hl => ?_)
          refine lv_iinc (v := (v3 + 1)) (lv' := [(3, .int (v3 + 1)), (2, .int (10 * v2)), (0, .int v0), (1, .int v1)]) hx hb dJ6_stringSize_0f7a4_36 hl (k := 3) rfl rfl (by decide) rfl (fun ls hl => ?_)
          refine lv_goto (tgt := 16) hx hb dJ6_stringSize_0f7a4_39 (by decide) ?_
          exact ih v0 v1 (10 * v2) (v3 + 1) hf _ _ _ hP hD hS (lv_sub hl [2, 3, 1, 0] rfl)
        · have hf := br_neg c3 hf
          refine lv_iload_n hx hb dJ6_stringSize_0f7a4_27 rfl (lv_at hl 3 rfl) ?_
          refine lv_iload_n hx hb dJ6_stringSize_0f7a4_28 rfl (lv_at hl 1 rfl) ?_
          refine lv_iadd hx hb dJ6_stringSize_0f7a4_29 ?_
          cases hf
          exact end_i hAe hQm hx hb hr hlocks rfl hP hD hS dJ6_stringSize_0f7a4_30
  refine lv_iconst (v := 1) hx hb dJ6_stringSize_0f7a4_0 (by decide) ?_
  refine lv_istore_n (lv' := [(1, .int 1), (0, .int p0)]) hx hb dJ6_stringSize_0f7a4_1 rfl hl (by decide) rfl (fun ls hl => ?_)
  refine lv_iload_n hx hb dJ6_stringSize_0f7a4_2 rfl (lv_at hl 1 rfl) ?_
  refine lv_if_lt (tgt := 11) hx hb dJ6_stringSize_0f7a4_3 (by decide) (fun c1 => ?_) (fun c1 => ?_)
  · have hf := br_pos c1 hf
    refine lv_bipush (v := (-10)) hx hb dJ6_stringSize_0f7a4_11 (by decide) ?_
    refine lv_istore_n (lv' := [(2, .int (-10)), (1, .int 1), (0, .int p0)]) hx hb dJ6_stringSize_0f7a4_13 rfl hl (by decide) rfl (fun ls hl => ?_)
    refine lv_iconst (v := 1) hx hb dJ6_stringSize_0f7a4_14 (by decide) ?_
    refine lv_istore_n (lv' := [(3, .int 1), (2, .int (-10)), (1, .int 1), (0, .int p0)]) hx hb dJ6_stringSize_0f7a4_15 rfl hl (by decide) rfl (fun ls hl => ?_)
    exact L16 FU p0 1 (-10) 1 hf _ _ _ hP hD hS (lv_sub hl [3, 2, 1, 0] rfl)
  · have hf := br_neg c1 hf
    refine lv_iconst (v := 0) hx hb dJ6_stringSize_0f7a4_6 (by decide) ?_
    refine lv_istore_n (lv' := [(1, .int 0), (0, .int p0)]) hx hb dJ6_stringSize_0f7a4_7 rfl hl (by decide) rfl (fun ls hl => ?_)
    refine lv_iload_n hx hb dJ6_stringSize_0f7a4_8 rfl (lv_at hl 1 rfl) ?_
    refine lv_ineg hx hb dJ6_stringSize_0f7a4_9 ?_
    refine lv_istore_n (lv' := [(0, .int (-p0)), (1, .int 0)]) hx hb dJ6_stringSize_0f7a4_10 rfl hl (by decide) rfl (fun ls hl => ?_)
    refine lv_bipush (v := (-10)) hx hb dJ6_stringSize_0f7a4_11 (by decide) ?_
    refine lv_istore_n (lv' := [(2, .int (-10)), (0, .int (-p0)), (1, .int 0)]) hx hb dJ6_stringSize_0f7a4_13 rfl hl (by decide) rfl (fun ls hl => ?_)
    refine lv_iconst (v := 1) hx hb dJ6_stringSize_0f7a4_14 (by decide) ?_
    refine lv_istore_n (lv' := [(3, .int 1), (2, .int (-10)), (0, .int (-p0)), (1, .int 0)]) hx hb dJ6_stringSize_0f7a4_15 rfl hl (by decide) rfl (fun ls hl => ?_)
    exact L16 FU (-p0) 0 (-10) 1 hf _ _ _ hP hD hS (lv_sub hl [2, 3, 1, 0] rfl)
def f_B_J8_newLength_cabcc (p0 : Int32) (p1 : Int32) (p2 : Int32) : Option (Int32) :=
  if (p0 + (if p1 < p2 then p2 else p1)) ≤ 0 then
    none
  else
    if 2147483639 < (p0 + (if p1 < p2 then p2 else p1)) then
      none
    else
      some (p0 + (if p1 < p2 then p2 else p1))
set_option maxHeartbeats 4000000 in
set_option maxRecDepth 100000 in
theorem m_B_J8_newLength_cabcc (l : Launch) {D : va_G} {sl : List (String × Nat × String)} (ca : Nat → ClassId) (R : va_W) (sz : Nat) (p0 : Int32) (p1 : Int32) (p2 : Int32) (ro : Int32) (hf : f_B_J8_newLength_cabcc p0 p1 p2 = some ro) : Met l yJ8_newLength_cabcc (wm yJ8_newLength_cabcc cJ8_newLength_cabcc 4 (some .int)) ({ frames := 1, cells := 0, slots := 0, locals := 40 } : Room) (PREX [.int p0, .int p1, .int p2] D ca sl R sz) (QI ro D R R sz) 0 0 (va_A R sz) := by
  refine Met.ofW (cc := cJ8_newLength_cabcc) (maxL := 4) (ret := (some .int)) (by decide) rfl ?_
  intro p e s m args below meth c s₁ B hml hv
  obtain ⟨rfl, rfl, hP, hE, hD0, hZ⟩ := hv
  have hx := B.exec
  have hb := B.bytes
  have hr := B.returns
  have hts := wm_ww (atoms_spec (ws := wm yJ8_newLength_cabcc cJ8_newLength_cabcc 4 (some .int)) B.pre)
  have hown : s.vm.findClass RJ8 = some m.cls := findClass_of_methodNamed B.named
  have hlocks := B.notSynchronized
  have hK := hE.1
  have hD := hD0.self (sz := s.heap.size)
  generalize hAe : va_A R s.heap.size = A at hD hZ ⊢
  have hA : ∀ q : Nat, s.heap.size ≤ q → A q := fun q h => by rw [← hAe]; exact Or.inr h
  have hS : va_S A s.heap s.heap [] := va_S.rf
  have hl := lv_entry ([.int p0, .int p1, .int p2]) (n := 4) (Nat.le_of_ble_eq_true rfl)
  rw [lg_entry_eq]
  generalize (lg_sl ([.int p0, .int p1, .int p2]) ++ List.replicate (4 - (lg_sl ([.int p0, .int p1, .int p2])).length) Slot.unset).toArray = ls at hl ⊢
  have hl : lv_has ls 4 [(0, .int p0), (1, .int p1), (2, .int p2)] := hl
  change W p l e ({ frames := 1, cells := 0, slots := 0, locals := 40 } : Room) s m _ below meth c s.heap [] 0 0 _ _
  generalize hQm : MQ below (QI ro D R R s.heap.size) _ s 0 0 A = Qm
  have hP : va_P D vwCl R s.heap := hP
  generalize hae : ([.int p0, .int p1, .int p2] : List Value).toArray = args at hts hQm ⊢
  refine lv_iload_n hx hb dJ8_newLength_cabcc_0 rfl (lv_at hl 0 rfl) ?_
  refine lv_iload_n hx hb dJ8_newLength_cabcc_1 rfl (lv_at hl 1 rfl) ?_
  refine lv_iload_n hx hb dJ8_newLength_cabcc_2 rfl (lv_at hl 2 rfl) ?_
  refine va_mmax hx hb (hml.trans hl.1.symm) hown (hts _ q1064) (hts _ q659) (hts _ q61) (hts _ q660) (Nat.le_of_ble_eq_true rfl) (Nat.le_of_ble_eq_true rfl) (Nat.le_of_ble_eq_true rfl) (Nat.le_of_ble_eq_true rfl) dJ8_newLength_cabcc_3 ?_
  refine lv_iadd hx hb dJ8_newLength_cabcc_6 ?_
  refine lv_istore_n (lv' := [(3, .int (p0 + (if p1 < p2 then p2 else p1))), (0, .int p0), (1, .int p1), (2, .int p2)]) hx hb dJ8_newLength_cabcc_7 rfl hl (by decide) rfl (fun ls hl => ?_)
  refine lv_iconst (v := 0) hx hb dJ8_newLength_cabcc_8 (by decide) ?_
  refine lv_iload_n hx hb dJ8_newLength_cabcc_9 rfl (lv_at hl 0 rfl) ?_
  refine lv_icmp_ge (tgt := 21) hx hb dJ8_newLength_cabcc_10 (by decide) (fun c1 => ?_) (fun c1 => ?_)
  · have hf := br_pos c1 hf
    cases hf
  · have hf := br_neg c1 hf
    refine lv_iload_n hx hb dJ8_newLength_cabcc_13 rfl (lv_at hl 0 rfl) ?_
    refine lv_ldc (v := 2147483639) hx hb hown (hts _ q1065) dJ8_newLength_cabcc_14 ?_
    refine lv_icmp_gt (tgt := 21) hx hb dJ8_newLength_cabcc_16 (by decide) (fun c2 => ?_) (fun c2 => ?_)
    · have hf := br_pos c2 hf
      cases hf
    · have hf := br_neg c2 hf
      refine lv_iload_n hx hb dJ8_newLength_cabcc_19 rfl (lv_at hl 0 rfl) ?_
      cases hf
      exact end_i hAe hQm hx hb hr hlocks rfl hP hD hS dJ8_newLength_cabcc_20
def f_B_J5_newCapacity_0f7a4 (p1 : Int32) (jZ : Nat) : Option (Int32) :=
  (f_B_J8_newLength_cabcc (nI jZ) (p1 - (nI jZ)) ((nI jZ) + 2)).bind fun r1 =>
  if r1 = 2147483647 then
    none
  else
    some r1
set_option maxHeartbeats 4000000 in
set_option maxRecDepth 100000 in
theorem m_B_J5_newCapacity_0f7a4 (l : Launch) {D : va_G} {sl : List (String × Nat × String)} (ca : Nat → ClassId) (aq : Nat) (bq : Nat) (jM : Int32) (jN : Int32) (jZ : Nat) (jB : Nat → Int32) (R : va_W) (sz : Nat) (p1 : Int32) (ro : Int32) (hf : f_B_J5_newCapacity_0f7a4 p1 jZ = some ro) : Met l yJ5_newCapacity_0f7a4 (wm yJ5_newCapacity_0f7a4 cJ5_newCapacity_0f7a4 6 (some .int)) ({ frames := 2, cells := 0, slots := 0, locals := 63 } : Room) (PREX [.ref aq, .int p1] D ca sl (WB ca aq bq jM jN jZ jB ++ R) sz) (QI ro D (WB ca aq bq jM jN jZ jB ++ R) (WB ca aq bq jM jN jZ jB ++ R) sz) 0 0 (va_A (WB ca aq bq jM jN jZ jB ++ R) sz) := by
  refine Met.ofW (cc := cJ5_newCapacity_0f7a4) (maxL := 6) (ret := (some .int)) (by decide) rfl ?_
  intro p e s m args below meth c s₁ B hml hv
  obtain ⟨rfl, rfl, hP, hE, hD0, hZ⟩ := hv
  have hx := B.exec
  have hb := B.bytes
  have hr := B.returns
  have hts := wm_ww (atoms_spec (ws := wm yJ5_newCapacity_0f7a4 cJ5_newCapacity_0f7a4 6 (some .int)) B.pre)
  have hown : s.vm.findClass RJ5 = some m.cls := findClass_of_methodNamed B.named
  have hlocks := B.notSynchronized
  have hK := hE.1
  have hD := hD0.self (sz := s.heap.size)
  generalize hAe : va_A (WB ca aq bq jM jN jZ jB ++ R) s.heap.size = A at hD hZ ⊢
  have hA : ∀ q : Nat, s.heap.size ≤ q → A q := fun q h => by rw [← hAe]; exact Or.inr h
  have hS : va_S A s.heap s.heap [] := va_S.rf
  have hl := lv_entry ([.ref aq, .int p1]) (n := 6) (Nat.le_of_ble_eq_true rfl)
  rw [lg_entry_eq]
  generalize (lg_sl ([.ref aq, .int p1]) ++ List.replicate (6 - (lg_sl ([.ref aq, .int p1])).length) Slot.unset).toArray = ls at hl ⊢
  have hl : lv_has ls 6 [(0, .ref aq), (1, .int p1)] := hl
  change W p l e ({ frames := 2, cells := 0, slots := 0, locals := 63 } : Room) s m _ below meth c s.heap [] 0 0 _ _
  generalize hQm : MQ below (QI ro D (WB ca aq bq jM jN jZ jB ++ R) (WB ca aq bq jM jN jZ jB ++ R) s.heap.size) _ s 0 0 A = Qm
  have hP : va_P D vwCl (WB ca aq bq jM jN jZ jB ++ R) s.heap := hP
  generalize hae : ([.ref aq, .int p1] : List Value).toArray = args at hts hQm ⊢
  refine lv_aload_n hx hb dJ5_newCapacity_0f7a4_0 rfl (lv_at hl 0 rfl) ?_
  refine va_get (D := D) (ci := 1) (v := .ref bq) (C := RJ4) (T := TJ4) (N := 4) hx hb hts inJ4 hown hK hP 0 rfl rfl 0 (by decide) (hts _ q186) (fun _ h9 => h9) rfl dJ5_newCapacity_0f7a4_1 ?_
  refine va_alen (D := D) (v := (nI jZ)) hx hb hK hP 1 3 rfl rfl rfl dJ5_newCapacity_0f7a4_4 ?_
  refine lv_istore_n (lv' := [(2, .int (nI jZ)), (0, .ref aq), (1, .int p1)]) hx hb dJ5_newCapacity_0f7a4_5 rfl hl (by decide) rfl (fun ls hl => ?_)
  refine lv_iload_n hx hb dJ5_newCapacity_0f7a4_6 rfl (lv_at hl 2 rfl) ?_
  refine lv_aload_n hx hb dJ5_newCapacity_0f7a4_7 rfl (lv_at hl 1 rfl) ?_
  refine va_get (D := D) (ci := 1) (v := .int 0) (C := RJ4) (T := TJ4) (N := 4) hx hb hts inJ4 hown hK hP 0 rfl rfl 1 (by decide) (hts _ q187) (fun _ h9 => h9) rfl dJ5_newCapacity_0f7a4_8 ?_
  refine lv_ishl hx hb dJ5_newCapacity_0f7a4_11 ?_
  rw [sb_shl0]
  refine lv_istore_n (lv' := [(3, .int p1), (2, .int (nI jZ)), (0, .ref aq), (1, .int p1)]) hx hb dJ5_newCapacity_0f7a4_12 rfl hl (by decide) rfl (fun ls hl => ?_)
  refine lv_iload_n hx hb dJ5_newCapacity_0f7a4_13 rfl (lv_at hl 0 rfl) ?_
  refine lv_iload_n hx hb dJ5_newCapacity_0f7a4_14 rfl (lv_at hl 1 rfl) ?_
  refine lv_isub hx hb dJ5_newCapacity_0f7a4_15 ?_
  refine lv_istore (lv' := [(4, .int (p1 - (nI jZ))), (3, .int p1), (2, .int (nI jZ)), (0, .ref aq), (1, .int p1)]) hx hb dJ5_newCapacity_0f7a4_16 hl (by decide) rfl (fun ls hl => ?_)
  refine lv_iload_n hx hb dJ5_newCapacity_0f7a4_18 rfl (lv_at hl 2 rfl) ?_
  refine lv_iload hx hb dJ5_newCapacity_0f7a4_19 (lv_at hl 0 rfl) ?_
  refine lv_iload_n hx hb dJ5_newCapacity_0f7a4_21 rfl (lv_at hl 2 rfl) ?_
  refine lv_iconst (v := 2) hx hb dJ5_newCapacity_0f7a4_22 (by decide) ?_
  refine lv_aload_n hx hb dJ5_newCapacity_0f7a4_23 rfl (lv_at hl 3 rfl) ?_
  refine va_get (D := D) (ci := 1) (v := .int 0) (C := RJ4) (T := TJ4) (N := 4) hx hb hts inJ4 hown hK hP 0 rfl rfl 1 (by decide) (hts _ q187) (fun _ h9 => h9) rfl dJ5_newCapacity_0f7a4_24 ?_
  refine lv_ishl hx hb dJ5_newCapacity_0f7a4_27 ?_
  rw [sb_shl0]
  refine lv_iadd hx hb dJ5_newCapacity_0f7a4_28 ?_
  obtain ⟨r1, h2, hf⟩ := bnd hf
  refine zs_i (rest := []) (m_B_J8_newLength_cabcc l ca (WB ca aq bq jM jN jZ jB ++ R) _ (nI jZ) (p1 - (nI jZ)) ((nI jZ) + 2) r1 h2) ⟨hx, hb, hml, hown, hts⟩ (va_cwS 3 hts (gS q1061 q1062 q66 q1063) rfl rfl rfl (by decide +kernel) ⟨Nat.le_of_ble_eq_true rfl, Nat.le_of_ble_eq_true rfl⟩) hE hP hD hS hA hZ rfl hl.1 rfl (lv_room (Nat.le_of_ble_eq_true rfl)) dJ5_newCapacity_0f7a4_29 ⟨Nat.le_of_ble_eq_true rfl, Nat.le_of_ble_eq_true rfl⟩ (fun H locs hP hD hS => ?_)
  refine lv_istore (lv' := [(5, .int r1), (4, .int (p1 - (nI jZ))), (3, .int p1), (2, .int (nI jZ)), (0, .ref aq), (1, .int p1)]) hx hb dJ5_newCapacity_0f7a4_32 hl (by decide) rfl (fun ls hl => ?_)
  refine lv_iload hx hb dJ5_newCapacity_0f7a4_34 (lv_at hl 0 rfl) ?_
  refine lv_ldc (v := 2147483647) hx hb hown (hts _ q1069) dJ5_newCapacity_0f7a4_36 ?_
  refine lv_icmp_ne (tgt := 51) hx hb dJ5_newCapacity_0f7a4_38 (by decide) (fun c3 => ?_) (fun c3 => ?_)
  · have hf := br_neg c3 hf
    refine lv_iload hx hb dJ5_newCapacity_0f7a4_51 (lv_at hl 0 rfl) ?_
    refine lv_aload_n hx hb dJ5_newCapacity_0f7a4_53 rfl (lv_at hl 4 rfl) ?_
    refine va_get (D := D) (ci := 1) (v := .int 0) (C := RJ4) (T := TJ4) (N := 4) hx hb hts inJ4 hown hK hP 0 rfl rfl 1 (by decide) (hts _ q187) (fun _ h9 => h9) rfl dJ5_newCapacity_0f7a4_54 ?_
    refine lv_ishr hx hb dJ5_newCapacity_0f7a4_57 ?_
    rw [sb_shr0]
    cases hf
    exact end_i hAe hQm hx hb hr hlocks rfl hP hD hS dJ5_newCapacity_0f7a4_58
  · have hf := br_pos c3 hf
    cases hf
def f_B_J5_ensureCapacityInternal_d00df (p1 : Int32) (jZ : Nat) : Option (Unit) :=
  if (p1 - (nI jZ)) ≤ 0 then
    some ()
  else
    none
set_option maxHeartbeats 4000000 in
set_option maxRecDepth 100000 in
theorem m_B_J5_ensureCapacityInternal_d00df (l : Launch) {D : va_G} {sl : List (String × Nat × String)} (ca : Nat → ClassId) (aq : Nat) (bq : Nat) (jM : Int32) (jN : Int32) (jZ : Nat) (jB : Nat → Int32) (R : va_W) (sz : Nat) (p1 : Int32) (hf : f_B_J5_ensureCapacityInternal_d00df p1 jZ = some ()) : Met l yJ5_ensureCapacityInternal_d00df (wm yJ5_ensureCapacityInternal_d00df cJ5_ensureCapacityInternal_d00df 3 none) ({ frames := 0, cells := 0, slots := 0, locals := 0 } : Room) (PREX [.ref aq, .int p1] D ca sl (WB ca aq bq jM jN jZ jB ++ R) sz) (QV D (WB ca aq bq jM jN jZ jB ++ R) (WB ca aq bq jM jN jZ jB ++ R) sz) 0 0 (va_A (WB ca aq bq jM jN jZ jB ++ R) sz) := by
  refine Met.ofW (cc := cJ5_ensureCapacityInternal_d00df) (maxL := 3) (ret := none) (by decide) rfl ?_
  intro p e s m args below meth c s₁ B hml hv
  obtain ⟨rfl, rfl, hP, hE, hD0, hZ⟩ := hv
  have hx := B.exec
  have hb := B.bytes
  have hr := B.returns
  have hts := wm_ww (atoms_spec (ws := wm yJ5_ensureCapacityInternal_d00df cJ5_ensureCapacityInternal_d00df 3 none) B.pre)
  have hown : s.vm.findClass RJ5 = some m.cls := findClass_of_methodNamed B.named
  have hlocks := B.notSynchronized
  have hK := hE.1
  have hD := hD0.self (sz := s.heap.size)
  generalize hAe : va_A (WB ca aq bq jM jN jZ jB ++ R) s.heap.size = A at hD hZ ⊢
  have hA : ∀ q : Nat, s.heap.size ≤ q → A q := fun q h => by rw [← hAe]; exact Or.inr h
  have hS : va_S A s.heap s.heap [] := va_S.rf
  have hl := lv_entry ([.ref aq, .int p1]) (n := 3) (Nat.le_of_ble_eq_true rfl)
  rw [lg_entry_eq]
  generalize (lg_sl ([.ref aq, .int p1]) ++ List.replicate (3 - (lg_sl ([.ref aq, .int p1])).length) Slot.unset).toArray = ls at hl ⊢
  have hl : lv_has ls 3 [(0, .ref aq), (1, .int p1)] := hl
  change W p l e ({ frames := 0, cells := 0, slots := 0, locals := 0 } : Room) s m _ below meth c s.heap [] 0 0 _ _
  generalize hQm : MQ below (QV D (WB ca aq bq jM jN jZ jB ++ R) (WB ca aq bq jM jN jZ jB ++ R) s.heap.size) _ s 0 0 A = Qm
  have hP : va_P D vwCl (WB ca aq bq jM jN jZ jB ++ R) s.heap := hP
  generalize hae : ([.ref aq, .int p1] : List Value).toArray = args at hts hQm ⊢
  refine lv_aload_n hx hb dJ5_ensureCapacityInternal_d00df_0 rfl (lv_at hl 0 rfl) ?_
  refine va_get (D := D) (ci := 1) (v := .ref bq) (C := RJ4) (T := TJ4) (N := 4) hx hb hts inJ4 hown hK hP 0 rfl rfl 0 (by decide) (hts _ q186) (fun _ h9 => h9) rfl dJ5_ensureCapacityInternal_d00df_1 ?_
  refine va_alen (D := D) (v := (nI jZ)) hx hb hK hP 1 3 rfl rfl rfl dJ5_ensureCapacityInternal_d00df_4 ?_
  refine lv_aload_n hx hb dJ5_ensureCapacityInternal_d00df_5 rfl (lv_at hl 0 rfl) ?_
  refine va_get (D := D) (ci := 1) (v := .int 0) (C := RJ4) (T := TJ4) (N := 4) hx hb hts inJ4 hown hK hP 0 rfl rfl 1 (by decide) (hts _ q187) (fun _ h9 => h9) rfl dJ5_ensureCapacityInternal_d00df_6 ?_
  refine lv_ishr hx hb dJ5_ensureCapacityInternal_d00df_9 ?_
  rw [sb_shr0]
  refine lv_istore_n (lv' := [(2, .int (nI jZ)), (0, .ref aq), (1, .int p1)]) hx hb dJ5_ensureCapacityInternal_d00df_10 rfl hl (by decide) rfl (fun ls hl => ?_)
  refine lv_iload_n hx hb dJ5_ensureCapacityInternal_d00df_11 rfl (lv_at hl 2 rfl) ?_
  refine lv_iload_n hx hb dJ5_ensureCapacityInternal_d00df_12 rfl (lv_at hl 0 rfl) ?_
  refine lv_isub hx hb dJ5_ensureCapacityInternal_d00df_13 ?_
  refine lv_if_le (tgt := 38) hx hb dJ5_ensureCapacityInternal_d00df_14 (by decide) (fun c1 => ?_) (fun c1 => ?_)
  · have hf := br_pos c1 hf
    cases hf
    exact end_v hAe hQm hx hb hr hlocks hP hD hS dJ5_ensureCapacityInternal_d00df_38
  · have hf := br_neg c1 hf
    cases hf
def f_B_J5_setLength_d00df (p1 : Int32) (jM : Int32) (jN : Int32) (jZ : Nat) : Option (Int32 × Int32) :=
  if 0 ≤ p1 then
    (f_B_J5_ensureCapacityInternal_d00df p1 jZ).bind fun _ =>
    if p1 ≤ jN then
      if jN ≤ p1 then
        some (jM, p1)
      else
        some (1, p1)
    else
      none
  else
    none
set_option maxHeartbeats 4000000 in
set_option maxRecDepth 100000 in
theorem m_B_J5_setLength_d00df (l : Launch) {D : va_G} {sl : List (String × Nat × String)} (ca : Nat → ClassId) (aq : Nat) (bq : Nat) (jM : Int32) (jN : Int32) (jZ : Nat) (jB : Nat → Int32) (R : va_W) (sz : Nat) (p1 : Int32) (ojM : Int32) (ojN : Int32) (hf : f_B_J5_setLength_d00df p1 jM jN jZ = some (ojM, ojN)) : Met l yJ5_setLength_d00df (wm yJ5_setLength_d00df cJ5_setLength_d00df 2 none) ({ frames := 1, cells := 0, slots := 0, locals := 22 } : Room) (PREX [.ref aq, .int p1] D ca sl (WB ca aq bq jM jN jZ jB ++ R) sz) (QV D (WB ca aq bq ojM ojN jZ jB ++ R) (WB ca aq bq jM jN jZ jB ++ R) sz) 0 0 (va_A (WB ca aq bq jM jN jZ jB ++ R) sz) := by
  refine Met.ofW (cc := cJ5_setLength_d00df) (maxL := 2) (ret := none) (by decide) rfl ?_
  intro p e s m args below meth c s₁ B hml hv
  obtain ⟨rfl, rfl, hP, hE, hD0, hZ⟩ := hv
  have hx := B.exec
  have hb := B.bytes
  have hr := B.returns
  have hts := wm_ww (atoms_spec (ws := wm yJ5_setLength_d00df cJ5_setLength_d00df 2 none) B.pre)
  have hown : s.vm.findClass RJ5 = some m.cls := findClass_of_methodNamed B.named
  have hlocks := B.notSynchronized
  have hK := hE.1
  have hD := hD0.self (sz := s.heap.size)
  generalize hAe : va_A (WB ca aq bq jM jN jZ jB ++ R) s.heap.size = A at hD hZ ⊢
  have hA : ∀ q : Nat, s.heap.size ≤ q → A q := fun q h => by rw [← hAe]; exact Or.inr h
  have hS : va_S A s.heap s.heap [] := va_S.rf
  have hl := lv_entry ([.ref aq, .int p1]) (n := 2) (Nat.le_of_ble_eq_true rfl)
  rw [lg_entry_eq]
  generalize (lg_sl ([.ref aq, .int p1]) ++ List.replicate (2 - (lg_sl ([.ref aq, .int p1])).length) Slot.unset).toArray = ls at hl ⊢
  have hl : lv_has ls 2 [(0, .ref aq), (1, .int p1)] := hl
  change W p l e ({ frames := 1, cells := 0, slots := 0, locals := 22 } : Room) s m _ below meth c s.heap [] 0 0 _ _
  generalize hQm : MQ below (QV D (WB ca aq bq ojM ojN jZ jB ++ R) (WB ca aq bq jM jN jZ jB ++ R) s.heap.size) _ s 0 0 A = Qm
  have hP : va_P D vwCl (WB ca aq bq jM jN jZ jB ++ R) s.heap := hP
  generalize hae : ([.ref aq, .int p1] : List Value).toArray = args at hts hQm ⊢
  refine lv_iload_n hx hb dJ5_setLength_d00df_0 rfl (lv_at hl 1 rfl) ?_
  refine lv_if_ge (tgt := 13) hx hb dJ5_setLength_d00df_1 (by decide) (fun c1 => ?_) (fun c1 => ?_)
  · have hf := br_pos c1 hf
    refine lv_aload_n hx hb dJ5_setLength_d00df_13 rfl (lv_at hl 0 rfl) ?_
    refine lv_iload_n hx hb dJ5_setLength_d00df_14 rfl (lv_at hl 1 rfl) ?_
    obtain ⟨_, h2, hf⟩ := bnd hf
    refine zu_v (rest := []) (m_B_J5_ensureCapacityInternal_d00df l ca aq bq jM jN jZ jB R _ p1 h2) ⟨hx, hb, hml, hown, hts⟩ (va_cwU 1 hts (gU q1053 q1691 qx1 q1055 q46 q1056) rfl rfl rfl rfl (by decide +kernel) ⟨Nat.le_of_ble_eq_true rfl, Nat.le_of_ble_eq_true rfl⟩) (va_recv hK hP (ci := 1) (q0 := 0) rfl rfl) hE hP hD hS hA hZ rfl hl.1 rfl (lv_room (Nat.le_of_ble_eq_true rfl)) dJ5_setLength_d00df_15 ⟨Nat.le_of_ble_eq_true rfl, Nat.le_of_ble_eq_true rfl⟩ (fun H locs hP hD hS => ?_)
    refine lv_aload_n hx hb dJ5_setLength_d00df_18 rfl (lv_at hl 0 rfl) ?_
    refine va_get (D := D) (ci := 1) (v := .int jN) (C := RJ4) (T := TJ4) (N := 4) hx hb hts inJ4 hown hK hP 0 rfl rfl 3 (by decide) (hts _ q190) (fun _ h9 => h9) rfl dJ5_setLength_d00df_19 ?_
    refine lv_iload_n hx hb dJ5_setLength_d00df_22 rfl (lv_at hl 1 rfl) ?_
    refine lv_icmp_ge (tgt := 63) hx hb dJ5_setLength_d00df_23 (by decide) (fun c3 => ?_) (fun c3 => ?_)
    · have hf := br_pos c3 hf
      refine lv_aload_n hx hb dJ5_setLength_d00df_63 rfl (lv_at hl 0 rfl) ?_
      refine va_get (D := D) (ci := 1) (v := .int jN) (C := RJ4) (T := TJ4) (N := 4) hx hb hts inJ4 hown hK hP 0 rfl rfl 3 (by decide) (hts _ q190) (fun _ h9 => h9) rfl dJ5_setLength_d00df_64 ?_
      refine lv_iload_n hx hb dJ5_setLength_d00df_67 rfl (lv_at hl 1 rfl) ?_
      refine lv_icmp_le (tgt := 76) hx hb dJ5_setLength_d00df_68 (by decide) (fun c4 => ?_) (fun c4 => ?_)
      · have hf := br_pos c4 hf
        refine lv_aload_n hx hb dJ5_setLength_d00df_76 rfl (lv_at hl 0 rfl) ?_
        refine lv_iload_n hx hb dJ5_setLength_d00df_77 rfl (lv_at hl 1 rfl) ?_
        refine va_put (D := D) (ci := 1) (v := .int p1) (ty := .int) (C := RJ4) (T := TJ4) (N := 4) hx hb hts inJ4 tyJ4 tyJ4_ok nmJ4 hown hK hP hD hS 0 rfl rfl 3 (by decide) (hts _ q190) (fun _ h9 => h9) rfl (by decide +kernel) rfl rfl (Nat.le_of_ble_eq_true rfl) dJ5_setLength_d00df_78 (fun H locs hP hD hS => ?_)
        have hP : va_P D vwCl (WB ca aq bq jM p1 jZ jB ++ R) H := hP
        have hD : va_D A (WB ca aq bq jM p1 jZ jB ++ R) := hD
        have hj0 := Option.some.inj hf
        obtain ⟨hg0, hj1⟩ := Prod.mk.inj hj0
        subst hg0
        subst hj1
        exact end_v hAe hQm hx hb hr hlocks hP hD hS dJ5_setLength_d00df_81
      · have hf := br_neg c4 hf
        refine lv_aload_n hx hb dJ5_setLength_d00df_71 rfl (lv_at hl 0 rfl) ?_
        refine lv_iconst (v := 1) hx hb dJ5_setLength_d00df_72 (by decide) ?_
        refine va_put (D := D) (ci := 1) (v := .int 1) (ty := .boolean) (C := RJ4) (T := TJ4) (N := 4) hx hb hts inJ4 tyJ4 tyJ4_ok nmJ4 hown hK hP hD hS 0 rfl rfl 2 (by decide) (hts _ q188) (fun _ h9 => h9) rfl (by decide +kernel) rfl rfl (Nat.le_of_ble_eq_true rfl) dJ5_setLength_d00df_73 (fun H locs hP hD hS => ?_)
        have hP : va_P D vwCl (WB ca aq bq 1 jN jZ jB ++ R) H := hP
        have hD : va_D A (WB ca aq bq 1 jN jZ jB ++ R) := hD
        refine lv_aload_n hx hb dJ5_setLength_d00df_76 rfl (lv_at hl 0 rfl) ?_
        refine lv_iload_n hx hb dJ5_setLength_d00df_77 rfl (lv_at hl 1 rfl) ?_
        refine va_put (D := D) (ci := 1) (v := .int p1) (ty := .int) (C := RJ4) (T := TJ4) (N := 4) hx hb hts inJ4 tyJ4 tyJ4_ok nmJ4 hown hK hP hD hS 0 rfl rfl 3 (by decide) (hts _ q190) (fun _ h9 => h9) rfl (by decide +kernel) rfl rfl (Nat.le_of_ble_eq_true rfl) dJ5_setLength_d00df_78 (fun H locs hP hD hS => ?_)
        have hP : va_P D vwCl (WB ca aq bq 1 p1 jZ jB ++ R) H := hP
        have hD : va_D A (WB ca aq bq 1 p1 jZ jB ++ R) := hD
        have hj0 := Option.some.inj hf
        obtain ⟨hg0, hj1⟩ := Prod.mk.inj hj0
        subst hg0
        subst hj1
        exact end_v hAe hQm hx hb hr hlocks hP hD hS dJ5_setLength_d00df_81
    · have hf := br_neg c3 hf
      cases hf
  · have hf := br_neg c1 hf
    cases hf
def f_B_J4_setLength_d00df (p1 : Int32) (jM : Int32) (jN : Int32) (jZ : Nat) : Option (Int32 × Int32) :=
  (f_B_J5_setLength_d00df p1 jM jN jZ).bind fun (jM_1, jN_2) =>
  some (jM_1, jN_2)
set_option maxHeartbeats 4000000 in
set_option maxRecDepth 100000 in
theorem m_B_J4_setLength_d00df (l : Launch) {D : va_G} {sl : List (String × Nat × String)} (ca : Nat → ClassId) (aq : Nat) (bq : Nat) (jM : Int32) (jN : Int32) (jZ : Nat) (jB : Nat → Int32) (R : va_W) (sz : Nat) (p1 : Int32) (ojM : Int32) (ojN : Int32) (hf : f_B_J4_setLength_d00df p1 jM jN jZ = some (ojM, ojN)) : Met l yJ4_setLength_d00df (wm yJ4_setLength_d00df cJ4_setLength_d00df 2 none) ({ frames := 2, cells := 0, slots := 0, locals := 43 } : Room) (PREX [.ref aq, .int p1] D ca sl (WB ca aq bq jM jN jZ jB ++ R) sz) (QV D (WB ca aq bq ojM ojN jZ jB ++ R) (WB ca aq bq jM jN jZ jB ++ R) sz) 0 0 (va_A (WB ca aq bq jM jN jZ jB ++ R) sz) := by
  refine Met.ofW (cc := cJ4_setLength_d00df) (maxL := 2) (ret := none) (by decide) rfl ?_
  intro p e s m args below meth c s₁ B hml hv
  obtain ⟨rfl, rfl, hP, hE, hD0, hZ⟩ := hv
  have hx := B.exec
  have hb := B.bytes
  have hr := B.returns
  have hts := wm_ww (atoms_spec (ws := wm yJ4_setLength_d00df cJ4_setLength_d00df 2 none) B.pre)
  have hown : s.vm.findClass RJ4 = some m.cls := findClass_of_methodNamed B.named
  have hlocks := B.notSynchronized
  have hK := hE.1
  have hD := hD0.self (sz := s.heap.size)
  generalize hAe : va_A (WB ca aq bq jM jN jZ jB ++ R) s.heap.size = A at hD hZ ⊢
  have hA : ∀ q : Nat, s.heap.size ≤ q → A q := fun q h => by rw [← hAe]; exact Or.inr h
  have hS : va_S A s.heap s.heap [] := va_S.rf
  have hl := lv_entry ([.ref aq, .int p1]) (n := 2) (Nat.le_of_ble_eq_true rfl)
  rw [lg_entry_eq]
  generalize (lg_sl ([.ref aq, .int p1]) ++ List.replicate (2 - (lg_sl ([.ref aq, .int p1])).length) Slot.unset).toArray = ls at hl ⊢
  have hl : lv_has ls 2 [(0, .ref aq), (1, .int p1)] := hl
  change W p l e ({ frames := 2, cells := 0, slots := 0, locals := 43 } : Room) s m _ below meth c s.heap [] 0 0 _ _
  generalize hQm : MQ below (QV D (WB ca aq bq ojM ojN jZ jB ++ R) (WB ca aq bq jM jN jZ jB ++ R) s.heap.size) _ s 0 0 A = Qm
  have hP : va_P D vwCl (WB ca aq bq jM jN jZ jB ++ R) s.heap := hP
  generalize hae : ([.ref aq, .int p1] : List Value).toArray = args at hts hQm ⊢
  refine lv_aload_n hx hb dJ4_setLength_d00df_0 rfl (lv_at hl 0 rfl) ?_
  refine lv_iload_n hx hb dJ4_setLength_d00df_1 rfl (lv_at hl 1 rfl) ?_
  obtain ⟨⟨jM_1, jN_2⟩, h3, hf⟩ := bnd hf
  refine zp_v (rest := []) (m_B_J5_setLength_d00df l ca aq bq jM jN jZ jB R _ p1 jM_1 jN_2 h3) (clsAt hK (ci := 1) rfl) ⟨hx, hb, hml, hown, hts⟩ (va_cwSU 1 hts (gSU q1031 q1688 q199 q1032 q46 q1033) rfl rfl rfl (by decide +kernel) ⟨Nat.le_of_ble_eq_true rfl, Nat.le_of_ble_eq_true rfl⟩) (va_recv hK hP (ci := 1) (q0 := 0) rfl rfl) hE hP hD hS hA hZ rfl hl.1 rfl (lv_room (Nat.le_of_ble_eq_true rfl)) dJ4_setLength_d00df_2 ⟨Nat.le_of_ble_eq_true rfl, Nat.le_of_ble_eq_true rfl⟩ (fun H locs hP hD hS => ?_)
  have hj0 := Option.some.inj hf
  obtain ⟨hg0, hj1⟩ := Prod.mk.inj hj0
  subst hg0
  subst hj1
  exact end_v hAe hQm hx hb hr hlocks hP hD hS dJ4_setLength_d00df_5
def f_B_J4_length_8abf5 (jN : Int32) : Option (Int32) :=
  (f_B_J5_length_8abf5 jN).bind fun r1 =>
  some r1
set_option maxHeartbeats 4000000 in
set_option maxRecDepth 100000 in
theorem m_B_J4_length_8abf5 (l : Launch) {D : va_G} {sl : List (String × Nat × String)} (ca : Nat → ClassId) (aq : Nat) (bq : Nat) (jM : Int32) (jN : Int32) (jZ : Nat) (jB : Nat → Int32) (R : va_W) (sz : Nat) (ro : Int32) (hf : f_B_J4_length_8abf5 jN = some ro) : Met l yJ4_length_8abf5 (wm yJ4_length_8abf5 cJ4_length_8abf5 1 (some .int)) ({ frames := 1, cells := 0, slots := 0, locals := 20 } : Room) (PREX [.ref aq] D ca sl (WB ca aq bq jM jN jZ jB ++ R) sz) (QI ro D (WB ca aq bq jM jN jZ jB ++ R) (WB ca aq bq jM jN jZ jB ++ R) sz) 0 0 (va_A (WB ca aq bq jM jN jZ jB ++ R) sz) := by
  refine Met.ofW (cc := cJ4_length_8abf5) (maxL := 1) (ret := (some .int)) (by decide) rfl ?_
  intro p e s m args below meth c s₁ B hml hv
  obtain ⟨rfl, rfl, hP, hE, hD0, hZ⟩ := hv
  have hx := B.exec
  have hb := B.bytes
  have hr := B.returns
  have hts := wm_ww (atoms_spec (ws := wm yJ4_length_8abf5 cJ4_length_8abf5 1 (some .int)) B.pre)
  have hown : s.vm.findClass RJ4 = some m.cls := findClass_of_methodNamed B.named
  have hlocks := B.notSynchronized
  have hK := hE.1
  have hD := hD0.self (sz := s.heap.size)
  generalize hAe : va_A (WB ca aq bq jM jN jZ jB ++ R) s.heap.size = A at hD hZ ⊢
  have hA : ∀ q : Nat, s.heap.size ≤ q → A q := fun q h => by rw [← hAe]; exact Or.inr h
  have hS : va_S A s.heap s.heap [] := va_S.rf
  have hl := lv_entry ([.ref aq]) (n := 1) (Nat.le_of_ble_eq_true rfl)
  rw [lg_entry_eq]
  generalize (lg_sl ([.ref aq]) ++ List.replicate (1 - (lg_sl ([.ref aq])).length) Slot.unset).toArray = ls at hl ⊢
  have hl : lv_has ls 1 [(0, .ref aq)] := hl
  change W p l e ({ frames := 1, cells := 0, slots := 0, locals := 20 } : Room) s m _ below meth c s.heap [] 0 0 _ _
  generalize hQm : MQ below (QI ro D (WB ca aq bq jM jN jZ jB ++ R) (WB ca aq bq jM jN jZ jB ++ R) s.heap.size) _ s 0 0 A = Qm
  have hP : va_P D vwCl (WB ca aq bq jM jN jZ jB ++ R) s.heap := hP
  generalize hae : ([.ref aq] : List Value).toArray = args at hts hQm ⊢
  refine lv_aload_n hx hb dJ4_length_8abf5_0 rfl (lv_at hl 0 rfl) ?_
  obtain ⟨r1, h2, hf⟩ := bnd hf
  refine zp_i (rest := []) (m_B_J5_length_8abf5 l ca aq bq jM jN jZ jB R _ r1 h2) (clsAt hK (ci := 1) rfl) ⟨hx, hb, hml, hown, hts⟩ (va_cwSU 0 hts (gSU q1206 q1202 q199 q1201 q46 q1207) rfl rfl rfl (by decide +kernel) ⟨Nat.le_of_ble_eq_true rfl, Nat.le_of_ble_eq_true rfl⟩) (va_recv hK hP (ci := 1) (q0 := 0) rfl rfl) hE hP hD hS hA hZ rfl hl.1 rfl (lv_room (Nat.le_of_ble_eq_true rfl)) dJ4_length_8abf5_1 ⟨Nat.le_of_ble_eq_true rfl, Nat.le_of_ble_eq_true rfl⟩ (fun H locs hP hD hS => ?_)
  cases hf
  exact end_i hAe hQm hx hb hr hlocks rfl hP hD hS dJ4_length_8abf5_4
def f_B_J3_checkIndex_8e157 (p0 : Int32) (p1 : Int32) : Option (Int32) :=
  if p0 < 0 then
    none
  else
    if p0 < p1 then
      some p0
    else
      none
set_option maxHeartbeats 4000000 in
set_option maxRecDepth 100000 in
theorem m_B_J3_checkIndex_8e157 (l : Launch) {D : va_G} {sl : List (String × Nat × String)} (ca : Nat → ClassId) (R : va_W) (sz : Nat) (fv : Value) (p0 : Int32) (p1 : Int32) (ro : Int32) (hf : f_B_J3_checkIndex_8e157 p0 p1 = some ro) (hFv : fv = .null ∨ ∃ t, fv = .ref t) : Met l yJ3_checkIndex_8e157 (wm yJ3_checkIndex_8e157 cJ3_checkIndex_8e157 3 (some .int)) ({ frames := 0, cells := 0, slots := 0, locals := 0 } : Room) (PREX [.int p0, .int p1, fv] D ca sl R sz) (QI ro D R R sz) 0 0 (va_A R sz) := by
  refine Met.ofW (cc := cJ3_checkIndex_8e157) (maxL := 3) (ret := (some .int)) (by decide) rfl ?_
  intro p e s m args below meth c s₁ B hml hv
  obtain ⟨rfl, rfl, hP, hE, hD0, hZ⟩ := hv
  have hx := B.exec
  have hb := B.bytes
  have hr := B.returns
  have hts := wm_ww (atoms_spec (ws := wm yJ3_checkIndex_8e157 cJ3_checkIndex_8e157 3 (some .int)) B.pre)
  have hown : s.vm.findClass RJ3 = some m.cls := findClass_of_methodNamed B.named
  have hlocks := B.notSynchronized
  have hK := hE.1
  have hD := hD0.self (sz := s.heap.size)
  generalize hAe : va_A R s.heap.size = A at hD hZ ⊢
  have hA : ∀ q : Nat, s.heap.size ≤ q → A q := fun q h => by rw [← hAe]; exact Or.inr h
  have hS : va_S A s.heap s.heap [] := va_S.rf
  have hFc : fv.category = 1 := by
    rcases hFv with rfl | ⟨t, rfl⟩ <;> rfl
  rcases hFv with rfl | ⟨t, rfl⟩
  · have hl := lv_entry ([.int p0, .int p1, .null]) (n := 3) (Nat.le_of_ble_eq_true rfl)
    rw [lg_entry_eq]
    generalize (lg_sl ([.int p0, .int p1, .null]) ++ List.replicate (3 - (lg_sl ([.int p0, .int p1, .null])).length) Slot.unset).toArray = ls at hl ⊢
    have hl : lv_has ls 3 [(0, .int p0), (1, .int p1), (2, .null)] := hl
    change W p l e ({ frames := 0, cells := 0, slots := 0, locals := 0 } : Room) s m _ below meth c s.heap [] 0 0 _ _
    generalize hQm : MQ below (QI ro D R R s.heap.size) _ s 0 0 A = Qm
    have hP : va_P D vwCl R s.heap := hP
    generalize hae : ([.int p0, .int p1, .null] : List Value).toArray = args at hts hQm ⊢
    refine lv_iload_n hx hb dJ3_checkIndex_8e157_0 rfl (lv_at hl 0 rfl) ?_
    refine lv_if_lt (tgt := 9) hx hb dJ3_checkIndex_8e157_1 (by decide) (fun c1 => ?_) (fun c1 => ?_)
    · have hf := br_pos c1 hf
      cases hf
    · have hf := br_neg c1 hf
      refine lv_iload_n hx hb dJ3_checkIndex_8e157_4 rfl (lv_at hl 0 rfl) ?_
      refine lv_iload_n hx hb dJ3_checkIndex_8e157_5 rfl (lv_at hl 1 rfl) ?_
      refine lv_icmp_lt (tgt := 16) hx hb dJ3_checkIndex_8e157_6 (by decide) (fun c2 => ?_) (fun c2 => ?_)
      · have hf := br_pos c2 hf
        refine lv_iload_n hx hb dJ3_checkIndex_8e157_16 rfl (lv_at hl 0 rfl) ?_
        cases hf
        exact end_i hAe hQm hx hb hr hlocks rfl hP hD hS dJ3_checkIndex_8e157_17
      · have hf := br_neg c2 hf
        cases hf
  · have hl := lv_entry ([.int p0, .int p1, (.ref t)]) (n := 3) (Nat.le_of_ble_eq_true rfl)
    rw [lg_entry_eq]
    generalize (lg_sl ([.int p0, .int p1, (.ref t)]) ++ List.replicate (3 - (lg_sl ([.int p0, .int p1, (.ref t)])).length) Slot.unset).toArray = ls at hl ⊢
    have hl : lv_has ls 3 [(0, .int p0), (1, .int p1), (2, (.ref t))] := hl
    change W p l e ({ frames := 0, cells := 0, slots := 0, locals := 0 } : Room) s m _ below meth c s.heap [] 0 0 _ _
    generalize hQm : MQ below (QI ro D R R s.heap.size) _ s 0 0 A = Qm
    have hP : va_P D vwCl R s.heap := hP
    generalize hae : ([.int p0, .int p1, (.ref t)] : List Value).toArray = args at hts hQm ⊢
    refine lv_iload_n hx hb dJ3_checkIndex_8e157_0 rfl (lv_at hl 0 rfl) ?_
    refine lv_if_lt (tgt := 9) hx hb dJ3_checkIndex_8e157_1 (by decide) (fun c1 => ?_) (fun c1 => ?_)
    · have hf := br_pos c1 hf
      cases hf
    · have hf := br_neg c1 hf
      refine lv_iload_n hx hb dJ3_checkIndex_8e157_4 rfl (lv_at hl 0 rfl) ?_
      refine lv_iload_n hx hb dJ3_checkIndex_8e157_5 rfl (lv_at hl 1 rfl) ?_
      refine lv_icmp_lt (tgt := 16) hx hb dJ3_checkIndex_8e157_6 (by decide) (fun c2 => ?_) (fun c2 => ?_)
      · have hf := br_pos c2 hf
        refine lv_iload_n hx hb dJ3_checkIndex_8e157_16 rfl (lv_at hl 0 rfl) ?_
        cases hf
        exact end_i hAe hQm hx hb hr hlocks rfl hP hD hS dJ3_checkIndex_8e157_17
      · have hf := br_neg c2 hf
        cases hf
def f_B_J0_checkIndex_df160 (p0 : Int32) (p1 : Int32) : Option (Unit) :=
  (f_B_J3_checkIndex_8e157 p0 p1).bind fun r1 =>
  some ()
set_option maxHeartbeats 4000000 in
set_option maxRecDepth 100000 in
theorem m_B_J0_checkIndex_df160 (l : Launch) {D : va_G} {sl : List (String × Nat × String)} (ca : Nat → ClassId) (R : va_W) (sz : Nat) (p0 : Int32) (p1 : Int32) (hf : f_B_J0_checkIndex_df160 p0 p1 = some ()) : Met l yJ0_checkIndex_df160 (wm yJ0_checkIndex_df160 cJ0_checkIndex_df160 2 none) ({ frames := 1, cells := 0, slots := 0, locals := 22 } : Room) (PREX [.int p0, .int p1] D ca sl R sz) (QV D R R sz) 0 0 (va_A R sz) := by
  refine Met.ofW (cc := cJ0_checkIndex_df160) (maxL := 2) (ret := none) (by decide) rfl ?_
  intro p e s m args below meth c s₁ B hml hv
  obtain ⟨rfl, rfl, hP, hE, hD0, hZ⟩ := hv
  have hx := B.exec
  have hb := B.bytes
  have hr := B.returns
  have hts := wm_ww (atoms_spec (ws := wm yJ0_checkIndex_df160 cJ0_checkIndex_df160 2 none) B.pre)
  have hown : s.vm.findClass RJ0 = some m.cls := findClass_of_methodNamed B.named
  have hlocks := B.notSynchronized
  have hK := hE.1
  have hD := hD0.self (sz := s.heap.size)
  generalize hAe : va_A R s.heap.size = A at hD hZ ⊢
  have hA : ∀ q : Nat, s.heap.size ≤ q → A q := fun q h => by rw [← hAe]; exact Or.inr h
  have hS : va_S A s.heap s.heap [] := va_S.rf
  obtain ⟨fv, hF, hFv⟩ : ∃ fv : Value, va_Z "jdk/internal/util/Preconditions" "SIOOBE_FORMATTER" FMT fv A s s.heap ∧ (fv = .null ∨ ∃ t, fv = .ref t) := by
    rcases hZ.2.2.2.1 with h9 | ⟨t, h9⟩
    · exact ⟨_, h9, Or.inl rfl⟩
    · exact ⟨_, h9, Or.inr ⟨t, rfl⟩⟩
  have hFc : fv.category = 1 := by
    rcases hFv with rfl | ⟨t, rfl⟩ <;> rfl
  have hl := lv_entry ([.int p0, .int p1]) (n := 2) (Nat.le_of_ble_eq_true rfl)
  rw [lg_entry_eq]
  generalize (lg_sl ([.int p0, .int p1]) ++ List.replicate (2 - (lg_sl ([.int p0, .int p1])).length) Slot.unset).toArray = ls at hl ⊢
  have hl : lv_has ls 2 [(0, .int p0), (1, .int p1)] := hl
  change W p l e ({ frames := 1, cells := 0, slots := 0, locals := 22 } : Room) s m _ below meth c s.heap [] 0 0 _ _
  generalize hQm : MQ below (QV D R R s.heap.size) _ s 0 0 A = Qm
  have hP : va_P D vwCl R s.heap := hP
  generalize hae : ([.int p0, .int p1] : List Value).toArray = args at hts hQm ⊢
  refine lv_iload_n hx hb dJ0_checkIndex_df160_0 rfl (lv_at hl 0 rfl) ?_
  refine lv_iload_n hx hb dJ0_checkIndex_df160_1 rfl (lv_at hl 1 rfl) ?_
  refine va_gets (v := fv) hx hb hF hS hown (hts _ q1101) (fun _ h9 => h9) dJ0_checkIndex_df160_2 ?_
  obtain ⟨r1, h2, hf⟩ := bnd hf
  refine zs_i (rest := []) (m_B_J3_checkIndex_8e157 l ca R _ fv p0 p1 r1 h2 hFv) ⟨hx, hb, hml, hown, hts⟩ (va_cwS 3 hts (gS q1300 q1301 q67 q1302) rfl rfl rfl (by decide +kernel) ⟨Nat.le_of_ble_eq_true rfl, Nat.le_of_ble_eq_true rfl⟩) hE hP hD hS hA hZ rfl hl.1 rfl (lv_room (Nat.le_of_ble_eq_true rfl)) dJ0_checkIndex_df160_5 ⟨Nat.le_of_ble_eq_true rfl, Nat.le_of_ble_eq_true rfl⟩ (fun H locs hP hD hS => ?_)
  refine lv_pop hx hb dJ0_checkIndex_df160_8 rfl ?_
  cases hf
  exact end_v hAe hQm hx hb hr hlocks hP hD hS dJ0_checkIndex_df160_9
def f_B_J5_charAt_5068e (p1 : Int32) (jN : Int32) (jZ : Nat) (jB : Nat → Int32) : Option (Int32) :=
  (f_B_J0_checkIndex_df160 p1 (if (nI jZ) < jN then (nI jZ) else jN)).bind fun _ =>
  if p1 < 0 ∨ jZ ≤ p1.toNatClampNeg then none else
    if vp_nar .char (((((jB p1.toNatClampNeg) &&& 255)).toUInt32 % 65536).toInt32) = ((((jB p1.toNatClampNeg) &&& 255)).toUInt32 % 65536).toInt32 then some (((((jB p1.toNatClampNeg) &&& 255)).toUInt32 % 65536).toInt32) else none
set_option maxHeartbeats 4000000 in
set_option maxRecDepth 100000 in
theorem m_B_J5_charAt_5068e (l : Launch) {D : va_G} {sl : List (String × Nat × String)} (ca : Nat → ClassId) (aq : Nat) (bq : Nat) (jM : Int32) (jN : Int32) (jZ : Nat) (jB : Nat → Int32) (R : va_W) (sz : Nat) (p1 : Int32) (ro : Int32) (hf : f_B_J5_charAt_5068e p1 jN jZ jB = some ro) : Met l yJ5_charAt_5068e (wm yJ5_charAt_5068e cJ5_charAt_5068e 5 (some .char)) ({ frames := 2, cells := 0, slots := 0, locals := 43 } : Room) (PREX [.ref aq, .int p1] D ca sl (WB ca aq bq jM jN jZ jB ++ R) sz) (QI ro D (WB ca aq bq jM jN jZ jB ++ R) (WB ca aq bq jM jN jZ jB ++ R) sz) 0 0 (va_A (WB ca aq bq jM jN jZ jB ++ R) sz) := by
  refine Met.ofW (cc := cJ5_charAt_5068e) (maxL := 5) (ret := (some .char)) (by decide) rfl ?_
  intro p e s m args below meth c s₁ B hml hv
  obtain ⟨rfl, rfl, hP, hE, hD0, hZ⟩ := hv
  have hx := B.exec
  have hb := B.bytes
  have hr := B.returns
  have hts := wm_ww (atoms_spec (ws := wm yJ5_charAt_5068e cJ5_charAt_5068e 5 (some .char)) B.pre)
  have hown : s.vm.findClass RJ5 = some m.cls := findClass_of_methodNamed B.named
  have hlocks := B.notSynchronized
  have hK := hE.1
  have hD := hD0.self (sz := s.heap.size)
  generalize hAe : va_A (WB ca aq bq jM jN jZ jB ++ R) s.heap.size = A at hD hZ ⊢
  have hA : ∀ q : Nat, s.heap.size ≤ q → A q := fun q h => by rw [← hAe]; exact Or.inr h
  have hS : va_S A s.heap s.heap [] := va_S.rf
  have hl := lv_entry ([.ref aq, .int p1]) (n := 5) (Nat.le_of_ble_eq_true rfl)
  rw [lg_entry_eq]
  generalize (lg_sl ([.ref aq, .int p1]) ++ List.replicate (5 - (lg_sl ([.ref aq, .int p1])).length) Slot.unset).toArray = ls at hl ⊢
  have hl : lv_has ls 5 [(0, .ref aq), (1, .int p1)] := hl
  change W p l e ({ frames := 2, cells := 0, slots := 0, locals := 43 } : Room) s m _ below meth c s.heap [] 0 0 _ _
  generalize hQm : MQ below (QI ro D (WB ca aq bq jM jN jZ jB ++ R) (WB ca aq bq jM jN jZ jB ++ R) s.heap.size) _ s 0 0 A = Qm
  have hP : va_P D vwCl (WB ca aq bq jM jN jZ jB ++ R) s.heap := hP
  generalize hae : ([.ref aq, .int p1] : List Value).toArray = args at hts hQm ⊢
  refine lv_aload_n hx hb dJ5_charAt_5068e_0 rfl (lv_at hl 0 rfl) ?_
  refine va_get (D := D) (ci := 1) (v := .int 0) (C := RJ4) (T := TJ4) (N := 4) hx hb hts inJ4 hown hK hP 0 rfl rfl 1 (by decide) (hts _ q187) (fun _ h9 => h9) rfl dJ5_charAt_5068e_1 ?_
  refine lv_istore_n (lv' := [(2, .int 0), (0, .ref aq), (1, .int p1)]) hx hb dJ5_charAt_5068e_4 rfl hl (by decide) rfl (fun ls hl => ?_)
  refine lv_aload_n hx hb dJ5_charAt_5068e_5 rfl (lv_at hl 1 rfl) ?_
  refine va_get (D := D) (ci := 1) (v := .ref bq) (C := RJ4) (T := TJ4) (N := 4) hx hb hts inJ4 hown hK hP 0 rfl rfl 0 (by decide) (hts _ q186) (fun _ h9 => h9) rfl dJ5_charAt_5068e_6 ?_
  refine lv_astore_n (lv' := [(3, .ref bq), (2, .int 0), (0, .ref aq), (1, .int p1)]) hx hb dJ5_charAt_5068e_9 rfl hl (by decide) rfl (fun ls hl => ?_)
  refine lv_aload_n hx hb dJ5_charAt_5068e_10 rfl (lv_at hl 2 rfl) ?_
  refine va_get (D := D) (ci := 1) (v := .int jN) (C := RJ4) (T := TJ4) (N := 4) hx hb hts inJ4 hown hK hP 0 rfl rfl 3 (by decide) (hts _ q190) (fun _ h9 => h9) rfl dJ5_charAt_5068e_11 ?_
  refine lv_aload_n hx hb dJ5_charAt_5068e_14 rfl (lv_at hl 0 rfl) ?_
  refine va_alen (D := D) (v := (nI jZ)) hx hb hK hP 1 3 rfl rfl rfl dJ5_charAt_5068e_15 ?_
  refine lv_iload_n hx hb dJ5_charAt_5068e_16 rfl (lv_at hl 1 rfl) ?_
  refine lv_ishr hx hb dJ5_charAt_5068e_17 ?_
  rw [sb_shr0]
  refine va_mmin hx hb (hml.trans hl.1.symm) hown (hts _ q1319) (hts _ q1081) (hts _ q61) (hts _ q1082) (Nat.le_of_ble_eq_true rfl) (Nat.le_of_ble_eq_true rfl) (Nat.le_of_ble_eq_true rfl) (Nat.le_of_ble_eq_true rfl) dJ5_charAt_5068e_18 ?_
  refine lv_istore (lv' := [(4, .int (if (nI jZ) < jN then (nI jZ) else jN)), (3, .ref bq), (2, .int 0), (0, .ref aq), (1, .int p1)]) hx hb dJ5_charAt_5068e_21 hl (by decide) rfl (fun ls hl => ?_)
  refine lv_iload_n hx hb dJ5_charAt_5068e_23 rfl (lv_at hl 4 rfl) ?_
  refine lv_iload hx hb dJ5_charAt_5068e_24 (lv_at hl 0 rfl) ?_
  obtain ⟨_, h1, hf⟩ := bnd hf
  refine zs_v (rest := []) (m_B_J0_checkIndex_df160 l ca (WB ca aq bq jM jN jZ jB ++ R) _ p1 (if (nI jZ) < jN then (nI jZ) else jN) h1) ⟨hx, hb, hml, hown, hts⟩ (va_cwS 2 hts (gS q1320 q1298 q48 q1299) rfl rfl rfl (by decide +kernel) ⟨Nat.le_of_ble_eq_true rfl, Nat.le_of_ble_eq_true rfl⟩) hE hP hD hS hA hZ rfl hl.1 rfl (lv_room (Nat.le_of_ble_eq_true rfl)) dJ5_charAt_5068e_26 ⟨Nat.le_of_ble_eq_true rfl, Nat.le_of_ble_eq_true rfl⟩ (fun H locs hP hD hS => ?_)
  refine lv_iload_n hx hb dJ5_charAt_5068e_29 rfl (lv_at hl 2 rfl) ?_
  refine lv_if_ne (tgt := 42) hx hb dJ5_charAt_5068e_30 (by decide) (fun c2 => ?_) (fun c2 => ?_)
  · exact absurd c2 (by decide)
  refine lv_aload_n hx hb dJ5_charAt_5068e_33 rfl (lv_at hl 1 rfl) ?_
  refine lv_iload_n hx hb dJ5_charAt_5068e_34 rfl (lv_at hl 4 rfl) ?_
  obtain ⟨k3, hf⟩ := ck_not hf
  refine va_bald (D := D) hx hb hK hP 1 3 rfl rfl k3 dJ5_charAt_5068e_35 ?_
  refine lv_sipush (v := 255) hx hb dJ5_charAt_5068e_36 (by decide) ?_
  refine lv_iand hx hb dJ5_charAt_5068e_39 ?_
  refine lv_i2c hx hb dJ5_charAt_5068e_40 rfl ?_
  obtain ⟨k4, hf⟩ := ck_yes hf
  cases hf
  exact end_i hAe hQm hx hb hr hlocks (nar_c k4) hP hD hS dJ5_charAt_5068e_41
def f_B_J4_charAt_5068e (p1 : Int32) (jN : Int32) (jZ : Nat) (jB : Nat → Int32) : Option (Int32) :=
  (f_B_J5_charAt_5068e p1 jN jZ jB).bind fun r1 =>
  if vp_nar .char r1 = r1 then some r1 else none
set_option maxHeartbeats 4000000 in
set_option maxRecDepth 100000 in
theorem m_B_J4_charAt_5068e (l : Launch) {D : va_G} {sl : List (String × Nat × String)} (ca : Nat → ClassId) (aq : Nat) (bq : Nat) (jM : Int32) (jN : Int32) (jZ : Nat) (jB : Nat → Int32) (R : va_W) (sz : Nat) (p1 : Int32) (ro : Int32) (hf : f_B_J4_charAt_5068e p1 jN jZ jB = some ro) : Met l yJ4_charAt_5068e (wm yJ4_charAt_5068e cJ4_charAt_5068e 2 (some .char)) ({ frames := 3, cells := 0, slots := 0, locals := 67 } : Room) (PREX [.ref aq, .int p1] D ca sl (WB ca aq bq jM jN jZ jB ++ R) sz) (QI ro D (WB ca aq bq jM jN jZ jB ++ R) (WB ca aq bq jM jN jZ jB ++ R) sz) 0 0 (va_A (WB ca aq bq jM jN jZ jB ++ R) sz) := by
  refine Met.ofW (cc := cJ4_charAt_5068e) (maxL := 2) (ret := (some .char)) (by decide) rfl ?_
  intro p e s m args below meth c s₁ B hml hv
  obtain ⟨rfl, rfl, hP, hE, hD0, hZ⟩ := hv
  have hx := B.exec
  have hb := B.bytes
  have hr := B.returns
  have hts := wm_ww (atoms_spec (ws := wm yJ4_charAt_5068e cJ4_charAt_5068e 2 (some .char)) B.pre)
  have hown : s.vm.findClass RJ4 = some m.cls := findClass_of_methodNamed B.named
  have hlocks := B.notSynchronized
  have hK := hE.1
  have hD := hD0.self (sz := s.heap.size)
  generalize hAe : va_A (WB ca aq bq jM jN jZ jB ++ R) s.heap.size = A at hD hZ ⊢
  have hA : ∀ q : Nat, s.heap.size ≤ q → A q := fun q h => by rw [← hAe]; exact Or.inr h
  have hS : va_S A s.heap s.heap [] := va_S.rf
  have hl := lv_entry ([.ref aq, .int p1]) (n := 2) (Nat.le_of_ble_eq_true rfl)
  rw [lg_entry_eq]
  generalize (lg_sl ([.ref aq, .int p1]) ++ List.replicate (2 - (lg_sl ([.ref aq, .int p1])).length) Slot.unset).toArray = ls at hl ⊢
  have hl : lv_has ls 2 [(0, .ref aq), (1, .int p1)] := hl
  change W p l e ({ frames := 3, cells := 0, slots := 0, locals := 67 } : Room) s m _ below meth c s.heap [] 0 0 _ _
  generalize hQm : MQ below (QI ro D (WB ca aq bq jM jN jZ jB ++ R) (WB ca aq bq jM jN jZ jB ++ R) s.heap.size) _ s 0 0 A = Qm
  have hP : va_P D vwCl (WB ca aq bq jM jN jZ jB ++ R) s.heap := hP
  generalize hae : ([.ref aq, .int p1] : List Value).toArray = args at hts hQm ⊢
  refine lv_aload_n hx hb dJ4_charAt_5068e_0 rfl (lv_at hl 0 rfl) ?_
  refine lv_iload_n hx hb dJ4_charAt_5068e_1 rfl (lv_at hl 1 rfl) ?_
  obtain ⟨r1, h2, hf⟩ := bnd hf
  refine zp_i (rest := []) (m_B_J5_charAt_5068e l ca aq bq jM jN jZ jB R _ p1 r1 h2) (clsAt hK (ci := 1) rfl) ⟨hx, hb, hml, hown, hts⟩ (va_cwSU 1 hts (gSU q1316 q1699 q199 q1317 q46 q1318) rfl rfl rfl (by decide +kernel) ⟨Nat.le_of_ble_eq_true rfl, Nat.le_of_ble_eq_true rfl⟩) (va_recv hK hP (ci := 1) (q0 := 0) rfl rfl) hE hP hD hS hA hZ rfl hl.1 rfl (lv_room (Nat.le_of_ble_eq_true rfl)) dJ4_charAt_5068e_2 ⟨Nat.le_of_ble_eq_true rfl, Nat.le_of_ble_eq_true rfl⟩ (fun H locs hP hD hS => ?_)
  obtain ⟨k3, hf⟩ := ck_yes hf
  cases hf
  exact end_i hAe hQm hx hb hr hlocks (nar_c k3) hP hD hS dJ4_charAt_5068e_5
def f_B_J6_getChars_ba4f3 (p0 : Int32) (p1 : Int32) (jZ : Nat) (jB : Nat → Int32) : Option (Int32 × (Nat → Int32)) :=
  if 0 ≤ p0 then
    if (-100) < (-p0) then
      if (-(-p0)) < 0 ∨ 100 ≤ ((-(-p0))).toNatClampNeg then none else
        if (p1 + (-1)) < 0 ∨ jZ ≤ (p1 + (-1)).toNatClampNeg then none else
        if (-9) ≤ (-p0) then
        some ((p1 + (-1)), (upd jB (p1 + (-1)).toNatClampNeg (vp_nar .byte (nI (48 + ((-(-p0))).toNatClampNeg % 10)))))
      else
        if (-(-p0)) < 0 ∨ 100 ≤ ((-(-p0))).toNatClampNeg then none else
          if ((p1 + (-1)) + (-1)) < 0 ∨ jZ ≤ ((p1 + (-1)) + (-1)).toNatClampNeg then none else
          some (((p1 + (-1)) + (-1)), (upd (upd jB (p1 + (-1)).toNatClampNeg (vp_nar .byte (nI (48 + ((-(-p0))).toNatClampNeg % 10)))) ((p1 + (-1)) + (-1)).toNatClampNeg (vp_nar .byte (nI (48 + ((-(-p0))).toNatClampNeg / 10)))))
    else
      none
  else
    if (-100) < p0 then
      if (-p0) < 0 ∨ 100 ≤ ((-p0)).toNatClampNeg then none else
        if (p1 + (-1)) < 0 ∨ jZ ≤ (p1 + (-1)).toNatClampNeg then none else
        if (-9) ≤ p0 then
        none
      else
        if (-p0) < 0 ∨ 100 ≤ ((-p0)).toNatClampNeg then none else
          if ((p1 + (-1)) + (-1)) < 0 ∨ jZ ≤ ((p1 + (-1)) + (-1)).toNatClampNeg then none else
          none
    else
      none
set_option maxHeartbeats 4000000 in
set_option maxRecDepth 100000 in
theorem m_B_J6_getChars_ba4f3 (l : Launch) {D : va_G} {sl : List (String × Nat × String)} (ca : Nat → ClassId) (aq : Nat) (bq : Nat) (jM : Int32) (jN : Int32) (jZ : Nat) (jB : Nat → Int32) (R : va_W) (sz : Nat) (p0 : Int32) (p1 : Int32) (ro : Int32) (ojB : Nat → Int32) (hf : f_B_J6_getChars_ba4f3 p0 p1 jZ jB = some (ro, ojB)) : Met l yJ6_getChars_ba4f3 (wm yJ6_getChars_ba4f3 cJ6_getChars_ba4f3 7 (some .int)) ({ frames := 0, cells := 0, slots := 0, locals := 0 } : Room) (PREX [.int p0, .int p1, .ref bq] D ca sl (WB ca aq bq jM jN jZ jB ++ R) sz) (QI ro D (WB ca aq bq jM jN jZ ojB ++ R) (WB ca aq bq jM jN jZ jB ++ R) sz) 0 0 (va_A (WB ca aq bq jM jN jZ jB ++ R) sz) := by
  refine Met.ofW (cc := cJ6_getChars_ba4f3) (maxL := 7) (ret := (some .int)) (by decide) rfl ?_
  intro p e s m args below meth c s₁ B hml hv
  obtain ⟨rfl, rfl, hP, hE, hD0, hZ⟩ := hv
  have hx := B.exec
  have hb := B.bytes
  have hr := B.returns
  have hts := wm_ww (atoms_spec (ws := wm yJ6_getChars_ba4f3 cJ6_getChars_ba4f3 7 (some .int)) B.pre)
  have hown : s.vm.findClass RJ6 = some m.cls := findClass_of_methodNamed B.named
  have hlocks := B.notSynchronized
  have hK := hE.1
  have hD := hD0.self (sz := s.heap.size)
  generalize hAe : va_A (WB ca aq bq jM jN jZ jB ++ R) s.heap.size = A at hD hZ ⊢
  have hA : ∀ q : Nat, s.heap.size ≤ q → A q := fun q h => by rw [← hAe]; exact Or.inr h
  have hS : va_S A s.heap s.heap [] := va_S.rf
  obtain ⟨t1, t2, hT1, hU1, hT2, hU2⟩ := hZ.2.2.2.2
  have hl := lv_entry ([.int p0, .int p1, .ref bq]) (n := 7) (Nat.le_of_ble_eq_true rfl)
  rw [lg_entry_eq]
  generalize (lg_sl ([.int p0, .int p1, .ref bq]) ++ List.replicate (7 - (lg_sl ([.int p0, .int p1, .ref bq])).length) Slot.unset).toArray = ls at hl ⊢
  have hl : lv_has ls 7 [(0, .int p0), (1, .int p1), (2, .ref bq)] := hl
  change W p l e ({ frames := 0, cells := 0, slots := 0, locals := 0 } : Room) s m _ below meth c s.heap [] 0 0 _ _
  generalize hQm : MQ below (QI ro D (WB ca aq bq jM jN jZ ojB ++ R) (WB ca aq bq jM jN jZ jB ++ R) s.heap.size) _ s 0 0 A = Qm
  have hP : va_P D vwCl (WB ca aq bq jM jN jZ jB ++ R) s.heap := hP
  generalize hae : ([.int p0, .int p1, .ref bq] : List Value).toArray = args at hts hQm ⊢
  refine lv_iload_n hx hb dJ6_getChars_ba4f3_0 rfl (lv_at hl 1 rfl) ?_
  refine lv_istore (lv' := [(5, .int p1), (0, .int p0), (1, .int p1), (2, .ref bq)]) hx hb dJ6_getChars_ba4f3_1 hl (by decide) rfl (fun ls hl => ?_)
  refine lv_iload_n hx hb dJ6_getChars_ba4f3_3 rfl (lv_at hl 1 rfl) ?_
  refine lv_if_ge (tgt := 11) hx hb dJ6_getChars_ba4f3_4 (by decide) (fun c1 => ?_) (fun c1 => ?_)
  · have hf := br_pos c1 hf
    refine lv_iconst (v := 0) hx hb dJ6_getChars_ba4f3_11 (by decide) ?_
    refine lv_istore (lv' := [(6, .int 0), (5, .int p1), (0, .int p0), (1, .int p1), (2, .ref bq)]) hx hb dJ6_getChars_ba4f3_12 hl (by decide) rfl (fun ls hl => ?_)
    refine lv_iload hx hb dJ6_getChars_ba4f3_14 (lv_at hl 0 rfl) ?_
    refine lv_if_ne (tgt := 22) hx hb dJ6_getChars_ba4f3_16 (by decide) (fun c2 => ?_) (fun c2 => ?_)
    · exact absurd c2 (by decide)
    refine lv_iload_n hx hb dJ6_getChars_ba4f3_19 rfl (lv_at hl 2 rfl) ?_
    refine lv_ineg hx hb dJ6_getChars_ba4f3_20 ?_
    refine lv_istore_n (lv' := [(0, .int (-p0)), (6, .int 0), (5, .int p1), (1, .int p1), (2, .ref bq)]) hx hb dJ6_getChars_ba4f3_21 rfl hl (by decide) rfl (fun ls hl => ?_)
    refine lv_iload_n hx hb dJ6_getChars_ba4f3_22 rfl (lv_at hl 0 rfl) ?_
    refine lv_bipush (v := (-100)) hx hb dJ6_getChars_ba4f3_23 (by decide) ?_
    refine lv_icmp_gt (tgt := 72) hx hb dJ6_getChars_ba4f3_25 (by decide) (fun c3 => ?_) (fun c3 => ?_)
    · have hf := br_pos c3 hf
      refine lv_aload_n hx hb dJ6_getChars_ba4f3_72 rfl (lv_at hl 4 rfl) ?_
      refine lv_iinc (v := (p1 + (-1))) (lv' := [(5, .int (p1 + (-1))), (0, .int (-p0)), (6, .int 0), (1, .int p1), (2, .ref bq)]) hx hb dJ6_getChars_ba4f3_73 hl (k := 2) rfl rfl (by decide) rfl (fun ls hl => ?_)
      refine lv_iload hx hb dJ6_getChars_ba4f3_76 (lv_at hl 0 rfl) ?_
      refine va_gets (v := .ref t1) hx hb hT1 hS hown (hts _ q1171) (fun _ h9 => h9) dJ6_getChars_ba4f3_78 ?_
      refine lv_iload_n hx hb dJ6_getChars_ba4f3_81 rfl (lv_at hl 1 rfl) ?_
      refine lv_ineg hx hb dJ6_getChars_ba4f3_82 ?_
      obtain ⟨k4, hf⟩ := ck_not hf
      refine va_tb (v := .int (nI (48 + ((-(-p0))).toNatClampNeg % 10))) hx hb hU1 hS k4 rfl dJ6_getChars_ba4f3_83 ?_
      obtain ⟨k5, hf⟩ := ck_not hf
      refine va_bast (D := D) hx hb hK hP hD hS 1 3 rfl rfl k5 dJ6_getChars_ba4f3_84 (fun H locs hP hD hS => ?_)
      have hP : va_P D vwCl (WB ca aq bq jM jN jZ (upd jB (p1 + (-1)).toNatClampNeg (vp_nar .byte (nI (48 + ((-(-p0))).toNatClampNeg % 10)))) ++ R) H := hP
      have hD : va_D A (WB ca aq bq jM jN jZ (upd jB (p1 + (-1)).toNatClampNeg (vp_nar .byte (nI (48 + ((-(-p0))).toNatClampNeg % 10)))) ++ R) := hD
      refine lv_iload_n hx hb dJ6_getChars_ba4f3_85 rfl (lv_at hl 1 rfl) ?_
      refine lv_bipush (v := (-9)) hx hb dJ6_getChars_ba4f3_86 (by decide) ?_
      refine lv_icmp_ge (tgt := 104) hx hb dJ6_getChars_ba4f3_88 (by decide) (fun c6 => ?_) (fun c6 => ?_)
      · have hf := br_pos c6 hf
        refine lv_iload hx hb dJ6_getChars_ba4f3_104 (lv_at hl 2 rfl) ?_
        refine lv_if_eq (tgt := 118) hx hb dJ6_getChars_ba4f3_106 (by decide) (fun c7 => ?_) (fun c7 => ?_)
        rotate_left
        · exact absurd c7 (by decide)
        refine lv_iload hx hb dJ6_getChars_ba4f3_118 (lv_at hl 0 rfl) ?_
        have hj0 := Option.some.inj hf
        obtain ⟨hg0, hj1⟩ := Prod.mk.inj hj0
        subst hg0
        subst hj1
        exact end_i hAe hQm hx hb hr hlocks rfl hP hD hS dJ6_getChars_ba4f3_120
      · have hf := br_neg c6 hf
        refine lv_aload_n hx hb dJ6_getChars_ba4f3_91 rfl (lv_at hl 4 rfl) ?_
        refine lv_iinc (v := ((p1 + (-1)) + (-1))) (lv' := [(5, .int ((p1 + (-1)) + (-1))), (0, .int (-p0)), (6, .int 0), (1, .int p1), (2, .ref bq)]) hx hb dJ6_getChars_ba4f3_92 hl (k := 0) rfl rfl (by decide) rfl (fun ls hl => ?_)
        refine lv_iload hx hb dJ6_getChars_ba4f3_95 (lv_at hl 0 rfl) ?_
        refine va_gets (v := .ref t2) hx hb hT2 hS hown (hts _ q1173) (fun _ h9 => h9) dJ6_getChars_ba4f3_97 ?_
        refine lv_iload_n hx hb dJ6_getChars_ba4f3_100 rfl (lv_at hl 1 rfl) ?_
        refine lv_ineg hx hb dJ6_getChars_ba4f3_101 ?_
        obtain ⟨k8, hf⟩ := ck_not hf
        refine va_tb (v := .int (nI (48 + ((-(-p0))).toNatClampNeg / 10))) hx hb hU2 hS k8 rfl dJ6_getChars_ba4f3_102 ?_
        obtain ⟨k9, hf⟩ := ck_not hf
        refine va_bast (D := D) hx hb hK hP hD hS 1 3 rfl rfl k9 dJ6_getChars_ba4f3_103 (fun H locs hP hD hS => ?_)
        have hP : va_P D vwCl (WB ca aq bq jM jN jZ (upd (upd jB (p1 + (-1)).toNatClampNeg (vp_nar .byte (nI (48 + ((-(-p0))).toNatClampNeg % 10)))) ((p1 + (-1)) + (-1)).toNatClampNeg (vp_nar .byte (nI (48 + ((-(-p0))).toNatClampNeg / 10)))) ++ R) H := hP
        have hD : va_D A (WB ca aq bq jM jN jZ (upd (upd jB (p1 + (-1)).toNatClampNeg (vp_nar .byte (nI (48 + ((-(-p0))).toNatClampNeg % 10)))) ((p1 + (-1)) + (-1)).toNatClampNeg (vp_nar .byte (nI (48 + ((-(-p0))).toNatClampNeg / 10)))) ++ R) := hD
        refine lv_iload hx hb dJ6_getChars_ba4f3_104 (lv_at hl 2 rfl) ?_
        refine lv_if_eq (tgt := 118) hx hb dJ6_getChars_ba4f3_106 (by decide) (fun c10 => ?_) (fun c10 => ?_)
        rotate_left
        · exact absurd c10 (by decide)
        refine lv_iload hx hb dJ6_getChars_ba4f3_118 (lv_at hl 0 rfl) ?_
        have hj0 := Option.some.inj hf
        obtain ⟨hg0, hj1⟩ := Prod.mk.inj hj0
        subst hg0
        subst hj1
        exact end_i hAe hQm hx hb hr hlocks rfl hP hD hS dJ6_getChars_ba4f3_120
    · have hf := br_neg c3 hf
      cases hf
  · have hf := br_neg c1 hf
    refine lv_iconst (v := 1) hx hb dJ6_getChars_ba4f3_7 (by decide) ?_
    refine lv_goto (tgt := 12) hx hb dJ6_getChars_ba4f3_8 (by decide) ?_
    refine lv_istore (lv' := [(6, .int 1), (5, .int p1), (0, .int p0), (1, .int p1), (2, .ref bq)]) hx hb dJ6_getChars_ba4f3_12 hl (by decide) rfl (fun ls hl => ?_)
    refine lv_iload hx hb dJ6_getChars_ba4f3_14 (lv_at hl 0 rfl) ?_
    refine lv_if_ne (tgt := 22) hx hb dJ6_getChars_ba4f3_16 (by decide) (fun c11 => ?_) (fun c11 => ?_)
    rotate_left
    · exact absurd c11 (by decide)
    refine lv_iload_n hx hb dJ6_getChars_ba4f3_22 rfl (lv_at hl 2 rfl) ?_
    refine lv_bipush (v := (-100)) hx hb dJ6_getChars_ba4f3_23 (by decide) ?_
    refine lv_icmp_gt (tgt := 72) hx hb dJ6_getChars_ba4f3_25 (by decide) (fun c12 => ?_) (fun c12 => ?_)
    · have hf := br_pos c12 hf
      refine lv_aload_n hx hb dJ6_getChars_ba4f3_72 rfl (lv_at hl 4 rfl) ?_
      refine lv_iinc (v := (p1 + (-1))) (lv' := [(5, .int (p1 + (-1))), (6, .int 1), (0, .int p0), (1, .int p1), (2, .ref bq)]) hx hb dJ6_getChars_ba4f3_73 hl (k := 1) rfl rfl (by decide) rfl (fun ls hl => ?_)
      refine lv_iload hx hb dJ6_getChars_ba4f3_76 (lv_at hl 0 rfl) ?_
      refine va_gets (v := .ref t1) hx hb hT1 hS hown (hts _ q1171) (fun _ h9 => h9) dJ6_getChars_ba4f3_78 ?_
      refine lv_iload_n hx hb dJ6_getChars_ba4f3_81 rfl (lv_at hl 2 rfl) ?_
      refine lv_ineg hx hb dJ6_getChars_ba4f3_82 ?_
      obtain ⟨k13, hf⟩ := ck_not hf
      refine va_tb (v := .int (nI (48 + ((-p0)).toNatClampNeg % 10))) hx hb hU1 hS k13 rfl dJ6_getChars_ba4f3_83 ?_
      obtain ⟨k14, hf⟩ := ck_not hf
      refine va_bast (D := D) hx hb hK hP hD hS 1 3 rfl rfl k14 dJ6_getChars_ba4f3_84 (fun H locs hP hD hS => ?_)
      have hP : va_P D vwCl (WB ca aq bq jM jN jZ (upd jB (p1 + (-1)).toNatClampNeg (vp_nar .byte (nI (48 + ((-p0)).toNatClampNeg % 10)))) ++ R) H := hP
      have hD : va_D A (WB ca aq bq jM jN jZ (upd jB (p1 + (-1)).toNatClampNeg (vp_nar .byte (nI (48 + ((-p0)).toNatClampNeg % 10)))) ++ R) := hD
      refine lv_iload_n hx hb dJ6_getChars_ba4f3_85 rfl (lv_at hl 2 rfl) ?_
      refine lv_bipush (v := (-9)) hx hb dJ6_getChars_ba4f3_86 (by decide) ?_
      refine lv_icmp_ge (tgt := 104) hx hb dJ6_getChars_ba4f3_88 (by decide) (fun c15 => ?_) (fun c15 => ?_)
      · have hf := br_pos c15 hf
        refine lv_iload hx hb dJ6_getChars_ba4f3_104 (lv_at hl 1 rfl) ?_
        refine lv_if_eq (tgt := 118) hx hb dJ6_getChars_ba4f3_106 (by decide) (fun c16 => ?_) (fun c16 => ?_)
        · exact absurd c16 (by decide)
        cases hf
      · have hf := br_neg c15 hf
        refine lv_aload_n hx hb dJ6_getChars_ba4f3_91 rfl (lv_at hl 4 rfl) ?_
        refine lv_iinc (v := ((p1 + (-1)) + (-1))) (lv' := [(5, .int ((p1 + (-1)) + (-1))), (6, .int 1), (0, .int p0), (1, .int p1), (2, .ref bq)]) hx hb dJ6_getChars_ba4f3_92 hl (k := 0) rfl rfl (by decide) rfl (fun ls hl => ?_)
        refine lv_iload hx hb dJ6_getChars_ba4f3_95 (lv_at hl 0 rfl) ?_
        refine va_gets (v := .ref t2) hx hb hT2 hS hown (hts _ q1173) (fun _ h9 => h9) dJ6_getChars_ba4f3_97 ?_
        refine lv_iload_n hx hb dJ6_getChars_ba4f3_100 rfl (lv_at hl 2 rfl) ?_
        refine lv_ineg hx hb dJ6_getChars_ba4f3_101 ?_
        obtain ⟨k17, hf⟩ := ck_not hf
        refine va_tb (v := .int (nI (48 + ((-p0)).toNatClampNeg / 10))) hx hb hU2 hS k17 rfl dJ6_getChars_ba4f3_102 ?_
        obtain ⟨k18, hf⟩ := ck_not hf
        refine va_bast (D := D) hx hb hK hP hD hS 1 3 rfl rfl k18 dJ6_getChars_ba4f3_103 (fun H locs hP hD hS => ?_)
        have hP : va_P D vwCl (WB ca aq bq jM jN jZ (upd (upd jB (p1 + (-1)).toNatClampNeg (vp_nar .byte (nI (48 + ((-p0)).toNatClampNeg % 10)))) ((p1 + (-1)) + (-1)).toNatClampNeg (vp_nar .byte (nI (48 + ((-p0)).toNatClampNeg / 10)))) ++ R) H := hP
        have hD : va_D A (WB ca aq bq jM jN jZ (upd (upd jB (p1 + (-1)).toNatClampNeg (vp_nar .byte (nI (48 + ((-p0)).toNatClampNeg % 10)))) ((p1 + (-1)) + (-1)).toNatClampNeg (vp_nar .byte (nI (48 + ((-p0)).toNatClampNeg / 10)))) ++ R) := hD
        refine lv_iload hx hb dJ6_getChars_ba4f3_104 (lv_at hl 1 rfl) ?_
        refine lv_if_eq (tgt := 118) hx hb dJ6_getChars_ba4f3_106 (by decide) (fun c19 => ?_) (fun c19 => ?_)
        · exact absurd c19 (by decide)
        cases hf
    · have hf := br_neg c12 hf
      cases hf
