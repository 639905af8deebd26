/-! METHODS THAT THROW: their contracts' forms, their calls, their ends -/
theorem WW_of {w : Cond} (h : w ∈ lw_tbl) (g : goodWord w = true) : w ∈ WW := List.mem_append_left _ (List.mem_filter.mpr ⟨h, g⟩)
def XN : Nat → String
  | 1 => "java/lang/IllegalArgumentException"
  | 2 => "java/lang/IllegalStateException"
  | 3 => "java/lang/IndexOutOfBoundsException"
  | 4 => "java/lang/UnsupportedOperationException"
  | 5 => "java/util/NoSuchElementException"
  | _ => "java/lang/ArithmeticException"
abbrev XL : List String := ["java/lang/RuntimeException", "java/lang/Exception"]
/-- the tables of digits -/
def dg1 (j : Nat) : Value := .int (nI (48 + j % 10))
def dg2 (j : Nat) : Value := .int (nI (48 + j / 10))
def TT (A : Nat → Prop) (U : State) (H : Heap) : Prop := ∃ t1 t2 : Nat, va_Z "java/lang/Integer" "DigitOnes" "[B" (.ref t1) A U H ∧ va_T .byte t1 100 dg1 A U H ∧ va_Z "java/lang/Integer" "DigitTens" "[B" (.ref t2) A U H ∧ va_T .byte t2 100 dg2 A U H
theorem TT.go {A A1 : Nat → Prop} {s U : State} {H0 H : Heap} (h : TT A s H0) (hq : ∀ a : Nat, a < H0.size → ¬ A a → H[a]? = H0[a]?) (hal : s.vm.Alike U.vm) (hAB : ∀ q, A1 q → A q) : TT A1 U H := by
  obtain ⟨t1, t2, h1, h2, h3, h4⟩ := h
  exact ⟨t1, t2, (va_Z.moved hal (h1.kept hq)).narrow hAB, (va_T.moved hal (h2.kept hq)).narrow hAB, (va_Z.moved hal (h3.kept hq)).narrow hAB, (va_T.moved hal (h4.kept hq)).narrow hAB⟩
abbrev FMT : String := "Ljava/util/function/BiFunction;"
def ZZ (A : Nat → Prop) (U : State) (H : Heap) : Prop := vx_Zq Bundle.tN "UNASSIGNED_STACK" Bundle.steD A U H ∧ vx_Zq Bundle.tN "SUPPRESSED_SENTINEL" Bundle.listD A U H ∧ va_Z "java/lang/String" "COMPACT_STRINGS" "Z" (.int 1) A U H ∧ va_Zq "jdk/internal/util/Preconditions" "SIOOBE_FORMATTER" FMT A U H ∧ TT A U H
theorem ZZ.go {A A1 : Nat → Prop} {s U : State} {H0 H : Heap} {locs : List Loc} (h : ZZ A s H0) (hS : va_S A H0 H locs) (hal : s.vm.Alike U.vm) (hu : U.heap = H) (hAB : ∀ q, A1 q → A q) : ZZ A1 U U.heap := by
  rw [hu]
  exact ⟨((vx_Zq.moved hal (h.1.kept hS.2.1)).narrow hAB), ((vx_Zq.moved hal (h.2.1.kept hS.2.1)).narrow hAB), ((va_Z.moved hal (h.2.2.1.kept hS.2.1)).narrow hAB), ((va_Zq.moved hal (h.2.2.2.1.kept hS.2.1)).narrow hAB), h.2.2.2.2.go hS.2.1 hal hAB⟩
theorem ZZ.same {A : Nat → Prop} {U : State} {g : JFrame} {mk : MethodId} {a : Array Value} (h : ZZ A U U.heap) : ZZ A (U.calling g mk a) (U.calling g mk a).heap :=
  ⟨vx_Zq.moved (u := U) (U := U.calling g mk a) (Vm.Alike.refl U.vm) h.1, vx_Zq.moved (u := U) (U := U.calling g mk a) (Vm.Alike.refl U.vm) h.2.1, va_Z.moved (u := U) (U := U.calling g mk a) (Vm.Alike.refl U.vm) h.2.2.1, va_Zq.moved (u := U) (U := U.calling g mk a) (Vm.Alike.refl U.vm) h.2.2.2.1, TT.go (U := U.calling g mk a) h.2.2.2.2 (fun _ _ _ => rfl) (Vm.Alike.refl U.vm) (fun _ z => z)⟩
def PREX (av : List Value) (D : va_G) (ca : Nat → ClassId) (sl : List (String × Nat × String)) (w : va_W) (sz : Nat) : Array Value → State → Prop :=
  va_Pc av (fun U => U.heap.size = sz ∧ va_P D vwCl w U.heap ∧ EE D ca sl U ∧ va_D (fun _ => True) w ∧ ZZ (va_A w sz) U U.heap)
theorem PREX_blind {av : List Value} {D : va_G} {ca : Nat → ClassId} {sl : List (String × Nat × String)} {w : va_W} {sz : Nat} : FrameBlind (PREX av D ca sl w sz) := fun a U g mk q => by
  obtain ⟨q0, q1, qP, qE, qD, qZ⟩ := q
  exact ⟨q0, q1, qP, EE.same (u := U) rfl qE, qD, ZZ.same qZ⟩
def QXI (o : Except Nat Int32) (D : va_G) (w' w : va_W) (sz : Nat) : Array Value → State → Outcome → State → Prop := va_Qi (fun (r' : Int32) (_ : Unit) => o = .ok r') (fun _ t => BW D w' w sz t) (va_A w sz)
def QXD (o : Except Nat UInt64) (D : va_G) (w' w : va_W) (sz : Nat) : Array Value → State → Outcome → State → Prop := va_Qd (fun (r' : UInt64) (_ : Unit) => o = .ok r') (fun _ t => BW D w' w sz t) (va_A w sz)
def QXF (o : Except Nat UInt32) (D : va_G) (w' w : va_W) (sz : Nat) : Array Value → State → Outcome → State → Prop := va_Qf (fun (r' : UInt32) (_ : Unit) => o = .ok r') (fun _ t => BW D w' w sz t) (va_A w sz)
def QXV (o : Except Nat Unit) (D : va_G) (w' w : va_W) (sz : Nat) : Array Value → State → Outcome → State → Prop := va_Qv (fun (_ : Unit) => o = .ok ()) (fun _ t => BW D w' w sz t) (va_A w sz)
def QXE {α : Type} (o : Except Nat α) (D : va_G) (w' w : va_W) (sz : Nat) : String → State → State → Prop := vx_X (fun k : Nat => o = .error k) (fun E k t => E = XN k ∧ BW D w' w sz t) (va_A w sz)
theorem at_all {L : List Cond} (h : L.all (fun w => decide (w ∈ lw_tbl) && (goodWord w || (nwW w && w.onTables))) = true) {args : Array Value} {s : State} (hts : ∀ w ∈ WW, w.before args s = true) (hN : ∀ w ∈ NWL, va_Nw w s) : ∀ w ∈ L, w.before args s = true := by
  intro w hw
  have h1 := List.all_eq_true.mp h w hw
  simp only [Bool.and_eq_true, decide_eq_true_eq, Bool.or_eq_true] at h1
  rcases h1.2 with g | g
  · exact hts w (WW_of h1.1 g)
  · have h2 := hN w (List.mem_filter.mpr ⟨h1.1, g.1⟩)
    exact va_Nw.use g.2 h2
theorem at_ot {L : List Cond} (h : L.all (fun w => decide (w ∈ lw_tbl) && (goodWord w || (nwW w && w.onTables))) = true) : ∀ w ∈ L, vx_ot w = true := by
  intro w hw
  have h1 := List.all_eq_true.mp h w hw
  simp only [Bool.and_eq_true, decide_eq_true_eq, Bool.or_eq_true] at h1
  unfold vx_ot
  rcases h1.2 with g | g
  · rw [g, Bool.or_true]
  · rw [g.2, Bool.true_or]
section XCALLS
variable {p : Program} {l : Launch} {e : Env} {Rm : Room} {s : State} {m : MethodId} {args : Array Value} {below : List Frame} {meth : Method} {c : Code} {H : Heap} {locs : List Loc} {cells slots : Nat} {Q : State → Prop}
variable {y : MethodName} {bytes cc : ByteArray} {maxL nL mc ms MC MS n index : Nat} {ret : Option FieldType} {rm : Room} {own C host : String} {b : Nat} {As rest st : List Value} {pc : Nat} {ls : Array Slot}
variable {D : va_G} {ca : Nat → ClassId} {sl : List (String × Nat × String)} {w w' : va_W} {A0 : Nat → Prop} {k : Nat}
theorem prex_ok {av : List Value} (hE : EE D ca sl s) (hP : va_P D vwCl w H) (hD : va_D A0 w) (hS : va_S A0 s.heap H locs) (hA : ∀ q, s.heap.size ≤ q → A0 q) (hZ : ZZ A0 s s.heap) : ∀ U : State, U.heap = H → s.WarmedH U.vm → PREX av D ca sl w H.size av.toArray U := fun U hU hW =>
  ⟨rfl, by rw [hU], by rw [hU]; exact hP, hE.warm hW, hD.weaken (fun _ _ _ _ => trivial), hZ.go hS hW.alike hU (vaA_sub hD hS hA)⟩
/-- thrown over this frame, no handler: it leaves -/
theorem x_leave {α : Type} {w0 : va_W} {A : Nat → Prop} {Qc : Array Value → State → Outcome → State → Prop} {q9 : Addr} {ce : Cell} (hAe : va_A w0 s.heap.size = A) (hQm : vx_MQ below Qc (QXE (.error k : Except Nat α) D w' w0 s.heap.size) args s MC MS A = Q) (htab : ∀ x ∈ c.exceptionTable.toList, False) (hlocks : meth.locks = false)
    (hP : va_P D vwCl w' H) (hD : va_D A w') (hS : va_S A s.heap H locs) (hce : H[q9]? = some ce) (hv : ce.vm = .none) (hcl : s.vm.findClass (XN k) = some ce.cls) (hc : cells ≤ MC) (hs : slots ≤ MS) :
    vx_W p l e Rm s m args below meth c H locs cells slots Q (F0 m pc ls rest) q9 := by
  subst hQm
  subst hAe
  exact vx_out (E := XN k) (fun x hx => (htab x hx).elim) hlocks hce hv hcl (fun t ht hal => ⟨k, rfl, ⟨rfl, by rw [ht]; exact hP, hD⟩, hS.F ht⟩) hS.2.2 hc hs
theorem cx_vi_ok {r : Int32} (hM : vx_Met l y (wm y bytes maxL ret) rm (PREX (.ref b :: As) D ca sl w H.size) (QXI (.ok r) D w' w H.size) (QXE (.ok r : Except Nat Int32) D w' w H.size) mc ms (va_A w H.size)) (S : CallFix p m c cc nL s args WW own) (cw : CallW Rm s args own C index y bytes maxL ret (wm y bytes maxL ret) rm mc ms n)
    (hrecv : ∃ cellB : Cell, H[b]? = some cellB ∧ cellB.vm.isStatics = false ∧ s.vm.findClass C = some cellB.cls) (hE : EE D ca sl s) (hP : va_P D vwCl w H) (hD : va_D A0 w) (hS : va_S A0 s.heap H locs) (hA : ∀ q, s.heap.size ≤ q → A0 q) (hZ : ZZ A0 s s.heap)
    (hn : As.length = n) (hsize : ls.size = nL) (hst : st = As.reverse ++ .ref b :: rest) (hW : 2 * (F0 m pc ls st).monitorRoom + (rest.map fun v => v.category).sum ≤ 8) (hdg : decode cc pc = .ok (.invokevirtual index, 3)) (hf : cells + mc ≤ Rm.cells ∧ slots + ms ≤ Rm.slots)
    (kk : ∀ (H1 : Heap) (locs1 : List Loc), va_P D vwCl w' H1 → va_D A0 w' → va_S A0 s.heap H1 locs1 → W p l e Rm s m args below meth c H1 locs1 (cells + mc) (slots + ms) Q (F0 m (pc + 3) ls (.int r :: rest))) : W p l e Rm s m args below meth c H locs cells slots Q (F0 m pc ls st) :=
  vx_calli (vx_runV S hM cw ⟨PREX_blind, hrecv, prex_ok hE hP hD hS hA hZ⟩ rfl hn hsize hst hW hdg hf) hS (fun q _ h => vaA_sub hD hS hA q h) (vaA_sub hD hS hA) (fun q _ h => vaA_sub hD hS hA q h)
    (fun E ce q9 u t H1 locs1 ht hvm hw hB hz1 hk1 hS1 hce hv hcl => nomatch hw)
    (fun r' u t H1 locs1 ht hvm hw hB hz1 hk1 hS1 => by
      obtain ⟨hP1, hD1⟩ := bw_ok hD hS hA ht hB
      cases hw
      exact kk H1 locs1 hP1 hD1 hS1)
theorem cx_vv_ok (hM : vx_Met l y (wm y bytes maxL ret) rm (PREX (.ref b :: As) D ca sl w H.size) (QXV (.ok ()) D w' w H.size) (QXE (.ok () : Except Nat Unit) D w' w H.size) mc ms (va_A w H.size)) (S : CallFix p m c cc nL s args WW own) (cw : CallW Rm s args own C index y bytes maxL ret (wm y bytes maxL ret) rm mc ms n)
    (hrecv : ∃ cellB : Cell, H[b]? = some cellB ∧ cellB.vm.isStatics = false ∧ s.vm.findClass C = some cellB.cls) (hE : EE D ca sl s) (hP : va_P D vwCl w H) (hD : va_D A0 w) (hS : va_S A0 s.heap H locs) (hA : ∀ q, s.heap.size ≤ q → A0 q) (hZ : ZZ A0 s s.heap)
    (hn : As.length = n) (hsize : ls.size = nL) (hst : st = As.reverse ++ .ref b :: rest) (hW : 2 * (F0 m pc ls st).monitorRoom + (rest.map fun v => v.category).sum ≤ 8) (hdg : decode cc pc = .ok (.invokevirtual index, 3)) (hf : cells + mc ≤ Rm.cells ∧ slots + ms ≤ Rm.slots)
    (kk : ∀ (H1 : Heap) (locs1 : List Loc), va_P D vwCl w' H1 → va_D A0 w' → va_S A0 s.heap H1 locs1 → W p l e Rm s m args below meth c H1 locs1 (cells + mc) (slots + ms) Q (F0 m (pc + 3) ls rest)) : W p l e Rm s m args below meth c H locs cells slots Q (F0 m pc ls st) :=
  vx_callv (vx_runV S hM cw ⟨PREX_blind, hrecv, prex_ok hE hP hD hS hA hZ⟩ rfl hn hsize hst hW hdg hf) hS (fun q _ h => vaA_sub hD hS hA q h) (vaA_sub hD hS hA) (fun q _ h => vaA_sub hD hS hA q h)
    (fun E ce q9 u t H1 locs1 ht hvm hw hB hz1 hk1 hS1 hce hv hcl => nomatch hw)
    (fun u t H1 locs1 ht hvm hw hB hz1 hk1 hS1 => by
      obtain ⟨hP1, hD1⟩ := bw_ok hD hS hA ht hB
      exact kk H1 locs1 hP1 hD1 hS1)
theorem cx_vi_err {α : Type} {w0 : va_W} {A : Nat → Prop} {Qc : Array Value → State → Outcome → State → Prop} (hM : vx_Met l y (wm y bytes maxL ret) rm (PREX (.ref b :: As) D ca sl w H.size) (QXI (.error k) D w' w H.size) (QXE (.error k : Except Nat Int32) D w' w H.size) mc ms (va_A w H.size)) (S : CallFix p m c cc nL s args WW own) (cw : CallW Rm s args own C index y bytes maxL ret (wm y bytes maxL ret) rm mc ms n)
    (hrecv : ∃ cellB : Cell, H[b]? = some cellB ∧ cellB.vm.isStatics = false ∧ s.vm.findClass C = some cellB.cls) (hE : EE D ca sl s) (hP : va_P D vwCl w H) (hD : va_D A w) (hS : va_S A s.heap H locs) (hA : ∀ q, s.heap.size ≤ q → A q) (hZ : ZZ A s s.heap)
    (hn : As.length = n) (hsize : ls.size = nL) (hst : st = As.reverse ++ .ref b :: rest) (hW : 2 * (F0 m pc ls st).monitorRoom + (rest.map fun v => v.category).sum ≤ 8) (hdg : decode cc pc = .ok (.invokevirtual index, 3)) (hf : cells + mc ≤ Rm.cells ∧ slots + ms ≤ Rm.slots)
    (hAe : va_A w0 s.heap.size = A) (hQm : vx_MQ below Qc (QXE (.error k : Except Nat α) D w' w0 s.heap.size) args s MC MS A = Q) (htab : ∀ x ∈ c.exceptionTable.toList, False) (hlocks : meth.locks = false) (hc : cells + mc ≤ MC) (hs : slots + ms ≤ MS) : W p l e Rm s m args below meth c H locs cells slots Q (F0 m pc ls st) :=
  vx_calli (vx_runV S hM cw ⟨PREX_blind, hrecv, prex_ok hE hP hD hS hA hZ⟩ rfl hn hsize hst hW hdg hf) hS (fun q _ h => vaA_sub hD hS hA q h) (vaA_sub hD hS hA) (fun q _ h => vaA_sub hD hS hA q h)
    (fun E ce q9 u t H1 locs1 ht hvm hw hB hz1 hk1 hS1 hce hv hcl => by
      obtain ⟨hP1, hD1⟩ := bw_ok hD hS hA ht hB.2
      cases hw
      exact x_leave hAe hQm htab hlocks hP1 hD1 hS1 hce hv (by rw [← hB.1]; exact hcl) hc hs)
    (fun r' u t H1 locs1 ht hvm hw hB hz1 hk1 hS1 => nomatch hw)
theorem cx_vv_err {α : Type} {w0 : va_W} {A : Nat → Prop} {Qc : Array Value → State → Outcome → State → Prop} (hM : vx_Met l y (wm y bytes maxL ret) rm (PREX (.ref b :: As) D ca sl w H.size) (QXV (.error k) D w' w H.size) (QXE (.error k : Except Nat Unit) D w' w H.size) mc ms (va_A w H.size)) (S : CallFix p m c cc nL s args WW own) (cw : CallW Rm s args own C index y bytes maxL ret (wm y bytes maxL ret) rm mc ms n)
    (hrecv : ∃ cellB : Cell, H[b]? = some cellB ∧ cellB.vm.isStatics = false ∧ s.vm.findClass C = some cellB.cls) (hE : EE D ca sl s) (hP : va_P D vwCl w H) (hD : va_D A w) (hS : va_S A s.heap H locs) (hA : ∀ q, s.heap.size ≤ q → A q) (hZ : ZZ A s s.heap)
    (hn : As.length = n) (hsize : ls.size = nL) (hst : st = As.reverse ++ .ref b :: rest) (hW : 2 * (F0 m pc ls st).monitorRoom + (rest.map fun v => v.category).sum ≤ 8) (hdg : decode cc pc = .ok (.invokevirtual index, 3)) (hf : cells + mc ≤ Rm.cells ∧ slots + ms ≤ Rm.slots)
    (hAe : va_A w0 s.heap.size = A) (hQm : vx_MQ below Qc (QXE (.error k : Except Nat α) D w' w0 s.heap.size) args s MC MS A = Q) (htab : ∀ x ∈ c.exceptionTable.toList, False) (hlocks : meth.locks = false) (hc : cells + mc ≤ MC) (hs : slots + ms ≤ MS) : W p l e Rm s m args below meth c H locs cells slots Q (F0 m pc ls st) :=
  vx_callv (vx_runV S hM cw ⟨PREX_blind, hrecv, prex_ok hE hP hD hS hA hZ⟩ rfl hn hsize hst hW hdg hf) hS (fun q _ h => vaA_sub hD hS hA q h) (vaA_sub hD hS hA) (fun q _ h => vaA_sub hD hS hA q h)
    (fun E ce q9 u t H1 locs1 ht hvm hw hB hz1 hk1 hS1 hce hv hcl => by
      obtain ⟨hP1, hD1⟩ := bw_ok hD hS hA ht hB.2
      cases hw
      exact x_leave hAe hQm htab hlocks hP1 hD1 hS1 hce hv (by rw [← hB.1]; exact hcl) hc hs)
    (fun u t H1 locs1 ht hvm hw hB hz1 hk1 hS1 => nomatch hw)
theorem x_after {w0 : va_W} {A : Nat → Prop} {t : State} (hP : va_P D vwCl w' H) (hD : va_D (va_A w0 s.heap.size) w') (hS : va_S (va_A w0 s.heap.size) s.heap H locs) (hz : H.size ≤ t.heap.size) (hk : ∀ q : Nat, q < H.size → t.heap[q]? = H[q]?) : BW D w' w0 s.heap.size t ∧ va_F (va_A w0 s.heap.size) s t :=
  ⟨⟨hP.kept (fun k9 x hx => hk x.1 ((hP k9 x hx).lt)), hD⟩, Nat.le_trans hS.1 hz, fun q h1 h2 => (hk q (Nat.lt_of_lt_of_le h1 hS.1)).trans (hS.2.1 q h1 h2)⟩
theorem endx_throw {α : Type} {w0 : va_W} {A : Nat → Prop} {Qc : Array Value → State → Outcome → State → Prop} {text : String} {ik is ic : Nat} {cl9 : String} (k : Nat) (hk9 : XN k = cl9) (hAe : va_A w0 s.heap.size = A) (hQm : vx_MQ below Qc (QXE (.error k : Except Nat α) D w' w0 s.heap.size) args s MC MS A = Q)
    (hst : l.stackTraces = false) (hx : p.tables.exec = Jvm.exec) (hb : c.code = cc) (hts : ∀ w ∈ WW, w.before args s = true) (hE : EE D ca sl s) (hown : s.vm.findClass own = some m.cls) (htab : ∀ x ∈ c.exceptionTable.toList, False) (hlocks : meth.locks = false) (hfit : Bundle.fit cl9 = true)
    (hlk : Cond.classLink own ik cl9 ∈ WW) (hini : Cond.initialized cl9 ∈ WW) (hsl : (own, is, text) ∈ sl) (hat : (vx_atS own ic cl9 XL).all (fun w => decide (w ∈ lw_tbl) && (goodWord w || (nwW w && w.onTables))) = true) (hZ : ZZ A s s.heap) (hsize : ls.size = c.maxLocals)
    (hP : va_P D vwCl w' H) (hD : va_D A w') (hS : va_S A s.heap H locs)
    (d0 : decode cc pc = .ok (.new ik, 3)) (d3 : decode cc (pc + 3) = .ok (.dup, 1)) (d4 : decode cc (pc + 4) = .ok (.ldc is, 2)) (d6 : decode cc (pc + 6) = .ok (.invokespecial ic, 3)) (d9 : decode cc (pc + 9) = .ok (.athrow, 1))
    (hRf : 5 < Rm.frames) (hRl : (rest.map fun v => v.category).sum + 82 ≤ Rm.locals) (hRc : cells + 1 ≤ Rm.cells) (hRs : slots + 6 ≤ Rm.slots) (hc : cells + 1 ≤ MC) (hs : slots + 6 ≤ MS) :
    W p l e Rm s m args below meth c H locs cells slots Q (F0 m pc ls rest) := by
  subst hQm
  subst hAe
  obtain ⟨sa, hsa⟩ := hE.2.2 _ hsl
  exact vx_throwS (names := XL) hx hb hst hown hfit (by decide +kernel) (hts _ hlk) (hts _ hini) hsa (at_all hat hts hE.2.1)
    (List.forall_mem_cons.mpr ⟨by unfold vx_ot; rfl, List.forall_mem_cons.mpr ⟨by unfold vx_ot; rfl, at_ot hat⟩⟩) hZ.1 hZ.2.1 hS hsize d0 d3 d4 d6 d9 (fun x hx => (htab x hx).elim) hRf hRl hRc hRs hlocks
    (fun t hal hz hk => ⟨k, rfl, ⟨hk9.symm, (x_after (A := va_A w0 s.heap.size) hP hD hS hz hk).1⟩, (x_after (A := va_A w0 s.heap.size) hP hD hS hz hk).2⟩) hS.2.2 hc hs
theorem endx_throwW {α : Type} {w0 : va_W} {A : Nat → Prop} {Qc : Array Value → State → Outcome → State → Prop} {text : String} {ik is ic : Nat} {cl9 : String} (k : Nat) (hk9 : XN k = cl9) (hAe : va_A w0 s.heap.size = A) (hQm : vx_MQ below Qc (QXE (.error k : Except Nat α) D w' w0 s.heap.size) args s MC MS A = Q)
    (hst : l.stackTraces = false) (hx : p.tables.exec = Jvm.exec) (hb : c.code = cc) (hts : ∀ w ∈ WW, w.before args s = true) (hE : EE D ca sl s) (hown : s.vm.findClass own = some m.cls) (htab : ∀ x ∈ c.exceptionTable.toList, False) (hlocks : meth.locks = false) (hfit : Bundle.fit cl9 = true)
    (hlk : Cond.classLink own ik cl9 ∈ WW) (hini : Cond.initialized cl9 ∈ WW) (hsl : (own, is, text) ∈ sl) (hat : (vx_atS own ic cl9 XL).all (fun w => decide (w ∈ lw_tbl) && (goodWord w || (nwW w && w.onTables))) = true) (hZ : ZZ A s s.heap) (hsize : ls.size = c.maxLocals)
    (hP : va_P D vwCl w' H) (hD : va_D A w') (hS : va_S A s.heap H locs)
    (d0 : decode cc pc = .ok (.new ik, 3)) (d3 : decode cc (pc + 3) = .ok (.dup, 1)) (d4 : decode cc (pc + 4) = .ok (.ldc_w is, 3)) (d7 : decode cc (pc + 7) = .ok (.invokespecial ic, 3)) (d10 : decode cc (pc + 10) = .ok (.athrow, 1))
    (hRf : 5 < Rm.frames) (hRl : (rest.map fun v => v.category).sum + 82 ≤ Rm.locals) (hRc : cells + 1 ≤ Rm.cells) (hRs : slots + 6 ≤ Rm.slots) (hc : cells + 1 ≤ MC) (hs : slots + 6 ≤ MS) :
    W p l e Rm s m args below meth c H locs cells slots Q (F0 m pc ls rest) := by
  subst hQm
  subst hAe
  obtain ⟨sa, hsa⟩ := hE.2.2 _ hsl
  exact vx_throwSW (names := XL) hx hb hst hown hfit (by decide +kernel) (hts _ hlk) (hts _ hini) hsa (at_all hat hts hE.2.1)
    (List.forall_mem_cons.mpr ⟨by unfold vx_ot; rfl, List.forall_mem_cons.mpr ⟨by unfold vx_ot; rfl, at_ot hat⟩⟩) hZ.1 hZ.2.1 hS hsize d0 d3 d4 d7 d10 (fun x hx => (htab x hx).elim) hRf hRl hRc hRs hlocks
    (fun t hal hz hk => ⟨k, rfl, ⟨hk9.symm, (x_after (A := va_A w0 s.heap.size) hP hD hS hz hk).1⟩, (x_after (A := va_A w0 s.heap.size) hP hD hS hz hk).2⟩) hS.2.2 hc hs
theorem endx_i {v : Int32} {ty : FieldType} {w0 : va_W} {A : Nat → Prop} (hAe : va_A w0 s.heap.size = A) (hQm : vx_MQ below (QXI (.ok v) D w' w0 s.heap.size) (QXE (.ok v : Except Nat Int32) D w' w0 s.heap.size) args s MC MS A = Q) (hx : p.tables.exec = Jvm.exec) (hb : c.code = cc) (hr : meth.sig.returnType = some ty) (hlocks : meth.locks = false) (hn : narrow ty (.int v) = .int v) (hP : va_P D vwCl w' H) (hD : va_D A w') (hS : va_S A s.heap H locs) (hdg : decode cc pc = .ok (.ireturn, 1)) (hc : cells ≤ MC) (hs : slots ≤ MS) :
    W p l e Rm s m args below meth c H locs cells slots Q (F0 m pc ls [.int v]) := by
  subst hQm
  subst hAe
  exact W.widen hc hs (vx_ret (W.zret (v := v) hx hb hr hn (fun t ht hW => ⟨⟨v, (),  rfl, rfl, by rw [ht]; exact hP, hD⟩, hS.F ht⟩) hS.2.2 hdg hlocks))
theorem endx_d {v : UInt64} {w0 : va_W} {A : Nat → Prop} (hAe : va_A w0 s.heap.size = A) (hQm : vx_MQ below (QXD (.ok v) D w' w0 s.heap.size) (QXE (.ok v : Except Nat UInt64) D w' w0 s.heap.size) args s MC MS A = Q) (hx : p.tables.exec = Jvm.exec) (hb : c.code = cc) (hr : meth.sig.returnType = some .double) (hlocks : meth.locks = false) (hP : va_P D vwCl w' H) (hD : va_D A w') (hS : va_S A s.heap H locs) (hdg : decode cc pc = .ok (.dreturn, 1)) (hc : cells ≤ MC) (hs : slots ≤ MS) :
    W p l e Rm s m args below meth c H locs cells slots Q (F0 m pc ls [.double v]) := by
  subst hQm
  subst hAe
  exact W.widen hc hs (vx_ret (W.dret (v := v) hx hb hr (fun t ht hW => ⟨⟨v, (),  rfl, rfl, by rw [ht]; exact hP, hD⟩, hS.F ht⟩) hS.2.2 hdg hlocks))
theorem endx_f {v : UInt32} {w0 : va_W} {A : Nat → Prop} (hAe : va_A w0 s.heap.size = A) (hQm : vx_MQ below (QXF (.ok v) D w' w0 s.heap.size) (QXE (.ok v : Except Nat UInt32) D w' w0 s.heap.size) args s MC MS A = Q) (hx : p.tables.exec = Jvm.exec) (hb : c.code = cc) (hr : meth.sig.returnType = some .float) (hlocks : meth.locks = false) (hP : va_P D vwCl w' H) (hD : va_D A w') (hS : va_S A s.heap H locs) (hdg : decode cc pc = .ok (.freturn, 1)) (hc : cells ≤ MC) (hs : slots ≤ MS) :
    W p l e Rm s m args below meth c H locs cells slots Q (F0 m pc ls [.float v]) := by
  subst hQm
  subst hAe
  exact W.widen hc hs (vx_ret (W.fret (v := v) hx hb hr (fun t ht hW => ⟨⟨v, (),  rfl, rfl, by rw [ht]; exact hP, hD⟩, hS.F ht⟩) hS.2.2 hdg hlocks))
theorem endx_v {w0 : va_W} {A : Nat → Prop} (hAe : va_A w0 s.heap.size = A) (hQm : vx_MQ below (QXV (.ok ()) D w' w0 s.heap.size) (QXE (.ok () : Except Nat Unit) D w' w0 s.heap.size) args s MC MS A = Q) (hx : p.tables.exec = Jvm.exec) (hb : c.code = cc) (hr : meth.sig.returnType = none) (hlocks : meth.locks = false) (hP : va_P D vwCl w' H) (hD : va_D A w') (hS : va_S A s.heap H locs) (hdg : decode cc pc = .ok (.return_, 1)) (hc : cells ≤ MC) (hs : slots ≤ MS) :
    W p l e Rm s m args below meth c H locs cells slots Q (F0 m pc ls []) := by
  subst hQm
  subst hAe
  exact W.widen hc hs (vx_ret (W.vret hx hb hr (fun t ht hW => ⟨⟨(),  rfl, rfl, by rw [ht]; exact hP, hD⟩, hS.F ht⟩) hS.2.2 hdg hlocks))
end XCALLS

/-! A CLASS WHOSE CONSTRUCTOR LINKS AT 13 (java/util/NoSuchElementException): these rows follow the kit's vx_throwS, vx_throwSW and the library's ctorThrowS, chainS, which know the entry 7 alone -/
def nx_six : ByteArray := ⟨#[0x2a, 0x2b, 0xb7, 0x00, 0x0d, 0xb1]⟩
theorem nx_six_0 : decode nx_six 0 = .ok (.aload_n 0, 1) := by decide +kernel
theorem nx_six_1 : decode nx_six 1 = .ok (.aload_n 1, 1) := by decide +kernel
theorem nx_six_2 : decode nx_six 2 = .ok (.invokespecial 13, 3) := by decide +kernel
theorem nx_six_5 : decode nx_six 5 = .ok (.return_, 1) := by decide +kernel
def nx_atoms (own : String) (ic : Nat) (X Y : String) (names : List String) : List Cond :=
  Bundle.throwableAtoms ++ Bundle.throwableSAtoms ++ Bundle.passSAtoms X Y 13 nx_six ++ Bundle.chainSAtoms Y names ++
  [.methodLink own ic (Bundle.initS X), .instantiable X 6, .castable X X, .selects X Bundle.tFill0 Bundle.tFill0, .selects X Bundle.tFill Bundle.tFill,
   .lays X Bundle.tN "cause" "Ljava/lang/Throwable;", .lays X Bundle.tN "stackTrace" Bundle.steD, .lays X Bundle.tN "suppressedExceptions" Bundle.listD, .lays X Bundle.tN "detailMessage" "Ljava/lang/String;",
   .isRef (.static Bundle.tN "UNASSIGNED_STACK" Bundle.steD), .isRef (.static Bundle.tN "SUPPRESSED_SENTINEL" Bundle.listD),
   .fieldLink Bundle.tN 198 Bundle.tN "backtrace" "Ljava/lang/Object;", .lays Bundle.tN Bundle.tN "backtrace" "Ljava/lang/Object;", .lays X Bundle.tN "backtrace" "Ljava/lang/Object;"]
def nx_at (own : String) (ic : Nat) (X Y : String) (names : List String) : List Cond := (nx_atoms own ic X Y names).filter vx_no
theorem nx_chain {args : Array Value} {s : State} {pl : Platform} (hpl : pl.magicAccessors = ({} : Platform).magicAccessors) {top : MethodId} (htop : s.methodNamed? (Bundle.initS Bundle.tN) = some top)
    (names : List String) (X Y : String) (hX : Bundle.fit X = true) (hY : Bundle.fit Y = true) (hn : ∀ n ∈ names, Bundle.fit n = true) (h1 : ∀ c ∈ Bundle.passSAtoms X Y 13 nx_six, c.before args s = true) (h2 : ∀ c ∈ Bundle.chainSAtoms Y names, c.before args s = true) :
      ∃ (P1 : PassC) (Ps : List PassC), Ps.length = names.length + 1 ∧ P1.LinksS pl s ∧ (∀ P, P ∈ Ps → P.LinksS pl s) ∧ s.methodNamed? (Bundle.initS X) = some P1.m ∧
        P1.sup = firstOf top (Ps.map (·.toPassT)) ∧ PassesOn top (Ps.map (·.toPassT)) := by
  obtain ⟨P, L, hm, hs⟩ := PassC.ofS_atoms (args := args) (s := s) hpl (X := X) (Y := Y) (Bundle.fit_spec hX).1 (Bundle.fit_spec hY).2 nx_six_0 nx_six_1 nx_six_2 nx_six_5 h1
  obtain ⟨P', Ps, hlen, L', hL, hm', hsup, hpass⟩ := Bundle.chainS (args := args) hpl htop names Y hY hn h2
  refine ⟨P, P' :: Ps, by simp [hlen], L, ?_, hm, Option.some.inj (hs.symm.trans hm'), hsup, hpass⟩
  intro Q hQ
  rcases List.mem_cons.mp hQ with rfl | hQ
  · exact L'
  · exact hL Q hQ
section NSE1
variable {p : Program} {l : Launch} {e : Env} {R : Room} {s : State} {m₀ : MethodId} {args : Array Value} {below : List Frame} {meth : Method} {c : Code} {W : State} {locs : List Loc} {cells slots : Nat}
set_option maxHeartbeats 4000000 in
theorem nx_ctor (X : Stand p l e R s m₀ args below meth c W locs cells slots) (hexec : p.tables.exec = Jvm.exec) (htr : e.platform.stackTraces = false) {own cls : String} {Y9 : String} {names : List String} {ic : Nat}
    (hown : s.vm.findClass own = some m₀.cls) (hcls : Bundle.fit cls = true) (hY9 : Bundle.fit Y9 = true) (hnames : ∀ n ∈ names, Bundle.fit n = true)
    (h : ∀ a ∈ nx_atoms own ic cls Y9 names, a.before args s = true)
    (hlocs : ∀ x ∈ locs, ∀ cell, s.heap[x.base]? = some cell → cell.vm.isStatics = false)
    {a : Addr} {cX : ClassId} {kX : Class} (hfoundX : s.vm.findClass cls = some cX) (hkX : s.vm.classes[cX]? = some kX) (hcell : W.heap[a]? = some (freshCell cX kX)) (hnew : s.heap.size ≤ a)
    {msg : Value} (hmsg : msg.isRef = true)
    {g : JFrame} (hg : g.method = m₀) (hsize : g.locals.size = c.maxLocals) (hlocked : g.locked = none) (hentered : g.entered = []) {rest : List Value} (hstack : g.stack = msg :: .ref a :: .ref a :: rest)
    (hd6 : decode c.code g.pc = .ok (.invokespecial ic, 3)) (hd9 : decode c.code (g.pc + 3) = .ok (.athrow, 1)) (hout : ∀ x ∈ c.exceptionTable.toList, covers x (g.pc + 3) = false)
    (hRframes : names.length + 4 < R.frames) (hRlocals : 2 * g.monitorRoom + ((Value.ref a :: rest).map fun v => v.category).sum + (13 * (names.length + 2) + 42) ≤ R.locals) (hlocks : meth.locks = false := by first | assumption | exact BodyLoose.notSynchronized (by assumption) | exact Body.notSynchronized (by assumption)) :
    ∃ U : State, Steps p.tables e below (W.setTop g) U ∧ U.status = .running ∧ Ended U below (.threw a) ∧ s.WarmedH U.vm ∧ s.sameButNew ({ U with vm := s.vm } : State) locs cells slots ∧
      ∃ ce, U.heap[a]? = some ce ∧ Bundle.OwnCell args s cls a msg ce := by
  have howns : e.platform.frameOwnsMonitors = true := by rw [X.admits.platform]
  have hfin : e.platform.finalization = false := by rw [X.admits.platform]
  have hpl : e.platform.magicAccessors = ({} : Platform).magicAccessors := by rw [X.admits.platform]
  have a' : ∀ x, x ∈ nx_atoms own ic cls Y9 names → x.holds args s none s [] = true := fun x hx => h x hx
  obtain ⟨T, Z0, L, -, Y⟩ := ThrowableC.of_atoms (args := args) howns hfin hpl (fun x hx => h x (by simp [nx_atoms, hx]))
  obtain ⟨Z, M, LZ, LM, hnZ⟩ := Init0T.ofS_atoms (args := args) hpl L Y (fun x hx => h x (by simp [nx_atoms, hx]))
  obtain ⟨P1, Ps, hlen, L1, hL, hP1m, hlink1, hlink⟩ := nx_chain (args := args) hpl hnZ names cls Y9 hcls hY9 hnames (fun x hx => h x (by simp [nx_atoms, hx])) (fun x hx => h x (by simp [nx_atoms, hx]))
              
  have hfound : s.vm.findClass cls = some P1.m.cls := findClass_of_methodNamed hP1m
  cases Option.some.inj (hfoundX.symm.trans hfound)
  obtain ⟨c1, kX', hc1, hk, hord, -, -, hn6⟩ := Cond.instantiable_spec (a' (.instantiable cls 6) (by simp [nx_atoms]))
  cases Option.some.inj (hc1.symm.trans hfound)
  cases Option.some.inj (hkX.symm.trans hk)
  have hsel0 : selectMethod e.platform s.vm P1.m.cls T.fill0 = .method T.fill0 := by
    obtain ⟨c2, r2, m2, q1, q2, q3, q4, -⟩ := Cond.selects_spec (a' (.selects cls Bundle.tFill0 Bundle.tFill0) (by simp [nx_atoms]))
    cases Option.some.inj (q1.symm.trans hfound)
    cases Option.some.inj (q2.symm.trans (State.methodFound?_of_named Y.fill0 (by decide)))
    cases Option.some.inj (q3.symm.trans Y.fill0)
    rw [Launch.admits_selectMethod X.admits]; exact q4
  have hselF : selectMethod e.platform s.vm P1.m.cls T.fill = .method T.fill := by
    obtain ⟨c2, r2, m2, q1, q2, q3, q4, -⟩ := Cond.selects_spec (a' (.selects cls Bundle.tFill Bundle.tFill) (by simp [nx_atoms]))
    cases Option.some.inj (q1.symm.trans hfound)
    cases Option.some.inj (q2.symm.trans (State.methodFound?_of_named Y.fill (by decide)))
    cases Option.some.inj (q3.symm.trans Y.fill)
    rw [Launch.admits_selectMethod X.admits]; exact q4
  obtain ⟨cellS0, hcS0, hiss⟩ := Y.statics
  obtain ⟨u0, hu0⟩ := Cond.staticRefV Y.unassigned L.unassignedStatic L.statics hcS0 hiss (a' (.isRef (.static Bundle.tN "UNASSIGNED_STACK" Bundle.steD)) (by simp [nx_atoms]))
  obtain ⟨sen, hsen⟩ := Cond.staticRefV Y.sentinel L.sentinelStatic L.statics hcS0 hiss (a' (.isRef (.static Bundle.tN "SUPPRESSED_SENTINEL" Bundle.listD)) (by simp [nx_atoms]))
  obtain ⟨ci198, i198, fB, hk198, hg198, ha198, hsB, -, hnB, htB, hffB⟩ := Cond.ownField (t := .object "java/lang/Object") Y.found L.cls (by decide +kernel) (a' (.fieldLink Bundle.tN 198 Bundle.tN "backtrace" "Ljava/lang/Object;") (by simp [nx_atoms])) (a' (.lays Bundle.tN Bundle.tN "backtrace" "Ljava/lang/Object;") (by simp [nx_atoms])) e.platform hpl
  obtain ⟨cellS, hcS', heS, -, hkeep⟩ := X.same.2.2.2.2.2 T.aS cellS0 hcS0
  have hcellS : W.heap[T.aS]? = some cellS := hcS'
  have hout' : ∀ i, (⟨T.aS, i⟩ : Loc) ∉ locs := fun i hmem => by
    have := hlocs _ hmem cellS0 hcS0
    rw [hiss] at this; cases this
  have hknownS : cellS.vm ≠ .unknown := by
    rw [heS]; intro hu
    rw [show cellS0.vm = .unknown from hu] at hiss
    cases hiss
  have hneS : T.aS ≠ a := Nat.ne_of_lt (Nat.lt_of_lt_of_le (Array.getElem?_eq_some_iff.mp hcS0).1 hnew)
  obtain ⟨iM, hffM⟩ := Y.msg
  obtain ⟨tyC, dC, hdC, hdnC⟩ := Cond.laysAt hfound hk Y.cause (a' (.lays cls Bundle.tN "cause" "Ljava/lang/Throwable;") (by simp [nx_atoms]))
  obtain ⟨tyS, dS, hdS, hdnS⟩ := Cond.laysAt hfound hk Y.stack (a' (.lays cls Bundle.tN "stackTrace" Bundle.steD) (by simp [nx_atoms]))
  obtain ⟨tyP, dP, hdP, hdnP⟩ := Cond.laysAt hfound hk Y.supp (a' (.lays cls Bundle.tN "suppressedExceptions" Bundle.listD) (by simp [nx_atoms]))
  obtain ⟨tyM, dM, hdM, hdnM⟩ := Cond.laysAt hfound hk hffM (a' (.lays cls Bundle.tN "detailMessage" "Ljava/lang/String;") (by simp [nx_atoms]))
  obtain ⟨tyB, dB, hdB, hdnB⟩ := Cond.laysAt hfound hk hffB (a' (.lays cls Bundle.tN "backtrace" "Ljava/lang/Object;") (by simp [nx_atoms]))
  have bC := Cond.laysApart hdB hdC hdnB hdnC (by rw [hnB, Y.causeName]; decide)
  have bS := Cond.laysApart hdB hdS hdnB hdnS (by rw [hnB, Y.stackName]; decide)
  have bP := Cond.laysApart hdB hdP hdnB hdnP (by rw [hnB, Y.suppName]; decide)
  have hskip : SkipFacts T e.platform s (fun u => u) u0 ((preparedCellV T.toThrowableT (freshCell P1.m.cls kX) a u0 sen).withEntry W.cur) :=
    ⟨{ ci198 := ci198, i198 := i198, fBack := fB }, ⟨hk198, hg198, ha198, hsB⟩, by
      have := fresh_default (c := P1.m.cls) tyB
      rw [htB] at this
      simpa [preparedCellV, Cell.setSlot, Cell.withEntry, Array.getElem?_setIfInBounds, bC, bS, bP, bC.symm, bS.symm, bP.symm, defaultValue] using this, fun _ _ => rfl⟩
                                     
  obtain ⟨tm, methC, cdC, kC, vm₁, hnC, -, -, -, -, -, -, -, hW₁, st1⟩ := Steps.initColdS (tb := p.tables) (e := e) (below := below) (s := s) (U := W) X.here hexec X.warmed hpl hown (t := Bundle.initS cls) rfl rfl (Bundle.fit_spec hcls).2
    (a' (.methodLink own ic (Bundle.initS cls)) (by simp [nx_atoms])) (h (.instanceMethod (Bundle.initS cls)) (by simp [nx_atoms, Bundle.passSAtoms])) (bytes := nx_six) (maxL := 2) (h (.code (Bundle.initS cls) nx_six 2 none) (by simp [nx_atoms, Bundle.passSAtoms]))
    (f := g) hg (a := a) (msg := msg) (rest := .ref a :: rest) hstack hd6
  cases Option.some.inj (hnC.symm.trans hP1m)
  have X₁ := X.noted hW₁
                                 
  obtain ⟨vm₂, X₂, st2⟩ := X₁.ctorMessageOffV hexec (g := { g with stack := .ref a :: rest }) hg hsize T L Z LZ M LM (P1 :: Ps)
    (fun P hP => by rcases List.mem_cons.mp hP with rfl | hP; exact L1; exact hL P hP) ⟨hlink1, hlink⟩ (u0 := u0) (sen := sen) (self := a) hmsg (cell := freshCell P1.m.cls kX) (cellS := cellS)
    hcell (fun _ => by simp) (by simp) rfl rfl hsel0 hselF hcellS hneS hknownS (by rw [hkeep _ (hout' _)]; exact hu0) (by rw [hkeep _ (hout' _)]; exact hsen)
    (Takes.of_laid hk hord tyC (by rw [Y.causeType]; rfl)) (Takes.of_laid hk hord tyS (by rw [Y.stackType]; exact fits_refV_array _ u0)) (Takes.of_laid hk hord tyP (by rw [Y.suppType]; exact fits_refV_object _ sen))
    (Takes.of_laid hk hord tyM (by rw [Y.msgType]; exact fits_refV_object _ ⟨msg, hmsg⟩)) Y.objLocals hskip htr [] hd6
    (by simp only [List.length_cons, hlen]; omega) (by simp only [List.length_cons, hlen]; exact hRlocals)
                                    
  obtain ⟨hwalk, hrun, hended, hWU, hsame⟩ := X₂.athrowLeaves hexec (g := { g with stack := .ref a :: rest, pc := g.pc + 3 }) hg hlocked hentered hout (a := a) (rest := rest) rfl hd9
  obtain ⟨c3, c4, hc3, hc4, hasg⟩ := Cond.castable_spec (a' (.castable cls cls) (by simp [nx_atoms]))
  cases Option.some.inj (hc3.symm.trans hfound)
  cases Option.some.inj (hc4.symm.trans hfound)
  have hlt : a < ((W.setVm vm₁).setVm vm₂).heap.size := (Array.getElem?_eq_some_iff.mp hcell).1
  have hU := heapAt_setCell_self (s := (W.setVm vm₁).setVm vm₂) (plainBareV T.toThrowableT (freshCell P1.m.cls kX) a u0 sen msg) hlt
  have hnM : T.fMsg.name = "detailMessage" := (State.fieldFound?_type hffM (t := .object "java/lang/String") (by decide +kernel)).1
  have nCS := Cond.laysApart hdC hdS hdnC hdnS (by rw [Y.causeName, Y.stackName]; decide)
  have nCP := Cond.laysApart hdC hdP hdnC hdnP (by rw [Y.causeName, Y.suppName]; decide)
  have nCM := Cond.laysApart hdC hdM hdnC hdnM (by rw [Y.causeName, hnM]; decide)
  have nSP := Cond.laysApart hdS hdP hdnS hdnP (by rw [Y.stackName, Y.suppName]; decide)
  have nSM := Cond.laysApart hdS hdM hdnS hdnM (by rw [Y.stackName, hnM]; decide)
  have nPM := Cond.laysApart hdP hdM hdnP hdnM (by rw [Y.suppName, hnM]; decide)
  have lC : T.fCause.slot < kX.instanceTypes.size := (Array.getElem?_eq_some_iff.mp tyC).1
  have lS : T.fStack.slot < kX.instanceTypes.size := (Array.getElem?_eq_some_iff.mp tyS).1
  have lP : T.fSupp.slot < kX.instanceTypes.size := (Array.getElem?_eq_some_iff.mp tyP).1
  have lM : T.fMsg.slot < kX.instanceTypes.size := (Array.getElem?_eq_some_iff.mp tyM).1
  have evU : ∀ o, (Term.static Bundle.tN "UNASSIGNED_STACK" Bundle.steD).eval args s o [] s = some u0.v := by
    intro o
    simp [Term.eval, State.fieldNamed?, Y.unassigned, L.unassignedStatic, L.statics, hcS0, hiss, hu0]
  have evS : ∀ o, (Term.static Bundle.tN "SUPPRESSED_SENTINEL" Bundle.listD).eval args s o [] s = some sen.v := by
    intro o
    simp [Term.eval, State.fieldNamed?, Y.sentinel, L.sentinelStatic, L.statics, hcS0, hiss, hsen]
  refine ⟨_, st1 _ (fun acts => ?_), hrun, hended, hWU, hsame.weaken (fun y hy hlt' => ?_) (Nat.le_refl _) (Nat.le_refl _), _, hU, ?_⟩
  · rw [doInvoke_state]
    exact st2 _ hwalk
  · rcases List.mem_append.mp hy with h1 | h1
    · exact h1
    · exfalso
      have hb : y.base = a := by
        simp only [List.mem_cons, List.not_mem_nil, or_false] at h1
        rcases h1 with rfl | rfl | rfl | rfl | rfl <;> rfl
      rw [hb] at hlt'
      exact Nat.not_lt.mpr hnew hlt'
  · exact { cls := hfound, self := hasg, monitor := rfl, hash := rfl, vm := rfl, size := by simp [plainBareV, preparedCellV, Cell.setSlot, hn6]
            cause := ⟨_, _, _, _, Y.cause, by simp [plainBareV, preparedCellV, Cell.setSlot, nCS.symm, nCP.symm, nCM.symm, lC]⟩
            stack := ⟨_, _, _, _, u0, Y.stack, by simp [plainBareV, preparedCellV, Cell.setSlot, nSM.symm, lS], evU⟩
            supp := ⟨_, _, _, _, sen, Y.supp, by simp [plainBareV, preparedCellV, Cell.setSlot, nSP, nPM.symm, lP], evS⟩
            msg := ⟨_, _, _, _, hffM, by simp [plainBareV, preparedCellV, Cell.setSlot, lM]⟩
            other := fun O f d c k i fd hf hy n1 n2 n3 n4 => by
              obtain ⟨ty, dd, hdd, hddn⟩ := Cond.laysAt hfound hk hf hy
              have m1 := Cond.laysApart hdd hdC hddn hdnC (by rw [Y.causeName]; exact n1)
              have m2 := Cond.laysApart hdd hdS hddn hdnS (by rw [Y.stackName]; exact n2)
              have m3 := Cond.laysApart hdd hdP hddn hdnP (by rw [Y.suppName]; exact n3)
              have m4 := Cond.laysApart hdd hdM hddn hdnM (by rw [hnM]; exact n4)
              have := fresh_default (c := P1.m.cls) ty
              simpa [plainBareV, preparedCellV, Cell.setSlot, Array.getElem?_setIfInBounds, m1, m2, m3, m4, m1.symm, m2.symm, m3.symm, m4.symm] using this }
end NSE1
section NSE2
variable {p : Program} {l : Launch} {e : Env} {R : Room} {s : State} {m : MethodId} {args : Array Value} {below : List Frame} {meth : Method} {c : Code} {H : Heap} {locs : List Loc} {cells slots : Nat} {Q : State → Prop}
variable {mc ms : Nat} {free : Addr → Prop} {A0 A1 : Nat → Prop} {H0 : Heap} {a : Array Value} {ls : Array Slot} {st0 rest : List Value}
variable {Qc : Array Value → State → Outcome → State → Prop} {XC : String → State → State → Prop}
theorem nx_throwS {cc : ByteArray} {pc : Nat} (hexec : p.tables.exec = Jvm.exec) (hb : c.code = cc) (hl : l.stackTraces = false) {own cls text : String} {Y9 : String} {names : List String} {ik is ic mc ms sa : Nat} {A : Nat → Prop}
    (hown : s.vm.findClass own = some m.cls) (hcls : Bundle.fit cls = true) (hY9 : Bundle.fit Y9 = true) (hnames : ∀ n ∈ names, Bundle.fit n = true)
    (hk : (Cond.classLink own ik cls).before args s = true) (hini : (Cond.initialized cls).before args s = true) (hstr : vk_R own is text sa s) (hat : ∀ w ∈ nx_at own ic cls Y9 names, w.before args s = true)
    (hgood : ∀ w ∈ Cond.classLink own ik cls :: Cond.initialized cls :: nx_at own ic cls Y9 names, vx_ot w = true)
    (hU : vx_Zq Bundle.tN "UNASSIGNED_STACK" Bundle.steD A s s.heap) (hN : vx_Zq Bundle.tN "SUPPRESSED_SENTINEL" Bundle.listD A s s.heap) (hS : va_S A s.heap H locs) (hsize : ls.size = c.maxLocals)
    (d0 : decode cc pc = .ok (.new ik, 3)) (d3 : decode cc (pc + 3) = .ok (.dup, 1)) (d4 : decode cc (pc + 4) = .ok (.ldc is, 2)) (d6 : decode cc (pc + 6) = .ok (.invokespecial ic, 3)) (d9 : decode cc (pc + 9) = .ok (.athrow, 1))
    (hout : ∀ x ∈ c.exceptionTable.toList, covers x (pc + 9) = false)
    (hRframes : names.length + 4 < R.frames) (hRlocals : (rest.map fun v => v.category).sum + (13 * (names.length + 2) + 43) ≤ R.locals) (hRcells : cells + 1 ≤ R.cells) (hRslots : slots + 6 ≤ R.slots) (hlocks : meth.locks = false)
    (hx : ∀ t : State, s.vm.Alike t.vm → H.size ≤ t.heap.size → (∀ q : Nat, q < H.size → t.heap[q]? = H[q]?) → XC cls s t)
    (hf : ∀ z ∈ locs, free z.base) (hc : cells + 1 ≤ mc) (hs : slots + 6 ≤ ms) :
    W p l e R s m args below meth c H locs cells slots (vx_MQ below Qc XC args s mc ms free) (F0 m pc ls rest) := by
  intro T hT X
  have htr : e.platform.stackTraces = false := (show e.platform.stackTraces = l.stackTraces by rw [X.admits.platform]).trans hl
  have Y := vx_rebase X (R' := { frames := R.frames, locals := R.locals, cells := 1, slots := 6 }) (Nat.le_refl _) (Nat.le_refl _) hRcells hRslots
  obtain ⟨s', hA⟩ : ∃ z, z = (T.setVm s.vm).setFrames (.invoking m args :: below) := ⟨_, rfl⟩
  rw [← hA] at Y
  have hvm : s'.vm = s.vm := by rw [hA]; rfl
  have hhp : s'.heap = H := by rw [hA]; exact hT
  have hW0 : s.WarmedH s'.vm := by rw [hvm]; exact State.WarmedH.refl s
  have hat' : ∀ w ∈ nx_at own ic cls Y9 names, w.before args s' = true := fun w hw => vx_ot_at hW0 hvm.symm (hgood w (List.mem_cons_of_mem _ (List.mem_cons_of_mem _ hw))) (hat w hw)
  have hk' : (Cond.classLink own ik cls).before args s' = true := vx_ot_at hW0 hvm.symm (hgood _ List.mem_cons_self) hk
  have hini' : (Cond.initialized cls).before args s' = true := vx_ot_at hW0 hvm.symm (hgood _ (List.mem_cons_of_mem _ List.mem_cons_self)) hini
  have hU' : vx_Zq Bundle.tN "UNASSIGNED_STACK" Bundle.steD A s' s'.heap := by rw [hhp]; exact vx_Zq.moved hW0.alike (hU.kept hS.2.1)
  have hN' : vx_Zq Bundle.tN "SUPPRESSED_SENTINEL" Bundle.listD A s' s'.heap := by rw [hhp]; exact vx_Zq.moved hW0.alike (hN.kept hS.2.1)
  have h : ∀ w ∈ nx_atoms own ic cls Y9 names, w.before args s' = true := vx_own hat' (vx_isRefq hU'.1) (vx_isRefq hN'.1) hU'.2.word hN'.2.word
  have hown' : s'.vm.findClass own = some m.cls := by rw [hvm]; exact hown
  have hins : (Cond.instantiable cls 6).before args s' = true := h _ (by simp [nx_atoms])
  obtain ⟨vm₁, cX, kX, hfX, hkX, -, -, X₁, st1⟩ := Y.newCold hexec (own := own) (C := cls) (index := ik) (n := 6) hown' hk' hins hini'
    (g := F0 m pc ls rest) rfl (by rw [hb]; exact d0) (Nat.le_refl _) (Nat.le_refl _)
  generalize hT1 : (T.setVm vm₁).pushCell { cls := cX, slots := kX.instanceTypes.map defaultValue, vm := .none } = T1 at X₁ st1
  have hcat : (Value.ref T.heap.size).category = 1 := rfl
  have hcellA : T1.heap[T.heap.size]? = some (freshCell cX kX) := by rw [← hT1]; exact State.heap_pushCell_size _ _
  have d3' : decode c.code (pc + 3) = .ok (.dup, 1) := by rw [hb]; exact d3
  have d4' : decode c.code (pc + 4) = .ok (.ldc is, 2) := by rw [hb]; exact d4
  have hstr' : vk_R own is text sa s' := vk_R.warm hW0 hstr
  obtain ⟨U, hsteps, hrun, hend, hW, hsame, ce, hce, hO⟩ := nx_ctor X₁ hexec htr (own := own) (cls := cls) (names := names) (ic := ic) hown' hcls hY9 hnames h (fun x hx => nomatch hx) hfX hkX hcellA (by rw [hhp, hT]; exact Nat.le_refl _) (msg := .ref sa) rfl
    (g := { method := m, pc := pc + 6, locals := ls, stack := .ref sa :: .ref T.heap.size :: .ref T.heap.size :: rest, locked := none }) rfl hsize rfl rfl (rest := rest) rfl
    (by rw [hb]; exact d6) (by rw [hb]; exact d9) hout hRframes (by simp only [List.map_cons, List.sum_cons, hcat]; omega) hlocks
  obtain ⟨f1, f2⟩ := vx_frame hsame
  rw [hhp] at f1 f2
  have hWs : s.WarmedH U.vm := State.WarmedH.trans hW0 hW
  have hcl : s.vm.findClass cls = some ce.cls := by
    have h9 := hO.cls
    rw [hvm] at h9
    exact h9
  have hall : s.sameButNew ({ U with vm := s.vm } : State) locs mc ms := by
    subst hA
    obtain ⟨e1, e2⟩ := hsame
    rw [State.setFrames_setFrames] at e1
    have h2 : (T.setVm s.vm).sameButNew ({ U with vm := s.vm } : State) [] (0 + 1) (0 + 6) := ⟨e1, e2⟩
    have h3 := X.same.trans h2
    rw [List.append_nil] at h3
    exact h3.mono hc hs
  refine ⟨U, ?_, .threw T.heap.size, hrun, hend, Or.inr ⟨T.heap.size, rfl, cls, ce, locs, hx U hWs.alike f1 (fun q hq => f2 q hq (fun z hz => nomatch hz)), hce, hO.vm, hcl, hWs, hall, hf⟩⟩
  refine st1 _ ?_
  show Steps p.tables e below (T1.setTop { method := m, pc := pc + 3, locals := ls, stack := .ref T.heap.size :: rest, locked := none }) _
  jvm_step X₁.here [X₁.here.top, hexec, d3', Value.category]
  exact X₁.ldcString hexec (own := own) (text := text) (index := is) (a := sa) hown' hstr'.1 hstr'.2
    (g := { method := m, pc := pc + 4, locals := ls, stack := .ref T.heap.size :: .ref T.heap.size :: rest, locked := none }) rfl d4' _ hsteps
theorem nx_throwSW {cc : ByteArray} {pc : Nat} (hexec : p.tables.exec = Jvm.exec) (hb : c.code = cc) (hl : l.stackTraces = false) {own cls text : String} {Y9 : String} {names : List String} {ik is ic mc ms sa : Nat} {A : Nat → Prop}
    (hown : s.vm.findClass own = some m.cls) (hcls : Bundle.fit cls = true) (hY9 : Bundle.fit Y9 = true) (hnames : ∀ n ∈ names, Bundle.fit n = true)
    (hk : (Cond.classLink own ik cls).before args s = true) (hini : (Cond.initialized cls).before args s = true) (hstr : vk_R own is text sa s) (hat : ∀ w ∈ nx_at own ic cls Y9 names, w.before args s = true)
    (hgood : ∀ w ∈ Cond.classLink own ik cls :: Cond.initialized cls :: nx_at own ic cls Y9 names, vx_ot w = true)
    (hU : vx_Zq Bundle.tN "UNASSIGNED_STACK" Bundle.steD A s s.heap) (hN : vx_Zq Bundle.tN "SUPPRESSED_SENTINEL" Bundle.listD A s s.heap) (hS : va_S A s.heap H locs) (hsize : ls.size = c.maxLocals)
    (d0 : decode cc pc = .ok (.new ik, 3)) (d3 : decode cc (pc + 3) = .ok (.dup, 1)) (d4 : decode cc (pc + 4) = .ok (.ldc_w is, 3)) (d7 : decode cc (pc + 7) = .ok (.invokespecial ic, 3)) (d10 : decode cc (pc + 10) = .ok (.athrow, 1))
    (hout : ∀ x ∈ c.exceptionTable.toList, covers x (pc + 10) = false)
    (hRframes : names.length + 4 < R.frames) (hRlocals : (rest.map fun v => v.category).sum + (13 * (names.length + 2) + 43) ≤ R.locals) (hRcells : cells + 1 ≤ R.cells) (hRslots : slots + 6 ≤ R.slots) (hlocks : meth.locks = false)
    (hx : ∀ t : State, s.vm.Alike t.vm → H.size ≤ t.heap.size → (∀ q : Nat, q < H.size → t.heap[q]? = H[q]?) → XC cls s t)
    (hf : ∀ z ∈ locs, free z.base) (hc : cells + 1 ≤ mc) (hs : slots + 6 ≤ ms) :
    W p l e R s m args below meth c H locs cells slots (vx_MQ below Qc XC args s mc ms free) (F0 m pc ls rest) := by
  intro T hT X
  have htr : e.platform.stackTraces = false := (show e.platform.stackTraces = l.stackTraces by rw [X.admits.platform]).trans hl
  have Y := vx_rebase X (R' := { frames := R.frames, locals := R.locals, cells := 1, slots := 6 }) (Nat.le_refl _) (Nat.le_refl _) hRcells hRslots
  obtain ⟨s', hA⟩ : ∃ z, z = (T.setVm s.vm).setFrames (.invoking m args :: below) := ⟨_, rfl⟩
  rw [← hA] at Y
  have hvm : s'.vm = s.vm := by rw [hA]; rfl
  have hhp : s'.heap = H := by rw [hA]; exact hT
  have hW0 : s.WarmedH s'.vm := by rw [hvm]; exact State.WarmedH.refl s
  have hat' : ∀ w ∈ nx_at own ic cls Y9 names, w.before args s' = true := fun w hw => vx_ot_at hW0 hvm.symm (hgood w (List.mem_cons_of_mem _ (List.mem_cons_of_mem _ hw))) (hat w hw)
  have hk' : (Cond.classLink own ik cls).before args s' = true := vx_ot_at hW0 hvm.symm (hgood _ List.mem_cons_self) hk
  have hini' : (Cond.initialized cls).before args s' = true := vx_ot_at hW0 hvm.symm (hgood _ (List.mem_cons_of_mem _ List.mem_cons_self)) hini
  have hU' : vx_Zq Bundle.tN "UNASSIGNED_STACK" Bundle.steD A s' s'.heap := by rw [hhp]; exact vx_Zq.moved hW0.alike (hU.kept hS.2.1)
  have hN' : vx_Zq Bundle.tN "SUPPRESSED_SENTINEL" Bundle.listD A s' s'.heap := by rw [hhp]; exact vx_Zq.moved hW0.alike (hN.kept hS.2.1)
  have h : ∀ w ∈ nx_atoms own ic cls Y9 names, w.before args s' = true := vx_own hat' (vx_isRefq hU'.1) (vx_isRefq hN'.1) hU'.2.word hN'.2.word
  have hown' : s'.vm.findClass own = some m.cls := by rw [hvm]; exact hown
  have hins : (Cond.instantiable cls 6).before args s' = true := h _ (by simp [nx_atoms])
  obtain ⟨vm₁, cX, kX, hfX, hkX, -, -, X₁, st1⟩ := Y.newCold hexec (own := own) (C := cls) (index := ik) (n := 6) hown' hk' hins hini'
    (g := F0 m pc ls rest) rfl (by rw [hb]; exact d0) (Nat.le_refl _) (Nat.le_refl _)
  generalize hT1 : (T.setVm vm₁).pushCell { cls := cX, slots := kX.instanceTypes.map defaultValue, vm := .none } = T1 at X₁ st1
  have hcat : (Value.ref T.heap.size).category = 1 := rfl
  have hcellA : T1.heap[T.heap.size]? = some (freshCell cX kX) := by rw [← hT1]; exact State.heap_pushCell_size _ _
  have d3' : decode c.code (pc + 3) = .ok (.dup, 1) := by rw [hb]; exact d3
  have d4' : decode c.code (pc + 4) = .ok (.ldc_w is, 3) := by rw [hb]; exact d4
  have hstr' : vk_R own is text sa s' := vk_R.warm hW0 hstr
  obtain ⟨U, hsteps, hrun, hend, hW, hsame, ce, hce, hO⟩ := nx_ctor X₁ hexec htr (own := own) (cls := cls) (names := names) (ic := ic) hown' hcls hY9 hnames h (fun x hx => nomatch hx) hfX hkX hcellA (by rw [hhp, hT]; exact Nat.le_refl _) (msg := .ref sa) rfl
    (g := { method := m, pc := pc + 7, locals := ls, stack := .ref sa :: .ref T.heap.size :: .ref T.heap.size :: rest, locked := none }) rfl hsize rfl rfl (rest := rest) rfl
    (by rw [hb]; exact d7) (by rw [hb]; exact d10) hout hRframes (by simp only [List.map_cons, List.sum_cons, hcat]; omega) hlocks
  obtain ⟨f1, f2⟩ := vx_frame hsame
  rw [hhp] at f1 f2
  have hWs : s.WarmedH U.vm := State.WarmedH.trans hW0 hW
  have hcl : s.vm.findClass cls = some ce.cls := by
    have h9 := hO.cls
    rw [hvm] at h9
    exact h9
  have hall : s.sameButNew ({ U with vm := s.vm } : State) locs mc ms := by
    subst hA
    obtain ⟨e1, e2⟩ := hsame
    rw [State.setFrames_setFrames] at e1
    have h2 : (T.setVm s.vm).sameButNew ({ U with vm := s.vm } : State) [] (0 + 1) (0 + 6) := ⟨e1, e2⟩
    have h3 := X.same.trans h2
    rw [List.append_nil] at h3
    exact h3.mono hc hs
  refine ⟨U, ?_, .threw T.heap.size, hrun, hend, Or.inr ⟨T.heap.size, rfl, cls, ce, locs, hx U hWs.alike f1 (fun q hq => f2 q hq (fun z hz => nomatch hz)), hce, hO.vm, hcl, hWs, hall, hf⟩⟩
  refine st1 _ ?_
  show Steps p.tables e below (T1.setTop { method := m, pc := pc + 3, locals := ls, stack := .ref T.heap.size :: rest, locked := none }) _
  jvm_step X₁.here [X₁.here.top, hexec, d3', Value.category]
  exact X₁.ldcStringW hexec (own := own) (text := text) (index := is) (a := sa) hown' hstr'.1 hstr'.2
    (g := { method := m, pc := pc + 4, locals := ls, stack := .ref T.heap.size :: .ref T.heap.size :: rest, locked := none }) rfl d4' _ hsteps
end NSE2
section NSE3
variable {p : Program} {l : Launch} {e : Env} {Rm : Room} {s : State} {m : MethodId} {args : Array Value} {below : List Frame} {meth : Method} {c : Code} {H : Heap} {locs : List Loc} {cells slots : Nat} {Q : State → Prop}
variable {cc : ByteArray} {mc ms MC MS : Nat} {own : String} {rest : List Value} {pc : Nat} {ls : Array Slot}
variable {D : va_G} {ca : Nat → ClassId} {sl : List (String × Nat × String)} {w' : va_W}
theorem endn_throw {α : Type} {w0 : va_W} {A : Nat → Prop} {Qc : Array Value → State → Outcome → State → Prop} {text : String} {ik is ic : Nat} {cl9 : String} (k : Nat) (hk9 : XN k = cl9) (hAe : va_A w0 s.heap.size = A) (hQm : vx_MQ below Qc (QXE (.error k : Except Nat α) D w' w0 s.heap.size) args s MC MS A = Q)
    (hst : l.stackTraces = false) (hx : p.tables.exec = Jvm.exec) (hb : c.code = cc) (hts : ∀ w ∈ WW, w.before args s = true) (hE : EE D ca sl s) (hown : s.vm.findClass own = some m.cls) (htab : ∀ x ∈ c.exceptionTable.toList, False) (hlocks : meth.locks = false) (hfit : Bundle.fit cl9 = true)
    (hlk : Cond.classLink own ik cl9 ∈ WW) (hini : Cond.initialized cl9 ∈ WW) (hsl : (own, is, text) ∈ sl) (hat : (nx_at own ic cl9 "java/lang/RuntimeException" ["java/lang/Exception"]).all (fun w => decide (w ∈ lw_tbl) && (goodWord w || (nwW w && w.onTables))) = true) (hZ : ZZ A s s.heap) (hsize : ls.size = c.maxLocals)
    (hP : va_P D vwCl w' H) (hD : va_D A w') (hS : va_S A s.heap H locs)
    (d0 : decode cc pc = .ok (.new ik, 3)) (d3 : decode cc (pc + 3) = .ok (.dup, 1)) (d4 : decode cc (pc + 4) = .ok (.ldc is, 2)) (d6 : decode cc (pc + 6) = .ok (.invokespecial ic, 3)) (d9 : decode cc (pc + 9) = .ok (.athrow, 1))
    (hRf : 5 < Rm.frames) (hRl : (rest.map fun v => v.category).sum + 82 ≤ Rm.locals) (hRc : cells + 1 ≤ Rm.cells) (hRs : slots + 6 ≤ Rm.slots) (hc : cells + 1 ≤ MC) (hs : slots + 6 ≤ MS) :
    W p l e Rm s m args below meth c H locs cells slots Q (F0 m pc ls rest) := by
  subst hQm
  subst hAe
  obtain ⟨sa, hsa⟩ := hE.2.2 _ hsl
  exact nx_throwS (Y9 := "java/lang/RuntimeException") (names := ["java/lang/Exception"]) hx hb hst hown hfit (by decide +kernel) (by decide +kernel) (hts _ hlk) (hts _ hini) hsa (at_all hat hts hE.2.1)
    (List.forall_mem_cons.mpr ⟨by unfold vx_ot; rfl, List.forall_mem_cons.mpr ⟨by unfold vx_ot; rfl, at_ot hat⟩⟩) hZ.1 hZ.2.1 hS hsize d0 d3 d4 d6 d9 (fun x hx => (htab x hx).elim) hRf hRl hRc hRs hlocks
    (fun t hal hz hk => ⟨k, rfl, ⟨hk9.symm, (x_after (A := va_A w0 s.heap.size) hP hD hS hz hk).1⟩, (x_after (A := va_A w0 s.heap.size) hP hD hS hz hk).2⟩) hS.2.2 hc hs
theorem endn_throwW {α : Type} {w0 : va_W} {A : Nat → Prop} {Qc : Array Value → State → Outcome → State → Prop} {text : String} {ik is ic : Nat} {cl9 : String} (k : Nat) (hk9 : XN k = cl9) (hAe : va_A w0 s.heap.size = A) (hQm : vx_MQ below Qc (QXE (.error k : Except Nat α) D w' w0 s.heap.size) args s MC MS A = Q)
    (hst : l.stackTraces = false) (hx : p.tables.exec = Jvm.exec) (hb : c.code = cc) (hts : ∀ w ∈ WW, w.before args s = true) (hE : EE D ca sl s) (hown : s.vm.findClass own = some m.cls) (htab : ∀ x ∈ c.exceptionTable.toList, False) (hlocks : meth.locks = false) (hfit : Bundle.fit cl9 = true)
    (hlk : Cond.classLink own ik cl9 ∈ WW) (hini : Cond.initialized cl9 ∈ WW) (hsl : (own, is, text) ∈ sl) (hat : (nx_at own ic cl9 "java/lang/RuntimeException" ["java/lang/Exception"]).all (fun w => decide (w ∈ lw_tbl) && (goodWord w || (nwW w && w.onTables))) = true) (hZ : ZZ A s s.heap) (hsize : ls.size = c.maxLocals)
    (hP : va_P D vwCl w' H) (hD : va_D A w') (hS : va_S A s.heap H locs)
    (d0 : decode cc pc = .ok (.new ik, 3)) (d3 : decode cc (pc + 3) = .ok (.dup, 1)) (d4 : decode cc (pc + 4) = .ok (.ldc_w is, 3)) (d7 : decode cc (pc + 7) = .ok (.invokespecial ic, 3)) (d10 : decode cc (pc + 10) = .ok (.athrow, 1))
    (hRf : 5 < Rm.frames) (hRl : (rest.map fun v => v.category).sum + 82 ≤ Rm.locals) (hRc : cells + 1 ≤ Rm.cells) (hRs : slots + 6 ≤ Rm.slots) (hc : cells + 1 ≤ MC) (hs : slots + 6 ≤ MS) :
    W p l e Rm s m args below meth c H locs cells slots Q (F0 m pc ls rest) := by
  subst hQm
  subst hAe
  obtain ⟨sa, hsa⟩ := hE.2.2 _ hsl
  exact nx_throwSW (Y9 := "java/lang/RuntimeException") (names := ["java/lang/Exception"]) hx hb hst hown hfit (by decide +kernel) (by decide +kernel) (hts _ hlk) (hts _ hini) hsa (at_all hat hts hE.2.1)
    (List.forall_mem_cons.mpr ⟨by unfold vx_ot; rfl, List.forall_mem_cons.mpr ⟨by unfold vx_ot; rfl, at_ot hat⟩⟩) hZ.1 hZ.2.1 hS hsize d0 d3 d4 d7 d10 (fun x hx => (htab x hx).elim) hRf hRl hRc hRs hlocks
    (fun t hal hz hk => ⟨k, rfl, ⟨hk9.symm, (x_after (A := va_A w0 s.heap.size) hP hD hS hz hk).1⟩, (x_after (A := va_A w0 s.heap.size) hP hD hS hz hk).2⟩) hS.2.2 hc hs
end NSE3

/-! the texts of the exceptions, their words (printed by program) -/
def SL0 : List (String × Nat × String) := [(RX3, 71, "there are 4 owners"), (RX3, 84, "there have been 40 files"), (RX3, 107, "the file has 9 links"), (RX3, 141, "there is a hole"), (RX3, 173, "so many more blocks are not free"), (RX3, 182, "no blocks were promised"), (RX3, 187, "8 snapshots are kept"), (RX3, 192, "there have been 30 snapshots"), (RX3, 212, "there was a hole"), (RX3, 227, "no snapshot is kept"), (RX3, 235, "more blocks than the quota"), (RX3, 237, "the file does not exist"), (RX3, 242, "there have been 30 holds"), (RX3, 252, "the hold is not open"), (RX3, 263, "no hold is open"), (RX3, 265, "the day would be greater than 9999"), (RX3, 277, "no transaction is open"), (RX3, 281, "there is no such entry"), (RX3, 311, "there is no such character"), (RX3, 319, "the number is out of range"), (RX3, 322, "there is no such owner"), (RX3, 327, "there is no such file"), (RX3, 332, "there is no such place"), (RX3, 337, "there is no such block"), (RX3, 342, "there has been no such snapshot"), (RX3, 348, "the snapshot is not kept or lacks the file"), (RX3, 353, "there is no such hold"), (RX3, 355, "the file has no links"), (RX3, 357, "a transaction is open"), (RX3, 360, "no block is free for the owner"), (RX3, 362, "there is a hole or the file is gone"), (RJx00060, 13, "Array index out of range: "), (RJx7c733, 13, "String index out of range: "), (RJ7, 48, "fromIndex("), (RJ7, 57, ") > toIndex("), (RJ7, 59, ")"), (RJ7, 337, " > ")]
theorem sl0 : ((RX3, 71, "there are 4 owners") : String × Nat × String) ∈ SL0 := List.mem_of_getElem? (i := 0) rfl
theorem sl1 : ((RX3, 84, "there have been 40 files") : String × Nat × String) ∈ SL0 := List.mem_of_getElem? (i := 1) rfl
theorem sl2 : ((RX3, 107, "the file has 9 links") : String × Nat × String) ∈ SL0 := List.mem_of_getElem? (i := 2) rfl
theorem sl3 : ((RX3, 141, "there is a hole") : String × Nat × String) ∈ SL0 := List.mem_of_getElem? (i := 3) rfl
theorem sl4 : ((RX3, 173, "so many more blocks are not free") : String × Nat × String) ∈ SL0 := List.mem_of_getElem? (i := 4) rfl
theorem sl5 : ((RX3, 182, "no blocks were promised") : String × Nat × String) ∈ SL0 := List.mem_of_getElem? (i := 5) rfl
theorem sl6 : ((RX3, 187, "8 snapshots are kept") : String × Nat × String) ∈ SL0 := List.mem_of_getElem? (i := 6) rfl
theorem sl7 : ((RX3, 192, "there have been 30 snapshots") : String × Nat × String) ∈ SL0 := List.mem_of_getElem? (i := 7) rfl
theorem sl8 : ((RX3, 212, "there was a hole") : String × Nat × String) ∈ SL0 := List.mem_of_getElem? (i := 8) rfl
theorem sl9 : ((RX3, 227, "no snapshot is kept") : String × Nat × String) ∈ SL0 := List.mem_of_getElem? (i := 9) rfl
theorem sl10 : ((RX3, 235, "more blocks than the quota") : String × Nat × String) ∈ SL0 := List.mem_of_getElem? (i := 10) rfl
theorem sl11 : ((RX3, 237, "the file does not exist") : String × Nat × String) ∈ SL0 := List.mem_of_getElem? (i := 11) rfl
theorem sl12 : ((RX3, 242, "there have been 30 holds") : String × Nat × String) ∈ SL0 := List.mem_of_getElem? (i := 12) rfl
theorem sl13 : ((RX3, 252, "the hold is not open") : String × Nat × String) ∈ SL0 := List.mem_of_getElem? (i := 13) rfl
theorem sl14 : ((RX3, 263, "no hold is open") : String × Nat × String) ∈ SL0 := List.mem_of_getElem? (i := 14) rfl
theorem sl15 : ((RX3, 265, "the day would be greater than 9999") : String × Nat × String) ∈ SL0 := List.mem_of_getElem? (i := 15) rfl
theorem sl16 : ((RX3, 277, "no transaction is open") : String × Nat × String) ∈ SL0 := List.mem_of_getElem? (i := 16) rfl
theorem sl17 : ((RX3, 281, "there is no such entry") : String × Nat × String) ∈ SL0 := List.mem_of_getElem? (i := 17) rfl
theorem sl18 : ((RX3, 311, "there is no such character") : String × Nat × String) ∈ SL0 := List.mem_of_getElem? (i := 18) rfl
theorem sl19 : ((RX3, 319, "the number is out of range") : String × Nat × String) ∈ SL0 := List.mem_of_getElem? (i := 19) rfl
theorem sl20 : ((RX3, 322, "there is no such owner") : String × Nat × String) ∈ SL0 := List.mem_of_getElem? (i := 20) rfl
theorem sl21 : ((RX3, 327, "there is no such file") : String × Nat × String) ∈ SL0 := List.mem_of_getElem? (i := 21) rfl
theorem sl22 : ((RX3, 332, "there is no such place") : String × Nat × String) ∈ SL0 := List.mem_of_getElem? (i := 22) rfl
theorem sl23 : ((RX3, 337, "there is no such block") : String × Nat × String) ∈ SL0 := List.mem_of_getElem? (i := 23) rfl
theorem sl24 : ((RX3, 342, "there has been no such snapshot") : String × Nat × String) ∈ SL0 := List.mem_of_getElem? (i := 24) rfl
theorem sl25 : ((RX3, 348, "the snapshot is not kept or lacks the file") : String × Nat × String) ∈ SL0 := List.mem_of_getElem? (i := 25) rfl
theorem sl26 : ((RX3, 353, "there is no such hold") : String × Nat × String) ∈ SL0 := List.mem_of_getElem? (i := 26) rfl
theorem sl27 : ((RX3, 355, "the file has no links") : String × Nat × String) ∈ SL0 := List.mem_of_getElem? (i := 27) rfl
theorem sl28 : ((RX3, 357, "a transaction is open") : String × Nat × String) ∈ SL0 := List.mem_of_getElem? (i := 28) rfl
theorem sl29 : ((RX3, 360, "no block is free for the owner") : String × Nat × String) ∈ SL0 := List.mem_of_getElem? (i := 29) rfl
theorem sl30 : ((RX3, 362, "there is a hole or the file is gone") : String × Nat × String) ∈ SL0 := List.mem_of_getElem? (i := 30) rfl
theorem sl31 : ((RJx00060, 13, "Array index out of range: ") : String × Nat × String) ∈ SL0 := List.mem_of_getElem? (i := 31) rfl
theorem sl32 : ((RJx7c733, 13, "String index out of range: ") : String × Nat × String) ∈ SL0 := List.mem_of_getElem? (i := 32) rfl
theorem sl33 : ((RJ7, 48, "fromIndex(") : String × Nat × String) ∈ SL0 := List.mem_of_getElem? (i := 33) rfl
theorem sl34 : ((RJ7, 57, ") > toIndex(") : String × Nat × String) ∈ SL0 := List.mem_of_getElem? (i := 34) rfl
theorem sl35 : ((RJ7, 59, ")") : String × Nat × String) ∈ SL0 := List.mem_of_getElem? (i := 35) rfl
theorem sl36 : ((RJ7, 337, " > ") : String × Nat × String) ∈ SL0 := List.mem_of_getElem? (i := 36) rfl
theorem at73 : (vx_atS RX3 73 "java/lang/IllegalStateException" XL).all (fun w => decide (w ∈ lw_tbl) && (goodWord w || (nwW w && w.onTables))) = true := by decide +kernel
theorem at175 : (vx_atS RX3 175 "java/lang/UnsupportedOperationException" XL).all (fun w => decide (w ∈ lw_tbl) && (goodWord w || (nwW w && w.onTables))) = true := by decide +kernel
theorem at214 : (nx_at RX3 214 "java/util/NoSuchElementException" "java/lang/RuntimeException" ["java/lang/Exception"]).all (fun w => decide (w ∈ lw_tbl) && (goodWord w || (nwW w && w.onTables))) = true := by decide +kernel
theorem at283 : (vx_atS RX3 283 "java/lang/IndexOutOfBoundsException" XL).all (fun w => decide (w ∈ lw_tbl) && (goodWord w || (nwW w && w.onTables))) = true := by decide +kernel
theorem at321 : (vx_atS RX3 321 "java/lang/IllegalArgumentException" XL).all (fun w => decide (w ∈ lw_tbl) && (goodWord w || (nwW w && w.onTables))) = true := by decide +kernel
