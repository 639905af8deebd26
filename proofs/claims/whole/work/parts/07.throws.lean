/-! METHODS THAT THROW: their contracts' forms, their calls, their ends -/
theorem WW_of {w : Cond} (h : w ∈ lw_tbl) (g : goodWord w = true) : w ∈ WW := List.mem_append_left _ (List.mem_filter.mpr ⟨h, g⟩)
def XN : Nat → String
  | 1 => "java/lang/IllegalArgumentException"
  | 2 => "java/lang/IllegalStateException"
  | 3 => "java/lang/IndexOutOfBoundsException"
  | 4 => "java/lang/UnsupportedOperationException"
  | 5 => "java/util/NoSuchElementException"
  | _ => "java/lang/ArithmeticException"
abbrev XL : List String := ["java/lang/RuntimeException", "java/lang/Exception"]
/-- the tables of digits -/
def dg1 (j : Nat) : Value := .int (nI (48 + j % 10))
def dg2 (j : Nat) : Value := .int (nI (48 + j / 10))
def TT (A : Nat → Prop) (U : State) (H : Heap) : Prop := ∃ t1 t2 : Nat, va_Z "java/lang/Integer" "DigitOnes" "[B" (.ref t1) A U H ∧ va_T .byte t1 100 dg1 A U H ∧ va_Z "java/lang/Integer" "DigitTens" "[B" (.ref t2) A U H ∧ va_T .byte t2 100 dg2 A U H
theorem TT.go {A A1 : Nat → Prop} {s U : State} {H0 H : Heap} (h : TT A s H0) (hq : ∀ a : Nat, a < H0.size → ¬ A a → H[a]? = H0[a]?) (hal : s.vm.Alike U.vm) (hAB : ∀ q, A1 q → A q) : TT A1 U H := by
  obtain ⟨t1, t2, h1, h2, h3, h4⟩ := h
  exact ⟨t1, t2, (va_Z.moved hal (h1.kept hq)).narrow hAB, (va_T.moved hal (h2.kept hq)).narrow hAB, (va_Z.moved hal (h3.kept hq)).narrow hAB, (va_T.moved hal (h4.kept hq)).narrow hAB⟩
abbrev FMT : String := "Ljava/util/function/BiFunction;"
def ZZ (A : Nat → Prop) (U : State) (H : Heap) : Prop := vx_Zq Bundle.tN "UNASSIGNED_STACK" Bundle.steD A U H ∧ vx_Zq Bundle.tN "SUPPRESSED_SENTINEL" Bundle.listD A U H ∧ va_Z "java/lang/String" "COMPACT_STRINGS" "Z" (.int 1) A U H ∧ va_Zq "jdk/internal/util/Preconditions" "SIOOBE_FORMATTER" FMT A U H ∧ TT A U H
theorem ZZ.go {A A1 : Nat → Prop} {s U : State} {H0 H : Heap} {locs : List Loc} (h : ZZ A s H0) (hS : va_S A H0 H locs) (hal : s.vm.Alike U.vm) (hu : U.heap = H) (hAB : ∀ q, A1 q → A q) : ZZ A1 U U.heap := by
  rw [hu]
  exact ⟨((vx_Zq.moved hal (h.1.kept hS.2.1)).narrow hAB), ((vx_Zq.moved hal (h.2.1.kept hS.2.1)).narrow hAB), ((va_Z.moved hal (h.2.2.1.kept hS.2.1)).narrow hAB), ((va_Zq.moved hal (h.2.2.2.1.kept hS.2.1)).narrow hAB), h.2.2.2.2.go hS.2.1 hal hAB⟩
theorem ZZ.same {A : Nat → Prop} {U : State} {g : JFrame} {mk : MethodId} {a : Array Value} (h : ZZ A U U.heap) : ZZ A (U.calling g mk a) (U.calling g mk a).heap :=
  ⟨vx_Zq.moved (u := U) (U := U.calling g mk a) (Vm.Alike.refl U.vm) h.1, vx_Zq.moved (u := U) (U := U.calling g mk a) (Vm.Alike.refl U.vm) h.2.1, va_Z.moved (u := U) (U := U.calling g mk a) (Vm.Alike.refl U.vm) h.2.2.1, va_Zq.moved (u := U) (U := U.calling g mk a) (Vm.Alike.refl U.vm) h.2.2.2.1, TT.go (U := U.calling g mk a) h.2.2.2.2 (fun _ _ _ => rfl) (Vm.Alike.refl U.vm) (fun _ z => z)⟩
def PREX (av : List Value) (D : va_G) (ca : Nat → ClassId) (sl : List (String × Nat × String)) (w : va_W) (sz : Nat) : Array Value → State → Prop :=
  va_Pc av (fun U => U.heap.size = sz ∧ va_P D vwCl w U.heap ∧ EE D ca sl U ∧ va_D (fun _ => True) w ∧ ZZ (va_A w sz) U U.heap)
theorem PREX_blind {av : List Value} {D : va_G} {ca : Nat → ClassId} {sl : List (String × Nat × String)} {w : va_W} {sz : Nat} : FrameBlind (PREX av D ca sl w sz) := fun a U g mk q => by
  obtain ⟨q0, q1, qP, qE, qD, qZ⟩ := q
  exact ⟨q0, q1, qP, EE.same (u := U) rfl qE, qD, ZZ.same qZ⟩
def QXI (o : Except Nat Int32) (D : va_G) (w' w : va_W) (sz : Nat) : Array Value → State → Outcome → State → Prop := va_Qi (fun (r' : Int32) (_ : Unit) => o = .ok r') (fun _ t => BW D w' w sz t) (va_A w sz)
def QXD (o : Except Nat UInt64) (D : va_G) (w' w : va_W) (sz : Nat) : Array Value → State → Outcome → State → Prop := va_Qd (fun (r' : UInt64) (_ : Unit) => o = .ok r') (fun _ t => BW D w' w sz t) (va_A w sz)
def QXF (o : Except Nat UInt32) (D : va_G) (w' w : va_W) (sz : Nat) : Array Value → State → Outcome → State → Prop := va_Qf (fun (r' : UInt32) (_ : Unit) => o = .ok r') (fun _ t => BW D w' w sz t) (va_A w sz)
def QXV (o : Except Nat Unit) (D : va_G) (w' w : va_W) (sz : Nat) : Array Value → State → Outcome → State → Prop := va_Qv (fun (_ : Unit) => o = .ok ()) (fun _ t => BW D w' w sz t) (va_A w sz)
def QXE {α : Type} (o : Except Nat α) (D : va_G) (w' w : va_W) (sz : Nat) : String → State → State → Prop := vx_X (fun k : Nat => o = .error k) (fun E k t => E = XN k ∧ BW D w' w sz t) (va_A w sz)
theorem at_all {L : List Cond} (h : L.all (fun w => decide (w ∈ lw_tbl) && (goodWord w || (nwW w && w.onTables))) = true) {args : Array Value} {s : State} (hts : ∀ w ∈ WW, w.before args s = true) (hN : ∀ w ∈ NWL, va_Nw w s) : ∀ w ∈ L, w.before args s = true := by
  intro w hw
  have h1 := List.all_eq_true.mp h w hw
  simp only [Bool.and_eq_true, decide_eq_true_eq, Bool.or_eq_true] at h1
  rcases h1.2 with g | g
  · exact hts w (WW_of h1.1 g)
  · have h2 := hN w (List.mem_filter.mpr ⟨h1.1, g.1⟩)
    exact va_Nw.use g.2 h2
theorem at_ot {L : List Cond} (h : L.all (fun w => decide (w ∈ lw_tbl) && (goodWord w || (nwW w && w.onTables))) = true) : ∀ w ∈ L, vx_ot w = true := by
  intro w hw
  have h1 := List.all_eq_true.mp h w hw
  simp only [Bool.and_eq_true, decide_eq_true_eq, Bool.or_eq_true] at h1
  unfold vx_ot
  rcases h1.2 with g | g
  · rw [g, Bool.or_true]
  · rw [g.2, Bool.true_or]
section XCALLS
variable {p : Program} {l : Launch} {e : Env} {Rm : Room} {s : State} {m : MethodId} {args : Array Value} {below : List Frame} {meth : Method} {c : Code} {H : Heap} {locs : List Loc} {cells slots : Nat} {Q : State → Prop}
variable {y : MethodName} {bytes cc : ByteArray} {maxL nL mc ms MC MS n index : Nat} {ret : Option FieldType} {rm : Room} {own C host : String} {b : Nat} {As rest st : List Value} {pc : Nat} {ls : Array Slot}
variable {D : va_G} {ca : Nat → ClassId} {sl : List (String × Nat × String)} {w w' : va_W} {A0 : Nat → Prop} {k : Nat}
theorem prex_ok {av : List Value} (hE : EE D ca sl s) (hP : va_P D vwCl w H) (hD : va_D A0 w) (hS : va_S A0 s.heap H locs) (hA : ∀ q, s.heap.size ≤ q → A0 q) (hZ : ZZ A0 s s.heap) : ∀ U : State, U.heap = H → s.WarmedH U.vm → PREX av D ca sl w H.size av.toArray U := fun U hU hW =>
  ⟨rfl, by rw [hU], by rw [hU]; exact hP, hE.warm hW, hD.weaken (fun _ _ _ _ => trivial), hZ.go hS hW.alike hU (vaA_sub hD hS hA)⟩
/-- thrown over this frame, no handler: it leaves -/
theorem x_leave {α : Type} {w0 : va_W} {A : Nat → Prop} {Qc : Array Value → State → Outcome → State → Prop} {q9 : Addr} {ce : Cell} (hAe : va_A w0 s.heap.size = A) (hQm : vx_MQ below Qc (QXE (.error k : Except Nat α) D w' w0 s.heap.size) args s MC MS A = Q) (htab : ∀ x ∈ c.exceptionTable.toList, False) (hlocks : meth.locks = false)
    (hP : va_P D vwCl w' H) (hD : va_D A w') (hS : va_S A s.heap H locs) (hce : H[q9]? = some ce) (hv : ce.vm = .none) (hcl : s.vm.findClass (XN k) = some ce.cls) (hc : cells ≤ MC) (hs : slots ≤ MS) :
    vx_W p l e Rm s m args below meth c H locs cells slots Q (F0 m pc ls rest) q9 := by
  subst hQm
  subst hAe
  exact vx_out (E := XN k) (fun x hx => (htab x hx).elim) hlocks hce hv hcl (fun t ht hal => ⟨k, rfl, ⟨rfl, by rw [ht]; exact hP, hD⟩, hS.F ht⟩) hS.2.2 hc hs
theorem cx_vi_ok {r : Int32} (hM : vx_Met l y (wm y bytes maxL ret) rm (PREX (.ref b :: As) D ca sl w H.size) (QXI (.ok r) D w' w H.size) (QXE (.ok r : Except Nat Int32) D w' w H.size) mc ms (va_A w H.size)) (S : CallFix p m c cc nL s args WW own) (cw : CallW Rm s args own C index y bytes maxL ret (wm y bytes maxL ret) rm mc ms n)
    (hrecv : ∃ cellB : Cell, H[b]? = some cellB ∧ cellB.vm.isStatics = false ∧ s.vm.findClass C = some cellB.cls) (hE : EE D ca sl s) (hP : va_P D vwCl w H) (hD : va_D A0 w) (hS : va_S A0 s.heap H locs) (hA : ∀ q, s.heap.size ≤ q → A0 q) (hZ : ZZ A0 s s.heap)
    (hn : As.length = n) (hsize : ls.size = nL) (hst : st = As.reverse ++ .ref b :: rest) (hW : 2 * (F0 m pc ls st).monitorRoom + (rest.map fun v => v.category).sum ≤ 8) (hdg : decode cc pc = .ok (.invokevirtual index, 3)) (hf : cells + mc ≤ Rm.cells ∧ slots + ms ≤ Rm.slots)
    (kk : ∀ (H1 : Heap) (locs1 : List Loc), va_P D vwCl w' H1 → va_D A0 w' → va_S A0 s.heap H1 locs1 → W p l e Rm s m args below meth c H1 locs1 (cells + mc) (slots + ms) Q (F0 m (pc + 3) ls (.int r :: rest))) : W p l e Rm s m args below meth c H locs cells slots Q (F0 m pc ls st) :=
  vx_calli (vx_runV S hM cw ⟨PREX_blind, hrecv, prex_ok hE hP hD hS hA hZ⟩ rfl hn hsize hst hW hdg hf) hS (fun q _ h => vaA_sub hD hS hA q h) (vaA_sub hD hS hA) (fun q _ h => vaA_sub hD hS hA q h)
    (fun E ce q9 u t H1 locs1 ht hvm hw hB hz1 hk1 hS1 hce hv hcl => nomatch hw)
    (fun r' u t H1 locs1 ht hvm hw hB hz1 hk1 hS1 => by
      obtain ⟨hP1, hD1⟩ := bw_ok hD hS hA ht hB
      cases hw
      exact kk H1 locs1 hP1 hD1 hS1)
theorem cx_vv_ok (hM : vx_Met l y (wm y bytes maxL ret) rm (PREX (.ref b :: As) D ca sl w H.size) (QXV (.ok ()) D w' w H.size) (QXE (.ok () : Except Nat Unit) D w' w H.size) mc ms (va_A w H.size)) (S : CallFix p m c cc nL s args WW own) (cw : CallW Rm s args own C index y bytes maxL ret (wm y bytes maxL ret) rm mc ms n)
    (hrecv : ∃ cellB : Cell, H[b]? = some cellB ∧ cellB.vm.isStatics = false ∧ s.vm.findClass C = some cellB.cls) (hE : EE D ca sl s) (hP : va_P D vwCl w H) (hD : va_D A0 w) (hS : va_S A0 s.heap H locs) (hA : ∀ q, s.heap.size ≤ q → A0 q) (hZ : ZZ A0 s s.heap)
    (hn : As.length = n) (hsize : ls.size = nL) (hst : st = As.reverse ++ .ref b :: rest) (hW : 2 * (F0 m pc ls st).monitorRoom + (rest.map fun v => v.category).sum ≤ 8) (hdg : decode cc pc = .ok (.invokevirtual index, 3)) (hf : cells + mc ≤ Rm.cells ∧ slots + ms ≤ Rm.slots)
    (kk : ∀ (H1 : Heap) (locs1 : List Loc), va_P D vwCl w' H1 → va_D A0 w' → va_S A0 s.heap H1 locs1 → W p l e Rm s m args below meth c H1 locs1 (cells + mc) (slots + ms) Q (F0 m (pc + 3) ls rest)) : W p l e Rm s m args below meth c H locs cells slots Q (F0 m pc ls st) :=
  vx_callv (vx_runV S hM cw ⟨PREX_blind, hrecv, prex_ok hE hP hD hS hA hZ⟩ rfl hn hsize hst hW hdg hf) hS (fun q _ h => vaA_sub hD hS hA q h) (vaA_sub hD hS hA) (fun q _ h => vaA_sub hD hS hA q h)
    (fun E ce q9 u t H1 locs1 ht hvm hw hB hz1 hk1 hS1 hce hv hcl => nomatch hw)
    (fun u t H1 locs1 ht hvm hw hB hz1 hk1 hS1 => by
      obtain ⟨hP1, hD1⟩ := bw_ok hD hS hA ht hB
      exact kk H1 locs1 hP1 hD1 hS1)
theorem cx_vi_err {α : Type} {w0 : va_W} {A : Nat → Prop} {Qc : Array Value → State → Outcome → State → Prop} (hM : vx_Met l y (wm y bytes maxL ret) rm (PREX (.ref b :: As) D ca sl w H.size) (QXI (.error k) D w' w H.size) (QXE (.error k : Except Nat Int32) D w' w H.size) mc ms (va_A w H.size)) (S : CallFix p m c cc nL s args WW own) (cw : CallW Rm s args own C index y bytes maxL ret (wm y bytes maxL ret) rm mc ms n)
    (hrecv : ∃ cellB : Cell, H[b]? = some cellB ∧ cellB.vm.isStatics = false ∧ s.vm.findClass C = some cellB.cls) (hE : EE D ca sl s) (hP : va_P D vwCl w H) (hD : va_D A w) (hS : va_S A s.heap H locs) (hA : ∀ q, s.heap.size ≤ q → A q) (hZ : ZZ A s s.heap)
    (hn : As.length = n) (hsize : ls.size = nL) (hst : st = As.reverse ++ .ref b :: rest) (hW : 2 * (F0 m pc ls st).monitorRoom + (rest.map fun v => v.category).sum ≤ 8) (hdg : decode cc pc = .ok (.invokevirtual index, 3)) (hf : cells + mc ≤ Rm.cells ∧ slots + ms ≤ Rm.slots)
    (hAe : va_A w0 s.heap.size = A) (hQm : vx_MQ below Qc (QXE (.error k : Except Nat α) D w' w0 s.heap.size) args s MC MS A = Q) (htab : ∀ x ∈ c.exceptionTable.toList, False) (hlocks : meth.locks = false) (hc : cells + mc ≤ MC) (hs : slots + ms ≤ MS) : W p l e Rm s m args below meth c H locs cells slots Q (F0 m pc ls st) :=
  vx_calli (vx_runV S hM cw ⟨PREX_blind, hrecv, prex_ok hE hP hD hS hA hZ⟩ rfl hn hsize hst hW hdg hf) hS (fun q _ h => vaA_sub hD hS hA q h) (vaA_sub hD hS hA) (fun q _ h => vaA_sub hD hS hA q h)
    (fun E ce q9 u t H1 locs1 ht hvm hw hB hz1 hk1 hS1 hce hv hcl => by
      obtain ⟨hP1, hD1⟩ := bw_ok hD hS hA ht hB.2
      cases hw
      exact x_leave hAe hQm htab hlocks hP1 hD1 hS1 hce hv (by rw [← hB.1]; exact hcl) hc hs)
    (fun r' u t H1 locs1 ht hvm hw hB hz1 hk1 hS1 => nomatch hw)
theorem cx_vv_err {α : Type} {w0 : va_W} {A : Nat → Prop} {Qc : Array Value → State → Outcome → State → Prop} (hM : vx_Met l y (wm y bytes maxL ret) rm (PREX (.ref b :: As) D ca sl w H.size) (QXV (.error k) D w' w H.size) (QXE (.error k : Except Nat Unit) D w' w H.size) mc ms (va_A w H.size)) (S : CallFix p m c cc nL s args WW own) (cw : CallW Rm s args own C index y bytes maxL ret (wm y bytes maxL ret) rm mc ms n)
    (hrecv : ∃ cellB : Cell, H[b]? = some cellB ∧ cellB.vm.isStatics = false ∧ s.vm.findClass C = some cellB.cls) (hE : EE D ca sl s) (hP : va_P D vwCl w H) (hD : va_D A w) (hS : va_S A s.heap H locs) (hA : ∀ q, s.heap.size ≤ q → A q) (hZ : ZZ A s s.heap)
    (hn : As.length = n) (hsize : ls.size = nL) (hst : st = As.reverse ++ .ref b :: rest) (hW : 2 * (F0 m pc ls st).monitorRoom + (rest.map fun v => v.category).sum ≤ 8) (hdg : decode cc pc = .ok (.invokevirtual index, 3)) (hf : cells + mc ≤ Rm.cells ∧ slots + ms ≤ Rm.slots)
    (hAe : va_A w0 s.heap.size = A) (hQm : vx_MQ below Qc (QXE (.error k : Except Nat α) D w' w0 s.heap.size) args s MC MS A = Q) (htab : ∀ x ∈ c.exceptionTable.toList, False) (hlocks : meth.locks = false) (hc : cells + mc ≤ MC) (hs : slots + ms ≤ MS) : W p l e Rm s m args below meth c H locs cells slots Q (F0 m pc ls st) :=
  vx_callv (vx_runV S hM cw ⟨PREX_blind, hrecv, prex_ok hE hP hD hS hA hZ⟩ rfl hn hsize hst hW hdg hf) hS (fun q _ h => vaA_sub hD hS hA q h) (vaA_sub hD hS hA) (fun q _ h => vaA_sub hD hS hA q h)
    (fun E ce q9 u t H1 locs1 ht hvm hw hB hz1 hk1 hS1 hce hv hcl => by
      obtain ⟨hP1, hD1⟩ := bw_ok hD hS hA ht hB.2
      cases hw
      exact x_leave hAe hQm htab hlocks hP1 hD1 hS1 hce hv (by rw [← hB.1]; exact hcl) hc hs)
    (fun u t H1 locs1 ht hvm hw hB hz1 hk1 hS1 => nomatch hw)
theorem x_after {w0 : va_W} {A : Nat → Prop} {t : State} (hP : va_P D vwCl w' H) (hD : va_D (va_A w0 s.heap.size) w') (hS : va_S (va_A w0 s.heap.size) s.heap H locs) (hz : H.size ≤ t.heap.size) (hk : ∀ q : Nat, q < H.size → t.heap[q]? = H[q]?) : BW D w' w0 s.heap.size t ∧ va_F (va_A w0 s.heap.size) s t :=
  ⟨⟨hP.kept (fun k9 x hx => hk x.1 ((hP k9 x hx).lt)), hD⟩, Nat.le_trans hS.1 hz, fun q h1 h2 => (hk q (Nat.lt_of_lt_of_le h1 hS.1)).trans (hS.2.1 q h1 h2)⟩
theorem endx_throw {α : Type} {w0 : va_W} {A : Nat → Prop} {Qc : Array Value → State → Outcome → State → Prop} {text : String} {ik is ic : Nat} {cl9 : String} (k : Nat) (hk9 : XN k = cl9) (hAe : va_A w0 s.heap.size = A) (hQm : vx_MQ below Qc (QXE (.error k : Except Nat α) D w' w0 s.heap.size) args s MC MS A = Q)
    (hst : l.stackTraces = false) (hx : p.tables.exec = Jvm.exec) (hb : c.code = cc) (hts : ∀ w ∈ WW, w.before args s = true) (hE : EE D ca sl s) (hown : s.vm.findClass own = some m.cls) (htab : ∀ x ∈ c.exceptionTable.toList, False) (hlocks : meth.locks = false) (hfit : Bundle.fit cl9 = true)
    (hlk : Cond.classLink own ik cl9 ∈ WW) (hini : Cond.initialized cl9 ∈ WW) (hsl : (own, is, text) ∈ sl) (hat : (vx_atS own ic cl9 XL).all (fun w => decide (w ∈ lw_tbl) && (goodWord w || (nwW w && w.onTables))) = true) (hZ : ZZ A s s.heap) (hsize : ls.size = c.maxLocals)
    (hP : va_P D vwCl w' H) (hD : va_D A w') (hS : va_S A s.heap H locs)
    (d0 : decode cc pc = .ok (.new ik, 3)) (d3 : decode cc (pc + 3) = .ok (.dup, 1)) (d4 : decode cc (pc + 4) = .ok (.ldc is, 2)) (d6 : decode cc (pc + 6) = .ok (.invokespecial ic, 3)) (d9 : decode cc (pc + 9) = .ok (.athrow, 1))
    (hRf : 5 < Rm.frames) (hRl : (rest.map fun v => v.category).sum + 82 ≤ Rm.locals) (hRc : cells + 1 ≤ Rm.cells) (hRs : slots + 6 ≤ Rm.slots) (hc : cells + 1 ≤ MC) (hs : slots + 6 ≤ MS) :
    W p l e Rm s m args below meth c H locs cells slots Q (F0 m pc ls rest) := by
  subst hQm
  subst hAe
  obtain ⟨sa, hsa⟩ := hE.2.2 _ hsl
  exact vx_throwS (names := XL) hx hb hst hown hfit (by decide +kernel) (hts _ hlk) (hts _ hini) hsa (at_all hat hts hE.2.1)
    (List.forall_mem_cons.mpr ⟨by unfold vx_ot; rfl, List.forall_mem_cons.mpr ⟨by unfold vx_ot; rfl, at_ot hat⟩⟩) hZ.1 hZ.2.1 hS hsize d0 d3 d4 d6 d9 (fun x hx => (htab x hx).elim) hRf hRl hRc hRs hlocks
    (fun t hal hz hk => ⟨k, rfl, ⟨hk9.symm, (x_after (A := va_A w0 s.heap.size) hP hD hS hz hk).1⟩, (x_after (A := va_A w0 s.heap.size) hP hD hS hz hk).2⟩) hS.2.2 hc hs
theorem endx_throwW {α : Type} {w0 : va_W} {A : Nat → Prop} {Qc : Array Value → State → Outcome → State → Prop} {text : String} {ik is ic : Nat} {cl9 : String} (k : Nat) (hk9 : XN k = cl9) (hAe : va_A w0 s.heap.size = A) (hQm : vx_MQ below Qc (QXE (.error k : Except Nat α) D w' w0 s.heap.size) args s MC MS A = Q)
    (hst : l.stackTraces = false) (hx : p.tables.exec = Jvm.exec) (hb : c.code = cc) (hts : ∀ w ∈ WW, w.before args s = true) (hE : EE D ca sl s) (hown : s.vm.findClass own = some m.cls) (htab : ∀ x ∈ c.exceptionTable.toList, False) (hlocks : meth.locks = false) (hfit : Bundle.fit cl9 = true)
    (hlk : Cond.classLink own ik cl9 ∈ WW) (hini : Cond.initialized cl9 ∈ WW) (hsl : (own, is, text) ∈ sl) (hat : (vx_atS own ic cl9 XL).all (fun w => decide (w ∈ lw_tbl) && (goodWord w || (nwW w && w.onTables))) = true) (hZ : ZZ A s s.heap) (hsize : ls.size = c.maxLocals)
    (hP : va_P D vwCl w' H) (hD : va_D A w') (hS : va_S A s.heap H locs)
    (d0 : decode cc pc = .ok (.new ik, 3)) (d3 : decode cc (pc + 3) = .ok (.dup, 1)) (d4 : decode cc (pc + 4) = .ok (.ldc_w is, 3)) (d7 : decode cc (pc + 7) = .ok (.invokespecial ic, 3)) (d10 : decode cc (pc + 10) = .ok (.athrow, 1))
    (hRf : 5 < Rm.frames) (hRl : (rest.map fun v => v.category).sum + 82 ≤ Rm.locals) (hRc : cells + 1 ≤ Rm.cells) (hRs : slots + 6 ≤ Rm.slots) (hc : cells + 1 ≤ MC) (hs : slots + 6 ≤ MS) :
    W p l e Rm s m args below meth c H locs cells slots Q (F0 m pc ls rest) := by
  subst hQm
  subst hAe
  obtain ⟨sa, hsa⟩ := hE.2.2 _ hsl
  exact vx_throwSW (names := XL) hx hb hst hown hfit (by decide +kernel) (hts _ hlk) (hts _ hini) hsa (at_all hat hts hE.2.1)
    (List.forall_mem_cons.mpr ⟨by unfold vx_ot; rfl, List.forall_mem_cons.mpr ⟨by unfold vx_ot; rfl, at_ot hat⟩⟩) hZ.1 hZ.2.1 hS hsize d0 d3 d4 d7 d10 (fun x hx => (htab x hx).elim) hRf hRl hRc hRs hlocks
    (fun t hal hz hk => ⟨k, rfl, ⟨hk9.symm, (x_after (A := va_A w0 s.heap.size) hP hD hS hz hk).1⟩, (x_after (A := va_A w0 s.heap.size) hP hD hS hz hk).2⟩) hS.2.2 hc hs
theorem endx_i {v : Int32} {ty : FieldType} {w0 : va_W} {A : Nat → Prop} (hAe : va_A w0 s.heap.size = A) (hQm : vx_MQ below (QXI (.ok v) D w' w0 s.heap.size) (QXE (.ok v : Except Nat Int32) D w' w0 s.heap.size) args s MC MS A = Q) (hx : p.tables.exec = Jvm.exec) (hb : c.code = cc) (hr : meth.sig.returnType = some ty) (hlocks : meth.locks = false) (hn : narrow ty (.int v) = .int v) (hP : va_P D vwCl w' H) (hD : va_D A w') (hS : va_S A s.heap H locs) (hdg : decode cc pc = .ok (.ireturn, 1)) (hc : cells ≤ MC) (hs : slots ≤ MS) :
    W p l e Rm s m args below meth c H locs cells slots Q (F0 m pc ls [.int v]) := by
  subst hQm
  subst hAe
  exact W.widen hc hs (vx_ret (W.zret (v := v) hx hb hr hn (fun t ht hW => ⟨⟨v, (),  rfl, rfl, by rw [ht]; exact hP, hD⟩, hS.F ht⟩) hS.2.2 hdg hlocks))
theorem endx_d {v : UInt64} {w0 : va_W} {A : Nat → Prop} (hAe : va_A w0 s.heap.size = A) (hQm : vx_MQ below (QXD (.ok v) D w' w0 s.heap.size) (QXE (.ok v : Except Nat UInt64) D w' w0 s.heap.size) args s MC MS A = Q) (hx : p.tables.exec = Jvm.exec) (hb : c.code = cc) (hr : meth.sig.returnType = some .double) (hlocks : meth.locks = false) (hP : va_P D vwCl w' H) (hD : va_D A w') (hS : va_S A s.heap H locs) (hdg : decode cc pc = .ok (.dreturn, 1)) (hc : cells ≤ MC) (hs : slots ≤ MS) :
    W p l e Rm s m args below meth c H locs cells slots Q (F0 m pc ls [.double v]) := by
  subst hQm
  subst hAe
  exact W.widen hc hs (vx_ret (W.dret (v := v) hx hb hr (fun t ht hW => ⟨⟨v, (),  rfl, rfl, by rw [ht]; exact hP, hD⟩, hS.F ht⟩) hS.2.2 hdg hlocks))
theorem endx_f {v : UInt32} {w0 : va_W} {A : Nat → Prop} (hAe : va_A w0 s.heap.size = A) (hQm : vx_MQ below (QXF (.ok v) D w' w0 s.heap.size) (QXE (.ok v : Except Nat UInt32) D w' w0 s.heap.size) args s MC MS A = Q) (hx : p.tables.exec = Jvm.exec) (hb : c.code = cc) (hr : meth.sig.returnType = some .float) (hlocks : meth.locks = false) (hP : va_P D vwCl w' H) (hD : va_D A w') (hS : va_S A s.heap H locs) (hdg : decode cc pc = .ok (.freturn, 1)) (hc : cells ≤ MC) (hs : slots ≤ MS) :
    W p l e Rm s m args below meth c H locs cells slots Q (F0 m pc ls [.float v]) := by
  subst hQm
  subst hAe
  exact W.widen hc hs (vx_ret (W.fret (v := v) hx hb hr (fun t ht hW => ⟨⟨v, (),  rfl, rfl, by rw [ht]; exact hP, hD⟩, hS.F ht⟩) hS.2.2 hdg hlocks))
theorem endx_v {w0 : va_W} {A : Nat → Prop} (hAe : va_A w0 s.heap.size = A) (hQm : vx_MQ below (QXV (.ok ()) D w' w0 s.heap.size) (QXE (.ok () : Except Nat Unit) D w' w0 s.heap.size) args s MC MS A = Q) (hx : p.tables.exec = Jvm.exec) (hb : c.code = cc) (hr : meth.sig.returnType = none) (hlocks : meth.locks = false) (hP : va_P D vwCl w' H) (hD : va_D A w') (hS : va_S A s.heap H locs) (hdg : decode cc pc = .ok (.return_, 1)) (hc : cells ≤ MC) (hs : slots ≤ MS) :
    W p l e Rm s m args below meth c H locs cells slots Q (F0 m pc ls []) := by
  subst hQm
  subst hAe
  exact W.widen hc hs (vx_ret (W.vret hx hb hr (fun t ht hW => ⟨⟨(),  rfl, rfl, by rw [ht]; exact hP, hD⟩, hS.F ht⟩) hS.2.2 hdg hlocks))
end XCALLS

/-! NoSuchElementException. Its constructor links RuntimeException's at entry 13, not at 7 as those of the other exceptions link theirs, so the kit's rows for a throw don't fit it. Rows for it alone, over the library's ctorMessageOffV; of the new cell they say whose it is, and that no word of the machine lies in it: no contract here asks more. -/
abbrev NSE : String := "java/util/NoSuchElementException"
abbrev RTE : String := "java/lang/RuntimeException"
def nx_code : ByteArray := ⟨#[0x2a, 0x2b, 0xb7, 0x00, 0x0d, 0xb1]⟩
abbrev nx_way : List Cond := Bundle.passSAtoms NSE RTE 13 nx_code
abbrev nx_rest : List Cond := Bundle.chainSAtoms RTE ["java/lang/Exception"]
abbrev nx_up : List Cond := Bundle.throwableAtoms ++ (Bundle.throwableSAtoms ++ (nx_way ++ nx_rest))
abbrev nx_fields : List (String × String) := [("backtrace", "Ljava/lang/Object;"), ("cause", "Ljava/lang/Throwable;"), ("stackTrace", Bundle.steD), ("suppressedExceptions", Bundle.listD), ("detailMessage", "Ljava/lang/String;")]
def nx_lay (q : String × String) : Cond := .lays NSE Bundle.tN q.1 q.2
abbrev nx_back : List Cond := [.fieldLink Bundle.tN 198 Bundle.tN "backtrace" "Ljava/lang/Object;", .lays Bundle.tN Bundle.tN "backtrace" "Ljava/lang/Object;"]
abbrev nx_pair : List Cond := [.selects NSE Bundle.tFill0 Bundle.tFill0, .selects NSE Bundle.tFill Bundle.tFill]
abbrev nx_new (own : String) (ic : Nat) : List Cond := [.methodLink own ic (Bundle.initS NSE), .instantiable NSE 6]
abbrev nx_all (own : String) (ic : Nat) : List Cond := nx_new own ic ++ (nx_pair ++ (nx_back ++ (nx_fields.map nx_lay ++ nx_up)))
def nx_at (own : String) (ic : Nat) : List Cond := (nx_all own ic).filter vx_no
/-- both halves of a list of words -/
theorem nx_cut {A B : List Cond} {args : Array Value} {s : State} (h : ∀ w ∈ A ++ B, w.before args s = true) : (∀ w ∈ A, w.before args s = true) ∧ (∀ w ∈ B, w.before args s = true) :=
  ⟨fun w hw => h w (List.mem_append_left _ hw), fun w hw => h w (List.mem_append_right _ hw)⟩
/-- the three constructors under way, each passing the message on -/
theorem nx_road {args : Array Value} {s : State} {pl : Platform} (hpl : pl.magicAccessors = ({} : Platform).magicAccessors) {top : MethodId} (htop : s.methodNamed? (Bundle.initS Bundle.tN) = some top)
    (h1 : ∀ w ∈ nx_way, w.before args s = true) (h2 : ∀ w ∈ nx_rest, w.before args s = true) :
    ∃ (P : PassC) (Ps : List PassC), Ps.length = 2 ∧ (∀ Q, Q ∈ P :: Ps → Q.LinksS pl s) ∧ s.methodNamed? (Bundle.initS NSE) = some P.m ∧ PassesOn top ((P :: Ps).map (·.toPassT)) := by
  obtain ⟨P, lP, mP, sP⟩ := PassC.ofS_atoms (args := args) (s := s) hpl (by decide +kernel) (by decide) (by decide +kernel) (by decide +kernel) (by decide +kernel) (by decide +kernel) h1
  obtain ⟨P2, Ps, hn, l2, lr, m2, s2, pr⟩ := Bundle.chainS (args := args) hpl htop ["java/lang/Exception"] RTE (by decide +kernel) (fun n hn => by rw [List.mem_singleton.mp hn]; decide +kernel) h2
  refine ⟨P, P2 :: Ps, by rw [List.length_cons, hn]; rfl, fun Q hQ => ?_, mP, ?_, s2, pr⟩
  · cases hQ with
    | head => exact lP
    | tail _ hQ => cases hQ with
      | head => exact l2
      | tail _ hQ => exact lr Q hQ
  · rw [m2] at sP
    exact (Option.some.inj sP).symm
/-- a selection finds Throwable's own method -/
theorem nx_pick {l : Launch} {e : Env} {args : Array Value} {s : State} {cX : ClassId} {m : MethodId} {x : MethodName} (hA : l.admits e) (hc : s.vm.findClass NSE = some cX) (hm : s.methodNamed? x = some m)
    (hx : x.cls ≠ "java/lang/invoke/MethodHandle" ∧ x.cls ≠ "java/lang/invoke/VarHandle") (h : (Cond.selects NSE x x).before args s = true) : selectMethod e.platform s.vm cX m = .method m := by
  obtain ⟨c1, r1, m1, g1, g2, g3, g4, -⟩ := Cond.selects_spec h
  rw [hc] at g1
  rw [State.methodFound?_of_named hm hx] at g2
  rw [hm] at g3
  rw [Launch.admits_selectMethod hA, Option.some.inj g1, Option.some.inj g2]
  rw [← Option.some.inj g3, Option.some.inj g2] at g4
  exact g4
theorem nx_past {x : Cell} {i j : Nat} {v : Value} (h : i ≠ j) : (x.setSlot j v).slots[i]? = x.slots[i]? := Array.getElem?_setIfInBounds_ne (fun q => h q.symm)
/-- no backtrace is noted before the stack is filled -/
theorem nx_skip {args : Array Value} {s : State} {pl : Platform} {T : ThrowableC} {Z : Init0T} (hpl : pl.magicAccessors = ({} : Platform).magicAccessors) (L : T.Links pl s) (Y : Bundle.Ties T Z s) {cX : ClassId} {kX : Class} (hcX : s.vm.findClass NSE = some cX) (hkX : s.vm.classes[cX]? = some kX)
    (hb : ∀ w ∈ nx_back, w.before args s = true) (hl : ∀ q ∈ nx_fields, (nx_lay q).before args s = true) (a : Addr) (u0 sen : RefV) (t : ThreadId) :
    SkipFacts T pl s (fun u => u) u0 ((preparedCellV T.toThrowableT (freshCell cX kX) a u0 sen).withEntry t) := by
  obtain ⟨ci, i, f, b1, b2, b3, b4, -, bn, bt, bf⟩ := Cond.ownField (t := .object "java/lang/Object") Y.found L.cls (by decide +kernel) (hb _ (List.mem_cons_self ..)) (hb _ (List.mem_cons_of_mem _ (List.mem_cons_self ..))) pl hpl
  obtain ⟨ty, d, hd, hdn⟩ := Cond.laysAt hcX hkX bf (hl ("backtrace", "Ljava/lang/Object;") (by decide))
  obtain ⟨-, d1, k1, n1⟩ := Cond.laysAt hcX hkX Y.cause (hl ("cause", "Ljava/lang/Throwable;") (by decide))
  obtain ⟨-, d2, k2, n2⟩ := Cond.laysAt hcX hkX Y.stack (hl ("stackTrace", Bundle.steD) (by decide))
  obtain ⟨-, d3, k3, n3⟩ := Cond.laysAt hcX hkX Y.supp (hl ("suppressedExceptions", Bundle.listD) (by decide))
  refine ⟨⟨ci, i, f⟩, ⟨b1, b2, b3, b4⟩, ?_, fun _ _ => rfl⟩
  show ((((freshCell cX kX).setSlot T.fCause.slot (.ref a)).setSlot T.fStack.slot u0.v).setSlot T.fSupp.slot sen.v).slots[f.slot]? = some .null
  rw [nx_past (Cond.laysApart hd k3 hdn n3 (by rw [bn, Y.suppName]; decide)), nx_past (Cond.laysApart hd k2 hdn n2 (by rw [bn, Y.stackName]; decide)), nx_past (Cond.laysApart hd k1 hdn n1 (by rw [bn, Y.causeName]; decide)), fresh_default ty, bt]
  rfl
section NX1
variable {p : Program} {l : Launch} {e : Env} {R : Room} {s : State} {m : MethodId} {args : Array Value} {below : List Frame} {meth : Method} {c : Code} {W : State} {cells slots : Nat}
/-- the constructor runs, then the object is thrown and leaves the frame -/
theorem nx_thrown (X : Stand p l e R s m args below meth c W [] cells slots) (hexec : p.tables.exec = Jvm.exec) (htr : e.platform.stackTraces = false) {own : String} {ic : Nat} (hown : s.vm.findClass own = some m.cls)
    (h : ∀ w ∈ nx_all own ic, w.before args s = true) (hUS : (Cond.isRef (.static Bundle.tN "UNASSIGNED_STACK" Bundle.steD)).before args s = true) (hSS : (Cond.isRef (.static Bundle.tN "SUPPRESSED_SENTINEL" Bundle.listD)).before args s = true)
    {a sa : Addr} {cX : ClassId} {kX : Class} (hcX : s.vm.findClass NSE = some cX) (hkX : s.vm.classes[cX]? = some kX) (hcell : W.heap[a]? = some (freshCell cX kX)) (hnew : s.heap.size ≤ a)
    {pc : Nat} {ls : Array Slot} {rest : List Value} (hsize : ls.size = c.maxLocals) (d0 : decode c.code pc = .ok (.invokespecial ic, 3)) (d3 : decode c.code (pc + 3) = .ok (.athrow, 1))
    (hout : ∀ x ∈ c.exceptionTable.toList, covers x (pc + 3) = false) (hRf : 5 < R.frames) (hRl : (rest.map fun v => v.category).sum + 82 ≤ R.locals) (hlocks : meth.locks = false) :
    ∃ (U : State) (ce : Cell), Steps p.tables e below (W.setTop (F0 m pc ls (.ref sa :: .ref a :: .ref a :: rest))) U ∧ U.status = .running ∧ Ended U below (.threw a) ∧ s.WarmedH U.vm ∧ s.sameButNew ({ U with vm := s.vm } : State) [] cells slots ∧
      U.heap[a]? = some ce ∧ ce.vm = .none ∧ ce.cls = cX := by
  obtain ⟨hnw, h⟩ := nx_cut h
  obtain ⟨hpr, h⟩ := nx_cut h
  obtain ⟨hbk, h⟩ := nx_cut h
  obtain ⟨hfl, h⟩ := nx_cut h
  obtain ⟨hth, h⟩ := nx_cut h
  obtain ⟨hts, h⟩ := nx_cut h
  obtain ⟨hwy, hrs⟩ := nx_cut h
  have hl : ∀ q ∈ nx_fields, (nx_lay q).before args s = true := fun q hq => hfl _ (List.mem_map_of_mem hq)
  have hP := X.admits.platform
  have hpl : e.platform.magicAccessors = ({} : Platform).magicAccessors := by rw [hP]
  obtain ⟨T, Z0, L, -, Y⟩ := ThrowableC.of_atoms (args := args) (by rw [hP]) (by rw [hP]) hpl hth
  obtain ⟨Z, M, lZ, lM, hZm⟩ := Init0T.ofS_atoms (args := args) hpl L Y hts
  obtain ⟨P, Ps, hn, lPs, hPm, hgo⟩ := nx_road (args := args) hpl hZm hwy hrs
  obtain ⟨ck, kk, hck, hkk, hord, -, -, -⟩ := Cond.instantiable_spec (hnw (.instantiable NSE 6) (by simp))
  rw [hcX] at hck
  rw [← Option.some.inj hck, hkX] at hkk
  rw [← Option.some.inj hkk] at hord
  -- Throwable's statics, in the heap at the entry and now
  obtain ⟨cS, hcS, hst⟩ := Y.statics
  obtain ⟨u0, hu0⟩ := Cond.staticRefV Y.unassigned L.unassignedStatic L.statics hcS hst hUS
  obtain ⟨sen, hsen⟩ := Cond.staticRefV Y.sentinel L.sentinelStatic L.statics hcS hst hSS
  obtain ⟨cW, hcW, hvW, -, hsame⟩ := X.same.2.2.2.2.2 T.aS cS hcS
  have hvm : cW.vm = cS.vm := by rw [hvW]
  have hkn : cW.vm ≠ .unknown := fun q => by rw [← hvm, q] at hst; exact absurd hst (by decide)
  have hne : T.aS ≠ a := fun q => by
    have hlt := (Array.getElem?_eq_some_iff.mp hcS).1
    rw [q] at hlt
    exact Nat.not_lt.mpr hnew hlt
  obtain ⟨iM, hM⟩ := Y.msg
  obtain ⟨t1, -⟩ := Cond.laysAt hcX hkX Y.cause (hl ("cause", "Ljava/lang/Throwable;") (by decide))
  obtain ⟨t2, -⟩ := Cond.laysAt hcX hkX Y.stack (hl ("stackTrace", Bundle.steD) (by decide))
  obtain ⟨t3, -⟩ := Cond.laysAt hcX hkX Y.supp (hl ("suppressedExceptions", Bundle.listD) (by decide))
  obtain ⟨t4, -⟩ := Cond.laysAt hcX hkX hM (hl ("detailMessage", "Ljava/lang/String;") (by decide))
  -- the call, linked for the first time or again
  obtain ⟨mi, -, -, -, vm1, hmi, -, -, -, -, -, -, -, w1, run1⟩ := Steps.initColdS (below := below) (args := args) X.here hexec X.warmed hpl hown (t := Bundle.initS NSE) rfl rfl (by decide) (hnw (.methodLink own ic (Bundle.initS NSE)) (by simp))
    (hwy (.instanceMethod (Bundle.initS NSE)) (by simp [Bundle.passSAtoms])) (hwy (.code (Bundle.initS NSE) nx_code 2 none) (by simp [Bundle.passSAtoms])) (f := F0 m pc ls (.ref sa :: .ref a :: .ref a :: rest)) rfl rfl d0
  rw [hPm] at hmi
  obtain ⟨vm2, X2, run2⟩ := (X.noted w1).ctorMessageOffV hexec (g := F0 m pc ls (.ref a :: rest)) rfl hsize T L Z lZ M lM (P :: Ps) lPs hgo (u0 := u0) (sen := sen) (self := a) (msg := .ref sa) rfl hcell
    (fun _ q => nomatch q) (fun q => nomatch q) rfl rfl (nx_pick X.admits hcX Y.fill0 (by decide) (hpr _ (by simp))) (nx_pick X.admits hcX Y.fill (by decide) (hpr _ (by simp)))
    hcW hne hkn ((hsame _ (by simp)).trans hu0) ((hsame _ (by simp)).trans hsen)
    (Takes.of_laid hkX hord t1 (by rw [Y.causeType]; rfl)) (Takes.of_laid hkX hord t2 (by rw [Y.stackType]; exact fits_refV_array _ u0)) (Takes.of_laid hkX hord t3 (by rw [Y.suppType]; exact fits_refV_object _ sen))
    (Takes.of_laid hkX hord t4 (by rw [Y.msgType]; rfl)) Y.objLocals (nx_skip hpl L Y hcX hkX hbk hl a u0 sen _) htr [] d0
    (by rw [List.length_cons, hn]; exact hRf) (by
      have hr : (F0 m pc ls (.ref a :: rest)).monitorRoom = 0 := rfl
      have hs : (F0 m pc ls (.ref a :: rest)).stack = .ref a :: rest := rfl
      have hc1 : (Value.ref a).category = 1 := rfl
      rw [List.length_cons, hn, hr, hs, List.map_cons, List.sum_cons, hc1]
      omega)
  obtain ⟨run3, q1, q2, q3, q4⟩ := X2.athrowLeaves hexec (g := F0 m (pc + 3) ls (.ref a :: rest)) rfl rfl rfl hout rfl d3
  refine ⟨_, _, run1 _ (fun acts => ?_), q1, q2, q3, q4.weaken (fun y hy hlt => ?_) (Nat.le_refl _) (Nat.le_refl _), heapAt_setCell_self _ (Array.getElem?_eq_some_iff.mp hcell).1, rfl, rfl⟩
  · rw [doInvoke_state, ← Option.some.inj hmi]
    exact run2 _ run3
  · have hy0 : y.base = a := by
      simp only [List.nil_append, List.mem_cons, List.not_mem_nil, or_false] at hy
      rcases hy with rfl | rfl | rfl | rfl | rfl <;> rfl
    rw [hy0] at hlt
    exact absurd hlt (Nat.not_lt.mpr hnew)
end NX1
section NSE2
variable {p : Program} {l : Launch} {e : Env} {R : Room} {s : State} {m : MethodId} {args : Array Value} {below : List Frame} {meth : Method} {c : Code} {H : Heap} {locs : List Loc} {cells slots : Nat} {Q : State → Prop}
variable {mc ms : Nat} {free : Addr → Prop} {A0 A1 : Nat → Prop} {H0 : Heap} {a : Array Value} {ls : Array Slot} {st0 rest : List Value}
variable {Qc : Array Value → State → Outcome → State → Prop} {XC : String → State → State → Prop}
theorem nx_throwS {cc : ByteArray} {pc : Nat} (hexec : p.tables.exec = Jvm.exec) (hb : c.code = cc) (hl : l.stackTraces = false) {own text : String} {ik is ic mc ms sa : Nat} {A : Nat → Prop}
    (hown : s.vm.findClass own = some m.cls)
    (hk : (Cond.classLink own ik NSE).before args s = true) (hini : (Cond.initialized NSE).before args s = true) (hstr : vk_R own is text sa s) (hat : ∀ w ∈ nx_at own ic, w.before args s = true)
    (hgood : ∀ w ∈ Cond.classLink own ik NSE :: Cond.initialized NSE :: nx_at own ic, vx_ot w = true)
    (hU : vx_Zq Bundle.tN "UNASSIGNED_STACK" Bundle.steD A s s.heap) (hN : vx_Zq Bundle.tN "SUPPRESSED_SENTINEL" Bundle.listD A s s.heap) (hS : va_S A s.heap H locs) (hsize : ls.size = c.maxLocals)
    (d0 : decode cc pc = .ok (.new ik, 3)) (d3 : decode cc (pc + 3) = .ok (.dup, 1)) (d4 : decode cc (pc + 4) = .ok (.ldc is, 2)) (d6 : decode cc (pc + 6) = .ok (.invokespecial ic, 3)) (d9 : decode cc (pc + 9) = .ok (.athrow, 1))
    (hout : ∀ x ∈ c.exceptionTable.toList, covers x (pc + 9) = false)
    (hRframes : 5 < R.frames) (hRlocals : (rest.map fun v => v.category).sum + 82 ≤ R.locals) (hRcells : cells + 1 ≤ R.cells) (hRslots : slots + 6 ≤ R.slots) (hlocks : meth.locks = false)
    (hx : ∀ t : State, s.vm.Alike t.vm → H.size ≤ t.heap.size → (∀ q : Nat, q < H.size → t.heap[q]? = H[q]?) → XC NSE s t)
    (hf : ∀ z ∈ locs, free z.base) (hc : cells + 1 ≤ mc) (hs : slots + 6 ≤ ms) :
    W p l e R s m args below meth c H locs cells slots (vx_MQ below Qc XC args s mc ms free) (F0 m pc ls rest) := by
  intro T hT X
  have htr : e.platform.stackTraces = false := (show e.platform.stackTraces = l.stackTraces by rw [X.admits.platform]).trans hl
  have Y := vx_rebase X (R' := { frames := R.frames, locals := R.locals, cells := 1, slots := 6 }) (Nat.le_refl _) (Nat.le_refl _) hRcells hRslots
  obtain ⟨s', hA⟩ : ∃ z, z = (T.setVm s.vm).setFrames (.invoking m args :: below) := ⟨_, rfl⟩
  rw [← hA] at Y
  have hvm : s'.vm = s.vm := by rw [hA]; rfl
  have hhp : s'.heap = H := by rw [hA]; exact hT
  have hW0 : s.WarmedH s'.vm := by rw [hvm]; exact State.WarmedH.refl s
  have hat' : ∀ w ∈ nx_at own ic, w.before args s' = true := fun w hw => vx_ot_at hW0 hvm.symm (hgood w (List.mem_cons_of_mem _ (List.mem_cons_of_mem _ hw))) (hat w hw)
  have hk' : (Cond.classLink own ik NSE).before args s' = true := vx_ot_at hW0 hvm.symm (hgood _ List.mem_cons_self) hk
  have hini' : (Cond.initialized NSE).before args s' = true := vx_ot_at hW0 hvm.symm (hgood _ (List.mem_cons_of_mem _ List.mem_cons_self)) hini
  have hU' : vx_Zq Bundle.tN "UNASSIGNED_STACK" Bundle.steD A s' s'.heap := by rw [hhp]; exact vx_Zq.moved hW0.alike (hU.kept hS.2.1)
  have hN' : vx_Zq Bundle.tN "SUPPRESSED_SENTINEL" Bundle.listD A s' s'.heap := by rw [hhp]; exact vx_Zq.moved hW0.alike (hN.kept hS.2.1)
  have h : ∀ w ∈ nx_all own ic, w.before args s' = true := vx_own hat' (vx_isRefq hU'.1) (vx_isRefq hN'.1) hU'.2.word hN'.2.word
  have hown' : s'.vm.findClass own = some m.cls := by rw [hvm]; exact hown
  have hins : (Cond.instantiable NSE 6).before args s' = true := h _ (List.mem_append_left _ (List.mem_cons_of_mem _ (List.mem_cons_self ..)))
  obtain ⟨vm₁, cX, kX, hfX, hkX, -, -, X₁, st1⟩ := Y.newCold hexec (own := own) (C := NSE) (index := ik) (n := 6) hown' hk' hins hini'
    (g := F0 m pc ls rest) rfl (by rw [hb]; exact d0) (Nat.le_refl _) (Nat.le_refl _)
  generalize hT1 : (T.setVm vm₁).pushCell { cls := cX, slots := kX.instanceTypes.map defaultValue, vm := .none } = T1 at X₁ st1
  have hcat : (Value.ref T.heap.size).category = 1 := rfl
  have hcellA : T1.heap[T.heap.size]? = some (freshCell cX kX) := by rw [← hT1]; exact State.heap_pushCell_size _ _
  have d3' : decode c.code (pc + 3) = .ok (.dup, 1) := by rw [hb]; exact d3
  have d4' : decode c.code (pc + 4) = .ok (.ldc is, 2) := by rw [hb]; exact d4
  have hstr' : vk_R own is text sa s' := vk_R.warm hW0 hstr
  obtain ⟨U, ce, hsteps, hrun, hend, hW, hsame, hce, hv9, hc9⟩ := nx_thrown X₁ hexec htr hown' h (vx_isRefq hU'.1) (vx_isRefq hN'.1) (sa := sa) hfX hkX hcellA (by rw [hhp, hT]; exact Nat.le_refl _) (rest := rest) hsize
    (by rw [hb]; exact d6) (by rw [hb]; exact d9) hout hRframes hRlocals hlocks
  obtain ⟨f1, f2⟩ := vx_frame hsame
  rw [hhp] at f1 f2
  have hWs : s.WarmedH U.vm := State.WarmedH.trans hW0 hW
  have hcl : s.vm.findClass NSE = some ce.cls := by rw [hc9, ← hvm]; exact hfX
  have hall : s.sameButNew ({ U with vm := s.vm } : State) locs mc ms := by
    subst hA
    obtain ⟨e1, e2⟩ := hsame
    rw [State.setFrames_setFrames] at e1
    have h2 : (T.setVm s.vm).sameButNew ({ U with vm := s.vm } : State) [] (0 + 1) (0 + 6) := ⟨e1, e2⟩
    have h3 := X.same.trans h2
    rw [List.append_nil] at h3
    exact h3.mono hc hs
  refine ⟨U, ?_, .threw T.heap.size, hrun, hend, Or.inr ⟨T.heap.size, rfl, NSE, ce, locs, hx U hWs.alike f1 (fun q hq => f2 q hq (fun z hz => nomatch hz)), hce, hv9, hcl, hWs, hall, hf⟩⟩
  refine st1 _ ?_
  show Steps p.tables e below (T1.setTop { method := m, pc := pc + 3, locals := ls, stack := .ref T.heap.size :: rest, locked := none }) _
  jvm_step X₁.here [X₁.here.top, hexec, d3', Value.category]
  exact X₁.ldcString hexec (own := own) (text := text) (index := is) (a := sa) hown' hstr'.1 hstr'.2
    (g := { method := m, pc := pc + 4, locals := ls, stack := .ref T.heap.size :: .ref T.heap.size :: rest, locked := none }) rfl d4' _ hsteps
theorem nx_throwSW {cc : ByteArray} {pc : Nat} (hexec : p.tables.exec = Jvm.exec) (hb : c.code = cc) (hl : l.stackTraces = false) {own text : String} {ik is ic mc ms sa : Nat} {A : Nat → Prop}
    (hown : s.vm.findClass own = some m.cls)
    (hk : (Cond.classLink own ik NSE).before args s = true) (hini : (Cond.initialized NSE).before args s = true) (hstr : vk_R own is text sa s) (hat : ∀ w ∈ nx_at own ic, w.before args s = true)
    (hgood : ∀ w ∈ Cond.classLink own ik NSE :: Cond.initialized NSE :: nx_at own ic, vx_ot w = true)
    (hU : vx_Zq Bundle.tN "UNASSIGNED_STACK" Bundle.steD A s s.heap) (hN : vx_Zq Bundle.tN "SUPPRESSED_SENTINEL" Bundle.listD A s s.heap) (hS : va_S A s.heap H locs) (hsize : ls.size = c.maxLocals)
    (d0 : decode cc pc = .ok (.new ik, 3)) (d3 : decode cc (pc + 3) = .ok (.dup, 1)) (d4 : decode cc (pc + 4) = .ok (.ldc_w is, 3)) (d7 : decode cc (pc + 7) = .ok (.invokespecial ic, 3)) (d10 : decode cc (pc + 10) = .ok (.athrow, 1))
    (hout : ∀ x ∈ c.exceptionTable.toList, covers x (pc + 10) = false)
    (hRframes : 5 < R.frames) (hRlocals : (rest.map fun v => v.category).sum + 82 ≤ R.locals) (hRcells : cells + 1 ≤ R.cells) (hRslots : slots + 6 ≤ R.slots) (hlocks : meth.locks = false)
    (hx : ∀ t : State, s.vm.Alike t.vm → H.size ≤ t.heap.size → (∀ q : Nat, q < H.size → t.heap[q]? = H[q]?) → XC NSE s t)
    (hf : ∀ z ∈ locs, free z.base) (hc : cells + 1 ≤ mc) (hs : slots + 6 ≤ ms) :
    W p l e R s m args below meth c H locs cells slots (vx_MQ below Qc XC args s mc ms free) (F0 m pc ls rest) := by
  intro T hT X
  have htr : e.platform.stackTraces = false := (show e.platform.stackTraces = l.stackTraces by rw [X.admits.platform]).trans hl
  have Y := vx_rebase X (R' := { frames := R.frames, locals := R.locals, cells := 1, slots := 6 }) (Nat.le_refl _) (Nat.le_refl _) hRcells hRslots
  obtain ⟨s', hA⟩ : ∃ z, z = (T.setVm s.vm).setFrames (.invoking m args :: below) := ⟨_, rfl⟩
  rw [← hA] at Y
  have hvm : s'.vm = s.vm := by rw [hA]; rfl
  have hhp : s'.heap = H := by rw [hA]; exact hT
  have hW0 : s.WarmedH s'.vm := by rw [hvm]; exact State.WarmedH.refl s
  have hat' : ∀ w ∈ nx_at own ic, w.before args s' = true := fun w hw => vx_ot_at hW0 hvm.symm (hgood w (List.mem_cons_of_mem _ (List.mem_cons_of_mem _ hw))) (hat w hw)
  have hk' : (Cond.classLink own ik NSE).before args s' = true := vx_ot_at hW0 hvm.symm (hgood _ List.mem_cons_self) hk
  have hini' : (Cond.initialized NSE).before args s' = true := vx_ot_at hW0 hvm.symm (hgood _ (List.mem_cons_of_mem _ List.mem_cons_self)) hini
  have hU' : vx_Zq Bundle.tN "UNASSIGNED_STACK" Bundle.steD A s' s'.heap := by rw [hhp]; exact vx_Zq.moved hW0.alike (hU.kept hS.2.1)
  have hN' : vx_Zq Bundle.tN "SUPPRESSED_SENTINEL" Bundle.listD A s' s'.heap := by rw [hhp]; exact vx_Zq.moved hW0.alike (hN.kept hS.2.1)
  have h : ∀ w ∈ nx_all own ic, w.before args s' = true := vx_own hat' (vx_isRefq hU'.1) (vx_isRefq hN'.1) hU'.2.word hN'.2.word
  have hown' : s'.vm.findClass own = some m.cls := by rw [hvm]; exact hown
  have hins : (Cond.instantiable NSE 6).before args s' = true := h _ (List.mem_append_left _ (List.mem_cons_of_mem _ (List.mem_cons_self ..)))
  obtain ⟨vm₁, cX, kX, hfX, hkX, -, -, X₁, st1⟩ := Y.newCold hexec (own := own) (C := NSE) (index := ik) (n := 6) hown' hk' hins hini'
    (g := F0 m pc ls rest) rfl (by rw [hb]; exact d0) (Nat.le_refl _) (Nat.le_refl _)
  generalize hT1 : (T.setVm vm₁).pushCell { cls := cX, slots := kX.instanceTypes.map defaultValue, vm := .none } = T1 at X₁ st1
  have hcat : (Value.ref T.heap.size).category = 1 := rfl
  have hcellA : T1.heap[T.heap.size]? = some (freshCell cX kX) := by rw [← hT1]; exact State.heap_pushCell_size _ _
  have d3' : decode c.code (pc + 3) = .ok (.dup, 1) := by rw [hb]; exact d3
  have d4' : decode c.code (pc + 4) = .ok (.ldc_w is, 3) := by rw [hb]; exact d4
  have hstr' : vk_R own is text sa s' := vk_R.warm hW0 hstr
  obtain ⟨U, ce, hsteps, hrun, hend, hW, hsame, hce, hv9, hc9⟩ := nx_thrown X₁ hexec htr hown' h (vx_isRefq hU'.1) (vx_isRefq hN'.1) (sa := sa) hfX hkX hcellA (by rw [hhp, hT]; exact Nat.le_refl _) (rest := rest) hsize
    (by rw [hb]; exact d7) (by rw [hb]; exact d10) hout hRframes hRlocals hlocks
  obtain ⟨f1, f2⟩ := vx_frame hsame
  rw [hhp] at f1 f2
  have hWs : s.WarmedH U.vm := State.WarmedH.trans hW0 hW
  have hcl : s.vm.findClass NSE = some ce.cls := by rw [hc9, ← hvm]; exact hfX
  have hall : s.sameButNew ({ U with vm := s.vm } : State) locs mc ms := by
    subst hA
    obtain ⟨e1, e2⟩ := hsame
    rw [State.setFrames_setFrames] at e1
    have h2 : (T.setVm s.vm).sameButNew ({ U with vm := s.vm } : State) [] (0 + 1) (0 + 6) := ⟨e1, e2⟩
    have h3 := X.same.trans h2
    rw [List.append_nil] at h3
    exact h3.mono hc hs
  refine ⟨U, ?_, .threw T.heap.size, hrun, hend, Or.inr ⟨T.heap.size, rfl, NSE, ce, locs, hx U hWs.alike f1 (fun q hq => f2 q hq (fun z hz => nomatch hz)), hce, hv9, hcl, hWs, hall, hf⟩⟩
  refine st1 _ ?_
  show Steps p.tables e below (T1.setTop { method := m, pc := pc + 3, locals := ls, stack := .ref T.heap.size :: rest, locked := none }) _
  jvm_step X₁.here [X₁.here.top, hexec, d3', Value.category]
  exact X₁.ldcStringW hexec (own := own) (text := text) (index := is) (a := sa) hown' hstr'.1 hstr'.2
    (g := { method := m, pc := pc + 4, locals := ls, stack := .ref T.heap.size :: .ref T.heap.size :: rest, locked := none }) rfl d4' _ hsteps
end NSE2
section NSE3
variable {p : Program} {l : Launch} {e : Env} {Rm : Room} {s : State} {m : MethodId} {args : Array Value} {below : List Frame} {meth : Method} {c : Code} {H : Heap} {locs : List Loc} {cells slots : Nat} {Q : State → Prop}
variable {cc : ByteArray} {mc ms MC MS : Nat} {own : String} {rest : List Value} {pc : Nat} {ls : Array Slot}
variable {D : va_G} {ca : Nat → ClassId} {sl : List (String × Nat × String)} {w' : va_W}
theorem endn_throw {α : Type} {w0 : va_W} {A : Nat → Prop} {Qc : Array Value → State → Outcome → State → Prop} {text : String} {ik is ic : Nat} (k : Nat) (hk9 : XN k = NSE) (hAe : va_A w0 s.heap.size = A) (hQm : vx_MQ below Qc (QXE (.error k : Except Nat α) D w' w0 s.heap.size) args s MC MS A = Q)
    (hst : l.stackTraces = false) (hx : p.tables.exec = Jvm.exec) (hb : c.code = cc) (hts : ∀ w ∈ WW, w.before args s = true) (hE : EE D ca sl s) (hown : s.vm.findClass own = some m.cls) (htab : ∀ x ∈ c.exceptionTable.toList, False) (hlocks : meth.locks = false) (_ : Bundle.fit NSE = true)
    (hlk : Cond.classLink own ik NSE ∈ WW) (hini : Cond.initialized NSE ∈ WW) (hsl : (own, is, text) ∈ sl) (hat : (nx_at own ic).all (fun w => decide (w ∈ lw_tbl) && (goodWord w || (nwW w && w.onTables))) = true) (hZ : ZZ A s s.heap) (hsize : ls.size = c.maxLocals)
    (hP : va_P D vwCl w' H) (hD : va_D A w') (hS : va_S A s.heap H locs)
    (d0 : decode cc pc = .ok (.new ik, 3)) (d3 : decode cc (pc + 3) = .ok (.dup, 1)) (d4 : decode cc (pc + 4) = .ok (.ldc is, 2)) (d6 : decode cc (pc + 6) = .ok (.invokespecial ic, 3)) (d9 : decode cc (pc + 9) = .ok (.athrow, 1))
    (hRf : 5 < Rm.frames) (hRl : (rest.map fun v => v.category).sum + 82 ≤ Rm.locals) (hRc : cells + 1 ≤ Rm.cells) (hRs : slots + 6 ≤ Rm.slots) (hc : cells + 1 ≤ MC) (hs : slots + 6 ≤ MS) :
    W p l e Rm s m args below meth c H locs cells slots Q (F0 m pc ls rest) := by
  subst hQm
  subst hAe
  obtain ⟨sa, hsa⟩ := hE.2.2 _ hsl
  exact nx_throwS hx hb hst hown (hts _ hlk) (hts _ hini) hsa (at_all hat hts hE.2.1)
    (List.forall_mem_cons.mpr ⟨by unfold vx_ot; rfl, List.forall_mem_cons.mpr ⟨by unfold vx_ot; rfl, at_ot hat⟩⟩) hZ.1 hZ.2.1 hS hsize d0 d3 d4 d6 d9 (fun x hx => (htab x hx).elim) hRf hRl hRc hRs hlocks
    (fun t hal hz hk => ⟨k, rfl, ⟨hk9.symm, (x_after (A := va_A w0 s.heap.size) hP hD hS hz hk).1⟩, (x_after (A := va_A w0 s.heap.size) hP hD hS hz hk).2⟩) hS.2.2 hc hs
theorem endn_throwW {α : Type} {w0 : va_W} {A : Nat → Prop} {Qc : Array Value → State → Outcome → State → Prop} {text : String} {ik is ic : Nat} (k : Nat) (hk9 : XN k = NSE) (hAe : va_A w0 s.heap.size = A) (hQm : vx_MQ below Qc (QXE (.error k : Except Nat α) D w' w0 s.heap.size) args s MC MS A = Q)
    (hst : l.stackTraces = false) (hx : p.tables.exec = Jvm.exec) (hb : c.code = cc) (hts : ∀ w ∈ WW, w.before args s = true) (hE : EE D ca sl s) (hown : s.vm.findClass own = some m.cls) (htab : ∀ x ∈ c.exceptionTable.toList, False) (hlocks : meth.locks = false) (_ : Bundle.fit NSE = true)
    (hlk : Cond.classLink own ik NSE ∈ WW) (hini : Cond.initialized NSE ∈ WW) (hsl : (own, is, text) ∈ sl) (hat : (nx_at own ic).all (fun w => decide (w ∈ lw_tbl) && (goodWord w || (nwW w && w.onTables))) = true) (hZ : ZZ A s s.heap) (hsize : ls.size = c.maxLocals)
    (hP : va_P D vwCl w' H) (hD : va_D A w') (hS : va_S A s.heap H locs)
    (d0 : decode cc pc = .ok (.new ik, 3)) (d3 : decode cc (pc + 3) = .ok (.dup, 1)) (d4 : decode cc (pc + 4) = .ok (.ldc_w is, 3)) (d7 : decode cc (pc + 7) = .ok (.invokespecial ic, 3)) (d10 : decode cc (pc + 10) = .ok (.athrow, 1))
    (hRf : 5 < Rm.frames) (hRl : (rest.map fun v => v.category).sum + 82 ≤ Rm.locals) (hRc : cells + 1 ≤ Rm.cells) (hRs : slots + 6 ≤ Rm.slots) (hc : cells + 1 ≤ MC) (hs : slots + 6 ≤ MS) :
    W p l e Rm s m args below meth c H locs cells slots Q (F0 m pc ls rest) := by
  subst hQm
  subst hAe
  obtain ⟨sa, hsa⟩ := hE.2.2 _ hsl
  exact nx_throwSW hx hb hst hown (hts _ hlk) (hts _ hini) hsa (at_all hat hts hE.2.1)
    (List.forall_mem_cons.mpr ⟨by unfold vx_ot; rfl, List.forall_mem_cons.mpr ⟨by unfold vx_ot; rfl, at_ot hat⟩⟩) hZ.1 hZ.2.1 hS hsize d0 d3 d4 d7 d10 (fun x hx => (htab x hx).elim) hRf hRl hRc hRs hlocks
    (fun t hal hz hk => ⟨k, rfl, ⟨hk9.symm, (x_after (A := va_A w0 s.heap.size) hP hD hS hz hk).1⟩, (x_after (A := va_A w0 s.heap.size) hP hD hS hz hk).2⟩) hS.2.2 hc hs
end NSE3

/-! the texts of the exceptions, their words (printed by program) -/
def SL0 : List (String × Nat × String) := [(RX3, 71, "there are 4 owners"), (RX3, 84, "there have been 40 files"), (RX3, 107, "the file has 9 links"), (RX3, 141, "there is a hole"), (RX3, 173, "so many more blocks are not free"), (RX3, 182, "no blocks were promised"), (RX3, 187, "8 snapshots are kept"), (RX3, 192, "there have been 30 snapshots"), (RX3, 212, "there was a hole"), (RX3, 227, "no snapshot is kept"), (RX3, 235, "more blocks than the quota"), (RX3, 237, "the file does not exist"), (RX3, 242, "there have been 30 holds"), (RX3, 252, "the hold is not open"), (RX3, 263, "no hold is open"), (RX3, 265, "the day would be greater than 9999"), (RX3, 277, "no transaction is open"), (RX3, 281, "there is no such entry"), (RX3, 286, "all blocks are free"), (RX3, 289, "no file exists"), (RX3, 311, "there is no such character"), (RX3, 319, "the number is out of range"), (RX3, 322, "there is no such owner"), (RX3, 327, "there is no such file"), (RX3, 332, "there is no such place"), (RX3, 337, "there is no such block"), (RX3, 342, "there has been no such snapshot"), (RX3, 348, "the snapshot is not kept or lacks the file"), (RX3, 353, "there is no such hold"), (RX3, 355, "the file has no links"), (RX3, 357, "a transaction is open"), (RX3, 360, "no block is free for the owner"), (RX3, 362, "there is a hole or the file is gone"), (RX4, 66, ""), (RJx00060, 13, "Array index out of range: "), (RJx7c733, 13, "String index out of range: "), (RJ7, 48, "fromIndex("), (RJ7, 57, ") > toIndex("), (RJ7, 59, ")"), (RJ7, 337, " > ")]
theorem sl0 : ((RX3, 71, "there are 4 owners") : String × Nat × String) ∈ SL0 := List.mem_of_getElem? (i := 0) rfl
theorem sl1 : ((RX3, 84, "there have been 40 files") : String × Nat × String) ∈ SL0 := List.mem_of_getElem? (i := 1) rfl
theorem sl2 : ((RX3, 107, "the file has 9 links") : String × Nat × String) ∈ SL0 := List.mem_of_getElem? (i := 2) rfl
theorem sl3 : ((RX3, 141, "there is a hole") : String × Nat × String) ∈ SL0 := List.mem_of_getElem? (i := 3) rfl
theorem sl4 : ((RX3, 173, "so many more blocks are not free") : String × Nat × String) ∈ SL0 := List.mem_of_getElem? (i := 4) rfl
theorem sl5 : ((RX3, 182, "no blocks were promised") : String × Nat × String) ∈ SL0 := List.mem_of_getElem? (i := 5) rfl
theorem sl6 : ((RX3, 187, "8 snapshots are kept") : String × Nat × String) ∈ SL0 := List.mem_of_getElem? (i := 6) rfl
theorem sl7 : ((RX3, 192, "there have been 30 snapshots") : String × Nat × String) ∈ SL0 := List.mem_of_getElem? (i := 7) rfl
theorem sl8 : ((RX3, 212, "there was a hole") : String × Nat × String) ∈ SL0 := List.mem_of_getElem? (i := 8) rfl
theorem sl9 : ((RX3, 227, "no snapshot is kept") : String × Nat × String) ∈ SL0 := List.mem_of_getElem? (i := 9) rfl
theorem sl10 : ((RX3, 235, "more blocks than the quota") : String × Nat × String) ∈ SL0 := List.mem_of_getElem? (i := 10) rfl
theorem sl11 : ((RX3, 237, "the file does not exist") : String × Nat × String) ∈ SL0 := List.mem_of_getElem? (i := 11) rfl
theorem sl12 : ((RX3, 242, "there have been 30 holds") : String × Nat × String) ∈ SL0 := List.mem_of_getElem? (i := 12) rfl
theorem sl13 : ((RX3, 252, "the hold is not open") : String × Nat × String) ∈ SL0 := List.mem_of_getElem? (i := 13) rfl
theorem sl14 : ((RX3, 263, "no hold is open") : String × Nat × String) ∈ SL0 := List.mem_of_getElem? (i := 14) rfl
theorem sl15 : ((RX3, 265, "the day would be greater than 9999") : String × Nat × String) ∈ SL0 := List.mem_of_getElem? (i := 15) rfl
theorem sl16 : ((RX3, 277, "no transaction is open") : String × Nat × String) ∈ SL0 := List.mem_of_getElem? (i := 16) rfl
theorem sl17 : ((RX3, 281, "there is no such entry") : String × Nat × String) ∈ SL0 := List.mem_of_getElem? (i := 17) rfl
theorem sl18 : ((RX3, 286, "all blocks are free") : String × Nat × String) ∈ SL0 := List.mem_of_getElem? (i := 18) rfl
theorem sl19 : ((RX3, 289, "no file exists") : String × Nat × String) ∈ SL0 := List.mem_of_getElem? (i := 19) rfl
theorem sl20 : ((RX3, 311, "there is no such character") : String × Nat × String) ∈ SL0 := List.mem_of_getElem? (i := 20) rfl
theorem sl21 : ((RX3, 319, "the number is out of range") : String × Nat × String) ∈ SL0 := List.mem_of_getElem? (i := 21) rfl
theorem sl22 : ((RX3, 322, "there is no such owner") : String × Nat × String) ∈ SL0 := List.mem_of_getElem? (i := 22) rfl
theorem sl23 : ((RX3, 327, "there is no such file") : String × Nat × String) ∈ SL0 := List.mem_of_getElem? (i := 23) rfl
theorem sl24 : ((RX3, 332, "there is no such place") : String × Nat × String) ∈ SL0 := List.mem_of_getElem? (i := 24) rfl
theorem sl25 : ((RX3, 337, "there is no such block") : String × Nat × String) ∈ SL0 := List.mem_of_getElem? (i := 25) rfl
theorem sl26 : ((RX3, 342, "there has been no such snapshot") : String × Nat × String) ∈ SL0 := List.mem_of_getElem? (i := 26) rfl
theorem sl27 : ((RX3, 348, "the snapshot is not kept or lacks the file") : String × Nat × String) ∈ SL0 := List.mem_of_getElem? (i := 27) rfl
theorem sl28 : ((RX3, 353, "there is no such hold") : String × Nat × String) ∈ SL0 := List.mem_of_getElem? (i := 28) rfl
theorem sl29 : ((RX3, 355, "the file has no links") : String × Nat × String) ∈ SL0 := List.mem_of_getElem? (i := 29) rfl
theorem sl30 : ((RX3, 357, "a transaction is open") : String × Nat × String) ∈ SL0 := List.mem_of_getElem? (i := 30) rfl
theorem sl31 : ((RX3, 360, "no block is free for the owner") : String × Nat × String) ∈ SL0 := List.mem_of_getElem? (i := 31) rfl
theorem sl32 : ((RX3, 362, "there is a hole or the file is gone") : String × Nat × String) ∈ SL0 := List.mem_of_getElem? (i := 32) rfl
theorem sl33 : ((RX4, 66, "") : String × Nat × String) ∈ SL0 := List.mem_of_getElem? (i := 33) rfl
theorem sl34 : ((RJx00060, 13, "Array index out of range: ") : String × Nat × String) ∈ SL0 := List.mem_of_getElem? (i := 34) rfl
theorem sl35 : ((RJx7c733, 13, "String index out of range: ") : String × Nat × String) ∈ SL0 := List.mem_of_getElem? (i := 35) rfl
theorem sl36 : ((RJ7, 48, "fromIndex(") : String × Nat × String) ∈ SL0 := List.mem_of_getElem? (i := 36) rfl
theorem sl37 : ((RJ7, 57, ") > toIndex(") : String × Nat × String) ∈ SL0 := List.mem_of_getElem? (i := 37) rfl
theorem sl38 : ((RJ7, 59, ")") : String × Nat × String) ∈ SL0 := List.mem_of_getElem? (i := 38) rfl
theorem sl39 : ((RJ7, 337, " > ") : String × Nat × String) ∈ SL0 := List.mem_of_getElem? (i := 39) rfl
theorem at73 : (vx_atS RX3 73 "java/lang/IllegalStateException" XL).all (fun w => decide (w ∈ lw_tbl) && (goodWord w || (nwW w && w.onTables))) = true := by decide +kernel
theorem at175 : (vx_atS RX3 175 "java/lang/UnsupportedOperationException" XL).all (fun w => decide (w ∈ lw_tbl) && (goodWord w || (nwW w && w.onTables))) = true := by decide +kernel
theorem at214 : (nx_at RX3 214).all (fun w => decide (w ∈ lw_tbl) && (goodWord w || (nwW w && w.onTables))) = true := by decide +kernel
theorem at283 : (vx_atS RX3 283 "java/lang/IndexOutOfBoundsException" XL).all (fun w => decide (w ∈ lw_tbl) && (goodWord w || (nwW w && w.onTables))) = true := by decide +kernel
theorem at288 : (vx_atS RX3 288 "java/lang/ArithmeticException" XL).all (fun w => decide (w ∈ lw_tbl) && (goodWord w || (nwW w && w.onTables))) = true := by decide +kernel
theorem at321 : (vx_atS RX3 321 "java/lang/IllegalArgumentException" XL).all (fun w => decide (w ∈ lw_tbl) && (goodWord w || (nwW w && w.onTables))) = true := by decide +kernel
