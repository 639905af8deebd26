abbrev WO (ca : Nat → ClassId) (qa : Nat) (sa : Nat) (oQ : Nat → Int32) (oS : Nat → Int32) : va_W :=
  [(qa, .inl (ca 0, 4, .inl oQ)),
   (sa, .inl (ca 0, 520, .inl oS))]
def NCL : List (String × String) := [("java/lang/IllegalArgumentException", "java/lang/IndexOutOfBoundsException"), ("java/lang/IllegalStateException", "java/lang/IllegalArgumentException"), ("java/lang/IllegalStateException", "java/lang/IndexOutOfBoundsException"), ("java/lang/UnsupportedOperationException", "java/lang/IllegalArgumentException"), ("java/lang/UnsupportedOperationException", "java/lang/IllegalStateException"), ("java/lang/UnsupportedOperationException", "java/lang/IndexOutOfBoundsException"), ("java/util/NoSuchElementException", "java/lang/IllegalArgumentException"), ("java/util/NoSuchElementException", "java/lang/IllegalStateException"), ("java/util/NoSuchElementException", "java/lang/IndexOutOfBoundsException"), ("java/util/NoSuchElementException", "java/lang/UnsupportedOperationException")]
theorem nc_1_3 : (("java/lang/IllegalArgumentException", "java/lang/IndexOutOfBoundsException") : String × String) ∈ NCL := List.mem_of_getElem? (i := 0) rfl
theorem nc_2_1 : (("java/lang/IllegalStateException", "java/lang/IllegalArgumentException") : String × String) ∈ NCL := List.mem_of_getElem? (i := 1) rfl
theorem nc_2_3 : (("java/lang/IllegalStateException", "java/lang/IndexOutOfBoundsException") : String × String) ∈ NCL := List.mem_of_getElem? (i := 2) rfl
theorem nc_4_1 : (("java/lang/UnsupportedOperationException", "java/lang/IllegalArgumentException") : String × String) ∈ NCL := List.mem_of_getElem? (i := 3) rfl
theorem nc_4_2 : (("java/lang/UnsupportedOperationException", "java/lang/IllegalStateException") : String × String) ∈ NCL := List.mem_of_getElem? (i := 4) rfl
theorem nc_4_3 : (("java/lang/UnsupportedOperationException", "java/lang/IndexOutOfBoundsException") : String × String) ∈ NCL := List.mem_of_getElem? (i := 5) rfl
theorem nc_5_1 : (("java/util/NoSuchElementException", "java/lang/IllegalArgumentException") : String × String) ∈ NCL := List.mem_of_getElem? (i := 6) rfl
theorem nc_5_2 : (("java/util/NoSuchElementException", "java/lang/IllegalStateException") : String × String) ∈ NCL := List.mem_of_getElem? (i := 7) rfl
theorem nc_5_3 : (("java/util/NoSuchElementException", "java/lang/IndexOutOfBoundsException") : String × String) ∈ NCL := List.mem_of_getElem? (i := 8) rfl
theorem nc_5_4 : (("java/util/NoSuchElementException", "java/lang/UnsupportedOperationException") : String × String) ∈ NCL := List.mem_of_getElem? (i := 9) rfl
/-! THE LAW'S FRAME: wrappers that catch, worlds in another order -/
theorem va_P_mem {D : va_G} {cl : List vw_C} {ws : va_W} {H : Heap} : va_P D cl ws H ↔ ∀ q ∈ ws, va_at D cl q H :=
  ⟨fun h q hq => by obtain ⟨k, hk⟩ := List.getElem?_of_mem hq; exact h k q hk, fun h k q hk => h q (List.mem_of_getElem? hk)⟩
theorem va_D_iff {A : Nat → Prop} {ws : va_W} : va_D A ws ↔ (ws.map Prod.fst).Nodup ∧ ∀ q ∈ ws, A q.1 := by
  constructor
  · intro h
    refine ⟨?_, fun q hq => by obtain ⟨k, hk⟩ := List.getElem?_of_mem hq; exact h.2 k q hk⟩
    refine List.pairwise_iff_getElem.mpr fun i j hi hj hij he => ?_
    rw [List.length_map] at hi hj
    rw [List.getElem_map, List.getElem_map] at he
    have := h.1 i j _ _ (List.getElem?_eq_getElem hi) (List.getElem?_eq_getElem hj) he
    omega
  · intro h
    refine ⟨fun i j p q hi hj e => ?_, fun k q hk => h.2 q (List.mem_of_getElem? hk)⟩
    have hn := List.pairwise_iff_getElem.mp h.1
    obtain ⟨li, ei⟩ := List.getElem?_eq_some_iff.mp hi
    obtain ⟨lj, ej⟩ := List.getElem?_eq_some_iff.mp hj
    rcases Nat.lt_trichotomy i j with h1 | h1 | h1
    · exact absurd (by rw [List.getElem_map, List.getElem_map, ei, ej]; exact e) (hn i j (by rw [List.length_map]; exact li) (by rw [List.length_map]; exact lj) h1)
    · exact h1
    · exact absurd (by rw [List.getElem_map, List.getElem_map, ei, ej]; exact e.symm) (hn j i (by rw [List.length_map]; exact lj) (by rw [List.length_map]; exact li) h1)
theorem va_P.perm {D : va_G} {cl : List vw_C} {w1 w2 : va_W} {H : Heap} (h : w1.Perm w2) (hP : va_P D cl w1 H) : va_P D cl w2 H := va_P_mem.mpr fun q hq => va_P_mem.mp hP q (h.mem_iff.mpr hq)
theorem va_D.perm {A : Nat → Prop} {w1 w2 : va_W} (h : w1.Perm w2) (hD : va_D A w1) : va_D A w2 := by
  rw [va_D_iff] at hD ⊢
  exact ⟨(h.map Prod.fst).nodup_iff.mp hD.1, fun q hq => hD.2 q (h.mem_iff.mpr hq)⟩
theorem perm_rot {α : Type} (a b c r : List α) : (a ++ (b ++ (c ++ r))).Perm (c ++ (a ++ (b ++ r))) := by
  have h1 : (a ++ (b ++ (c ++ r))) = (a ++ b) ++ (c ++ r) := by simp [List.append_assoc]
  have h2 : (c ++ (a ++ (b ++ r))) = c ++ ((a ++ b) ++ r) := by simp [List.append_assoc]
  rw [h1, h2, ← List.append_assoc, ← List.append_assoc]
  exact List.Perm.append_right r List.perm_append_comm
/-- a method's words that has a table of handlers -/
def wmW (y : MethodName) (cc : ByteArray) (n : Nat) (r : Option FieldType) (hh : List (Nat × Nat × Nat × Nat)) : List Cond := .codeWith y cc n r hh :: WW
theorem wmW_ww {args : Array Value} {s : State} {y : MethodName} {cc : ByteArray} {n : Nat} {r : Option FieldType} {hh : List (Nat × Nat × Nat × Nat)} (h : ∀ w ∈ wmW y cc n r hh, w.before args s = true) : ∀ w ∈ WW, w.before args s = true := fun w hw => h w (List.mem_cons_of_mem _ hw)
theorem gSW {own : String} {idx : Nat} {y : MethodName} {cc : ByteArray} {n : Nat} {r : Option FieldType} {hh : List (Nat × Nat × Nat × Nat)} (h1 : Cond.methodLink own idx y ∈ WW) (h2 : Cond.static y ∈ WW) (h4 : Cond.initialized y.cls ∈ WW) (h5 : Cond.codeWith y cc n r hh ∈ WW) : GoodIn WW (va_wsS own idx y (wmW y cc n r hh)) :=
  goodIn_app (gW fun w hw => by
    rcases List.mem_cons.mp hw with rfl | hw
    · exact h1
    rcases List.mem_cons.mp hw with rfl | hw
    · exact h2
    rcases List.mem_cons.mp hw with rfl | hw
    · exact h4
    cases hw) (gW fun w hw => by
    rcases List.mem_cons.mp hw with rfl | hw
    · exact h5
    · exact hw)
/-- which exceptions are no others -/
def NCE (U : State) : Prop := ∀ q ∈ NCL, va_Nc q.1 q.2 U
def PREL (av : List Value) (D : va_G) (ca : Nat → ClassId) (sl : List (String × Nat × String)) (w : va_W) (sz : Nat) : Array Value → State → Prop :=
  va_Pc av (fun U => U.heap.size = sz ∧ va_P D vwCl w U.heap ∧ EE D ca sl U ∧ va_D (fun _ => True) w ∧ ZZ (va_A w sz) U U.heap ∧ NCE U)
theorem PREL_blind {av : List Value} {D : va_G} {ca : Nat → ClassId} {sl : List (String × Nat × String)} {w : va_W} {sz : Nat} : FrameBlind (PREL av D ca sl w sz) := fun a U g mk q => by
  obtain ⟨q0, q1, qP, qE, qD, qZ, qN⟩ := q
  exact ⟨q0, q1, qP, EE.same (u := U) rfl qE, qD, ZZ.same qZ, fun q hq => va_Nc.moved (u := U) (U := U.calling g mk a) (Vm.Alike.refl U.vm) (qN q hq)⟩
section LCALLS
variable {p : Program} {l : Launch} {e : Env} {Rm : Room} {s : State} {m : MethodId} {args : Array Value} {below : List Frame} {meth : Method} {c : Code} {H : Heap} {locs : List Loc} {cells slots : Nat} {Q : State → Prop}
variable {y : MethodName} {bytes cc : ByteArray} {maxL nL mc ms MC MS n index : Nat} {ret : Option FieldType} {rm : Room} {own C : String} {b : Nat} {As rest st : List Value} {pc : Nat} {ls : Array Slot}
variable {D : va_G} {ca : Nat → ClassId} {sl : List (String × Nat × String)} {w w' : va_W} {A0 : Nat → Prop} {k : Nat}
theorem prel_ok {av : List Value} (hE : EE D ca sl s) (hP : va_P D vwCl w H) (hD : va_D A0 w) (hS : va_S A0 s.heap H locs) (hA : ∀ q, s.heap.size ≤ q → A0 q) (hZ : ZZ A0 s s.heap) (hN : NCE s) : ∀ U : State, U.heap = H → s.WarmedH U.vm → PREL av D ca sl w H.size av.toArray U := fun U hU hW =>
  ⟨rfl, by rw [hU], by rw [hU]; exact hP, hE.warm hW, hD.weaken (fun _ _ _ _ => trivial), hZ.go hS hW.alike hU (vaA_sub hD hS hA), fun q hq => va_Nc.moved hW.alike (hN q hq)⟩
theorem endw_i {v : Int32} {ty : FieldType} {w0 : va_W} {A : Nat → Prop} (hAe : va_A w0 s.heap.size = A) (hQm : vx_MQ below (QI v D w' w0 s.heap.size) (fun _ _ _ => False) args s MC MS A = Q) (hx : p.tables.exec = Jvm.exec) (hb : c.code = cc) (hr : meth.sig.returnType = some ty) (hlocks : meth.locks = false) (hn : narrow ty (.int v) = .int v) (hP : va_P D vwCl w' H) (hD : va_D A w') (hS : va_S A s.heap H locs) (hdg : decode cc pc = .ok (.ireturn, 1)) (hc : cells ≤ MC) (hs : slots ≤ MS) :
    W p l e Rm s m args below meth c H locs cells slots Q (F0 m pc ls [.int v]) := by
  subst hQm
  subst hAe
  exact W.widen hc hs (vx_ret (W.zret (v := v) hx hb hr hn (fun t ht hW => ⟨⟨v, (), rfl, rfl, by rw [ht]; exact hP, hD⟩, hS.F ht⟩) hS.2.2 hdg hlocks))
/-- a call of a wrapper: it never throws -/
theorem cl_wi {r : Int32} {hh : List (Nat × Nat × Nat × Nat)} (hM : vx_Met l y (wmW y bytes maxL ret hh) rm (PREL As D ca sl w H.size) (QI r D w' w H.size) (fun _ _ _ => False) mc ms (va_A w H.size)) (S : CallFix p m c cc nL s args WW own) (cw : vx_CSW Rm s args own index y bytes maxL ret hh (wmW y bytes maxL ret hh) rm mc ms n)
    (hE : EE D ca sl s) (hP : va_P D vwCl w H) (hD : va_D A0 w) (hS : va_S A0 s.heap H locs) (hA : ∀ q, s.heap.size ≤ q → A0 q) (hZ : ZZ A0 s s.heap) (hN : NCE s)
    (hn : As.length = n) (hsize : ls.size = nL) (hst : st = As.reverse ++ rest) (hW : 2 * (F0 m pc ls st).monitorRoom + (rest.map fun v => v.category).sum ≤ 8) (hdg : decode cc pc = .ok (.invokestatic index, 3)) (hf : cells + mc ≤ Rm.cells ∧ slots + ms ≤ Rm.slots)
    (kk : ∀ (H1 : Heap) (locs1 : List Loc), va_P D vwCl w' H1 → va_D A0 w' → va_S A0 s.heap H1 locs1 → W p l e Rm s m args below meth c H1 locs1 (cells + mc) (slots + ms) Q (F0 m (pc + 3) ls (.int r :: rest))) : W p l e Rm s m args below meth c H locs cells slots Q (F0 m pc ls st) := by
  have hM2 : vx_Met l y (wmW y bytes maxL ret hh) rm (PREL As D ca sl w H.size) (QI r D w' w H.size) (vx_X (fun _ : Unit => False) (fun _ _ _ => False) (va_A w H.size)) mc ms (va_A w H.size) := by
    have e : (fun _ _ _ => False : String → State → State → Prop) = vx_X (fun _ : Unit => False) (fun _ _ _ => False) (va_A w H.size) := by
      funext a b d
      exact propext ⟨fun h => h.elim, fun ⟨_, h, _⟩ => h⟩
    rw [← e]
    exact hM
  exact vx_calli (vx_runSX S hM2 cw ⟨PREL_blind, prel_ok hE hP hD hS hA hZ hN⟩ rfl hn hsize hst hW hdg hf) hS (fun q _ h => vaA_sub hD hS hA q h) (vaA_sub hD hS hA) (fun q _ h => vaA_sub hD hS hA q h)
    (fun E ce q9 u t H1 locs1 ht hvm hw hB hz1 hk1 hS1 hce hv hcl => hw.elim)
    (fun r' u t H1 locs1 ht hvm hw hB hz1 hk1 hS1 => by
      obtain ⟨hP1, hD1⟩ := bw_ok hD hS hA ht hB
      rw [show r' = r from hw]
      exact kk H1 locs1 hP1 hD1 hS1)
theorem cw_vi_ok {r : Int32} (hM : vx_Met l y (wm y bytes maxL ret) rm (PREX (.ref b :: As) D ca sl w H.size) (QXI (.ok r) D w' w H.size) (QXE (.ok r : Except Nat Int32) D w' w H.size) mc ms (va_A w H.size)) (S : CallFix p m c cc nL s args WW own) (cw : CallW Rm s args own C index y bytes maxL ret (wm y bytes maxL ret) rm mc ms n)
    (hrecv : ∃ cellB : Cell, H[b]? = some cellB ∧ cellB.vm.isStatics = false ∧ s.vm.findClass C = some cellB.cls) (hE : EE D ca sl s) (hP : va_P D vwCl w H) (hD : va_D A0 w) (hS : va_S A0 s.heap H locs) (hA : ∀ q, s.heap.size ≤ q → A0 q) (hZ : ZZ A0 s s.heap)
    (hn : As.length = n) (hsize : ls.size = nL) (hst : st = As.reverse ++ .ref b :: rest) (hW : 2 * (F0 m pc ls st).monitorRoom + (rest.map fun v => v.category).sum ≤ 8) (hdg : decode cc pc = .ok (.invokevirtual index, 3)) (hf : cells + mc ≤ Rm.cells ∧ slots + ms ≤ Rm.slots)
    (kk : ∀ (H1 : Heap) (locs1 : List Loc), va_P D vwCl w' H1 → va_D A0 w' → va_S A0 s.heap H1 locs1 → W p l e Rm s m args below meth c H1 locs1 (cells + mc) (slots + ms) Q (F0 m (pc + 3) ls (.int r :: rest))) : W p l e Rm s m args below meth c H locs cells slots Q (F0 m pc ls st) :=
  vx_calli (vx_runV S hM cw ⟨PREX_blind, hrecv, prex_ok hE hP hD hS hA hZ⟩ rfl hn hsize hst hW hdg hf) hS (fun q _ h => vaA_sub hD hS hA q h) (vaA_sub hD hS hA) (fun q _ h => vaA_sub hD hS hA q h)
    (fun E ce q9 u t H1 locs1 ht hvm hw hB hz1 hk1 hS1 hce hv hcl => nomatch hw)
    (fun r' u t H1 locs1 ht hvm hw hB hz1 hk1 hS1 => by
      obtain ⟨hP1, hD1⟩ := bw_ok hD hS hA ht hB
      cases hw
      exact kk H1 locs1 hP1 hD1 hS1)
theorem cw_vi_err (hM : vx_Met l y (wm y bytes maxL ret) rm (PREX (.ref b :: As) D ca sl w H.size) (QXI (.error k) D w' w H.size) (QXE (.error k : Except Nat Int32) D w' w H.size) mc ms (va_A w H.size)) (S : CallFix p m c cc nL s args WW own) (cw : CallW Rm s args own C index y bytes maxL ret (wm y bytes maxL ret) rm mc ms n)
    (hrecv : ∃ cellB : Cell, H[b]? = some cellB ∧ cellB.vm.isStatics = false ∧ s.vm.findClass C = some cellB.cls) (hE : EE D ca sl s) (hP : va_P D vwCl w H) (hD : va_D A0 w) (hS : va_S A0 s.heap H locs) (hA : ∀ q, s.heap.size ≤ q → A0 q) (hZ : ZZ A0 s s.heap)
    (hn : As.length = n) (hsize : ls.size = nL) (hst : st = As.reverse ++ .ref b :: rest) (hW : 2 * (F0 m pc ls st).monitorRoom + (rest.map fun v => v.category).sum ≤ 8) (hdg : decode cc pc = .ok (.invokevirtual index, 3)) (hf : cells + mc ≤ Rm.cells ∧ slots + ms ≤ Rm.slots)
    (kx : ∀ (H1 : Heap) (locs1 : List Loc) (q9 : Nat) (ce : Cell), va_P D vwCl w' H1 → va_D A0 w' → va_S A0 s.heap H1 locs1 → H1[q9]? = some ce → ce.vm = .none → s.vm.findClass (XN k) = some ce.cls → vx_W p l e Rm s m args below meth c H1 locs1 (cells + mc) (slots + ms) Q (F0 m pc ls rest) q9) : W p l e Rm s m args below meth c H locs cells slots Q (F0 m pc ls st) :=
  vx_calli (vx_runV S hM cw ⟨PREX_blind, hrecv, prex_ok hE hP hD hS hA hZ⟩ rfl hn hsize hst hW hdg hf) hS (fun q _ h => vaA_sub hD hS hA q h) (vaA_sub hD hS hA) (fun q _ h => vaA_sub hD hS hA q h)
    (fun E ce q9 u t H1 locs1 ht hvm hw hB hz1 hk1 hS1 hce hv hcl => by
      obtain ⟨hP1, hD1⟩ := bw_ok hD hS hA ht hB.2
      cases hw
      exact kx H1 locs1 q9 ce hP1 hD1 hS1 hce hv (by rw [← hB.1]; exact hcl))
    (fun r' u t H1 locs1 ht hvm hw hB hz1 hk1 hS1 => nomatch hw)
theorem endm_i {v : Int32} {ty : FieldType} {w0 : va_W} {A : Nat → Prop} (hAe : va_A w0 s.heap.size = A) (hQm : MQ below (QI v D w' w0 s.heap.size) args s MC MS A = Q) (hx : p.tables.exec = Jvm.exec) (hb : c.code = cc) (hr : meth.sig.returnType = some ty) (hlocks : meth.locks = false) (hn : narrow ty (.int v) = .int v) (hP : va_P D vwCl w' H) (hD : va_D A w') (hS : va_S A s.heap H locs) (hdg : decode cc pc = .ok (.ireturn, 1)) (hc : cells ≤ MC) (hs : slots ≤ MS) :
    W p l e Rm s m args below meth c H locs cells slots Q (F0 m pc ls [.int v]) := by
  subst hQm
  subst hAe
  exact W.widen hc hs (W.zret (v := v) hx hb hr hn (fun t ht hW => ⟨⟨v, (),  rfl, rfl, by rw [ht]; exact hP, hD⟩, hS.F ht⟩) hS.2.2 hdg hlocks)
theorem endm_l {v : Int64} {w0 : va_W} {A : Nat → Prop} (hAe : va_A w0 s.heap.size = A) (hQm : MQ below (QL v D w' w0 s.heap.size) args s MC MS A = Q) (hx : p.tables.exec = Jvm.exec) (hb : c.code = cc) (hr : meth.sig.returnType = some .long) (hlocks : meth.locks = false) (hP : va_P D vwCl w' H) (hD : va_D A w') (hS : va_S A s.heap H locs) (hdg : decode cc pc = .ok (.lreturn, 1)) (hc : cells ≤ MC) (hs : slots ≤ MS) :
    W p l e Rm s m args below meth c H locs cells slots Q (F0 m pc ls [.long v]) := by
  subst hQm
  subst hAe
  exact W.widen hc hs (W.lret (v := v) hx hb hr (fun t ht hW => ⟨⟨v, (),  rfl, rfl, by rw [ht]; exact hP, hD⟩, hS.F ht⟩) hS.2.2 hdg hlocks)
theorem cs_i {r : Int32} (hM : Met l y (wm y bytes maxL ret) rm (PREL As D ca sl w H.size) (QI r D w' w H.size) mc ms (va_A w H.size)) (S : CallFix p m c cc nL s args WW own) (cw : CallB Rm s args own index y bytes maxL ret (wm y bytes maxL ret) rm mc ms n ∧ (Cond.static y).before args s = true)
    (hE : EE D ca sl s) (hP : va_P D vwCl w H) (hD : va_D A0 w) (hS : va_S A0 s.heap H locs) (hA : ∀ q, s.heap.size ≤ q → A0 q) (hZ : ZZ A0 s s.heap) (hN : NCE s)
    (hn : As.length = n) (hsize : ls.size = nL) (hst : st = As.reverse ++ rest) (hW : 2 * (F0 m pc ls st).monitorRoom + (rest.map fun v => v.category).sum ≤ 8) (hdg : decode cc pc = .ok (.invokestatic index, 3)) (hf : cells + mc ≤ Rm.cells ∧ slots + ms ≤ Rm.slots)
    (kk : ∀ (H1 : Heap) (locs1 : List Loc), va_P D vwCl w' H1 → va_D A0 w' → va_S A0 s.heap H1 locs1 → W p l e Rm s m args below meth c H1 locs1 (cells + mc) (slots + ms) Q (F0 m (pc + 3) ls (.int r :: rest))) : W p l e Rm s m args below meth c H locs cells slots Q (F0 m pc ls st) :=
  va_calli (va_runS S hM cw ⟨PREL_blind, prel_ok hE hP hD hS hA hZ hN⟩ rfl hn hsize hst hW hdg hf) hS (fun q _ h => vaA_sub hD hS hA q h) (vaA_sub hD hS hA) (fun r' u t H1 locs1 ht hvm hw hB hz1 hk1 hS1 => by
    obtain ⟨hP1, hD1⟩ := bw_ok hD hS hA ht hB
    rw [show r' = r from hw]
    exact kk H1 locs1 hP1 hD1 hS1)
theorem cs_l {r : Int64} (hM : Met l y (wm y bytes maxL ret) rm (PREL As D ca sl w H.size) (QL r D w' w H.size) mc ms (va_A w H.size)) (S : CallFix p m c cc nL s args WW own) (cw : CallB Rm s args own index y bytes maxL ret (wm y bytes maxL ret) rm mc ms n ∧ (Cond.static y).before args s = true)
    (hE : EE D ca sl s) (hP : va_P D vwCl w H) (hD : va_D A0 w) (hS : va_S A0 s.heap H locs) (hA : ∀ q, s.heap.size ≤ q → A0 q) (hZ : ZZ A0 s s.heap) (hN : NCE s)
    (hn : As.length = n) (hsize : ls.size = nL) (hst : st = As.reverse ++ rest) (hW : 2 * (F0 m pc ls st).monitorRoom + (rest.map fun v => v.category).sum ≤ 8) (hdg : decode cc pc = .ok (.invokestatic index, 3)) (hf : cells + mc ≤ Rm.cells ∧ slots + ms ≤ Rm.slots)
    (kk : ∀ (H1 : Heap) (locs1 : List Loc), va_P D vwCl w' H1 → va_D A0 w' → va_S A0 s.heap H1 locs1 → W p l e Rm s m args below meth c H1 locs1 (cells + mc) (slots + ms) Q (F0 m (pc + 3) ls (.long r :: rest))) : W p l e Rm s m args below meth c H locs cells slots Q (F0 m pc ls st) :=
  va_calll (va_runS S hM cw ⟨PREL_blind, prel_ok hE hP hD hS hA hZ hN⟩ rfl hn hsize hst hW hdg hf) hS (fun q _ h => vaA_sub hD hS hA q h) (vaA_sub hD hS hA) (fun r' u t H1 locs1 ht hvm hw hB hz1 hk1 hS1 => by
    obtain ⟨hP1, hD1⟩ := bw_ok hD hS hA ht hB
    rw [show r' = r from hw]
    exact kk H1 locs1 hP1 hD1 hS1)
def PREC (b0 L0 : Nat) (xs : Nat → Int32) (av : List Value) (D : va_G) (ca : Nat → ClassId) (sl : List (String × Nat × String)) (w : va_W) (sz : Nat) : Array Value → State → Prop :=
  va_Pc av (fun U => U.heap.size = sz ∧ va_P D vwCl w U.heap ∧ EE D ca sl U ∧ va_D (fun _ => True) w ∧ va_X b0 L0 xs U U.heap ∧ b0 < U.heap.size ∧ ¬ va_A w sz b0)
theorem PREC_blind {b0 L0 : Nat} {xs : Nat → Int32} {av : List Value} {D : va_G} {ca : Nat → ClassId} {sl : List (String × Nat × String)} {w : va_W} {sz : Nat} : FrameBlind (PREC b0 L0 xs av D ca sl w sz) := fun a U g mk q => by
  obtain ⟨q0, q1, qP, qE, qD, qX, qb, qA⟩ := q
  exact ⟨q0, q1, qP, EE.same (u := U) rfl qE, qD, va_X.moved (u := U) (Vm.Alike.refl U.vm) qX, qb, qA⟩
theorem prec_ok {b0 L0 : Nat} {xs : Nat → Int32} {av : List Value} (hE : EE D ca sl s) (hP : va_P D vwCl w H) (hD : va_D A0 w) (hS : va_S A0 s.heap H locs) (hA : ∀ q, s.heap.size ≤ q → A0 q) (hX : va_X b0 L0 xs s s.heap) (hbl : b0 < s.heap.size) (hbA : ¬ A0 b0) : ∀ U : State, U.heap = H → s.WarmedH U.vm → PREC b0 L0 xs av D ca sl w H.size av.toArray U := fun U hU hW =>
  ⟨rfl, by rw [hU], by rw [hU]; exact hP, hE.warm hW, hD.weaken (fun _ _ _ _ => trivial), by rw [hU]; exact (va_X.moved hW.alike hX).kept (hS.2.1 b0 hbl hbA), by rw [hU]; exact Nat.lt_of_lt_of_le hbl hS.1, fun q => hbA (vaA_sub hD hS hA _ q)⟩
theorem cs_cell {b0 L0 : Nat} {xs : Nat → Int32} {r : Int32} (hM : Met l y (wm y bytes maxL ret) rm (PREC b0 L0 xs As D ca sl w H.size) (QI r D w' w H.size) mc ms (va_A w H.size)) (S : CallFix p m c cc nL s args WW own) (cw : CallB Rm s args own index y bytes maxL ret (wm y bytes maxL ret) rm mc ms n ∧ (Cond.static y).before args s = true)
    (hE : EE D ca sl s) (hP : va_P D vwCl w H) (hD : va_D A0 w) (hS : va_S A0 s.heap H locs) (hA : ∀ q, s.heap.size ≤ q → A0 q) (hX : va_X b0 L0 xs s s.heap) (hbl : b0 < s.heap.size) (hbA : ¬ A0 b0)
    (hn : As.length = n) (hsize : ls.size = nL) (hst : st = As.reverse ++ rest) (hW : 2 * (F0 m pc ls st).monitorRoom + (rest.map fun v => v.category).sum ≤ 8) (hdg : decode cc pc = .ok (.invokestatic index, 3)) (hf : cells + mc ≤ Rm.cells ∧ slots + ms ≤ Rm.slots)
    (kk : ∀ (H1 : Heap) (locs1 : List Loc), va_P D vwCl w' H1 → va_D A0 w' → va_S A0 s.heap H1 locs1 → W p l e Rm s m args below meth c H1 locs1 (cells + mc) (slots + ms) Q (F0 m (pc + 3) ls (.int r :: rest))) : W p l e Rm s m args below meth c H locs cells slots Q (F0 m pc ls st) :=
  va_calli (va_runS S hM cw ⟨PREC_blind, prec_ok hE hP hD hS hA hX hbl hbA⟩ rfl hn hsize hst hW hdg hf) hS (fun q _ h => vaA_sub hD hS hA q h) (vaA_sub hD hS hA) (fun r' u t H1 locs1 ht hvm hw hB hz1 hk1 hS1 => by
    obtain ⟨hP1, hD1⟩ := bw_ok hD hS hA ht hB
    rw [show r' = r from hw]
    exact kk H1 locs1 hP1 hD1 hS1)
end LCALLS
theorem sp_at {α : Type} {l : List α} {n : Nat} {x : α} (h : l[n]? = some x) : l = l.take n ++ x :: l.drop (n + 1) := by
  obtain ⟨hn, e⟩ := List.getElem?_eq_some_iff.mp h
  rw [← e, List.getElem_cons_drop, List.take_append_drop]
/-- the handlers that are passed over -/
theorem hp_of {pre : List ExceptionTableEntry} {pc : Nat} {own E : String} {args : Array Value} {s : State} (L : List (Nat × String)) (hall : pre.all (fun z => !covers z pc || (z.catchType != 0 && L.any (fun q => q.1 == z.catchType))) = true) (hL : ∀ q ∈ L, (Cond.classLink own q.1 q.2).before args s = true ∧ va_Nc E q.2 s) :
    ∀ z ∈ pre, covers z pc = false ∨ (z.catchType ≠ 0 ∧ ∃ nm : String, (Cond.classLink own z.catchType nm).before args s = true ∧ va_Nc E nm s) := fun z hz => by
  have h := List.all_eq_true.mp hall z hz
  cases hc : covers z pc with
  | false => exact Or.inl rfl
  | true =>
    rw [hc] at h
    simp only [Bool.not_true, Bool.false_or, Bool.and_eq_true, bne_iff_ne, ne_eq, List.any_eq_true, beq_iff_eq] at h
    obtain ⟨h0, q, hq, e⟩ := h
    refine Or.inr ⟨h0, q.2, ?_⟩
    rw [← e]
    exact hL q hq
theorem hh0 : (tableOf HH)[0]? = some (⟨0, 157, 393, 122⟩ : ExceptionTableEntry) := rfl
theorem hh1 : (tableOf HH)[1]? = some (⟨158, 163, 393, 122⟩ : ExceptionTableEntry) := rfl
theorem hh2 : (tableOf HH)[2]? = some (⟨164, 177, 393, 122⟩ : ExceptionTableEntry) := rfl
theorem hh3 : (tableOf HH)[3]? = some (⟨178, 183, 393, 122⟩ : ExceptionTableEntry) := rfl
theorem hh4 : (tableOf HH)[4]? = some (⟨184, 189, 393, 122⟩ : ExceptionTableEntry) := rfl
theorem hh5 : (tableOf HH)[5]? = some (⟨190, 195, 393, 122⟩ : ExceptionTableEntry) := rfl
theorem hh6 : (tableOf HH)[6]? = some (⟨196, 204, 393, 122⟩ : ExceptionTableEntry) := rfl
theorem hh7 : (tableOf HH)[7]? = some (⟨205, 211, 393, 122⟩ : ExceptionTableEntry) := rfl
theorem hh8 : (tableOf HH)[8]? = some (⟨212, 218, 393, 122⟩ : ExceptionTableEntry) := rfl
theorem hh9 : (tableOf HH)[9]? = some (⟨219, 225, 393, 122⟩ : ExceptionTableEntry) := rfl
theorem hh10 : (tableOf HH)[10]? = some (⟨226, 231, 393, 122⟩ : ExceptionTableEntry) := rfl
theorem hh11 : (tableOf HH)[11]? = some (⟨232, 237, 393, 122⟩ : ExceptionTableEntry) := rfl
theorem hh12 : (tableOf HH)[12]? = some (⟨238, 243, 393, 122⟩ : ExceptionTableEntry) := rfl
theorem hh13 : (tableOf HH)[13]? = some (⟨244, 249, 393, 122⟩ : ExceptionTableEntry) := rfl
theorem hh14 : (tableOf HH)[14]? = some (⟨250, 256, 393, 122⟩ : ExceptionTableEntry) := rfl
theorem hh15 : (tableOf HH)[15]? = some (⟨257, 262, 393, 122⟩ : ExceptionTableEntry) := rfl
theorem hh16 : (tableOf HH)[16]? = some (⟨263, 268, 393, 122⟩ : ExceptionTableEntry) := rfl
theorem hh17 : (tableOf HH)[17]? = some (⟨269, 274, 393, 122⟩ : ExceptionTableEntry) := rfl
theorem hh18 : (tableOf HH)[18]? = some (⟨275, 288, 393, 122⟩ : ExceptionTableEntry) := rfl
theorem hh19 : (tableOf HH)[19]? = some (⟨289, 297, 393, 122⟩ : ExceptionTableEntry) := rfl
theorem hh20 : (tableOf HH)[20]? = some (⟨298, 303, 393, 122⟩ : ExceptionTableEntry) := rfl
theorem hh21 : (tableOf HH)[21]? = some (⟨304, 308, 393, 122⟩ : ExceptionTableEntry) := rfl
theorem hh22 : (tableOf HH)[22]? = some (⟨309, 315, 393, 122⟩ : ExceptionTableEntry) := rfl
theorem hh23 : (tableOf HH)[23]? = some (⟨316, 322, 393, 122⟩ : ExceptionTableEntry) := rfl
theorem hh24 : (tableOf HH)[24]? = some (⟨323, 328, 393, 122⟩ : ExceptionTableEntry) := rfl
theorem hh25 : (tableOf HH)[25]? = some (⟨329, 342, 393, 122⟩ : ExceptionTableEntry) := rfl
theorem hh26 : (tableOf HH)[26]? = some (⟨343, 348, 393, 122⟩ : ExceptionTableEntry) := rfl
theorem hh28 : (tableOf HH)[28]? = some (⟨354, 359, 393, 122⟩ : ExceptionTableEntry) := rfl
theorem hh29 : (tableOf HH)[29]? = some (⟨360, 364, 393, 122⟩ : ExceptionTableEntry) := rfl
theorem hh30 : (tableOf HH)[30]? = some (⟨365, 369, 393, 122⟩ : ExceptionTableEntry) := rfl
theorem hh35 : (tableOf HH)[35]? = some (⟨0, 157, 399, 124⟩ : ExceptionTableEntry) := rfl
theorem hh36 : (tableOf HH)[36]? = some (⟨158, 163, 399, 124⟩ : ExceptionTableEntry) := rfl
theorem hh37 : (tableOf HH)[37]? = some (⟨164, 177, 399, 124⟩ : ExceptionTableEntry) := rfl
theorem hh38 : (tableOf HH)[38]? = some (⟨178, 183, 399, 124⟩ : ExceptionTableEntry) := rfl
theorem hh39 : (tableOf HH)[39]? = some (⟨184, 189, 399, 124⟩ : ExceptionTableEntry) := rfl
theorem hh40 : (tableOf HH)[40]? = some (⟨190, 195, 399, 124⟩ : ExceptionTableEntry) := rfl
theorem hh41 : (tableOf HH)[41]? = some (⟨196, 204, 399, 124⟩ : ExceptionTableEntry) := rfl
theorem hh42 : (tableOf HH)[42]? = some (⟨205, 211, 399, 124⟩ : ExceptionTableEntry) := rfl
theorem hh43 : (tableOf HH)[43]? = some (⟨212, 218, 399, 124⟩ : ExceptionTableEntry) := rfl
theorem hh44 : (tableOf HH)[44]? = some (⟨219, 225, 399, 124⟩ : ExceptionTableEntry) := rfl
theorem hh45 : (tableOf HH)[45]? = some (⟨226, 231, 399, 124⟩ : ExceptionTableEntry) := rfl
theorem hh46 : (tableOf HH)[46]? = some (⟨232, 237, 399, 124⟩ : ExceptionTableEntry) := rfl
theorem hh47 : (tableOf HH)[47]? = some (⟨238, 243, 399, 124⟩ : ExceptionTableEntry) := rfl
theorem hh48 : (tableOf HH)[48]? = some (⟨244, 249, 399, 124⟩ : ExceptionTableEntry) := rfl
theorem hh49 : (tableOf HH)[49]? = some (⟨250, 256, 399, 124⟩ : ExceptionTableEntry) := rfl
theorem hh50 : (tableOf HH)[50]? = some (⟨257, 262, 399, 124⟩ : ExceptionTableEntry) := rfl
theorem hh51 : (tableOf HH)[51]? = some (⟨263, 268, 399, 124⟩ : ExceptionTableEntry) := rfl
theorem hh52 : (tableOf HH)[52]? = some (⟨269, 274, 399, 124⟩ : ExceptionTableEntry) := rfl
theorem hh53 : (tableOf HH)[53]? = some (⟨275, 288, 399, 124⟩ : ExceptionTableEntry) := rfl
theorem hh54 : (tableOf HH)[54]? = some (⟨289, 297, 399, 124⟩ : ExceptionTableEntry) := rfl
theorem hh55 : (tableOf HH)[55]? = some (⟨298, 303, 399, 124⟩ : ExceptionTableEntry) := rfl
theorem hh56 : (tableOf HH)[56]? = some (⟨304, 308, 399, 124⟩ : ExceptionTableEntry) := rfl
theorem hh57 : (tableOf HH)[57]? = some (⟨309, 315, 399, 124⟩ : ExceptionTableEntry) := rfl
theorem hh58 : (tableOf HH)[58]? = some (⟨316, 322, 399, 124⟩ : ExceptionTableEntry) := rfl
theorem hh59 : (tableOf HH)[59]? = some (⟨323, 328, 399, 124⟩ : ExceptionTableEntry) := rfl
theorem hh60 : (tableOf HH)[60]? = some (⟨329, 342, 399, 124⟩ : ExceptionTableEntry) := rfl
theorem hh61 : (tableOf HH)[61]? = some (⟨343, 348, 399, 124⟩ : ExceptionTableEntry) := rfl
theorem hh63 : (tableOf HH)[63]? = some (⟨354, 359, 399, 124⟩ : ExceptionTableEntry) := rfl
theorem hh64 : (tableOf HH)[64]? = some (⟨360, 364, 399, 124⟩ : ExceptionTableEntry) := rfl
theorem hh65 : (tableOf HH)[65]? = some (⟨365, 369, 399, 124⟩ : ExceptionTableEntry) := rfl
theorem hh70 : (tableOf HH)[70]? = some (⟨0, 157, 405, 126⟩ : ExceptionTableEntry) := rfl
theorem hh71 : (tableOf HH)[71]? = some (⟨158, 163, 405, 126⟩ : ExceptionTableEntry) := rfl
theorem hh72 : (tableOf HH)[72]? = some (⟨164, 177, 405, 126⟩ : ExceptionTableEntry) := rfl
theorem hh73 : (tableOf HH)[73]? = some (⟨178, 183, 405, 126⟩ : ExceptionTableEntry) := rfl
theorem hh74 : (tableOf HH)[74]? = some (⟨184, 189, 405, 126⟩ : ExceptionTableEntry) := rfl
theorem hh75 : (tableOf HH)[75]? = some (⟨190, 195, 405, 126⟩ : ExceptionTableEntry) := rfl
theorem hh76 : (tableOf HH)[76]? = some (⟨196, 204, 405, 126⟩ : ExceptionTableEntry) := rfl
theorem hh77 : (tableOf HH)[77]? = some (⟨205, 211, 405, 126⟩ : ExceptionTableEntry) := rfl
theorem hh78 : (tableOf HH)[78]? = some (⟨212, 218, 405, 126⟩ : ExceptionTableEntry) := rfl
theorem hh79 : (tableOf HH)[79]? = some (⟨219, 225, 405, 126⟩ : ExceptionTableEntry) := rfl
theorem hh80 : (tableOf HH)[80]? = some (⟨226, 231, 405, 126⟩ : ExceptionTableEntry) := rfl
theorem hh81 : (tableOf HH)[81]? = some (⟨232, 237, 405, 126⟩ : ExceptionTableEntry) := rfl
theorem hh82 : (tableOf HH)[82]? = some (⟨238, 243, 405, 126⟩ : ExceptionTableEntry) := rfl
theorem hh83 : (tableOf HH)[83]? = some (⟨244, 249, 405, 126⟩ : ExceptionTableEntry) := rfl
theorem hh84 : (tableOf HH)[84]? = some (⟨250, 256, 405, 126⟩ : ExceptionTableEntry) := rfl
theorem hh85 : (tableOf HH)[85]? = some (⟨257, 262, 405, 126⟩ : ExceptionTableEntry) := rfl
theorem hh86 : (tableOf HH)[86]? = some (⟨263, 268, 405, 126⟩ : ExceptionTableEntry) := rfl
theorem hh87 : (tableOf HH)[87]? = some (⟨269, 274, 405, 126⟩ : ExceptionTableEntry) := rfl
theorem hh88 : (tableOf HH)[88]? = some (⟨275, 288, 405, 126⟩ : ExceptionTableEntry) := rfl
theorem hh89 : (tableOf HH)[89]? = some (⟨289, 297, 405, 126⟩ : ExceptionTableEntry) := rfl
theorem hh90 : (tableOf HH)[90]? = some (⟨298, 303, 405, 126⟩ : ExceptionTableEntry) := rfl
theorem hh91 : (tableOf HH)[91]? = some (⟨304, 308, 405, 126⟩ : ExceptionTableEntry) := rfl
theorem hh92 : (tableOf HH)[92]? = some (⟨309, 315, 405, 126⟩ : ExceptionTableEntry) := rfl
theorem hh93 : (tableOf HH)[93]? = some (⟨316, 322, 405, 126⟩ : ExceptionTableEntry) := rfl
theorem hh94 : (tableOf HH)[94]? = some (⟨323, 328, 405, 126⟩ : ExceptionTableEntry) := rfl
theorem hh95 : (tableOf HH)[95]? = some (⟨329, 342, 405, 126⟩ : ExceptionTableEntry) := rfl
theorem hh96 : (tableOf HH)[96]? = some (⟨343, 348, 405, 126⟩ : ExceptionTableEntry) := rfl
theorem hh98 : (tableOf HH)[98]? = some (⟨354, 359, 405, 126⟩ : ExceptionTableEntry) := rfl
theorem hh99 : (tableOf HH)[99]? = some (⟨360, 364, 405, 126⟩ : ExceptionTableEntry) := rfl
theorem hh100 : (tableOf HH)[100]? = some (⟨365, 369, 405, 126⟩ : ExceptionTableEntry) := rfl
theorem hh105 : (tableOf HH)[105]? = some (⟨0, 157, 411, 128⟩ : ExceptionTableEntry) := rfl
theorem hh106 : (tableOf HH)[106]? = some (⟨158, 163, 411, 128⟩ : ExceptionTableEntry) := rfl
theorem hh107 : (tableOf HH)[107]? = some (⟨164, 177, 411, 128⟩ : ExceptionTableEntry) := rfl
theorem hh108 : (tableOf HH)[108]? = some (⟨178, 183, 411, 128⟩ : ExceptionTableEntry) := rfl
theorem hh109 : (tableOf HH)[109]? = some (⟨184, 189, 411, 128⟩ : ExceptionTableEntry) := rfl
theorem hh110 : (tableOf HH)[110]? = some (⟨190, 195, 411, 128⟩ : ExceptionTableEntry) := rfl
theorem hh111 : (tableOf HH)[111]? = some (⟨196, 204, 411, 128⟩ : ExceptionTableEntry) := rfl
theorem hh112 : (tableOf HH)[112]? = some (⟨205, 211, 411, 128⟩ : ExceptionTableEntry) := rfl
theorem hh113 : (tableOf HH)[113]? = some (⟨212, 218, 411, 128⟩ : ExceptionTableEntry) := rfl
theorem hh114 : (tableOf HH)[114]? = some (⟨219, 225, 411, 128⟩ : ExceptionTableEntry) := rfl
theorem hh115 : (tableOf HH)[115]? = some (⟨226, 231, 411, 128⟩ : ExceptionTableEntry) := rfl
theorem hh116 : (tableOf HH)[116]? = some (⟨232, 237, 411, 128⟩ : ExceptionTableEntry) := rfl
theorem hh117 : (tableOf HH)[117]? = some (⟨238, 243, 411, 128⟩ : ExceptionTableEntry) := rfl
theorem hh118 : (tableOf HH)[118]? = some (⟨244, 249, 411, 128⟩ : ExceptionTableEntry) := rfl
theorem hh119 : (tableOf HH)[119]? = some (⟨250, 256, 411, 128⟩ : ExceptionTableEntry) := rfl
theorem hh120 : (tableOf HH)[120]? = some (⟨257, 262, 411, 128⟩ : ExceptionTableEntry) := rfl
theorem hh121 : (tableOf HH)[121]? = some (⟨263, 268, 411, 128⟩ : ExceptionTableEntry) := rfl
theorem hh122 : (tableOf HH)[122]? = some (⟨269, 274, 411, 128⟩ : ExceptionTableEntry) := rfl
theorem hh123 : (tableOf HH)[123]? = some (⟨275, 288, 411, 128⟩ : ExceptionTableEntry) := rfl
theorem hh124 : (tableOf HH)[124]? = some (⟨289, 297, 411, 128⟩ : ExceptionTableEntry) := rfl
theorem hh125 : (tableOf HH)[125]? = some (⟨298, 303, 411, 128⟩ : ExceptionTableEntry) := rfl
theorem hh126 : (tableOf HH)[126]? = some (⟨304, 308, 411, 128⟩ : ExceptionTableEntry) := rfl
theorem hh127 : (tableOf HH)[127]? = some (⟨309, 315, 411, 128⟩ : ExceptionTableEntry) := rfl
theorem hh128 : (tableOf HH)[128]? = some (⟨316, 322, 411, 128⟩ : ExceptionTableEntry) := rfl
theorem hh129 : (tableOf HH)[129]? = some (⟨323, 328, 411, 128⟩ : ExceptionTableEntry) := rfl
theorem hh130 : (tableOf HH)[130]? = some (⟨329, 342, 411, 128⟩ : ExceptionTableEntry) := rfl
theorem hh131 : (tableOf HH)[131]? = some (⟨343, 348, 411, 128⟩ : ExceptionTableEntry) := rfl
theorem hh133 : (tableOf HH)[133]? = some (⟨354, 359, 411, 128⟩ : ExceptionTableEntry) := rfl
theorem hh134 : (tableOf HH)[134]? = some (⟨360, 364, 411, 128⟩ : ExceptionTableEntry) := rfl
theorem hh135 : (tableOf HH)[135]? = some (⟨365, 369, 411, 128⟩ : ExceptionTableEntry) := rfl
theorem hh140 : (tableOf HH)[140]? = some (⟨0, 157, 417, 130⟩ : ExceptionTableEntry) := rfl
theorem hh141 : (tableOf HH)[141]? = some (⟨158, 163, 417, 130⟩ : ExceptionTableEntry) := rfl
theorem hh142 : (tableOf HH)[142]? = some (⟨164, 177, 417, 130⟩ : ExceptionTableEntry) := rfl
theorem hh143 : (tableOf HH)[143]? = some (⟨178, 183, 417, 130⟩ : ExceptionTableEntry) := rfl
theorem hh144 : (tableOf HH)[144]? = some (⟨184, 189, 417, 130⟩ : ExceptionTableEntry) := rfl
theorem hh145 : (tableOf HH)[145]? = some (⟨190, 195, 417, 130⟩ : ExceptionTableEntry) := rfl
theorem hh146 : (tableOf HH)[146]? = some (⟨196, 204, 417, 130⟩ : ExceptionTableEntry) := rfl
theorem hh147 : (tableOf HH)[147]? = some (⟨205, 211, 417, 130⟩ : ExceptionTableEntry) := rfl
theorem hh148 : (tableOf HH)[148]? = some (⟨212, 218, 417, 130⟩ : ExceptionTableEntry) := rfl
theorem hh149 : (tableOf HH)[149]? = some (⟨219, 225, 417, 130⟩ : ExceptionTableEntry) := rfl
theorem hh150 : (tableOf HH)[150]? = some (⟨226, 231, 417, 130⟩ : ExceptionTableEntry) := rfl
theorem hh151 : (tableOf HH)[151]? = some (⟨232, 237, 417, 130⟩ : ExceptionTableEntry) := rfl
theorem hh152 : (tableOf HH)[152]? = some (⟨238, 243, 417, 130⟩ : ExceptionTableEntry) := rfl
theorem hh153 : (tableOf HH)[153]? = some (⟨244, 249, 417, 130⟩ : ExceptionTableEntry) := rfl
theorem hh154 : (tableOf HH)[154]? = some (⟨250, 256, 417, 130⟩ : ExceptionTableEntry) := rfl
theorem hh155 : (tableOf HH)[155]? = some (⟨257, 262, 417, 130⟩ : ExceptionTableEntry) := rfl
theorem hh156 : (tableOf HH)[156]? = some (⟨263, 268, 417, 130⟩ : ExceptionTableEntry) := rfl
theorem hh157 : (tableOf HH)[157]? = some (⟨269, 274, 417, 130⟩ : ExceptionTableEntry) := rfl
theorem hh158 : (tableOf HH)[158]? = some (⟨275, 288, 417, 130⟩ : ExceptionTableEntry) := rfl
theorem hh159 : (tableOf HH)[159]? = some (⟨289, 297, 417, 130⟩ : ExceptionTableEntry) := rfl
theorem hh160 : (tableOf HH)[160]? = some (⟨298, 303, 417, 130⟩ : ExceptionTableEntry) := rfl
theorem hh161 : (tableOf HH)[161]? = some (⟨304, 308, 417, 130⟩ : ExceptionTableEntry) := rfl
theorem hh162 : (tableOf HH)[162]? = some (⟨309, 315, 417, 130⟩ : ExceptionTableEntry) := rfl
theorem hh163 : (tableOf HH)[163]? = some (⟨316, 322, 417, 130⟩ : ExceptionTableEntry) := rfl
theorem hh164 : (tableOf HH)[164]? = some (⟨323, 328, 417, 130⟩ : ExceptionTableEntry) := rfl
theorem hh165 : (tableOf HH)[165]? = some (⟨329, 342, 417, 130⟩ : ExceptionTableEntry) := rfl
theorem hh166 : (tableOf HH)[166]? = some (⟨343, 348, 417, 130⟩ : ExceptionTableEntry) := rfl
theorem hh168 : (tableOf HH)[168]? = some (⟨354, 359, 417, 130⟩ : ExceptionTableEntry) := rfl
theorem hh169 : (tableOf HH)[169]? = some (⟨360, 364, 417, 130⟩ : ExceptionTableEntry) := rfl
theorem hh170 : (tableOf HH)[170]? = some (⟨365, 369, 417, 130⟩ : ExceptionTableEntry) := rfl
