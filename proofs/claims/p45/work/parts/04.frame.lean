/-! THE COMMON WORDS, THE COMMON WORLD'S FACTS, CALLS WHOSE WORLD IS THE CALLER'S WORLD -/
theorem sel_priv {C : String} {y z : MethodName} {s : State} {args : Array Value} (hy : y.cls ≠ "java/lang/invoke/MethodHandle" ∧ y.cls ≠ "java/lang/invoke/VarHandle") (hz : z.cls = y.cls)
    (h0 : (Cond.selects C z z).before args s = true) (hpriv : (Cond.privateMethod y).before args s = true) (hinst : (Cond.instanceMethod y).before args s = true) : (Cond.selects C y y).before args s = true := by
  obtain ⟨c, r, m, hc, -, hm, -, kP, hkP, hni⟩ := Cond.selects_spec h0
  obtain ⟨mk, methM, hnamed, hmethM, -, -⟩ := Cond.instanceMethod_spec hinst
  have hfound : s.methodFound? y.cls y.name y.desc = some mk := State.methodFound?_of_named hnamed hy
  have e1 : s.vm.findClass y.cls = some m.cls := by rw [← hz]; exact findClass_of_methodNamed hm
  have hcls : mk.cls = m.cls := Option.some.inj ((findClass_of_methodNamed hnamed).symm.trans e1)
  have hsel : selectMethod {} s.vm c mk = .method mk := selectMethod_private hmethM (Cond.privateMethod_at hpriv mk methM hnamed hmethM)
  simp only [Cond.before, Cond.holds, Cond.value, hc, hfound, hnamed, hsel, hcls, hkP]
  simp; exact hni
/-- two methods of the builder's that are its class's own -/
def XW : List Cond := [Cond.selects RJ4 yJ5_ensureCapacityInternal_d00df yJ5_ensureCapacityInternal_d00df, Cond.selects RJ4 yJ5_newCapacity_0f7a4 yJ5_newCapacity_0f7a4]
def WW : List Cond := lw_tbl.filter goodWord ++ XW
theorem WW_mem {w : Cond} (j : Nat) (h : lw_tbl[j]? = some w) (g : goodWord w = true) : w ∈ WW := List.mem_append_left _ (List.mem_filter.mpr ⟨List.mem_of_getElem? h, g⟩)
theorem WW_good {w : Cond} (h : w ∈ WW) : goodWord w = true := by
  rcases List.mem_append.mp h with h | h
  · exact (List.mem_filter.mp h).2
  · rcases List.mem_cons.mp h with rfl | h
    · rfl
    · rw [List.mem_singleton.mp h]; rfl
theorem qx1 : (Cond.selects RJ4 yJ5_ensureCapacityInternal_d00df yJ5_ensureCapacityInternal_d00df) ∈ WW := List.mem_append_right _ List.mem_cons_self
theorem qx2 : (Cond.selects RJ4 yJ5_newCapacity_0f7a4 yJ5_newCapacity_0f7a4) ∈ WW := List.mem_append_right _ (List.mem_cons_of_mem _ List.mem_cons_self)
theorem tb_at {w : Cond} (j : Nat) (h : lw_tbl[j]? = some w) {args : Array Value} {s : State} (ht : ∀ w ∈ lw_tbl, w.before args s = true) : w.before args s = true := ht w (List.mem_of_getElem? h)
theorem tb0 : lw_tbl[927]? = some (Cond.selects RJ4 yJ5_isLatin1_aae02 yJ5_isLatin1_aae02) := by decide +kernel
theorem tb1 : lw_tbl[894]? = some (Cond.privateMethod yJ5_ensureCapacityInternal_d00df) := by decide +kernel
theorem tb2 : lw_tbl[895]? = some (Cond.instanceMethod yJ5_ensureCapacityInternal_d00df) := by decide +kernel
theorem tb3 : lw_tbl[898]? = some (Cond.privateMethod yJ5_newCapacity_0f7a4) := by decide +kernel
theorem tb4 : lw_tbl[899]? = some (Cond.instanceMethod yJ5_newCapacity_0f7a4) := by decide +kernel
theorem WW_tbl {args : Array Value} {s : State} (h : ∀ w ∈ lw_tbl, w.before args s = true) : ∀ w ∈ WW, w.before args s = true := fun w hw => by
  rcases List.mem_append.mp hw with hw | hw
  · exact h w (List.mem_filter.mp hw).1
  · rcases List.mem_cons.mp hw with rfl | hw
    · exact sel_priv (z := yJ5_isLatin1_aae02) (by decide) rfl (tb_at _ tb0 h) (tb_at _ tb1 h) (tb_at _ tb2 h)
    · rw [List.mem_singleton.mp hw]
      exact sel_priv (z := yJ5_isLatin1_aae02) (by decide) rfl (tb_at _ tb0 h) (tb_at _ tb3 h) (tb_at _ tb4 h)
def wm (y : MethodName) (cc : ByteArray) (n : Nat) (r : Option FieldType) : List Cond := .code y cc n r :: WW
theorem wm_ww {args : Array Value} {s : State} {y : MethodName} {cc : ByteArray} {n : Nat} {r : Option FieldType} (h : ∀ w ∈ wm y cc n r, w.before args s = true) : ∀ w ∈ WW, w.before args s = true := fun w hw => h w (List.mem_cons_of_mem _ hw)
theorem gW {ws : List Cond} (h : ∀ w ∈ ws, w ∈ WW) : GoodIn WW ws := fun w hw => ⟨h w hw, good_of_word (WW_good (h w hw))⟩
theorem gM {y : MethodName} {cc : ByteArray} {n : Nat} {r : Option FieldType} (h5 : Cond.code y cc n r ∈ WW) : GoodIn WW (wm y cc n r) := gW fun w hw => by
  rcases List.mem_cons.mp hw with rfl | hw
  · exact h5
  · exact hw
theorem gV {own : String} {idx : Nat} {C : String} {y : MethodName} {cc : ByteArray} {n : Nat} {r : Option FieldType} (h1 : Cond.methodLink own idx y ∈ WW) (h2 : Cond.instanceMethod y ∈ WW) (h3 : Cond.selects C y y ∈ WW) (h4 : Cond.initialized C ∈ WW) (h5 : Cond.code y cc n r ∈ WW) : GoodIn WW (wsV own idx C y (wm y cc n r)) :=
  goodIn_app (gW fun w hw => by
    rcases List.mem_cons.mp hw with rfl | hw
    · exact h1
    rcases List.mem_cons.mp hw with rfl | hw
    · exact h2
    rcases List.mem_cons.mp hw with rfl | hw
    · exact h3
    rcases List.mem_cons.mp hw with rfl | hw
    · exact h4
    cases hw) (gM h5)
theorem gS {own : String} {idx : Nat} {y : MethodName} {cc : ByteArray} {n : Nat} {r : Option FieldType} (h1 : Cond.methodLink own idx y ∈ WW) (h2 : Cond.static y ∈ WW) (h4 : Cond.initialized y.cls ∈ WW) (h5 : Cond.code y cc n r ∈ WW) : GoodIn WW (va_wsS own idx y (wm y cc n r)) :=
  goodIn_app (gW fun w hw => by
    rcases List.mem_cons.mp hw with rfl | hw
    · exact h1
    rcases List.mem_cons.mp hw with rfl | hw
    · exact h2
    rcases List.mem_cons.mp hw with rfl | hw
    · exact h4
    cases hw) (gM h5)
/-- the array classes, by the kinds of their elements -/
def tyL (ca : Nat → ClassId) : List (ClassId × FieldType) := [(ca 0, .int), (ca 1, .boolean), (ca 2, .char), (ca 3, .byte), (ca 4, .array .int)]
theorem ao_alike {t : FieldType} {a a' : Array Value} {U U' : State} (hal : U.vm.Alike U'.vm) (h : (Cond.arrayOver (.array t)).before a U = true) : (Cond.arrayOver (.array t)).before a' U' = true := by
  simp only [Cond.before, Cond.holds, Cond.value] at h ⊢
  rw [hal.findClass]
  cases hf : U.vm.findClass (FieldType.array t).toString with
  | none => rw [hf] at h; simp at h
  | some comp =>
    rw [hf] at h
    simp only [Option.bind_some] at h ⊢
    rw [hal.findIdx_congr _ (fun _ _ _ _ => rfl)]
    generalize hF : (U.vm.classes.findIdx? fun (x : Class) => match x.kind with | .array component _ => component == comp | _ => false) = fi at h ⊢
    cases fi with
    | none => simp at h
    | some c =>
      simp only [Option.bind_some] at h ⊢
      cases hk : U.vm.classes[c]? with
      | none => rw [hk] at h; simp at h
      | some k =>
        obtain ⟨k', hk', ek⟩ := hal.2.2 _ _ hk
        rw [hk] at h
        rw [hk', hal.findClass]
        have ekind : k'.kind = k.kind := by rw [ek]
        simp only [Option.map_some] at h ⊢
        rw [ekind]
        exact h
/-- words of the tables that a warmed machine keeps, though they are not 'good' -/
def nwW : Cond → Bool
  | .castable _ _ => true
  | .methodLinkNest _ _ _ _ => true
  | .declares _ => true
  | .arrayOver (.array _) => true
  | _ => false
def NWL : List Cond := lw_tbl.filter nwW
theorem NWL_mem {w : Cond} (j : Nat) (h : lw_tbl[j]? = some w) (g : nwW w = true) : w ∈ NWL := List.mem_filter.mpr ⟨List.mem_of_getElem? h, g⟩
theorem nw_warm {w : Cond} (g : nwW w = true) {s U : State} (hW : s.WarmedH U.vm) (h : va_Nw w s) : va_Nw w U := by
  cases w with
  | arrayOver t =>
    cases t with
    | array t => exact ao_alike hW.alike h
    | _ => simp [nwW] at g
  | _ => first | exact va_Nw.warmC hW h | exact va_Nw.warmM hW h | exact va_Nw.warmD hW h | (simp [nwW] at g)
theorem nw_same {w : Cond} (g : nwW w = true) {u U : State} (hv : u.vm = U.vm) (h : va_Nw w u) : va_Nw w U := by
  cases w with
  | arrayOver t =>
    cases t with
    | array t => exact ao_alike (by rw [hv]; exact Vm.Alike.refl _) h
    | _ => simp [nwW] at g
  | _ => first | exact va_Nw.same rfl hv h | (simp [nwW] at g)
/-- what holds of the machine at every place: the classes, the array classes, the words, the texts of the exceptions -/
def EE (D : va_G) (ca : Nat → ClassId) (sl : List (String × Nat × String)) (U : State) : Prop := va_K D vwCl (tyL ca) U ∧ (∀ w ∈ NWL, va_Nw w U) ∧ ∀ q ∈ sl, ∃ a : Nat, vk_R q.1 q.2.1 q.2.2 a U
theorem EE.warm {D : va_G} {ca : Nat → ClassId} {sl : List (String × Nat × String)} {s U : State} (hW : s.WarmedH U.vm) (h : EE D ca sl s) : EE D ca sl U :=
  ⟨va_K.moved hW.alike h.1, fun w hw => nw_warm (List.mem_filter.mp hw).2 hW (h.2.1 w hw), fun q hq => (h.2.2 q hq).imp fun _ ha => vk_R.warm hW ha⟩
theorem EE.same {D : va_G} {ca : Nat → ClassId} {sl : List (String × Nat × String)} {u U : State} (hv : U.vm = u.vm) (h : EE D ca sl u) : EE D ca sl U :=
  ⟨va_K.moved (by rw [hv]; exact Vm.Alike.refl _) h.1, fun w hw => nw_same (List.mem_filter.mp hw).2 hv.symm (h.2.1 w hw), fun q hq => (h.2.2 q hq).imp fun _ ha => vk_R.same hv ha⟩
/-- a method's start in the world w -/
def PRE (av : List Value) (D : va_G) (ca : Nat → ClassId) (sl : List (String × Nat × String)) (w : va_W) (sz : Nat) : Array Value → State → Prop :=
  va_Pc av (fun U => U.heap.size = sz ∧ va_P D vwCl w U.heap ∧ EE D ca sl U ∧ va_D (fun _ => True) w)
theorem PRE_blind {av : List Value} {D : va_G} {ca : Nat → ClassId} {sl : List (String × Nat × String)} {w : va_W} {sz : Nat} : FrameBlind (PRE av D ca sl w sz) := fun a U g mk q => by
  obtain ⟨q0, q1, qP, qE, qD⟩ := q
  exact ⟨q0, q1, qP, EE.same (u := U) rfl qE, qD⟩
/-- the world behind a method -/
def BW (D : va_G) (w' w : va_W) (sz : Nat) (t : State) : Prop := va_P D vwCl w' t.heap ∧ va_D (va_A w sz) w'
def QI (r : Int32) (D : va_G) (w' w : va_W) (sz : Nat) : Array Value → State → Outcome → State → Prop := va_Qi (fun (r' : Int32) (_ : Unit) => r' = r) (fun _ t => BW D w' w sz t) (va_A w sz)
def QL (r : Int64) (D : va_G) (w' w : va_W) (sz : Nat) : Array Value → State → Outcome → State → Prop := va_Ql (fun (r' : Int64) (_ : Unit) => r' = r) (fun _ t => BW D w' w sz t) (va_A w sz)
def QD (r : UInt64) (D : va_G) (w' w : va_W) (sz : Nat) : Array Value → State → Outcome → State → Prop := va_Qd (fun (r' : UInt64) (_ : Unit) => r' = r) (fun _ t => BW D w' w sz t) (va_A w sz)
def QF (r : UInt32) (D : va_G) (w' w : va_W) (sz : Nat) : Array Value → State → Outcome → State → Prop := va_Qf (fun (r' : UInt32) (_ : Unit) => r' = r) (fun _ t => BW D w' w sz t) (va_A w sz)
def QV (D : va_G) (w' w : va_W) (sz : Nat) : Array Value → State → Outcome → State → Prop := va_Qv (fun (_ : Unit) => True) (fun _ t => BW D w' w sz t) (va_A w sz)
theorem vaA_sub {A0 : Nat → Prop} {w : va_W} {H0 H : Heap} {locs : List Loc} (hD : va_D A0 w) (hS : va_S A0 H0 H locs) (hA : ∀ q, H0.size ≤ q → A0 q) : ∀ q, va_A w H.size q → A0 q := by
  intro q h
  rcases h with ⟨k, e, h⟩ | h
  · exact hD.2 k (q, e) h
  · exact hA q (Nat.le_trans hS.1 h)
/-- a check that the pure function makes -/
theorem ck_not {c : Prop} {α : Type} [d : Decidable c] {k : Option α} {o : α} (h : (if c then none else k) = some o) : ¬ c ∧ k = some o := by
  by_cases hc : c
  · rw [if_pos hc] at h; cases h
  · rw [if_neg hc] at h; exact ⟨hc, h⟩
theorem ck_yes {c : Prop} {α : Type} [d : Decidable c] {k : Option α} {o : α} (h : (if c then k else none) = some o) : c ∧ k = some o := by
  by_cases hc : c
  · rw [if_pos hc] at h; exact ⟨hc, h⟩
  · rw [if_neg hc] at h; cases h
theorem br_pos {c : Prop} {α : Type} [d : Decidable c] {k k' : Option α} {o : Option α} (hc : c) (h : (if c then k else k') = o) : k = o := by rw [if_pos hc] at h; exact h
theorem br_neg {c : Prop} {α : Type} [d : Decidable c] {k k' : Option α} {o : Option α} (hc : ¬ c) (h : (if c then k else k') = o) : k' = o := by rw [if_neg hc] at h; exact h
theorem bnd {α β : Type} {o : Option α} {k : α → Option β} {r : β} (h : o.bind k = some r) : ∃ x, o = some x ∧ k x = some r := Option.bind_eq_some_iff.mp h
theorem nar_z {v : Int32} (h : vp_nar .boolean v = v) : narrow .boolean (.int v) = .int v := by
  simp only [vp_nar, narrow] at h ⊢
  first | rw [h] | simp [h]
theorem nar_c {v : Int32} (h : vp_nar .char v = v) : narrow .char (.int v) = .int v := by
  simp only [vp_nar, narrow] at h ⊢
  first | rw [h] | simp [h]
section CALLS
variable {p : Program} {l : Launch} {e : Env} {Rm : Room} {s : State} {m : MethodId} {args : Array Value} {below : List Frame} {meth : Method} {c : Code} {H : Heap} {locs : List Loc} {cells slots : Nat} {Q : State → Prop}
variable {y : MethodName} {bytes cc : ByteArray} {maxL nL mc ms n index : Nat} {ret : Option FieldType} {rm : Room} {own C : String} {b : Nat} {As rest st : List Value} {pc : Nat} {ls : Array Slot}
variable {D : va_G} {ca : Nat → ClassId} {sl : List (String × Nat × String)} {w w' : va_W} {A0 : Nat → Prop} {H0 : Heap}
theorem pre_ok {av : List Value} (hE : EE D ca sl s) (hP : va_P D vwCl w H) (hD : va_D A0 w) : ∀ U : State, U.heap = H → s.WarmedH U.vm → PRE av D ca sl w H.size av.toArray U := fun U hU hW =>
  ⟨rfl, by rw [hU], by rw [hU]; exact hP, hE.warm hW, hD.weaken (fun _ _ _ _ => trivial)⟩
theorem bw_ok {t : State} {H1 : Heap} (hD : va_D A0 w) (hS : va_S A0 H0 H locs) (hA : ∀ q, H0.size ≤ q → A0 q) (ht : t.heap = H1) (hB : BW D w' w H.size t) : va_P D vwCl w' H1 ∧ va_D A0 w' :=
  ⟨by rw [← ht]; exact hB.1, hB.2.weaken (fun _ q _ h => vaA_sub hD hS hA q.1 h)⟩
end CALLS
section CALLS2
variable {p : Program} {l : Launch} {e : Env} {Rm : Room} {s : State} {m : MethodId} {args : Array Value} {below : List Frame} {meth : Method} {c : Code} {H : Heap} {locs : List Loc} {cells slots : Nat} {Q : State → Prop}
variable {y : MethodName} {bytes cc : ByteArray} {maxL nL mc ms n index : Nat} {ret : Option FieldType} {rm : Room} {own C host : String} {b : Nat} {As rest st : List Value} {pc : Nat} {ls : Array Slot}
variable {D : va_G} {ca : Nat → ClassId} {sl : List (String × Nat × String)} {w w' : va_W} {A0 : Nat → Prop} {H0 : Heap}
theorem call_vi {r : Int32} (hM : Met l y (wm y bytes maxL ret) rm (PRE (.ref b :: As) D ca sl w H.size) (QI r D w' w H.size) mc ms (va_A w H.size)) (S : CallFix p m c cc nL s args WW own) (cw : CallW Rm s args own C index y bytes maxL ret (wm y bytes maxL ret) rm mc ms n)
    (hrecv : ∃ cellB : Cell, H[b]? = some cellB ∧ cellB.vm.isStatics = false ∧ s.vm.findClass C = some cellB.cls) (hE : EE D ca sl s) (hP : va_P D vwCl w H) (hD : va_D A0 w) (hS : va_S A0 H0 H locs) (hA : ∀ q, H0.size ≤ q → A0 q)
    (hn : As.length = n) (hsize : ls.size = nL) (hst : st = As.reverse ++ .ref b :: rest) (hW : 2 * (F0 m pc ls st).monitorRoom + (rest.map fun v => v.category).sum ≤ 8) (hdg : decode cc pc = .ok (.invokevirtual index, 3)) (hf : cells + mc ≤ Rm.cells ∧ slots + ms ≤ Rm.slots)
    (kk : ∀ (H1 : Heap) (locs1 : List Loc), va_P D vwCl w' H1 → va_D A0 w' → va_S A0 H0 H1 locs1 → W p l e Rm s m args below meth c H1 locs1 (cells + mc) (slots + ms) Q (F0 m (pc + 3) ls (.int r :: rest))) : W p l e Rm s m args below meth c H locs cells slots Q (F0 m pc ls st) :=
  va_calli (va_runV S hM cw ⟨PRE_blind, hrecv, pre_ok hE hP hD⟩ rfl hn hsize hst hW hdg hf) hS (fun q _ h => vaA_sub hD hS hA q h) (vaA_sub hD hS hA) (fun r' u t H1 locs1 ht hvm hw hB hz1 hk1 hS1 => by
    obtain ⟨hP1, hD1⟩ := bw_ok hD hS hA ht hB
    rw [show r' = r from hw]
    exact kk H1 locs1 hP1 hD1 hS1)
theorem call_vl {r : Int64} (hM : Met l y (wm y bytes maxL ret) rm (PRE (.ref b :: As) D ca sl w H.size) (QL r D w' w H.size) mc ms (va_A w H.size)) (S : CallFix p m c cc nL s args WW own) (cw : CallW Rm s args own C index y bytes maxL ret (wm y bytes maxL ret) rm mc ms n)
    (hrecv : ∃ cellB : Cell, H[b]? = some cellB ∧ cellB.vm.isStatics = false ∧ s.vm.findClass C = some cellB.cls) (hE : EE D ca sl s) (hP : va_P D vwCl w H) (hD : va_D A0 w) (hS : va_S A0 H0 H locs) (hA : ∀ q, H0.size ≤ q → A0 q)
    (hn : As.length = n) (hsize : ls.size = nL) (hst : st = As.reverse ++ .ref b :: rest) (hW : 2 * (F0 m pc ls st).monitorRoom + (rest.map fun v => v.category).sum ≤ 8) (hdg : decode cc pc = .ok (.invokevirtual index, 3)) (hf : cells + mc ≤ Rm.cells ∧ slots + ms ≤ Rm.slots)
    (kk : ∀ (H1 : Heap) (locs1 : List Loc), va_P D vwCl w' H1 → va_D A0 w' → va_S A0 H0 H1 locs1 → W p l e Rm s m args below meth c H1 locs1 (cells + mc) (slots + ms) Q (F0 m (pc + 3) ls (.long r :: rest))) : W p l e Rm s m args below meth c H locs cells slots Q (F0 m pc ls st) :=
  va_calll (va_runV S hM cw ⟨PRE_blind, hrecv, pre_ok hE hP hD⟩ rfl hn hsize hst hW hdg hf) hS (fun q _ h => vaA_sub hD hS hA q h) (vaA_sub hD hS hA) (fun r' u t H1 locs1 ht hvm hw hB hz1 hk1 hS1 => by
    obtain ⟨hP1, hD1⟩ := bw_ok hD hS hA ht hB
    rw [show r' = r from hw]
    exact kk H1 locs1 hP1 hD1 hS1)
theorem call_vd {r : UInt64} (hM : Met l y (wm y bytes maxL ret) rm (PRE (.ref b :: As) D ca sl w H.size) (QD r D w' w H.size) mc ms (va_A w H.size)) (S : CallFix p m c cc nL s args WW own) (cw : CallW Rm s args own C index y bytes maxL ret (wm y bytes maxL ret) rm mc ms n)
    (hrecv : ∃ cellB : Cell, H[b]? = some cellB ∧ cellB.vm.isStatics = false ∧ s.vm.findClass C = some cellB.cls) (hE : EE D ca sl s) (hP : va_P D vwCl w H) (hD : va_D A0 w) (hS : va_S A0 H0 H locs) (hA : ∀ q, H0.size ≤ q → A0 q)
    (hn : As.length = n) (hsize : ls.size = nL) (hst : st = As.reverse ++ .ref b :: rest) (hW : 2 * (F0 m pc ls st).monitorRoom + (rest.map fun v => v.category).sum ≤ 8) (hdg : decode cc pc = .ok (.invokevirtual index, 3)) (hf : cells + mc ≤ Rm.cells ∧ slots + ms ≤ Rm.slots)
    (kk : ∀ (H1 : Heap) (locs1 : List Loc), va_P D vwCl w' H1 → va_D A0 w' → va_S A0 H0 H1 locs1 → W p l e Rm s m args below meth c H1 locs1 (cells + mc) (slots + ms) Q (F0 m (pc + 3) ls (.double r :: rest))) : W p l e Rm s m args below meth c H locs cells slots Q (F0 m pc ls st) :=
  va_calld (va_runV S hM cw ⟨PRE_blind, hrecv, pre_ok hE hP hD⟩ rfl hn hsize hst hW hdg hf) hS (fun q _ h => vaA_sub hD hS hA q h) (vaA_sub hD hS hA) (fun r' u t H1 locs1 ht hvm hw hB hz1 hk1 hS1 => by
    obtain ⟨hP1, hD1⟩ := bw_ok hD hS hA ht hB
    rw [show r' = r from hw]
    exact kk H1 locs1 hP1 hD1 hS1)
theorem call_vf {r : UInt32} (hM : Met l y (wm y bytes maxL ret) rm (PRE (.ref b :: As) D ca sl w H.size) (QF r D w' w H.size) mc ms (va_A w H.size)) (S : CallFix p m c cc nL s args WW own) (cw : CallW Rm s args own C index y bytes maxL ret (wm y bytes maxL ret) rm mc ms n)
    (hrecv : ∃ cellB : Cell, H[b]? = some cellB ∧ cellB.vm.isStatics = false ∧ s.vm.findClass C = some cellB.cls) (hE : EE D ca sl s) (hP : va_P D vwCl w H) (hD : va_D A0 w) (hS : va_S A0 H0 H locs) (hA : ∀ q, H0.size ≤ q → A0 q)
    (hn : As.length = n) (hsize : ls.size = nL) (hst : st = As.reverse ++ .ref b :: rest) (hW : 2 * (F0 m pc ls st).monitorRoom + (rest.map fun v => v.category).sum ≤ 8) (hdg : decode cc pc = .ok (.invokevirtual index, 3)) (hf : cells + mc ≤ Rm.cells ∧ slots + ms ≤ Rm.slots)
    (kk : ∀ (H1 : Heap) (locs1 : List Loc), va_P D vwCl w' H1 → va_D A0 w' → va_S A0 H0 H1 locs1 → W p l e Rm s m args below meth c H1 locs1 (cells + mc) (slots + ms) Q (F0 m (pc + 3) ls (.float r :: rest))) : W p l e Rm s m args below meth c H locs cells slots Q (F0 m pc ls st) :=
  va_callf (va_runV S hM cw ⟨PRE_blind, hrecv, pre_ok hE hP hD⟩ rfl hn hsize hst hW hdg hf) hS (fun q _ h => vaA_sub hD hS hA q h) (vaA_sub hD hS hA) (fun r' u t H1 locs1 ht hvm hw hB hz1 hk1 hS1 => by
    obtain ⟨hP1, hD1⟩ := bw_ok hD hS hA ht hB
    rw [show r' = r from hw]
    exact kk H1 locs1 hP1 hD1 hS1)
theorem call_vv (hM : Met l y (wm y bytes maxL ret) rm (PRE (.ref b :: As) D ca sl w H.size) (QV D w' w H.size) mc ms (va_A w H.size)) (S : CallFix p m c cc nL s args WW own) (cw : CallW Rm s args own C index y bytes maxL ret (wm y bytes maxL ret) rm mc ms n)
    (hrecv : ∃ cellB : Cell, H[b]? = some cellB ∧ cellB.vm.isStatics = false ∧ s.vm.findClass C = some cellB.cls) (hE : EE D ca sl s) (hP : va_P D vwCl w H) (hD : va_D A0 w) (hS : va_S A0 H0 H locs) (hA : ∀ q, H0.size ≤ q → A0 q)
    (hn : As.length = n) (hsize : ls.size = nL) (hst : st = As.reverse ++ .ref b :: rest) (hW : 2 * (F0 m pc ls st).monitorRoom + (rest.map fun v => v.category).sum ≤ 8) (hdg : decode cc pc = .ok (.invokevirtual index, 3)) (hf : cells + mc ≤ Rm.cells ∧ slots + ms ≤ Rm.slots)
    (kk : ∀ (H1 : Heap) (locs1 : List Loc), va_P D vwCl w' H1 → va_D A0 w' → va_S A0 H0 H1 locs1 → W p l e Rm s m args below meth c H1 locs1 (cells + mc) (slots + ms) Q (F0 m (pc + 3) ls rest)) : W p l e Rm s m args below meth c H locs cells slots Q (F0 m pc ls st) :=
  va_callv (va_runV S hM cw ⟨PRE_blind, hrecv, pre_ok hE hP hD⟩ rfl hn hsize hst hW hdg hf) hS (fun q _ h => vaA_sub hD hS hA q h) (vaA_sub hD hS hA) (fun u t H1 locs1 ht hvm hw hB hz1 hk1 hS1 => by
    obtain ⟨hP1, hD1⟩ := bw_ok hD hS hA ht hB
    exact kk H1 locs1 hP1 hD1 hS1)
theorem call_si {r : Int32} (hM : Met l y (wm y bytes maxL ret) rm (PRE As D ca sl w H.size) (QI r D w' w H.size) mc ms (va_A w H.size)) (S : CallFix p m c cc nL s args WW own) (cw : CallB Rm s args own index y bytes maxL ret (wm y bytes maxL ret) rm mc ms n ∧ (Cond.static y).before args s = true)
    (hE : EE D ca sl s) (hP : va_P D vwCl w H) (hD : va_D A0 w) (hS : va_S A0 H0 H locs) (hA : ∀ q, H0.size ≤ q → A0 q)
    (hn : As.length = n) (hsize : ls.size = nL) (hst : st = As.reverse ++ rest) (hW : 2 * (F0 m pc ls st).monitorRoom + (rest.map fun v => v.category).sum ≤ 8) (hdg : decode cc pc = .ok (.invokestatic index, 3)) (hf : cells + mc ≤ Rm.cells ∧ slots + ms ≤ Rm.slots)
    (kk : ∀ (H1 : Heap) (locs1 : List Loc), va_P D vwCl w' H1 → va_D A0 w' → va_S A0 H0 H1 locs1 → W p l e Rm s m args below meth c H1 locs1 (cells + mc) (slots + ms) Q (F0 m (pc + 3) ls (.int r :: rest))) : W p l e Rm s m args below meth c H locs cells slots Q (F0 m pc ls st) :=
  va_calli (va_runS S hM cw ⟨PRE_blind, pre_ok hE hP hD⟩ rfl hn hsize hst hW hdg hf) hS (fun q _ h => vaA_sub hD hS hA q h) (vaA_sub hD hS hA) (fun r' u t H1 locs1 ht hvm hw hB hz1 hk1 hS1 => by
    obtain ⟨hP1, hD1⟩ := bw_ok hD hS hA ht hB
    rw [show r' = r from hw]
    exact kk H1 locs1 hP1 hD1 hS1)
theorem call_sv (hM : Met l y (wm y bytes maxL ret) rm (PRE As D ca sl w H.size) (QV D w' w H.size) mc ms (va_A w H.size)) (S : CallFix p m c cc nL s args WW own) (cw : CallB Rm s args own index y bytes maxL ret (wm y bytes maxL ret) rm mc ms n ∧ (Cond.static y).before args s = true)
    (hE : EE D ca sl s) (hP : va_P D vwCl w H) (hD : va_D A0 w) (hS : va_S A0 H0 H locs) (hA : ∀ q, H0.size ≤ q → A0 q)
    (hn : As.length = n) (hsize : ls.size = nL) (hst : st = As.reverse ++ rest) (hW : 2 * (F0 m pc ls st).monitorRoom + (rest.map fun v => v.category).sum ≤ 8) (hdg : decode cc pc = .ok (.invokestatic index, 3)) (hf : cells + mc ≤ Rm.cells ∧ slots + ms ≤ Rm.slots)
    (kk : ∀ (H1 : Heap) (locs1 : List Loc), va_P D vwCl w' H1 → va_D A0 w' → va_S A0 H0 H1 locs1 → W p l e Rm s m args below meth c H1 locs1 (cells + mc) (slots + ms) Q (F0 m (pc + 3) ls rest)) : W p l e Rm s m args below meth c H locs cells slots Q (F0 m pc ls st) :=
  va_callv (va_runS S hM cw ⟨PRE_blind, pre_ok hE hP hD⟩ rfl hn hsize hst hW hdg hf) hS (fun q _ h => vaA_sub hD hS hA q h) (vaA_sub hD hS hA) (fun u t H1 locs1 ht hvm hw hB hz1 hk1 hS1 => by
    obtain ⟨hP1, hD1⟩ := bw_ok hD hS hA ht hB
    exact kk H1 locs1 hP1 hD1 hS1)
theorem call_ni {r : Int32} (hM : Met l y (wm y bytes maxL ret) rm (PRE As D ca sl w H.size) (QI r D w' w H.size) mc ms (va_A w H.size)) (S : CallFix p m c cc nL s args WW own) (cw : va_CN Rm s args own index y host bytes maxL ret (wm y bytes maxL ret) rm mc ms n ∧ (Cond.static y).before args s = true ∧ True)
    (hE : EE D ca sl s) (hP : va_P D vwCl w H) (hD : va_D A0 w) (hS : va_S A0 H0 H locs) (hA : ∀ q, H0.size ≤ q → A0 q)
    (hn : As.length = n) (hsize : ls.size = nL) (hst : st = As.reverse ++ rest) (hW : 2 * (F0 m pc ls st).monitorRoom + (rest.map fun v => v.category).sum ≤ 8) (hdg : decode cc pc = .ok (.invokestatic index, 3)) (hf : cells + mc ≤ Rm.cells ∧ slots + ms ≤ Rm.slots)
    (kk : ∀ (H1 : Heap) (locs1 : List Loc), va_P D vwCl w' H1 → va_D A0 w' → va_S A0 H0 H1 locs1 → W p l e Rm s m args below meth c H1 locs1 (cells + mc) (slots + ms) Q (F0 m (pc + 3) ls (.int r :: rest))) : W p l e Rm s m args below meth c H locs cells slots Q (F0 m pc ls st) :=
  va_calli (va_runSN S hM cw ⟨PRE_blind, pre_ok hE hP hD⟩ rfl hn hsize hst hW hdg hf) hS (fun q _ h => vaA_sub hD hS hA q h) (vaA_sub hD hS hA) (fun r' u t H1 locs1 ht hvm hw hB hz1 hk1 hS1 => by
    obtain ⟨hP1, hD1⟩ := bw_ok hD hS hA ht hB
    rw [show r' = r from hw]
    exact kk H1 locs1 hP1 hD1 hS1)
theorem call_nv (hM : Met l y (wm y bytes maxL ret) rm (PRE As D ca sl w H.size) (QV D w' w H.size) mc ms (va_A w H.size)) (S : CallFix p m c cc nL s args WW own) (cw : va_CN Rm s args own index y host bytes maxL ret (wm y bytes maxL ret) rm mc ms n ∧ (Cond.static y).before args s = true ∧ True)
    (hE : EE D ca sl s) (hP : va_P D vwCl w H) (hD : va_D A0 w) (hS : va_S A0 H0 H locs) (hA : ∀ q, H0.size ≤ q → A0 q)
    (hn : As.length = n) (hsize : ls.size = nL) (hst : st = As.reverse ++ rest) (hW : 2 * (F0 m pc ls st).monitorRoom + (rest.map fun v => v.category).sum ≤ 8) (hdg : decode cc pc = .ok (.invokestatic index, 3)) (hf : cells + mc ≤ Rm.cells ∧ slots + ms ≤ Rm.slots)
    (kk : ∀ (H1 : Heap) (locs1 : List Loc), va_P D vwCl w' H1 → va_D A0 w' → va_S A0 H0 H1 locs1 → W p l e Rm s m args below meth c H1 locs1 (cells + mc) (slots + ms) Q (F0 m (pc + 3) ls rest)) : W p l e Rm s m args below meth c H locs cells slots Q (F0 m pc ls st) :=
  va_callv (va_runSN S hM cw ⟨PRE_blind, pre_ok hE hP hD⟩ rfl hn hsize hst hW hdg hf) hS (fun q _ h => vaA_sub hD hS hA q h) (vaA_sub hD hS hA) (fun u t H1 locs1 ht hvm hw hB hz1 hk1 hS1 => by
    obtain ⟨hP1, hD1⟩ := bw_ok hD hS hA ht hB
    exact kk H1 locs1 hP1 hD1 hS1)
/-- the ends: the world as it stands, the answer, nothing made -/
theorem end_i {v : Int32} {ty : FieldType} {w0 : va_W} {A : Nat → Prop} (hAe : va_A w0 s.heap.size = A) (hQm : MQ below (QI v D w' w0 s.heap.size) args s cells slots A = Q) (hx : p.tables.exec = Jvm.exec) (hb : c.code = cc) (hr : meth.sig.returnType = some ty) (hlocks : meth.locks = false) (hn : narrow ty (.int v) = .int v) (hP : va_P D vwCl w' H) (hD : va_D A w') (hS : va_S A s.heap H locs) (hdg : decode cc pc = .ok (.ireturn, 1)) :
    W p l e Rm s m args below meth c H locs cells slots Q (F0 m pc ls [.int v]) := by
  subst hQm
  subst hAe
  exact W.zret (v := v) hx hb hr hn (fun t ht hW => ⟨⟨v, (),  rfl, rfl, by rw [ht]; exact hP, hD⟩, hS.F ht⟩) hS.2.2 hdg hlocks
theorem end_l {v : Int64} {w0 : va_W} {A : Nat → Prop} (hAe : va_A w0 s.heap.size = A) (hQm : MQ below (QL v D w' w0 s.heap.size) args s cells slots A = Q) (hx : p.tables.exec = Jvm.exec) (hb : c.code = cc) (hr : meth.sig.returnType = some .long) (hlocks : meth.locks = false) (hP : va_P D vwCl w' H) (hD : va_D A w') (hS : va_S A s.heap H locs) (hdg : decode cc pc = .ok (.lreturn, 1)) :
    W p l e Rm s m args below meth c H locs cells slots Q (F0 m pc ls [.long v]) := by
  subst hQm
  subst hAe
  exact W.lret (v := v) hx hb hr (fun t ht hW => ⟨⟨v, (),  rfl, rfl, by rw [ht]; exact hP, hD⟩, hS.F ht⟩) hS.2.2 hdg hlocks
theorem end_d {v : UInt64} {w0 : va_W} {A : Nat → Prop} (hAe : va_A w0 s.heap.size = A) (hQm : MQ below (QD v D w' w0 s.heap.size) args s cells slots A = Q) (hx : p.tables.exec = Jvm.exec) (hb : c.code = cc) (hr : meth.sig.returnType = some .double) (hlocks : meth.locks = false) (hP : va_P D vwCl w' H) (hD : va_D A w') (hS : va_S A s.heap H locs) (hdg : decode cc pc = .ok (.dreturn, 1)) :
    W p l e Rm s m args below meth c H locs cells slots Q (F0 m pc ls [.double v]) := by
  subst hQm
  subst hAe
  exact W.dret (v := v) hx hb hr (fun t ht hW => ⟨⟨v, (),  rfl, rfl, by rw [ht]; exact hP, hD⟩, hS.F ht⟩) hS.2.2 hdg hlocks
theorem end_f {v : UInt32} {w0 : va_W} {A : Nat → Prop} (hAe : va_A w0 s.heap.size = A) (hQm : MQ below (QF v D w' w0 s.heap.size) args s cells slots A = Q) (hx : p.tables.exec = Jvm.exec) (hb : c.code = cc) (hr : meth.sig.returnType = some .float) (hlocks : meth.locks = false) (hP : va_P D vwCl w' H) (hD : va_D A w') (hS : va_S A s.heap H locs) (hdg : decode cc pc = .ok (.freturn, 1)) :
    W p l e Rm s m args below meth c H locs cells slots Q (F0 m pc ls [.float v]) := by
  subst hQm
  subst hAe
  exact W.fret (v := v) hx hb hr (fun t ht hW => ⟨⟨v, (),  rfl, rfl, by rw [ht]; exact hP, hD⟩, hS.F ht⟩) hS.2.2 hdg hlocks
theorem end_v {w0 : va_W} {A : Nat → Prop} (hAe : va_A w0 s.heap.size = A) (hQm : MQ below (QV D w' w0 s.heap.size) args s cells slots A = Q) (hx : p.tables.exec = Jvm.exec) (hb : c.code = cc) (hr : meth.sig.returnType = none) (hlocks : meth.locks = false) (hP : va_P D vwCl w' H) (hD : va_D A w') (hS : va_S A s.heap H locs) (hdg : decode cc pc = .ok (.return_, 1)) :
    W p l e Rm s m args below meth c H locs cells slots Q (F0 m pc ls []) := by
  subst hQm
  subst hAe
  exact W.vret hx hb hr (fun t ht hW => ⟨⟨(),  rfl, trivial, by rw [ht]; exact hP, hD⟩, hS.F ht⟩) hS.2.2 hdg hlocks
end CALLS2
/-- far above what any loop needs -/
def FU : Nat := 100000
def updG (g : Nat → Nat → Int32) (k i : Nat) (x : Int32) : Nat → Nat → Int32 := fun j => if j = k then upd (g k) i x else g j
section ALD
variable {p : Program} {l : Launch} {e : Env} {R : Room} {s : State} {m : MethodId} {args : Array Value} {below : List Frame} {meth : Method} {c : Code} {H : Heap} {locs : List Loc} {cells slots : Nat} {Q : State → Prop}
variable {cc : ByteArray} {pc : Nat} {ls : Array Slot} {rest : List Value} {D : va_G} {cl : List vw_C} {a : Nat} {tys : List (ClassId × FieldType)} {ws : va_W}
theorem va_aldA (hexec : p.tables.exec = Jvm.exec) (hb : c.code = cc) (hK : va_K D cl tys s) (hP : va_P D cl ws H) (q0 t0 : Nat) {cA : ClassId} {ty : FieldType} {n : Nat} {f : Nat → Option Nat} (ha : ws[q0]? = some (a, .inl (cA, n, .inr (.inr (.inr (.inr f)))))) (ht : tys[t0]? = some (cA, .array ty)) {i : Int32} (hin : vp_in i n) (hdg : decode cc pc = .ok (.aaload, 1))
    (kk : W p l e R s m args below meth c H locs cells slots Q (F0 m (pc + 1) ls (va_rf (f i.toNatClampNeg) :: rest))) : W p l e R s m args below meth c H locs cells slots Q (F0 m pc ls (.int i :: .ref a :: rest)) := by
  have hlt : i.toNatClampNeg < n := Nat.not_le.mp fun q => hin (Or.inr q)
  exact W.aald (v := va_rf (f i.toNatClampNeg)) (ty := .array ty) hexec hb (hP q0 _ ha) ((hK.2 t0 _ ht).1 n (fun j => va_rf (f j))) rfl (fun q => by cases q) (by show ¬ (i < 0 ∨ (arrV _ _ _).slots.size ≤ _); rw [arrV_size]; exact hin) (by show (arrV _ _ _).slots[_]? = _; rw [arrV_read _ _ hlt]) rfl rfl hdg kk
end ALD
/-- a row of booleans holds booleans -/
def ckFit (ty : FieldType) (f : Nat → Int32) (n : Int32) : Bool := (List.range n.toNatClampNeg).all (fun i => fits ty (.int (f ((0 : Int32).toNatClampNeg + i))))
theorem ckfit {ty : FieldType} {f : Nat → Int32} {n : Int32} (h : ckFit ty f n = true) : ∀ i, i < n.toNatClampNeg → fits ty (.int (f ((0 : Int32).toNatClampNeg + i))) = true := fun i hi => List.all_eq_true.mp h i (List.mem_range.mpr hi)
