theorem n1078 : (Cond.castable "[B" "java/lang/Cloneable") ∈ NWL := NWL_mem 1078 (by decide +kernel) rfl
def f_B_J7_checkLength_df160 (p0 : Int32) (p1 : Int32) : Option (Unit) :=
  if p0 ≤ p1 then
    some ()
  else
    none
set_option maxHeartbeats 4000000 in
set_option maxRecDepth 100000 in
theorem m_B_J7_checkLength_df160 (l : Launch) {D : va_G} {sl : List (String × Nat × String)} (ca : Nat → ClassId) (R : va_W) (sz : Nat) (p0 : Int32) (p1 : Int32) (hf : f_B_J7_checkLength_df160 p0 p1 = some ()) : Met l yJ7_checkLength_df160 (wm yJ7_checkLength_df160 cJ7_checkLength_df160 2 none) ({ frames := 0, cells := 0, slots := 0, locals := 0 } : Room) (PREX [.int p0, .int p1] D ca sl R sz) (QV D R R sz) 0 0 (va_A R sz) := by
  refine Met.ofW (cc := cJ7_checkLength_df160) (maxL := 2) (ret := none) (by decide) rfl ?_
  intro p e s m args below meth c s₁ B hml hv
  obtain ⟨rfl, rfl, hP, hE, hD0, hZ⟩ := hv
  have hx := B.exec
  have hb := B.bytes
  have hr := B.returns
  have hts := wm_ww (atoms_spec (ws := wm yJ7_checkLength_df160 cJ7_checkLength_df160 2 none) B.pre)
  have hown : s.vm.findClass RJ7 = some m.cls := findClass_of_methodNamed B.named
  have hlocks := B.notSynchronized
  have hK := hE.1
  have hD := hD0.self (sz := s.heap.size)
  generalize hAe : va_A R s.heap.size = A at hD hZ ⊢
  have hA : ∀ q : Nat, s.heap.size ≤ q → A q := fun q h => by rw [← hAe]; exact Or.inr h
  have hS : va_S A s.heap s.heap [] := va_S.rf
  have hl := lv_entry ([.int p0, .int p1]) (n := 2) (Nat.le_of_ble_eq_true rfl)
  rw [lg_entry_eq]
  generalize (lg_sl ([.int p0, .int p1]) ++ List.replicate (2 - (lg_sl ([.int p0, .int p1])).length) Slot.unset).toArray = ls at hl ⊢
  have hl : lv_has ls 2 [(0, .int p0), (1, .int p1)] := hl
  change W p l e ({ frames := 0, cells := 0, slots := 0, locals := 0 } : Room) s m _ below meth c s.heap [] 0 0 _ _
  generalize hQm : MQ below (QV D R R s.heap.size) _ s 0 0 A = Qm
  have hP : va_P D vwCl R s.heap := hP
  generalize hae : ([.int p0, .int p1] : List Value).toArray = args at hts hQm ⊢
  refine lv_iload_n hx hb dJ7_checkLength_df160_0 rfl (lv_at hl 1 rfl) ?_
  refine lv_iload_n hx hb dJ7_checkLength_df160_1 rfl (lv_at hl 0 rfl) ?_
  refine lv_icmp_ge (tgt := 37) hx hb dJ7_checkLength_df160_2 (by decide) (fun c1 => ?_) (fun c1 => ?_)
  · have hf := br_pos c1 hf
    cases hf
    exact end_v hAe hQm hx hb hr hlocks hP hD hS dJ7_checkLength_df160_37
  · have hf := br_neg c1 hf
    cases hf
/-! TOSTRING -/
def QRB {S : Type} (f : S → Nat → va_W) (D : va_G) (w : va_W) (sz : Nat) : Array Value → State → Outcome → State → Prop := va_Qr (fun _ : S => True) (fun u a t => BW D (f u a) w sz t) (va_A w sz)
def cpR (n z : Nat) (B : Nat → Int32) : Nat → Int32 := if n = z then B else va_cpy B (fun _ => 0) 0 0 n
theorem cpR_same {n z : Nat} {T B : Nat → Int32} (h : Same n T B) : Same n T (cpR n z B) := fun j hj => by
  unfold cpR
  split
  · exact h j hj
  · rw [sb_cpy0 hj, h j hj]
section TOS
variable {p : Program} {l : Launch} {e : Env} {Rm : Room} {s : State} {m : MethodId} {args : Array Value} {below : List Frame} {meth : Method} {c : Code} {H : Heap} {locs : List Loc} {cells slots : Nat} {Q : State → Prop}
variable {y x : MethodName} {bytes cc : ByteArray} {maxL nL mc ms MC MS n index : Nat} {ret : Option FieldType} {rt : FieldType} {rm : Room} {own C owner : String} {b ra : Nat} {As rest st : List Value} {pc : Nat} {ls : Array Slot}
variable {D : va_G} {ca : Nat → ClassId} {sl : List (String × Nat × String)} {w w0 : va_W} {A0 A : Nat → Prop}
theorem endr_b {S : Type} (u : S) {f : S → Nat → va_W} (hAe : va_A w0 s.heap.size = A) (hx : p.tables.exec = Jvm.exec) (hb : c.code = cc) (hr : meth.sig.returnType = some rt) (hrt : (∃ n, rt = .object n) ∨ ∃ t, rt = .array t) (hlocks : meth.locks = false) (hP : va_P D vwCl (f u ra) H) (hD : va_D A (f u ra)) (hS : va_S A s.heap H locs) (hdg : decode cc pc = .ok (.areturn, 1)) (hc : cells ≤ MC) (hs : slots ≤ MS) :
    W p l e Rm s m args below meth c H locs cells slots (MQ below (QRB f D w0 s.heap.size) args s MC MS A) (F0 m pc ls [.ref ra]) := by
  subst hAe
  exact W.widen hc hs (W.aret (v := .ref ra) hx hb hr hrt (Or.inr ⟨ra, rfl⟩) (fun t ht hW => ⟨⟨u, ra, rfl, trivial, by rw [ht]; exact hP, hD⟩, hS.F ht⟩) hS.2.2 hdg hlocks)
theorem zu_r {T : Type} {f : T → va_W} (hM : Met l y (wm y bytes maxL ret) rm (PREX (.ref b :: As) D ca sl w H.size) (QRU ra f D w H.size) mc ms (va_A w H.size)) (S : CallFix p m c cc nL s args WW own) (cw : va_CU Rm s args own C owner index x y bytes maxL ret (wm y bytes maxL ret) rm mc ms n)
    (hrecv : ∃ cellB : Cell, H[b]? = some cellB ∧ cellB.vm.isStatics = false ∧ s.vm.findClass C = some cellB.cls) (hE : EE D ca sl s) (hP : va_P D vwCl w H) (hD : va_D A0 w) (hS : va_S A0 s.heap H locs) (hA : ∀ q, s.heap.size ≤ q → A0 q) (hZ : ZZ A0 s s.heap)
    (hn : As.length = n) (hsize : ls.size = nL) (hst : st = As.reverse ++ .ref b :: rest) (hW : 2 * (F0 m pc ls st).monitorRoom + (rest.map fun v => v.category).sum ≤ 8) (hdg : decode cc pc = .ok (.invokevirtual index, 3)) (hf : cells + mc ≤ Rm.cells ∧ slots + ms ≤ Rm.slots)
    (kk : ∀ (u : T) (H1 : Heap) (locs1 : List Loc), va_P D vwCl (f u) H1 → va_D A0 (f u) → va_S A0 s.heap H1 locs1 → W p l e Rm s m args below meth c H1 locs1 (cells + mc) (slots + ms) Q (F0 m (pc + 3) ls (.ref ra :: rest))) : W p l e Rm s m args below meth c H locs cells slots Q (F0 m pc ls st) :=
  va_callr (va_runU S hM cw ⟨PREX_blind, hrecv, prex_ok hE hP hD hS hA hZ⟩ rfl hn hsize hst hW hdg hf) hS (fun q _ h => vaA_sub hD hS hA q h) (vaA_sub hD hS hA) (fun u r2 t H1 locs1 ht hvm hw hB hz1 hk1 hS1 => by
    obtain ⟨rfl, hB⟩ := hB
    obtain ⟨hP1, hD1⟩ := bw_ok hD hS hA ht hB
    exact kk u H1 locs1 hP1 hD1 hS1)
theorem zv_b {T : Type} {f : T → Nat → va_W} (hM : Met l y (wm y bytes maxL ret) rm (PREX (.ref b :: As) D ca sl w H.size) (QRB f D w H.size) mc ms (va_A w H.size)) (S : CallFix p m c cc nL s args WW own) (cw : CallW Rm s args own C index y bytes maxL ret (wm y bytes maxL ret) rm mc ms n)
    (hrecv : ∃ cellB : Cell, H[b]? = some cellB ∧ cellB.vm.isStatics = false ∧ s.vm.findClass C = some cellB.cls) (hE : EE D ca sl s) (hP : va_P D vwCl w H) (hD : va_D A0 w) (hS : va_S A0 s.heap H locs) (hA : ∀ q, s.heap.size ≤ q → A0 q) (hZ : ZZ A0 s s.heap)
    (hn : As.length = n) (hsize : ls.size = nL) (hst : st = As.reverse ++ .ref b :: rest) (hW : 2 * (F0 m pc ls st).monitorRoom + (rest.map fun v => v.category).sum ≤ 8) (hdg : decode cc pc = .ok (.invokevirtual index, 3)) (hf : cells + mc ≤ Rm.cells ∧ slots + ms ≤ Rm.slots)
    (kk : ∀ (u : T) (ra : Nat) (H1 : Heap) (locs1 : List Loc), va_P D vwCl (f u ra) H1 → va_D A0 (f u ra) → va_S A0 s.heap H1 locs1 → W p l e Rm s m args below meth c H1 locs1 (cells + mc) (slots + ms) Q (F0 m (pc + 3) ls (.ref ra :: rest))) : W p l e Rm s m args below meth c H locs cells slots Q (F0 m pc ls st) :=
  va_callr (va_runV S hM cw ⟨PREX_blind, hrecv, prex_ok hE hP hD hS hA hZ⟩ rfl hn hsize hst hW hdg hf) hS (fun q _ h => vaA_sub hD hS hA q h) (vaA_sub hD hS hA) (fun u r2 t H1 locs1 ht hvm hw hB hz1 hk1 hS1 => by
    obtain ⟨hP1, hD1⟩ := bw_ok hD hS hA ht hB
    exact kk u r2 H1 locs1 hP1 hD1 hS1)
theorem gO {idx : Nat} {cc : ByteArray} {r : Option FieldType} (h1 : Cond.methodLink own idx x ∈ WW) (h2 : Cond.sameMethod x.cls owner x.name x.desc ∈ WW) (h0 : Cond.instanceMethod ⟨owner, x.name, x.desc⟩ ∈ WW) (h3 : Cond.selects C x y ∈ WW) (h4 : Cond.instanceMethod y ∈ WW) (h5 : Cond.initialized y.cls ∈ WW) (h6 : Cond.code y cc n r ∈ WW) : GoodIn WW (va_wsO own idx C owner x y (wm y cc n r)) :=
  goodIn_app (gW fun w hw => by
    rcases List.mem_cons.mp hw with rfl | hw
    · exact h1
    rcases List.mem_cons.mp hw with rfl | hw
    · exact h2
    rcases List.mem_cons.mp hw with rfl | hw
    · exact h0
    rcases List.mem_cons.mp hw with rfl | hw
    · exact h3
    rcases List.mem_cons.mp hw with rfl | hw
    · exact h4
    rcases List.mem_cons.mp hw with rfl | hw
    · exact h5
    cases hw) (gM h6)
end TOS
theorem fit_cell {c : ClassId} {n : Nat} {f : Nat → Int32} (h : sb_Fit f) : ∀ (i : Nat) (v : Value), (vp_cell c (n, .inl f)).slots[i]? = some v → fits .byte v = true := by
  intro i v hv
  rw [vp_cell_i] at hv
  have hi : i < n := by
    have := (Array.getElem?_eq_some_iff.mp hv).1
    rwa [arrV_size] at this
  rw [arrV_read _ _ hi] at hv
  cases hv
  exact h i
theorem chkL_ok {n : Nat} (h : n < 2 ^ 31) : f_B_J7_checkLength_df160 0 (nI n) = some () := by
  unfold f_B_J7_checkLength_df160
  exact if_pos (nI_le (Nat.zero_le n) h)

set_option maxHeartbeats 4000000 in
set_option maxRecDepth 100000 in
theorem m_corb (l : Launch) {D : va_G} {sl : List (String × Nat × String)} (ca : Nat → ClassId) (aq bq : Nat) (jM : Int32) (R : va_W) (sz k z n : Nat) (B : Nat → Int32) (hz : n < z) (hz2 : z ≤ 100000) (hFit : sb_Fit B) : Met l yJ7_copyOfRangeByte_39247 (wm yJ7_copyOfRangeByte_39247 cJ7_copyOfRangeByte_39247 5 (some (.array .byte))) ({ frames := 1, cells := 1, slots := n, locals := 60 } : Room) (PREX [.ref bq, .int 0, .int (nI n)] D ca sl (WB ca aq bq jM (nI k) z B ++ R) sz) (QRN (fun ra => ([(aq, .inr (1, [.ref bq, .int 0, .int jM, .int (nI k)])), (bq, .inl (ca 3, z, .inl B)), (ra, .inl (ca 3, n, .inl (va_cpy B (fun _ => 0) 0 0 n)))] ++ R)) D (WB ca aq bq jM (nI k) z B ++ R) sz) 1 n (va_A (WB ca aq bq jM (nI k) z B ++ R) sz) := by
  refine Met.ofW (cc := cJ7_copyOfRangeByte_39247) (maxL := 5) (ret := (some (.array .byte))) (by decide) rfl ?_
  intro p e s m args below meth c s₁ B9 hml hv
  obtain ⟨rfl, rfl, hP, hE, hD0, hZ⟩ := hv
  have hx := B9.exec
  have hb := B9.bytes
  have hr := B9.returns
  have hts := wm_ww (atoms_spec (ws := wm yJ7_copyOfRangeByte_39247 cJ7_copyOfRangeByte_39247 5 (some (.array .byte))) B9.pre)
  have hown : s.vm.findClass RJ7 = some m.cls := findClass_of_methodNamed B9.named
  have hlocks := B9.notSynchronized
  have hK := hE.1
  have hD := hD0.self (sz := s.heap.size)
  generalize hAe : va_A (WB ca aq bq jM (nI k) z B ++ R) s.heap.size = A at hD hZ ⊢
  have hA : ∀ q : Nat, s.heap.size ≤ q → A q := fun q h => by rw [← hAe]; exact Or.inr h
  have hS : va_S A s.heap s.heap [] := va_S.rf
  have hl := lv_entry ([.ref bq, .int 0, .int (nI n)]) (n := 5) (Nat.le_of_ble_eq_true rfl)
  rw [lg_entry_eq]
  generalize (lg_sl ([.ref bq, .int 0, .int (nI n)]) ++ List.replicate (5 - (lg_sl ([.ref bq, .int 0, .int (nI n)])).length) Slot.unset).toArray = ls at hl ⊢
  have hl : lv_has ls 5 [(0, .ref bq), (1, .int 0), (2, .int (nI n))] := hl
  change W p l e ({ frames := 1, cells := 1, slots := n, locals := 60 } : Room) s m _ below meth c s.heap [] 0 0 _ _
  have hP : va_P D vwCl (WB ca aq bq jM (nI k) z B ++ R) s.heap := hP
  refine lv_iload_n hx hb dJ7_copyOfRangeByte_39247_0 rfl (lv_at hl 1 rfl) ?_
  refine lv_iload_n hx hb dJ7_copyOfRangeByte_39247_1 rfl (lv_at hl 2 rfl) ?_
  refine zs_v (rest := []) (m_B_J7_checkLength_df160 l ca _ _ 0 (nI n) (chkL_ok (by omega))) ⟨hx, hb, hml, hown, hts⟩ (va_cwS 2 hts (gS q1215 q1216 q43 q1217) rfl rfl rfl (by decide +kernel) ⟨Nat.le_of_ble_eq_true rfl, Nat.le_of_ble_eq_true rfl⟩) hE hP hD hS hA hZ rfl hl.1 rfl (lv_room (Nat.le_of_ble_eq_true rfl)) dJ7_copyOfRangeByte_39247_2 ⟨by show 0 + 0 ≤ 1; omega, by show 0 + 0 ≤ n; omega⟩ (fun H locs hP hD hS => ?_)
  refine lv_iload_n hx hb dJ7_copyOfRangeByte_39247_5 rfl (lv_at hl 2 rfl) ?_
  refine lv_iload_n hx hb dJ7_copyOfRangeByte_39247_6 rfl (lv_at hl 1 rfl) ?_
  refine lv_isub hx hb dJ7_copyOfRangeByte_39247_7 ?_
  rw [Int32.sub_zero]
  refine lv_istore_n (lv' := [(3, .int (nI n)), (0, .ref bq), (1, .int 0), (2, .int (nI n))]) hx hb dJ7_copyOfRangeByte_39247_8 rfl hl (by decide) rfl (fun ls hl => ?_)
  refine lv_iload_n hx hb dJ7_copyOfRangeByte_39247_9 rfl (lv_at hl 0 rfl) ?_
  refine va_newa (D := D) (atype := .byte) (N' := n) (a0 := (n, .inl (fun _ => 0))) hx hb (hts _ q200) rfl hK hP hD hS hA (fun _ => rfl) (nI_pos (by omega)) (nI_clamp (by omega)) (by show n * 1 ≤ 536870912; omega) (by show 0 + 0 + 1 ≤ 1; omega) (by show 0 + 0 + n ≤ n; omega) dJ7_copyOfRangeByte_39247_10 (fun ra cA H hK9 hP hD hS => ?_)
  obtain rfl := va_same hK9 3 rfl
  replace hP := va_P.swap hP
  replace hD := va_D.swap hD
  have hP : va_P D vwCl ([(aq, .inr (1, [.ref bq, .int 0, .int jM, .int (nI k)])), (bq, .inl (ca 3, z, .inl B)), (ra, .inl (ca 3, n, .inl (fun _ => 0)))] ++ R) H := hP
  have hD : va_D A ([(aq, .inr (1, [.ref bq, .int 0, .int jM, .int (nI k)])), (bq, .inl (ca 3, z, .inl B)), (ra, .inl (ca 3, n, .inl (fun _ => 0)))] ++ R) := hD
  refine lv_astore (lv' := [(4, .ref ra), (3, .int (nI n)), (0, .ref bq), (1, .int 0), (2, .int (nI n))]) hx hb dJ7_copyOfRangeByte_39247_12 hl (by decide) rfl (fun ls hl => ?_)
  refine lv_aload_n hx hb dJ7_copyOfRangeByte_39247_14 rfl (lv_at hl 2 rfl) ?_
  refine lv_iload_n hx hb dJ7_copyOfRangeByte_39247_15 rfl (lv_at hl 3 rfl) ?_
  refine lv_aload hx hb dJ7_copyOfRangeByte_39247_16 (lv_at hl 0 rfl) ?_
  refine lv_iconst (v := 0) hx hb dJ7_copyOfRangeByte_39247_18 (by decide) ?_
  refine lv_aload_n hx hb dJ7_copyOfRangeByte_39247_19 rfl (lv_at hl 2 rfl) ?_
  refine va_alen (D := D) (v := nI z) hx hb hK hP 1 3 rfl rfl rfl dJ7_copyOfRangeByte_39247_20 ?_
  refine lv_iload_n hx hb dJ7_copyOfRangeByte_39247_21 rfl (lv_at hl 3 rfl) ?_
  refine lv_isub hx hb dJ7_copyOfRangeByte_39247_22 ?_
  rw [Int32.sub_zero]
  refine lv_iload_n hx hb dJ7_copyOfRangeByte_39247_23 rfl (lv_at hl 1 rfl) ?_
  refine va_mmin hx hb (hml.trans hl.1.symm) hown (hts _ q1080) (hts _ q1081) (hts _ q61) (hts _ q1082) (Nat.le_of_ble_eq_true rfl) (Nat.le_of_ble_eq_true rfl) (by show 0 + 0 + 1 ≤ 1; omega) (by show 0 + 0 + n ≤ n; omega) dJ7_copyOfRangeByte_39247_24 ?_
  rw [if_pos ((nI_ltI (by omega) (by omega)).mpr hz)]
  refine va_copyi (D := D) (ty := .byte) hx hb (hml.trans hl.1.symm) hown (hts _ q1083) (hts _ q269) (hts _ q268) (hts _ q63) hK hP hD hS 1 2 3 3 rfl rfl rfl rfl rfl (by decide) (by decide) (nI_pos (by omega)) (by rw [nI_clamp (by omega)]; show 0 + n ≤ z; omega) (by rw [nI_clamp (by omega)]; show 0 + n ≤ n; omega) (fun i _ => hFit _) (Nat.le_of_ble_eq_true rfl) (Nat.le_of_ble_eq_true rfl) dJ7_copyOfRangeByte_39247_27 (fun H locs hP hD hS => ?_)
  rw [nI_clamp (by omega)] at hP hD
  have hP : va_P D vwCl ([(aq, .inr (1, [.ref bq, .int 0, .int jM, .int (nI k)])), (bq, .inl (ca 3, z, .inl B)), (ra, .inl (ca 3, n, .inl (va_cpy B (fun _ => 0) 0 0 n)))] ++ R) H := hP
  have hD : va_D A ([(aq, .inr (1, [.ref bq, .int 0, .int jM, .int (nI k)])), (bq, .inl (ca 3, z, .inl B)), (ra, .inl (ca 3, n, .inl (va_cpy B (fun _ => 0) 0 0 n)))] ++ R) := hD
  refine lv_aload hx hb dJ7_copyOfRangeByte_39247_30 (lv_at hl 0 rfl) ?_
  refine endr_n (f := fun ra => ([(aq, .inr (1, [.ref bq, .int 0, .int jM, .int (nI k)])), (bq, .inl (ca 3, z, .inl B)), (ra, .inl (ca 3, n, .inl (va_cpy B (fun _ => 0) 0 0 n)))] ++ R)) hAe hx hb hr (Or.inr ⟨_, rfl⟩) hlocks hP hD hS dJ7_copyOfRangeByte_39247_32 ?_ ?_
  · show 0 + 0 + 1 ≤ 1; omega
  · show 0 + 0 + n ≤ n; omega
set_option maxHeartbeats 4000000 in
set_option maxRecDepth 100000 in
theorem m_cor (l : Launch) {D : va_G} {sl : List (String × Nat × String)} (ca : Nat → ClassId) (aq bq : Nat) (jM : Int32) (R : va_W) (sz k z n : Nat) (B : Nat → Int32) (hz : n ≤ z) (hz2 : z ≤ 100000) (hFit : sb_Fit B) : Met l yJ7_copyOfRange_39247 (wm yJ7_copyOfRange_39247 cJ7_copyOfRange_39247 3 (some (.array .byte))) ({ frames := 2, cells := 1, slots := n, locals := 100 } : Room) (PREX [.ref bq, .int 0, .int (nI n)] D ca sl (WB ca aq bq jM (nI k) z B ++ R) sz) (QRN (fun ra => ([(aq, .inr (1, [.ref bq, .int 0, .int jM, .int (nI k)])), (bq, .inl (ca 3, z, .inl B)), (ra, .inl (ca 3, n, .inl (cpR n z B)))] ++ R)) D (WB ca aq bq jM (nI k) z B ++ R) sz) 1 n (va_A (WB ca aq bq jM (nI k) z B ++ R) sz) := by
  refine Met.ofW (cc := cJ7_copyOfRange_39247) (maxL := 3) (ret := (some (.array .byte))) (by decide) rfl ?_
  intro p e s m args below meth c s₁ B9 hml hv
  obtain ⟨rfl, rfl, hP, hE, hD0, hZ⟩ := hv
  have hx := B9.exec
  have hb := B9.bytes
  have hr := B9.returns
  have hts := wm_ww (atoms_spec (ws := wm yJ7_copyOfRange_39247 cJ7_copyOfRange_39247 3 (some (.array .byte))) B9.pre)
  have hown : s.vm.findClass RJ7 = some m.cls := findClass_of_methodNamed B9.named
  have hlocks := B9.notSynchronized
  have hK := hE.1
  have hD := hD0.self (sz := s.heap.size)
  generalize hAe : va_A (WB ca aq bq jM (nI k) z B ++ R) s.heap.size = A at hD hZ ⊢
  have hA : ∀ q : Nat, s.heap.size ≤ q → A q := fun q h => by rw [← hAe]; exact Or.inr h
  have hS : va_S A s.heap s.heap [] := va_S.rf
  have hl := lv_entry ([.ref bq, .int 0, .int (nI n)]) (n := 3) (Nat.le_of_ble_eq_true rfl)
  rw [lg_entry_eq]
  generalize (lg_sl ([.ref bq, .int 0, .int (nI n)]) ++ List.replicate (3 - (lg_sl ([.ref bq, .int 0, .int (nI n)])).length) Slot.unset).toArray = ls at hl ⊢
  have hl : lv_has ls 3 [(0, .ref bq), (1, .int 0), (2, .int (nI n))] := hl
  change W p l e ({ frames := 2, cells := 1, slots := n, locals := 100 } : Room) s m _ below meth c s.heap [] 0 0 _ _
  have hP : va_P D vwCl (WB ca aq bq jM (nI k) z B ++ R) s.heap := hP
  refine lv_iload_n hx hb dJ7_copyOfRange_39247_0 rfl (lv_at hl 1 rfl) ?_
  refine lv_if_ne (tgt := 10) hx hb dJ7_copyOfRange_39247_1 (by decide) (fun c1 => absurd rfl c1) (fun c1 => ?_)
  refine lv_iload_n hx hb dJ7_copyOfRange_39247_4 rfl (lv_at hl 2 rfl) ?_
  refine lv_aload_n hx hb dJ7_copyOfRange_39247_5 rfl (lv_at hl 0 rfl) ?_
  refine va_alen (D := D) (v := nI z) hx hb hK hP 1 3 rfl rfl rfl dJ7_copyOfRange_39247_6 ?_
  refine lv_icmp_eq (tgt := 17) hx hb dJ7_copyOfRange_39247_7 (by decide) (fun c2 => ?_) (fun c2 => ?_)
  · have e0 : n = z := (nI_eq (by omega) (by omega)).mp c2
    have e1 : cpR n z B = B := if_pos e0
    have hnm : s.vm.findClass "[B" = some (ca 3) := (hK.2 3 (ca 3, .byte) rfl).2
    refine lv_aload_n hx hb dJ7_copyOfRange_39247_17 rfl (lv_at hl 0 rfl) ?_
    refine va_clone hx hb (hml.trans hl.1.symm) hown (hts _ q1073) (hts _ q1074) (hts _ q1075) (hts _ q1076) (hts _ q1077) (hE.2.1 _ n1078) hK hP hD hS hA 1 3 rfl rfl hnm (fit_cell hFit) (Nat.le_of_ble_eq_true rfl) (Nat.le_of_ble_eq_true rfl) (by show 0 + 1 ≤ 1; omega) (by show 0 + z ≤ n; omega) dJ7_copyOfRange_39247_18 (fun ra H hK9 hP hD hS => ?_)
    replace hP := va_P.swap hP
    replace hD := va_D.swap hD
    have hP : va_P D vwCl ([(aq, .inr (1, [.ref bq, .int 0, .int jM, .int (nI k)])), (bq, .inl (ca 3, z, .inl B)), (ra, .inl (ca 3, n, .inl (cpR n z B)))] ++ R) H := by rw [e1, e0]; exact hP
    have hD : va_D A ([(aq, .inr (1, [.ref bq, .int 0, .int jM, .int (nI k)])), (bq, .inl (ca 3, z, .inl B)), (ra, .inl (ca 3, n, .inl (cpR n z B)))] ++ R) := by rw [e1, e0]; exact hD
    refine va_castA (D := D) (nm := "[B") hx hb hown (hts _ q1079) hP 2 rfl hnm dJ7_copyOfRange_39247_21 ?_
    refine endr_n (f := fun ra => ([(aq, .inr (1, [.ref bq, .int 0, .int jM, .int (nI k)])), (bq, .inl (ca 3, z, .inl B)), (ra, .inl (ca 3, n, .inl (cpR n z B)))] ++ R)) hAe hx hb hr (Or.inr ⟨_, rfl⟩) hlocks hP hD hS dJ7_copyOfRange_39247_24 ?_ ?_
    · show 0 + 1 ≤ 1; omega
    · show 0 + z ≤ n; omega
  · have e0 : n ≠ z := fun h => c2 (by rw [h])
    have e1 : cpR n z B = va_cpy B (fun _ => 0) 0 0 n := if_neg e0
    refine lv_aload_n hx hb dJ7_copyOfRange_39247_10 rfl (lv_at hl 0 rfl) ?_
    refine lv_iload_n hx hb dJ7_copyOfRange_39247_11 rfl (lv_at hl 1 rfl) ?_
    refine lv_iload_n hx hb dJ7_copyOfRange_39247_12 rfl (lv_at hl 2 rfl) ?_
    refine zs_rn (rest := []) (m_corb l ca aq bq jM R _ k z n B (by omega) hz2 hFit) ⟨hx, hb, hml, hown, hts⟩ (va_cwS 3 hts (gS q1212 q1213 q43 q1214) rfl rfl rfl (by decide +kernel) ⟨Nat.le_of_ble_eq_true rfl, Nat.le_of_ble_eq_true rfl⟩) hE hP hD hS hA hZ rfl hl.1 rfl (lv_room (Nat.le_of_ble_eq_true rfl)) dJ7_copyOfRange_39247_13 ⟨by show 0 + 1 ≤ 1; omega, by show 0 + n ≤ n; omega⟩ (fun ra H locs hP hD hS => ?_)
    have hP : va_P D vwCl ([(aq, .inr (1, [.ref bq, .int 0, .int jM, .int (nI k)])), (bq, .inl (ca 3, z, .inl B)), (ra, .inl (ca 3, n, .inl (cpR n z B)))] ++ R) H := by rw [e1]; exact hP
    have hD : va_D A ([(aq, .inr (1, [.ref bq, .int 0, .int jM, .int (nI k)])), (bq, .inl (ca 3, z, .inl B)), (ra, .inl (ca 3, n, .inl (cpR n z B)))] ++ R) := by rw [e1]; exact hD
    refine endr_n (f := fun ra => ([(aq, .inr (1, [.ref bq, .int 0, .int jM, .int (nI k)])), (bq, .inl (ca 3, z, .inl B)), (ra, .inl (ca 3, n, .inl (cpR n z B)))] ++ R)) hAe hx hb hr (Or.inr ⟨_, rfl⟩) hlocks hP hD hS dJ7_copyOfRange_39247_16 ?_ ?_
    · show 0 + 1 ≤ 1; omega
    · show 0 + n ≤ n; omega
set_option maxHeartbeats 4000000 in
set_option maxRecDepth 100000 in
theorem m_getValue (l : Launch) {D : va_G} {sl : List (String × Nat × String)} (ca : Nat → ClassId) (aq bq : Nat) (jM : Int32) (R : va_W) (sz k z : Nat) (B : Nat → Int32) : Met l yJ5_getValue_6d5f1 (wm yJ5_getValue_6d5f1 cJ5_getValue_6d5f1 1 (some (.array .byte))) ({ frames := 0, cells := 0, slots := 0, locals := 0 } : Room) (PREX [.ref aq] D ca sl (WB ca aq bq jM (nI k) z B ++ R) sz) (QRU bq (fun _ : Unit => (WB ca aq bq jM (nI k) z B ++ R)) D (WB ca aq bq jM (nI k) z B ++ R) sz) 0 0 (va_A (WB ca aq bq jM (nI k) z B ++ R) sz) := by
  refine Met.ofW (cc := cJ5_getValue_6d5f1) (maxL := 1) (ret := (some (.array .byte))) (by decide) rfl ?_
  intro p e s m args below meth c s₁ B9 hml hv
  obtain ⟨rfl, rfl, hP, hE, hD0, hZ⟩ := hv
  have hx := B9.exec
  have hb := B9.bytes
  have hr := B9.returns
  have hts := wm_ww (atoms_spec (ws := wm yJ5_getValue_6d5f1 cJ5_getValue_6d5f1 1 (some (.array .byte))) B9.pre)
  have hown : s.vm.findClass RJ5 = some m.cls := findClass_of_methodNamed B9.named
  have hlocks := B9.notSynchronized
  have hK := hE.1
  have hD := hD0.self (sz := s.heap.size)
  generalize hAe : va_A (WB ca aq bq jM (nI k) z B ++ R) s.heap.size = A at hD hZ ⊢
  have hA : ∀ q : Nat, s.heap.size ≤ q → A q := fun q h => by rw [← hAe]; exact Or.inr h
  have hS : va_S A s.heap s.heap [] := va_S.rf
  have hl := lv_entry ([.ref aq]) (n := 1) (Nat.le_of_ble_eq_true rfl)
  rw [lg_entry_eq]
  generalize (lg_sl ([.ref aq]) ++ List.replicate (1 - (lg_sl ([.ref aq])).length) Slot.unset).toArray = ls at hl ⊢
  have hl : lv_has ls 1 [(0, .ref aq)] := hl
  change W p l e ({ frames := 0, cells := 0, slots := 0, locals := 0 } : Room) s m _ below meth c s.heap [] 0 0 _ _
  have hP : va_P D vwCl (WB ca aq bq jM (nI k) z B ++ R) s.heap := hP
  refine lv_aload_n hx hb dJ5_getValue_6d5f1_0 rfl (lv_at hl 0 rfl) ?_
  refine va_get (D := D) (ci := 1) (v := .ref bq) (C := RJ4) (T := TJ4) (N := 4) hx hb hts inJ4 hown hK hP 0 rfl rfl 0 (by decide) (hts _ q186) (fun _ h9 => h9) rfl dJ5_getValue_6d5f1_1 ?_
  exact endr_u (f := fun _ : Unit => (WB ca aq bq jM (nI k) z B ++ R)) () hAe hx hb hr (Or.inr ⟨_, rfl⟩) hlocks hP hD hS dJ5_getValue_6d5f1_4 (Nat.le_of_ble_eq_true rfl) (Nat.le_of_ble_eq_true rfl)
set_option maxHeartbeats 4000000 in
set_option maxRecDepth 100000 in
theorem c_str2 (l : Launch) {D : va_G} {sl : List (String × Nat × String)} (ca : Nat → ClassId) (aq bq : Nat) (jM : Int32) (h0 : Nat) (R : va_W) (sz k z : Nat) (B : Nat → Int32) (hz : k ≤ z) (hz2 : z ≤ 100000) (hFit : sb_Fit B) : Met l yJ0_init_db425 (wm yJ0_init_db425 cJ0_init_db425 5 none) ({ frames := 3, cells := 1, slots := k, locals := 160 } : Room) (PREX [.ref h0, .ref aq, .null] D ca sl (WB ca aq bq jM (nI k) z B ++ ([(h0, .inr (0, [.null, .int 0, .int 0, .int 0]))] ++ R)) sz) (QU (fun ra : Nat => ([(aq, .inr (1, [.ref bq, .int 0, .int jM, .int (nI k)])), (bq, .inl (ca 3, z, .inl B)), (ra, .inl (ca 3, k, .inl (cpR k z B)))] ++ ([(h0, .inr (0, [.ref ra, .int 0, .int 0, .int 0]))] ++ R))) D (WB ca aq bq jM (nI k) z B ++ ([(h0, .inr (0, [.null, .int 0, .int 0, .int 0]))] ++ R)) sz) 1 k (va_A (WB ca aq bq jM (nI k) z B ++ ([(h0, .inr (0, [.null, .int 0, .int 0, .int 0]))] ++ R)) sz) := by
  refine Met.ofW (cc := cJ0_init_db425) (maxL := 5) (ret := none) (by decide) rfl ?_
  intro p e s m args below meth c s₁ B9 hml hv
  obtain ⟨rfl, rfl, hP, hE, hD0, hZ⟩ := hv
  have hx := B9.exec
  have hb := B9.bytes
  have hr := B9.returns
  have hts := wm_ww (atoms_spec (ws := wm yJ0_init_db425 cJ0_init_db425 5 none) B9.pre)
  have hown : s.vm.findClass RJ0 = some m.cls := findClass_of_methodNamed B9.named
  have hlocks := B9.notSynchronized
  have hK := hE.1
  have hD := hD0.self (sz := s.heap.size)
  generalize hAe : va_A (WB ca aq bq jM (nI k) z B ++ ([(h0, .inr (0, [.null, .int 0, .int 0, .int 0]))] ++ R)) s.heap.size = A at hD hZ ⊢
  have hA : ∀ q : Nat, s.heap.size ≤ q → A q := fun q h => by rw [← hAe]; exact Or.inr h
  have hS : va_S A s.heap s.heap [] := va_S.rf
  have hl := lv_entry ([.ref h0, .ref aq, .null]) (n := 5) (Nat.le_of_ble_eq_true rfl)
  rw [lg_entry_eq]
  generalize (lg_sl ([.ref h0, .ref aq, .null]) ++ List.replicate (5 - (lg_sl ([.ref h0, .ref aq, .null])).length) Slot.unset).toArray = ls at hl ⊢
  have hl : lv_has ls 5 [(0, .ref h0), (1, .ref aq), (2, .null)] := hl
  change W p l e ({ frames := 3, cells := 1, slots := k, locals := 160 } : Room) s m _ below meth c s.heap [] 0 0 _ _
  have hP : va_P D vwCl (WB ca aq bq jM (nI k) z B ++ ([(h0, .inr (0, [.null, .int 0, .int 0, .int 0]))] ++ R)) s.heap := hP
  have hin : meth.name = "<init>" := (name_of_methodNamed B9.named B9.method).1
  refine lv_aload_n hx hb dJ0_init_db425_0 rfl (lv_at hl 0 rfl) ?_
  refine W.objInit hx hb hown (hts _ q1194) (hts _ q76) (hts _ q77) rfl (by rw [hml]; exact hl.1) rfl dJ0_init_db425_1 (Nat.le_of_ble_eq_true rfl) (Nat.le_of_ble_eq_true rfl) ?_
  refine W.eq (g2 := F0 m 4 ls []) rfl ?_
  refine lv_aload_n hx hb dJ0_init_db425_4 rfl (lv_at hl 1 rfl) ?_
  refine zu_r (rest := []) (m_getValue l ca aq bq jM _ _ k z B) ⟨hx, hb, hml, hown, hts⟩ (va_cwU 0 hts (gU q1195 q1197 q1198 q1196 q46 q1199) rfl rfl rfl rfl (by decide +kernel) ⟨Nat.le_of_ble_eq_true rfl, Nat.le_of_ble_eq_true rfl⟩) (va_recv hK hP (ci := 1) (q0 := 0) rfl rfl) hE hP hD hS hA hZ rfl hl.1 rfl (lv_room (Nat.le_of_ble_eq_true rfl)) dJ0_init_db425_5 ⟨by show 0 + 0 ≤ 1; omega, by show 0 + 0 ≤ k; omega⟩ (fun _ H locs hP hD hS => ?_)
  refine lv_astore_n (lv' := [(3, .ref bq), (0, .ref h0), (1, .ref aq), (2, .null)]) hx hb dJ0_init_db425_8 rfl hl (by decide) rfl (fun ls hl => ?_)
  refine lv_aload_n hx hb dJ0_init_db425_9 rfl (lv_at hl 2 rfl) ?_
  refine zu_i (rest := []) (m_B_J4_length_8abf5 l ca aq bq jM (nI k) z B _ _ (nI k) rfl) ⟨hx, hb, hml, hown, hts⟩ (va_cwO 0 hts (gO q1200 q1202 q1201 q1203 q1204 q47 q1205) rfl rfl rfl q1207 (by decide +kernel) ⟨Nat.le_of_ble_eq_true rfl, Nat.le_of_ble_eq_true rfl⟩) (va_recv hK hP (ci := 1) (q0 := 0) rfl rfl) hE hP hD hS hA hZ rfl hl.1 rfl (lv_room (Nat.le_of_ble_eq_true rfl)) dJ0_init_db425_10 ⟨by show 0 + 0 + 0 ≤ 1; omega, by show 0 + 0 + 0 ≤ k; omega⟩ (fun H locs hP hD hS => ?_)
  refine lv_istore (lv' := [(4, .int (nI k)), (3, .ref bq), (0, .ref h0), (1, .ref aq), (2, .null)]) hx hb dJ0_init_db425_13 hl (by decide) rfl (fun ls hl => ?_)
  refine lv_aload_n hx hb dJ0_init_db425_15 rfl (lv_at hl 3 rfl) ?_
  refine zu_i (rest := []) (m_B_J5_isLatin1_aae02 l ca aq bq jM (nI k) z B _ _ 1 rfl) ⟨hx, hb, hml, hown, hts⟩ (va_cwU 0 hts (gU q1208 q1086 q1087 q1085 q46 q1088) rfl rfl rfl rfl (by decide +kernel) ⟨Nat.le_of_ble_eq_true rfl, Nat.le_of_ble_eq_true rfl⟩) (va_recv hK hP (ci := 1) (q0 := 0) rfl rfl) hE hP hD hS hA hZ rfl hl.1 rfl (lv_room (Nat.le_of_ble_eq_true rfl)) dJ0_init_db425_16 ⟨by show 0 + 0 + 0 + 0 ≤ 1; omega, by show 0 + 0 + 0 + 0 ≤ k; omega⟩ (fun H locs hP hD hS => ?_)
  refine lv_if_eq (tgt := 41) hx hb dJ0_init_db425_19 (by decide) (fun c1 => absurd c1 (by decide)) (fun c1 => ?_)
  refine lv_aload_n hx hb dJ0_init_db425_22 rfl (lv_at hl 2 rfl) ?_
  refine lv_iconst (v := 0) hx hb dJ0_init_db425_23 (by decide) ?_
  refine va_putF (D := D) (ci := 0) (v := .int 0) (ty := .byte) (C := RJ0) (T := TJ0) (N := 4) hx hb hts inJ0 tyJ0 tyJ0_ok nmJ0 hown hK hP hD hS 2 rfl rfl 1 (by decide) (hts _ q1240) (fun _ h9 => h9) rfl hin rfl (by decide +kernel) rfl rfl (Nat.le_of_ble_eq_true rfl) dJ0_init_db425_24 (fun H locs hP hD hS => ?_)
  have hP : va_P D vwCl (WB ca aq bq jM (nI k) z B ++ ([(h0, .inr (0, [.null, .int 0, .int 0, .int 0]))] ++ R)) H := hP
  have hD : va_D A (WB ca aq bq jM (nI k) z B ++ ([(h0, .inr (0, [.null, .int 0, .int 0, .int 0]))] ++ R)) := hD
  refine lv_aload_n hx hb dJ0_init_db425_27 rfl (lv_at hl 2 rfl) ?_
  refine lv_aload_n hx hb dJ0_init_db425_28 rfl (lv_at hl 1 rfl) ?_
  refine lv_iconst (v := 0) hx hb dJ0_init_db425_29 (by decide) ?_
  refine lv_iload hx hb dJ0_init_db425_30 (lv_at hl 0 rfl) ?_
  refine zs_rn (rest := [.ref h0]) (m_cor l ca aq bq jM _ _ k z k B hz hz2 hFit) ⟨hx, hb, hml, hown, hts⟩ (va_cwS 3 hts (gS q1209 q1210 q43 q1211) rfl rfl rfl (by decide +kernel) ⟨Nat.le_of_ble_eq_true rfl, Nat.le_of_ble_eq_true rfl⟩) hE hP hD hS hA hZ rfl hl.1 rfl (lv_room (Nat.le_of_ble_eq_true rfl)) dJ0_init_db425_32 ⟨by show 0 + 0 + 0 + 0 + 1 ≤ 1; omega, by show 0 + 0 + 0 + 0 + k ≤ k; omega⟩ (fun ra H locs hP hD hS => ?_)
  have hP : va_P D vwCl ([(aq, .inr (1, [.ref bq, .int 0, .int jM, .int (nI k)])), (bq, .inl (ca 3, z, .inl B)), (ra, .inl (ca 3, k, .inl (cpR k z B)))] ++ ([(h0, .inr (0, [.null, .int 0, .int 0, .int 0]))] ++ R)) H := hP
  have hD : va_D A ([(aq, .inr (1, [.ref bq, .int 0, .int jM, .int (nI k)])), (bq, .inl (ca 3, z, .inl B)), (ra, .inl (ca 3, k, .inl (cpR k z B)))] ++ ([(h0, .inr (0, [.null, .int 0, .int 0, .int 0]))] ++ R)) := hD
  refine va_putF (D := D) (ci := 0) (v := .ref ra) (ty := (.array .byte)) (C := RJ0) (T := TJ0) (N := 4) hx hb hts inJ0 tyJ0 tyJ0_ok nmJ0 hown hK hP hD hS 3 rfl rfl 0 (by decide) (hts _ q1239) (fun _ h9 => h9) rfl hin rfl (by decide +kernel) rfl rfl (Nat.le_of_ble_eq_true rfl) dJ0_init_db425_35 (fun H locs hP hD hS => ?_)
  have hP : va_P D vwCl ([(aq, .inr (1, [.ref bq, .int 0, .int jM, .int (nI k)])), (bq, .inl (ca 3, z, .inl B)), (ra, .inl (ca 3, k, .inl (cpR k z B)))] ++ ([(h0, .inr (0, [.ref ra, .int 0, .int 0, .int 0]))] ++ R)) H := hP
  have hD : va_D A ([(aq, .inr (1, [.ref bq, .int 0, .int jM, .int (nI k)])), (bq, .inl (ca 3, z, .inl B)), (ra, .inl (ca 3, k, .inl (cpR k z B)))] ++ ([(h0, .inr (0, [.ref ra, .int 0, .int 0, .int 0]))] ++ R)) := hD
  refine lv_goto (tgt := 97) hx hb dJ0_init_db425_38 (by decide) ?_
  refine endu_v (f := (fun ra : Nat => ([(aq, .inr (1, [.ref bq, .int 0, .int jM, .int (nI k)])), (bq, .inl (ca 3, z, .inl B)), (ra, .inl (ca 3, k, .inl (cpR k z B)))] ++ ([(h0, .inr (0, [.ref ra, .int 0, .int 0, .int 0]))] ++ R)))) ra hAe hx hb hr hlocks hP hD hS dJ0_init_db425_97 ?_ ?_
  · show 0 + 0 + 0 + 0 + 1 ≤ 1; omega
  · show 0 + 0 + 0 + 0 + k ≤ k; omega
set_option maxHeartbeats 4000000 in
set_option maxRecDepth 100000 in
theorem c_str1 (l : Launch) {D : va_G} {sl : List (String × Nat × String)} (ca : Nat → ClassId) (aq bq : Nat) (jM : Int32) (h0 : Nat) (R : va_W) (sz k z : Nat) (B : Nat → Int32) (hz : k ≤ z) (hz2 : z ≤ 100000) (hFit : sb_Fit B) : Met l yJ0_init_81219 (wm yJ0_init_81219 cJ0_init_81219 2 none) ({ frames := 4, cells := 1, slots := k, locals := 220 } : Room) (PREX [.ref h0, .ref aq] D ca sl (WB ca aq bq jM (nI k) z B ++ ([(h0, .inr (0, [.null, .int 0, .int 0, .int 0]))] ++ R)) sz) (QU (fun ra : Nat => ([(aq, .inr (1, [.ref bq, .int 0, .int jM, .int (nI k)])), (bq, .inl (ca 3, z, .inl B)), (ra, .inl (ca 3, k, .inl (cpR k z B)))] ++ ([(h0, .inr (0, [.ref ra, .int 0, .int 0, .int 0]))] ++ R))) D (WB ca aq bq jM (nI k) z B ++ ([(h0, .inr (0, [.null, .int 0, .int 0, .int 0]))] ++ R)) sz) 1 k (va_A (WB ca aq bq jM (nI k) z B ++ ([(h0, .inr (0, [.null, .int 0, .int 0, .int 0]))] ++ R)) sz) := by
  refine Met.ofW (cc := cJ0_init_81219) (maxL := 2) (ret := none) (by decide) rfl ?_
  intro p e s m args below meth c s₁ B9 hml hv
  obtain ⟨rfl, rfl, hP, hE, hD0, hZ⟩ := hv
  have hx := B9.exec
  have hb := B9.bytes
  have hr := B9.returns
  have hts := wm_ww (atoms_spec (ws := wm yJ0_init_81219 cJ0_init_81219 2 none) B9.pre)
  have hown : s.vm.findClass RJ0 = some m.cls := findClass_of_methodNamed B9.named
  have hlocks := B9.notSynchronized
  have hK := hE.1
  have hD := hD0.self (sz := s.heap.size)
  generalize hAe : va_A (WB ca aq bq jM (nI k) z B ++ ([(h0, .inr (0, [.null, .int 0, .int 0, .int 0]))] ++ R)) s.heap.size = A at hD hZ ⊢
  have hA : ∀ q : Nat, s.heap.size ≤ q → A q := fun q h => by rw [← hAe]; exact Or.inr h
  have hS : va_S A s.heap s.heap [] := va_S.rf
  have hl := lv_entry ([.ref h0, .ref aq]) (n := 2) (Nat.le_of_ble_eq_true rfl)
  rw [lg_entry_eq]
  generalize (lg_sl ([.ref h0, .ref aq]) ++ List.replicate (2 - (lg_sl ([.ref h0, .ref aq])).length) Slot.unset).toArray = ls at hl ⊢
  have hl : lv_has ls 2 [(0, .ref h0), (1, .ref aq)] := hl
  change W p l e ({ frames := 4, cells := 1, slots := k, locals := 220 } : Room) s m _ below meth c s.heap [] 0 0 _ _
  have hP : va_P D vwCl (WB ca aq bq jM (nI k) z B ++ ([(h0, .inr (0, [.null, .int 0, .int 0, .int 0]))] ++ R)) s.heap := hP
  refine lv_aload_n hx hb dJ0_init_81219_0 rfl (lv_at hl 0 rfl) ?_
  refine lv_aload_n hx hb dJ0_init_81219_1 rfl (lv_at hl 1 rfl) ?_
  refine lv_null hx hb dJ0_init_81219_2 ?_
  refine zi_u (rest := []) (c_str2 l ca aq bq jM h0 R _ k z B hz hz2 hFit) ⟨hx, hb, hml, hown, hts⟩ (cwI 2 hts (gM q1193) rfl rfl rfl (hts _ q48) (hts _ q1191) (hts _ q1192) rfl (by decide +kernel) ⟨Nat.le_of_ble_eq_true rfl, Nat.le_of_ble_eq_true rfl⟩) hE hP hD hS hA hZ rfl hl.1 rfl (lv_room (Nat.le_of_ble_eq_true rfl)) dJ0_init_81219_3 ⟨by show 0 + 1 ≤ 1; omega, by show 0 + k ≤ k; omega⟩ (fun ra H locs hP hD hS => ?_)
  refine endu_v (f := (fun ra : Nat => ([(aq, .inr (1, [.ref bq, .int 0, .int jM, .int (nI k)])), (bq, .inl (ca 3, z, .inl B)), (ra, .inl (ca 3, k, .inl (cpR k z B)))] ++ ([(h0, .inr (0, [.ref ra, .int 0, .int 0, .int 0]))] ++ R)))) ra hAe hx hb hr hlocks hP hD hS dJ0_init_81219_6 ?_ ?_
  · show 0 + 1 ≤ 1; omega
  · show 0 + k ≤ k; omega
set_option maxHeartbeats 4000000 in
set_option maxRecDepth 100000 in
theorem m_toString (l : Launch) {D : va_G} {sl : List (String × Nat × String)} (ca : Nat → ClassId) (aq bq : Nat) (jM : Int32) (R : va_W) (sz k z : Nat) (B : Nat → Int32) (hz : k ≤ z) (hz2 : z ≤ 100000) (hFit : sb_Fit B) : Met l yJ4_toString_0e30d (wm yJ4_toString_0e30d cJ4_toString_0e30d 1 (some (.object "java/lang/String"))) ({ frames := 5, cells := 2, slots := k + 4, locals := 280 } : Room) (PREX [.ref aq] D ca sl (WB ca aq bq jM (nI k) z B ++ R) sz) (QRB (fun (ra : Nat) (h0 : Nat) => ([(aq, .inr (1, [.ref bq, .int 0, .int jM, .int (nI k)])), (bq, .inl (ca 3, z, .inl B)), (ra, .inl (ca 3, k, .inl (cpR k z B)))] ++ ([(h0, .inr (0, [.ref ra, .int 0, .int 0, .int 0]))] ++ R))) D (WB ca aq bq jM (nI k) z B ++ R) sz) 2 (k + 4) (va_A (WB ca aq bq jM (nI k) z B ++ R) sz) := by
  refine Met.ofW (cc := cJ4_toString_0e30d) (maxL := 1) (ret := (some (.object "java/lang/String"))) (by decide) rfl ?_
  intro p e s m args below meth c s₁ B9 hml hv
  obtain ⟨rfl, rfl, hP, hE, hD0, hZ⟩ := hv
  have hx := B9.exec
  have hb := B9.bytes
  have hr := B9.returns
  have hts := wm_ww (atoms_spec (ws := wm yJ4_toString_0e30d cJ4_toString_0e30d 1 (some (.object "java/lang/String"))) B9.pre)
  have hown : s.vm.findClass RJ4 = some m.cls := findClass_of_methodNamed B9.named
  have hlocks := B9.notSynchronized
  have hK := hE.1
  have hD := hD0.self (sz := s.heap.size)
  generalize hAe : va_A (WB ca aq bq jM (nI k) z B ++ R) s.heap.size = A at hD hZ ⊢
  have hA : ∀ q : Nat, s.heap.size ≤ q → A q := fun q h => by rw [← hAe]; exact Or.inr h
  have hS : va_S A s.heap s.heap [] := va_S.rf
  have hl := lv_entry ([.ref aq]) (n := 1) (Nat.le_of_ble_eq_true rfl)
  rw [lg_entry_eq]
  generalize (lg_sl ([.ref aq]) ++ List.replicate (1 - (lg_sl ([.ref aq])).length) Slot.unset).toArray = ls at hl ⊢
  have hl : lv_has ls 1 [(0, .ref aq)] := hl
  change W p l e ({ frames := 5, cells := 2, slots := k + 4, locals := 280 } : Room) s m _ below meth c s.heap [] 0 0 _ _
  have hP : va_P D vwCl (WB ca aq bq jM (nI k) z B ++ R) s.heap := hP
  refine va_new (D := D) (ci := 0) (fs := [.null, .int 0, .int 0, .int 0]) (C := RJ0) (T := TJ0) (N := 4) hx hb hts inJ0 tyJ0 tyJ0_ok hown (hts _ q1187) (hts _ q477) (hts _ q48) hK hP hD hS hA rfl (fun j hj => by match j, hj with | 0, _ => rfl | 1, _ => rfl | 2, _ => rfl | 3, _ => rfl) (by show 0 + 1 ≤ 2; omega) (by show 0 + 4 ≤ k + 4; omega) dJ4_toString_0e30d_0 (fun h0 H hP hD hS => ?_)
  replace hP := va_P.swap hP
  replace hD := va_D.swap hD
  have hP : va_P D vwCl (WB ca aq bq jM (nI k) z B ++ ([(h0, .inr (0, [.null, .int 0, .int 0, .int 0]))] ++ R)) H := hP
  have hD : va_D A (WB ca aq bq jM (nI k) z B ++ ([(h0, .inr (0, [.null, .int 0, .int 0, .int 0]))] ++ R)) := hD
  refine lv_dup hx hb dJ4_toString_0e30d_3 rfl ?_
  refine lv_aload_n hx hb dJ4_toString_0e30d_4 rfl (lv_at hl 0 rfl) ?_
  refine zi_u (rest := [.ref h0]) (c_str1 l ca aq bq jM h0 R _ k z B hz hz2 hFit) ⟨hx, hb, hml, hown, hts⟩ (cwI 1 hts (gM q1190) rfl rfl rfl (hts _ q48) (hts _ q1188) (hts _ q1189) rfl (by decide +kernel) ⟨Nat.le_of_ble_eq_true rfl, Nat.le_of_ble_eq_true rfl⟩) hE hP hD hS hA hZ rfl hl.1 rfl (lv_room (Nat.le_of_ble_eq_true rfl)) dJ4_toString_0e30d_5 ⟨by show 0 + 1 + 1 ≤ 2; omega, by show 0 + 4 + k ≤ k + 4; omega⟩ (fun ra H locs hP hD hS => ?_)
  refine endr_b (f := (fun (ra : Nat) (h0 : Nat) => ([(aq, .inr (1, [.ref bq, .int 0, .int jM, .int (nI k)])), (bq, .inl (ca 3, z, .inl B)), (ra, .inl (ca 3, k, .inl (cpR k z B)))] ++ ([(h0, .inr (0, [.ref ra, .int 0, .int 0, .int 0]))] ++ R)))) ra hAe hx hb hr (Or.inl ⟨_, rfl⟩) hlocks hP hD hS dJ4_toString_0e30d_8 ?_ ?_
  · show 0 + 1 + 1 ≤ 2; omega
  · show 0 + 4 + k ≤ k + 4; omega
