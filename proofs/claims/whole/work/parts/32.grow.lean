theorem q200 : (Cond.arrayClass .byte) ∈ WW := WW_mem 200 (by decide +kernel) rfl
/-! THE BUILDER GROWS -/
def QRU {S : Type} (ra : Nat) (f : S → va_W) (D : va_G) (w : va_W) (sz : Nat) : Array Value → State → Outcome → State → Prop := va_Qr (fun _ : S => True) (fun u a t => a = ra ∧ BW D (f u) w sz t) (va_A w sz)
def QRN (f : Nat → va_W) (D : va_G) (w : va_W) (sz : Nat) : Array Value → State → Outcome → State → Prop := va_Qr (fun _ : Unit => True) (fun _ a t => BW D (f a) w sz t) (va_A w sz)
section GROW
variable {p : Program} {l : Launch} {e : Env} {Rm : Room} {s : State} {m : MethodId} {args : Array Value} {below : List Frame} {meth : Method} {c : Code} {H : Heap} {locs : List Loc} {cells slots : Nat} {Q : State → Prop}
variable {y x : MethodName} {bytes cc : ByteArray} {maxL nL mc ms MC MS n index : Nat} {ret : Option FieldType} {rt : FieldType} {rm : Room} {own C owner : String} {b ra : Nat} {As rest st : List Value} {pc : Nat} {ls : Array Slot}
variable {D : va_G} {ca : Nat → ClassId} {sl : List (String × Nat × String)} {w w0 : va_W} {A0 A : Nat → Prop}
theorem endr_u {S : Type} (u : S) {f : S → va_W} (hAe : va_A w0 s.heap.size = A) (hx : p.tables.exec = Jvm.exec) (hb : c.code = cc) (hr : meth.sig.returnType = some rt) (hrt : (∃ n, rt = .object n) ∨ ∃ t, rt = .array t) (hlocks : meth.locks = false) (hP : va_P D vwCl (f u) H) (hD : va_D A (f u)) (hS : va_S A s.heap H locs) (hdg : decode cc pc = .ok (.areturn, 1)) (hc : cells ≤ MC) (hs : slots ≤ MS) :
    W p l e Rm s m args below meth c H locs cells slots (MQ below (QRU ra f D w0 s.heap.size) args s MC MS A) (F0 m pc ls [.ref ra]) := by
  subst hAe
  exact W.widen hc hs (W.aret (v := .ref ra) hx hb hr hrt (Or.inr ⟨ra, rfl⟩) (fun t ht hW => ⟨⟨u, ra, rfl, trivial, rfl, by rw [ht]; exact hP, hD⟩, hS.F ht⟩) hS.2.2 hdg hlocks)
theorem endr_n {f : Nat → va_W} (hAe : va_A w0 s.heap.size = A) (hx : p.tables.exec = Jvm.exec) (hb : c.code = cc) (hr : meth.sig.returnType = some rt) (hrt : (∃ n, rt = .object n) ∨ ∃ t, rt = .array t) (hlocks : meth.locks = false) (hP : va_P D vwCl (f ra) H) (hD : va_D A (f ra)) (hS : va_S A s.heap H locs) (hdg : decode cc pc = .ok (.areturn, 1)) (hc : cells ≤ MC) (hs : slots ≤ MS) :
    W p l e Rm s m args below meth c H locs cells slots (MQ below (QRN f D w0 s.heap.size) args s MC MS A) (F0 m pc ls [.ref ra]) := by
  subst hAe
  exact W.widen hc hs (W.aret (v := .ref ra) hx hb hr hrt (Or.inr ⟨ra, rfl⟩) (fun t ht hW => ⟨⟨(), ra, rfl, trivial, by rw [ht]; exact hP, hD⟩, hS.F ht⟩) hS.2.2 hdg hlocks)
theorem zs_rn {f : Nat → va_W} (hM : Met l y (wm y bytes maxL ret) rm (PREX As D ca sl w H.size) (QRN f D w H.size) mc ms (va_A w H.size)) (S : CallFix p m c cc nL s args WW own) (cw : CallB Rm s args own index y bytes maxL ret (wm y bytes maxL ret) rm mc ms n ∧ (Cond.static y).before args s = true)
    (hE : EE D ca sl s) (hP : va_P D vwCl w H) (hD : va_D A0 w) (hS : va_S A0 s.heap H locs) (hA : ∀ q, s.heap.size ≤ q → A0 q) (hZ : ZZ A0 s s.heap)
    (hn : As.length = n) (hsize : ls.size = nL) (hst : st = As.reverse ++ rest) (hW : 2 * (F0 m pc ls st).monitorRoom + (rest.map fun v => v.category).sum ≤ 8) (hdg : decode cc pc = .ok (.invokestatic index, 3)) (hf : cells + mc ≤ Rm.cells ∧ slots + ms ≤ Rm.slots)
    (kk : ∀ (ra : Nat) (H1 : Heap) (locs1 : List Loc), va_P D vwCl (f ra) H1 → va_D A0 (f ra) → va_S A0 s.heap H1 locs1 → W p l e Rm s m args below meth c H1 locs1 (cells + mc) (slots + ms) Q (F0 m (pc + 3) ls (.ref ra :: rest))) : W p l e Rm s m args below meth c H locs cells slots Q (F0 m pc ls st) :=
  va_callr (va_runS S hM cw ⟨PREX_blind, prex_ok hE hP hD hS hA hZ⟩ rfl hn hsize hst hW hdg hf) hS (fun q _ h => vaA_sub hD hS hA q h) (vaA_sub hD hS hA) (fun u ra t H1 locs1 ht hvm hw hB hz1 hk1 hS1 => by
    obtain ⟨hP1, hD1⟩ := bw_ok hD hS hA ht hB
    exact kk ra H1 locs1 hP1 hD1 hS1)
theorem zu_u {T : Type} {f : T → va_W} (hM : Met l y (wm y bytes maxL ret) rm (PREX (.ref b :: As) D ca sl w H.size) (QU f D w H.size) mc ms (va_A w H.size)) (S : CallFix p m c cc nL s args WW own) (cw : va_CU Rm s args own C owner index x y bytes maxL ret (wm y bytes maxL ret) rm mc ms n)
    (hrecv : ∃ cellB : Cell, H[b]? = some cellB ∧ cellB.vm.isStatics = false ∧ s.vm.findClass C = some cellB.cls) (hE : EE D ca sl s) (hP : va_P D vwCl w H) (hD : va_D A0 w) (hS : va_S A0 s.heap H locs) (hA : ∀ q, s.heap.size ≤ q → A0 q) (hZ : ZZ A0 s s.heap)
    (hn : As.length = n) (hsize : ls.size = nL) (hst : st = As.reverse ++ .ref b :: rest) (hW : 2 * (F0 m pc ls st).monitorRoom + (rest.map fun v => v.category).sum ≤ 8) (hdg : decode cc pc = .ok (.invokevirtual index, 3)) (hf : cells + mc ≤ Rm.cells ∧ slots + ms ≤ Rm.slots)
    (kk : ∀ (u : T) (H1 : Heap) (locs1 : List Loc), va_P D vwCl (f u) H1 → va_D A0 (f u) → va_S A0 s.heap H1 locs1 → W p l e Rm s m args below meth c H1 locs1 (cells + mc) (slots + ms) Q (F0 m (pc + 3) ls rest)) : W p l e Rm s m args below meth c H locs cells slots Q (F0 m pc ls st) :=
  va_callv (va_runU S hM cw ⟨PREX_blind, hrecv, prex_ok hE hP hD hS hA hZ⟩ rfl hn hsize hst hW hdg hf) hS (fun q _ h => vaA_sub hD hS hA q h) (vaA_sub hD hS hA) (fun u t H1 locs1 ht hvm hw hB hz1 hk1 hS1 => by
    obtain ⟨hP1, hD1⟩ := bw_ok hD hS hA ht hB
    exact kk u H1 locs1 hP1 hD1 hS1)
theorem zp_r {T : Type} {f : T → va_W} {cC : ClassId} (hM : Met l y (wm y bytes maxL ret) rm (PREX (.ref b :: As) D ca sl w H.size) (QRU ra f D w H.size) mc ms (va_A w H.size)) (hat : ClassAt s C cC) (S : CallFix p m c cc nL s args WW own) (cw : va_CS Rm s args own index y bytes maxL ret (wm y bytes maxL ret) rm mc ms n)
    (hrecv : ∃ cellB : Cell, H[b]? = some cellB ∧ cellB.vm.isStatics = false ∧ s.vm.findClass C = some cellB.cls) (hE : EE D ca sl s) (hP : va_P D vwCl w H) (hD : va_D A0 w) (hS : va_S A0 s.heap H locs) (hA : ∀ q, s.heap.size ≤ q → A0 q) (hZ : ZZ A0 s s.heap)
    (hn : As.length = n) (hsize : ls.size = nL) (hst : st = As.reverse ++ .ref b :: rest) (hW : 2 * (F0 m pc ls st).monitorRoom + (rest.map fun v => v.category).sum ≤ 8) (hdg : decode cc pc = .ok (.invokespecial index, 3)) (hf : cells + mc ≤ Rm.cells ∧ slots + ms ≤ Rm.slots)
    (kk : ∀ (u : T) (H1 : Heap) (locs1 : List Loc), va_P D vwCl (f u) H1 → va_D A0 (f u) → va_S A0 s.heap H1 locs1 → W p l e Rm s m args below meth c H1 locs1 (cells + mc) (slots + ms) Q (F0 m (pc + 3) ls (.ref ra :: rest))) : W p l e Rm s m args below meth c H locs cells slots Q (F0 m pc ls st) :=
  va_callr (va_runSU hat S hM cw ⟨PREX_blind, hrecv, prex_ok hE hP hD hS hA hZ⟩ rfl hn hsize hst hW hdg hf) hS (fun q _ h => vaA_sub hD hS hA q h) (vaA_sub hD hS hA) (fun u r2 t H1 locs1 ht hvm hw hB hz1 hk1 hS1 => by
    obtain ⟨rfl, hB⟩ := hB
    obtain ⟨hP1, hD1⟩ := bw_ok hD hS hA ht hB
    exact kk u H1 locs1 hP1 hD1 hS1)
end GROW
/-- the buffer with room for need -/
def capB (need m : Nat) (B : Nat → Int32) : Nat → Int32 := if need ≤ m then B else va_cpy B (fun _ => 0) 0 0 m
def mcE (need m : Nat) : Nat := if need ≤ m then 0 else 1
def msE (need m : Nat) : Nat := if need ≤ m then 0 else sb_cap need m
theorem capB_fit {need m : Nat} {B : Nat → Int32} (h : sb_Fit B) : sb_Fit (capB need m B) := by
  unfold capB
  split
  · exact h
  · exact sb_fitC h sb_fit0
theorem capB_at {need m j : Nat} {B : Nat → Int32} (h : j < m) : capB need m B j = B j := by
  unfold capB
  split
  · rfl
  · exact sb_cpy0 h
theorem ncap_ok {need m : Nat} (h : m < need) (hn : need ≤ 100000) : f_B_J5_newCapacity_0f7a4 (nI need) m = some (nI (sb_cap need m)) := by
  unfold f_B_J5_newCapacity_0f7a4 f_B_J8_newLength_cabcc sb_cap
  have e1 : (2147483639 : Int32) = nI 2147483639 := rfl
  have e2 : (2147483647 : Int32) = nI 2147483647 := rfl
  by_cases hc : need - m < m + 2
  · simp (disch := omega) only [e1, e2, l0, l2, pk_sub, nI_add, nI_ltI, nI_leI, nI_eq, if_pos, if_neg, Option.bind_some, hc, if_true, if_false, show m + (m + 2) = 2 * m + 2 by omega]
  · have e3 : (if 2 * m + 2 < need then need else 2 * m + 2) = need := by split <;> omega
    simp (disch := omega) only [e1, e2, e3, l0, l2, pk_sub, nI_add, nI_ltI, nI_leI, nI_eq, if_pos, if_neg, Option.bind_some, hc, if_true, if_false, show m + (need - m) = need by omega]
theorem drop_P {D : va_G} {a0 : Nat × va_E} {c q : Nat × va_E} {R : va_W} {H : Heap} (h : va_P D vwCl ([a0, c, q] ++ R) H) : va_P D vwCl ([a0, q] ++ R) H := va_P_mem.mpr fun z hz => va_P_mem.mp h z (by
  rcases List.mem_cons.mp hz with rfl | hz
  · exact List.mem_cons_self
  · exact List.mem_cons_of_mem _ (List.mem_cons_of_mem _ hz))
theorem drop_D {A : Nat → Prop} {a0 : Nat × va_E} {c q : Nat × va_E} {R : va_W} (h : va_D A ([a0, c, q] ++ R)) : va_D A ([a0, q] ++ R) := by
  rw [va_D_iff] at h ⊢
  refine ⟨?_, fun z hz => h.2 z (by
    rcases List.mem_cons.mp hz with rfl | hz
    · exact List.mem_cons_self
    · exact List.mem_cons_of_mem _ (List.mem_cons_of_mem _ hz))⟩
  have h1 := h.1
  simp only [List.cons_append, List.nil_append, List.map_cons, List.nodup_cons, List.mem_cons, not_or] at h1 ⊢
  exact ⟨⟨h1.1.2.1, h1.1.2.2⟩, h1.2.2⟩

set_option maxHeartbeats 4000000 in
set_option maxRecDepth 100000 in
theorem m_copyOf (l : Launch) {D : va_G} {sl : List (String × Nat × String)} (ca : Nat → ClassId) (aq bq : Nat) (jM : Int32) (R : va_W) (sz k z z2 : Nat) (B : Nat → Int32) (hz : z < z2) (hz2 : z2 ≤ 300000) (hFit : sb_Fit B) : Met l yJ7_copyOf_9075b (wm yJ7_copyOf_9075b cJ7_copyOf_9075b 3 (some (.array .byte))) ({ frames := 1, cells := 1, slots := z2, locals := 60 } : Room) (PREX [.ref bq, .int (nI z2)] D ca sl (WB ca aq bq jM (nI k) z B ++ R) sz) (QRN (fun ra => ([(aq, .inr (1, [.ref bq, .int 0, .int jM, .int (nI k)])), (bq, .inl (ca 3, z, .inl B)), (ra, .inl (ca 3, z2, .inl (va_cpy B (fun _ => 0) 0 0 z)))] ++ R)) D (WB ca aq bq jM (nI k) z B ++ R) sz) 1 z2 (va_A (WB ca aq bq jM (nI k) z B ++ R) sz) := by
  refine Met.ofW (cc := cJ7_copyOf_9075b) (maxL := 3) (ret := (some (.array .byte))) (by decide) rfl ?_
  intro p e s m args below meth c s₁ B9 hml hv
  obtain ⟨rfl, rfl, hP, hE, hD0, hZ⟩ := hv
  have hx := B9.exec
  have hb := B9.bytes
  have hr := B9.returns
  have hts := wm_ww (atoms_spec (ws := wm yJ7_copyOf_9075b cJ7_copyOf_9075b 3 (some (.array .byte))) B9.pre)
  have hown : s.vm.findClass RJ7 = some m.cls := findClass_of_methodNamed B9.named
  have hlocks := B9.notSynchronized
  have hK := hE.1
  have hD := hD0.self (sz := s.heap.size)
  generalize hAe : va_A (WB ca aq bq jM (nI k) z B ++ R) s.heap.size = A at hD hZ ⊢
  have hA : ∀ q : Nat, s.heap.size ≤ q → A q := fun q h => by rw [← hAe]; exact Or.inr h
  have hS : va_S A s.heap s.heap [] := va_S.rf
  have hl := lv_entry ([.ref bq, .int (nI z2)]) (n := 3) (Nat.le_of_ble_eq_true rfl)
  rw [lg_entry_eq]
  generalize (lg_sl ([.ref bq, .int (nI z2)]) ++ List.replicate (3 - (lg_sl ([.ref bq, .int (nI z2)])).length) Slot.unset).toArray = ls at hl ⊢
  have hl : lv_has ls 3 [(0, .ref bq), (1, .int (nI z2))] := hl
  change W p l e ({ frames := 1, cells := 1, slots := z2, locals := 60 } : Room) s m _ below meth c s.heap [] 0 0 _ _
  have hP : va_P D vwCl (WB ca aq bq jM (nI k) z B ++ R) s.heap := hP
  refine lv_iload_n hx hb dJ7_copyOf_9075b_0 rfl (lv_at hl 1 rfl) ?_
  refine lv_aload_n hx hb dJ7_copyOf_9075b_1 rfl (lv_at hl 0 rfl) ?_
  refine va_alen (D := D) (v := nI z) hx hb hK hP 1 3 rfl rfl rfl dJ7_copyOf_9075b_2 ?_
  refine lv_icmp_ne (tgt := 14) hx hb dJ7_copyOf_9075b_3 (by decide) (fun c1 => ?_) (fun c1 => ?_)
  rotate_left
  · exact absurd c1 (fun h => absurd ((nI_eq (by omega) (by omega)).mp h) (by omega))
  refine lv_iload_n hx hb dJ7_copyOf_9075b_14 rfl (lv_at hl 1 rfl) ?_
  refine va_newa (D := D) (atype := .byte) (N' := z2) (a0 := (z2, .inl (fun _ => 0))) hx hb (hts _ q200) rfl hK hP hD hS hA (fun _ => rfl) (nI_pos (by omega)) (nI_clamp (by omega)) (by show z2 * 1 ≤ 536870912; omega) (by show 0 + 1 ≤ 1; omega) (by show 0 + z2 ≤ z2; omega) dJ7_copyOf_9075b_15 (fun ra cA H hK9 hP hD hS => ?_)
  obtain rfl := va_same hK9 3 rfl
  replace hP := va_P.swap hP
  replace hD := va_D.swap hD
  refine lv_astore_n (lv' := [(2, .ref ra), (0, .ref bq), (1, .int (nI z2))]) hx hb dJ7_copyOf_9075b_17 rfl hl (by decide) rfl (fun ls hl => ?_)
  refine lv_aload_n hx hb dJ7_copyOf_9075b_18 rfl (lv_at hl 1 rfl) ?_
  refine lv_iconst (v := 0) hx hb dJ7_copyOf_9075b_19 (by decide) ?_
  refine lv_aload_n hx hb dJ7_copyOf_9075b_20 rfl (lv_at hl 0 rfl) ?_
  refine lv_iconst (v := 0) hx hb dJ7_copyOf_9075b_21 (by decide) ?_
  refine lv_aload_n hx hb dJ7_copyOf_9075b_22 rfl (lv_at hl 1 rfl) ?_
  refine va_alen (D := D) (v := nI z) hx hb hK hP 1 3 rfl rfl rfl dJ7_copyOf_9075b_23 ?_
  refine lv_iload_n hx hb dJ7_copyOf_9075b_24 rfl (lv_at hl 2 rfl) ?_
  refine va_mmin hx hb (hml.trans hl.1.symm) hown (hts _ q1080) (hts _ q1081) (hts _ q61) (hts _ q1082) (Nat.le_of_ble_eq_true rfl) (Nat.le_of_ble_eq_true rfl) (by show 0 + 1 ≤ 1; omega) (by show 0 + z2 ≤ z2; omega) dJ7_copyOf_9075b_25 ?_
  rw [if_neg (fun h9 => absurd ((nI_ltI (by omega) (by omega)).mp h9) (by omega))]
  refine va_copyi (D := D) (ty := .byte) hx hb (hml.trans hl.1.symm) hown (hts _ q1083) (hts _ q269) (hts _ q268) (hts _ q63) hK hP hD hS 1 2 3 3 rfl rfl rfl rfl rfl (by decide) (by decide) (nI_pos (by omega)) (by rw [nI_clamp (by omega)]; show 0 + z ≤ z; omega) (by rw [nI_clamp (by omega)]; show 0 + z ≤ z2; omega) (fun i _ => hFit _) (Nat.le_of_ble_eq_true rfl) (Nat.le_of_ble_eq_true rfl) dJ7_copyOf_9075b_28 (fun H locs hP hD hS => ?_)
  rw [nI_clamp (by omega)] at hP hD
  have hP : va_P D vwCl ([(aq, .inr (1, [.ref bq, .int 0, .int jM, .int (nI k)])), (bq, .inl (ca 3, z, .inl B)), (ra, .inl (ca 3, z2, .inl (va_cpy B (fun _ => 0) 0 0 z)))] ++ R) H := hP
  have hD : va_D A ([(aq, .inr (1, [.ref bq, .int 0, .int jM, .int (nI k)])), (bq, .inl (ca 3, z, .inl B)), (ra, .inl (ca 3, z2, .inl (va_cpy B (fun _ => 0) 0 0 z)))] ++ R) := hD
  refine lv_aload_n hx hb dJ7_copyOf_9075b_31 rfl (lv_at hl 0 rfl) ?_
  refine endr_n (f := fun ra => ([(aq, .inr (1, [.ref bq, .int 0, .int jM, .int (nI k)])), (bq, .inl (ca 3, z, .inl B)), (ra, .inl (ca 3, z2, .inl (va_cpy B (fun _ => 0) 0 0 z)))] ++ R)) hAe hx hb hr (Or.inr ⟨_, rfl⟩) hlocks hP hD hS dJ7_copyOf_9075b_32 ?_ ?_
  · omega
  · omega
theorem sub_le0 {a b : Nat} (ha : a < 2 ^ 30) (hb : b < 2 ^ 30) (h : nI a - nI b ≤ 0) : a ≤ b := by
  have h1 := pk_sub_toInt ha hb
  have h2 := Int32.le_iff_toInt_le.mp h
  rw [h1, show (0 : Int32).toInt = 0 from rfl] at h2
  omega
theorem sub_gt0 {a b : Nat} (ha : a < 2 ^ 30) (hb : b < 2 ^ 30) (h : ¬ nI a - nI b ≤ 0) : b < a := by
  have h1 := pk_sub_toInt ha hb
  have h2 : ¬ (nI a - nI b).toInt ≤ (0 : Int32).toInt := fun z => h (Int32.le_iff_toInt_le.mpr z)
  rw [h1, show (0 : Int32).toInt = 0 from rfl] at h2
  omega
set_option maxHeartbeats 4000000 in
set_option maxRecDepth 100000 in
theorem m_ens (l : Launch) {D : va_G} {sl : List (String × Nat × String)} (ca : Nat → ClassId) (aq bq : Nat) (jM : Int32) (R : va_W) (sz k z need : Nat) (B : Nat → Int32) (hn : need ≤ 100000) (hz : z ≤ 100000) (hFit : sb_Fit B) : Met l yJ5_ensureCapacityInternal_d00df (wm yJ5_ensureCapacityInternal_d00df cJ5_ensureCapacityInternal_d00df 3 none) ({ frames := 3, cells := mcE need z, slots := msE need z, locals := 88 } : Room) (PREX [.ref aq, .int (nI need)] D ca sl (WB ca aq bq jM (nI k) z B ++ R) sz) (QU (fun bq => (WB ca aq bq jM (nI k) (sb_cap need z) (capB need z B) ++ R)) D (WB ca aq bq jM (nI k) z B ++ R) sz) (mcE need z) (msE need z) (va_A (WB ca aq bq jM (nI k) z B ++ R) sz) := by
  refine Met.ofW (cc := cJ5_ensureCapacityInternal_d00df) (maxL := 3) (ret := none) (by decide) rfl ?_
  intro p e s m args below meth c s₁ B9 hml hv
  obtain ⟨rfl, rfl, hP, hE, hD0, hZ⟩ := hv
  have hx := B9.exec
  have hb := B9.bytes
  have hr := B9.returns
  have hts := wm_ww (atoms_spec (ws := wm yJ5_ensureCapacityInternal_d00df cJ5_ensureCapacityInternal_d00df 3 none) B9.pre)
  have hown : s.vm.findClass RJ5 = some m.cls := findClass_of_methodNamed B9.named
  have hlocks := B9.notSynchronized
  have hK := hE.1
  have hD := hD0.self (sz := s.heap.size)
  generalize hAe : va_A (WB ca aq bq jM (nI k) z B ++ R) s.heap.size = A at hD hZ ⊢
  have hA : ∀ q : Nat, s.heap.size ≤ q → A q := fun q h => by rw [← hAe]; exact Or.inr h
  have hS : va_S A s.heap s.heap [] := va_S.rf
  have hl := lv_entry ([.ref aq, .int (nI need)]) (n := 3) (Nat.le_of_ble_eq_true rfl)
  rw [lg_entry_eq]
  generalize (lg_sl ([.ref aq, .int (nI need)]) ++ List.replicate (3 - (lg_sl ([.ref aq, .int (nI need)])).length) Slot.unset).toArray = ls at hl ⊢
  have hl : lv_has ls 3 [(0, .ref aq), (1, .int (nI need))] := hl
  change W p l e ({ frames := 3, cells := mcE need z, slots := msE need z, locals := 88 } : Room) s m _ below meth c s.heap [] 0 0 _ _
  have hP : va_P D vwCl (WB ca aq bq jM (nI k) z B ++ R) s.heap := hP
  refine lv_aload_n hx hb dJ5_ensureCapacityInternal_d00df_0 rfl (lv_at hl 0 rfl) ?_
  refine va_get (D := D) (ci := 1) (v := .ref bq) (C := RJ4) (T := TJ4) (N := 4) hx hb hts inJ4 hown hK hP 0 rfl rfl 0 (by decide) (hts _ q186) (fun _ h9 => h9) rfl dJ5_ensureCapacityInternal_d00df_1 ?_
  refine va_alen (D := D) (v := nI z) hx hb hK hP 1 3 rfl rfl rfl dJ5_ensureCapacityInternal_d00df_4 ?_
  refine lv_aload_n hx hb dJ5_ensureCapacityInternal_d00df_5 rfl (lv_at hl 0 rfl) ?_
  refine va_get (D := D) (ci := 1) (v := .int 0) (C := RJ4) (T := TJ4) (N := 4) hx hb hts inJ4 hown hK hP 0 rfl rfl 1 (by decide) (hts _ q187) (fun _ h9 => h9) rfl dJ5_ensureCapacityInternal_d00df_6 ?_
  refine lv_ishr hx hb dJ5_ensureCapacityInternal_d00df_9 ?_
  rw [sb_shr0]
  refine lv_istore_n (lv' := [(2, .int (nI z)), (0, .ref aq), (1, .int (nI need))]) hx hb dJ5_ensureCapacityInternal_d00df_10 rfl hl (by decide) rfl (fun ls hl => ?_)
  refine lv_iload_n hx hb dJ5_ensureCapacityInternal_d00df_11 rfl (lv_at hl 2 rfl) ?_
  refine lv_iload_n hx hb dJ5_ensureCapacityInternal_d00df_12 rfl (lv_at hl 0 rfl) ?_
  refine lv_isub hx hb dJ5_ensureCapacityInternal_d00df_13 ?_
  refine lv_if_le (tgt := 38) hx hb dJ5_ensureCapacityInternal_d00df_14 (by decide) (fun c1 => ?_) (fun c1 => ?_)
  · have hle : need ≤ z := sub_le0 (by omega) (by omega) c1
    have e1 : sb_cap need z = z := if_pos hle
    have e2 : capB need z B = B := if_pos hle
    exact endu_v bq hAe hx hb hr hlocks (by show va_P D vwCl (WB ca aq bq jM (nI k) (sb_cap need z) (capB need z B) ++ R) _; rw [e1, e2]; exact hP) (by show va_D A (WB ca aq bq jM (nI k) (sb_cap need z) (capB need z B) ++ R); rw [e1, e2]; exact hD) hS dJ5_ensureCapacityInternal_d00df_38 (Nat.zero_le _) (Nat.zero_le _)
  · have hlt : z < need := sub_gt0 (by omega) (by omega) c1
    have e0 : ¬ need ≤ z := by omega
    have e2 : capB need z B = va_cpy B (fun _ => 0) 0 0 z := if_neg e0
    have e3 : mcE need z = 1 := if_neg e0
    have e4 : msE need z = sb_cap need z := if_neg e0
    have e5 : z < sb_cap need z := Nat.lt_of_lt_of_le hlt (sb_cap_ge need z)
    have e6 : sb_cap need z ≤ 300000 := by unfold sb_cap; split <;> (try split) <;> omega
    refine lv_aload_n hx hb dJ5_ensureCapacityInternal_d00df_17 rfl (lv_at hl 1 rfl) ?_
    refine lv_aload_n hx hb dJ5_ensureCapacityInternal_d00df_18 rfl (lv_at hl 1 rfl) ?_
    refine va_get (D := D) (ci := 1) (v := .ref bq) (C := RJ4) (T := TJ4) (N := 4) hx hb hts inJ4 hown hK hP 0 rfl rfl 0 (by decide) (hts _ q186) (fun _ h9 => h9) rfl dJ5_ensureCapacityInternal_d00df_19 ?_
    refine lv_aload_n hx hb dJ5_ensureCapacityInternal_d00df_22 rfl (lv_at hl 1 rfl) ?_
    refine lv_iload_n hx hb dJ5_ensureCapacityInternal_d00df_23 rfl (lv_at hl 2 rfl) ?_
    refine zu_i (C := RJ4) (rest := [.ref bq, .ref aq]) (m_B_J5_newCapacity_0f7a4 l ca aq bq jM (nI k) z B R _ (nI need) (nI (sb_cap need z)) (ncap_ok hlt hn)) ⟨hx, hb, hml, hown, hts⟩ (va_cwU 1 hts (gU q1057 q1692 qx2 q1059 q46 q1060) rfl rfl rfl rfl (by decide +kernel) ⟨Nat.le_of_ble_eq_true rfl, Nat.le_of_ble_eq_true rfl⟩) (va_recv hK hP (ci := 1) (q0 := 0) rfl rfl) hE hP hD hS hA hZ rfl hl.1 rfl (lv_room (Nat.le_of_ble_eq_true rfl)) dJ5_ensureCapacityInternal_d00df_24 ⟨Nat.zero_le _, Nat.zero_le _⟩ (fun H locs hP hD hS => ?_)
    refine lv_aload_n hx hb dJ5_ensureCapacityInternal_d00df_27 rfl (lv_at hl 1 rfl) ?_
    refine va_get (D := D) (ci := 1) (v := .int 0) (C := RJ4) (T := TJ4) (N := 4) hx hb hts inJ4 hown hK hP 0 rfl rfl 1 (by decide) (hts _ q187) (fun _ h9 => h9) rfl dJ5_ensureCapacityInternal_d00df_28 ?_
    refine lv_ishl hx hb dJ5_ensureCapacityInternal_d00df_31 ?_
    rw [sb_shl0]
    refine zs_rn (rest := [.ref aq]) (m_copyOf l ca aq bq jM R _ k z (sb_cap need z) B e5 e6 hFit) ⟨hx, hb, hml, hown, hts⟩ (va_cwS 2 hts (gS q1070 q1071 q43 q1072) rfl rfl rfl (by decide +kernel) ⟨Nat.le_of_ble_eq_true rfl, Nat.le_of_ble_eq_true rfl⟩) hE hP hD hS hA hZ rfl hl.1 rfl (lv_room (Nat.le_of_ble_eq_true rfl)) dJ5_ensureCapacityInternal_d00df_32 ⟨by show 0 + 1 ≤ mcE need z; omega, by show 0 + sb_cap need z ≤ msE need z; omega⟩ (fun ra H locs hP hD hS => ?_)
    refine va_put (D := D) (ci := 1) (v := .ref ra) (ty := (.array .byte)) (C := RJ4) (T := TJ4) (N := 4) hx hb hts inJ4 tyJ4 tyJ4_ok nmJ4 hown hK hP hD hS 0 rfl rfl 0 (by decide) (hts _ q186) (fun _ h9 => h9) rfl (by decide +kernel) rfl rfl (Nat.le_of_ble_eq_true rfl) dJ5_ensureCapacityInternal_d00df_35 (fun H locs hP hD hS => ?_)
    have hP := drop_P hP
    have hD := drop_D hD
    refine endu_v ra hAe hx hb hr hlocks (by show va_P D vwCl (WB ca aq ra jM (nI k) (sb_cap need z) (capB need z B) ++ R) _; rw [e2]; exact hP) (by show va_D A (WB ca aq ra jM (nI k) (sb_cap need z) (capB need z B) ++ R); rw [e2]; exact hD) hS dJ5_ensureCapacityInternal_d00df_38 ?_ ?_
    · omega
    · omega
