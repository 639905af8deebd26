/-! CASE 41 BEFORE ANY TEXT: the constant's cells lie outside the world; they are read alone -/
/-- the constant "": an object of String's outside the world, its coder 0, its bytes none -/
def KS (sa : Nat) (A : Nat → Prop) (U : State) (H : Heap) : Prop := va_O "java/lang/String" sa A U H ∧ va_OF "java/lang/String" "coder" "B" (.int 0) sa A U H ∧ ∃ vb : Nat, va_OF "java/lang/String" "value" "[B" (.ref vb) sa A U H ∧ va_T .byte vb 0 (fun _ => .int 0) A U H
theorem KS.go {sa : Nat} {A A1 : Nat → Prop} {s U : State} {H0 H : Heap} {locs : List Loc} (h : KS sa A s H0) (hS : va_S A H0 H locs) (hal : s.vm.Alike U.vm) (hu : U.heap = H) (hAB : ∀ q, A1 q → A q) : KS sa A1 U U.heap := by
  rw [hu]
  obtain ⟨h1, h2, vb, h3, h4⟩ := h
  exact ⟨(va_O.moved hal (h1.kept hS.2.1)).narrow hAB, (va_OF.moved hal (h2.kept hS.2.1)).narrow hAB, vb, (va_OF.moved hal (h3.kept hS.2.1)).narrow hAB, (va_T.moved hal (h4.kept hS.2.1)).narrow hAB⟩
theorem KS.same {sa : Nat} {A : Nat → Prop} {U : State} {g : JFrame} {mk : MethodId} {a : Array Value} (h : KS sa A U U.heap) : KS sa A (U.calling g mk a) (U.calling g mk a).heap := by
  obtain ⟨h1, h2, vb, h3, h4⟩ := h
  exact ⟨va_O.moved (u := U) (U := U.calling g mk a) (Vm.Alike.refl U.vm) h1, va_OF.moved (u := U) (U := U.calling g mk a) (Vm.Alike.refl U.vm) h2, vb, va_OF.moved (u := U) (U := U.calling g mk a) (Vm.Alike.refl U.vm) h3, va_T.moved (u := U) (U := U.calling g mk a) (Vm.Alike.refl U.vm) h4⟩
def PREC (sa : Nat) (av : List Value) (D : va_G) (ca : Nat → ClassId) (sl : List (String × Nat × String)) (w : va_W) (sz : Nat) : Array Value → State → Prop :=
  va_Pc av (fun U => U.heap.size = sz ∧ va_P D vwCl w U.heap ∧ EE D ca sl U ∧ va_D (fun _ => True) w ∧ ZZ (va_A w sz) U U.heap ∧ KS sa (va_A w sz) U U.heap)
theorem PREC_blind {sa : Nat} {av : List Value} {D : va_G} {ca : Nat → ClassId} {sl : List (String × Nat × String)} {w : va_W} {sz : Nat} : FrameBlind (PREC sa av D ca sl w sz) := fun a U g mk q => by
  obtain ⟨q0, q1, qP, qE, qD, qZ, qS⟩ := q
  exact ⟨q0, q1, qP, EE.same (u := U) rfl qE, qD, ZZ.same qZ, KS.same qS⟩
section RD
variable {p : Program} {l : Launch} {e : Env} {Rm : Room} {s : State} {m : MethodId} {args : Array Value} {below : List Frame} {meth : Method} {c : Code} {H : Heap} {locs : List Loc} {cells slots : Nat} {Q : State → Prop}
variable {y : MethodName} {bytes cc : ByteArray} {maxL nL mc ms n index : Nat} {ret : Option FieldType} {rm : Room} {own C : String} {b : Nat} {As rest st : List Value} {pc : Nat} {ls : Array Slot}
variable {D : va_G} {ca : Nat → ClassId} {sl : List (String × Nat × String)} {w w' : va_W} {sa : Nat} {A0 : Nat → Prop}
theorem nil_sub {A0 : Nat → Prop} {H0 H : Heap} {locs : List Loc} (hS : va_S A0 H0 H locs) (hA : ∀ q, H0.size ≤ q → A0 q) : ∀ q, va_A [] H.size q → A0 q := fun q h => by
  rcases h with ⟨k, e, h⟩ | h
  · simp at h
  · exact hA q (Nat.le_trans hS.1 h)
theorem nil_P {D : va_G} {H : Heap} : va_P D vwCl [] H := fun k q h => by simp at h
theorem nil_D {A : Nat → Prop} : va_D A [] := ⟨fun i j p q h => by simp at h, fun k q h => by simp at h⟩
/-- a call that reads alone -/
theorem zr_i {r : Int32} (hM : Met l y (wm y bytes maxL ret) rm (PREC sa (.ref b :: As) D ca sl [] H.size) (QI r D [] [] H.size) mc ms (va_A [] H.size)) (S : CallFix p m c cc nL s args WW own) (cw : CallW Rm s args own C index y bytes maxL ret (wm y bytes maxL ret) rm mc ms n)
    (hrecv : ∃ cellB : Cell, H[b]? = some cellB ∧ cellB.vm.isStatics = false ∧ s.vm.findClass C = some cellB.cls) (hE : EE D ca sl s) (hP : va_P D vwCl w H) (hW9 : KS sa A0 s s.heap) (hS : va_S A0 s.heap H locs) (hA : ∀ q, s.heap.size ≤ q → A0 q) (hZ : ZZ A0 s s.heap)
    (hn : As.length = n) (hsize : ls.size = nL) (hst : st = As.reverse ++ .ref b :: rest) (hW : 2 * (F0 m pc ls st).monitorRoom + (rest.map fun v => v.category).sum ≤ 8) (hdg : decode cc pc = .ok (.invokevirtual index, 3)) (hf : cells + mc ≤ Rm.cells ∧ slots + ms ≤ Rm.slots)
    (kk : ∀ (H1 : Heap) (locs1 : List Loc), va_P D vwCl w H1 → va_S A0 s.heap H1 locs1 → W p l e Rm s m args below meth c H1 locs1 (cells + mc) (slots + ms) Q (F0 m (pc + 3) ls (.int r :: rest))) : W p l e Rm s m args below meth c H locs cells slots Q (F0 m pc ls st) := by
  have ok : ∀ U : State, U.heap = H → s.WarmedH U.vm → PREC sa (.ref b :: As) D ca sl [] H.size (Value.ref b :: As).toArray U := fun U hU hWm =>
    ⟨rfl, by rw [hU], nil_P, hE.warm hWm, nil_D, hZ.go hS hWm.alike hU (nil_sub hS hA), hW9.go hS hWm.alike hU (nil_sub hS hA)⟩
  exact va_calli (va_runV S hM cw ⟨PREC_blind, hrecv, ok⟩ rfl hn hsize hst hW hdg hf) hS (fun q _ h => nil_sub hS hA q h) (nil_sub hS hA) (fun r' u t H1 locs1 ht hvm hw hB hz1 hk1 hS1 => by
    have hk : ∀ (k : Nat) (x : Nat × va_E), w[k]? = some x → H1[x.1]? = H[x.1]? := fun k x hx => hk1 x.1 (hP k x hx).lt (fun q => by
      rcases q with ⟨k9, e9, h9⟩ | q
      · simp at h9
      · exact absurd (hP k x hx).lt (Nat.not_lt.mpr q))
    rw [show r' = r from hw]
    exact kk H1 locs1 (hP.kept hk) hS1)
theorem zc_i {r : Int32} {wa wb wc wc' wr : va_W} (hM : Met l y (wm y bytes maxL ret) rm (PREC sa (.ref b :: As) D ca sl (wc ++ (wa ++ (wb ++ wr))) H.size) (QI r D (wc' ++ (wa ++ (wb ++ wr))) (wc ++ (wa ++ (wb ++ wr))) H.size) mc ms (va_A (wc ++ (wa ++ (wb ++ wr))) H.size)) (S : CallFix p m c cc nL s args WW own) (cw : CallW Rm s args own C index y bytes maxL ret (wm y bytes maxL ret) rm mc ms n)
    (hrecv : ∃ cellB : Cell, H[b]? = some cellB ∧ cellB.vm.isStatics = false ∧ s.vm.findClass C = some cellB.cls) (hE : EE D ca sl s) (hP : va_P D vwCl (wa ++ (wb ++ (wc ++ wr))) H) (hD : va_D A0 (wa ++ (wb ++ (wc ++ wr)))) (hW9 : KS sa A0 s s.heap) (hS : va_S A0 s.heap H locs) (hA : ∀ q, s.heap.size ≤ q → A0 q) (hZ : ZZ A0 s s.heap)
    (hn : As.length = n) (hsize : ls.size = nL) (hst : st = As.reverse ++ .ref b :: rest) (hW : 2 * (F0 m pc ls st).monitorRoom + (rest.map fun v => v.category).sum ≤ 8) (hdg : decode cc pc = .ok (.invokevirtual index, 3)) (hf : cells + mc ≤ Rm.cells ∧ slots + ms ≤ Rm.slots)
    (kk : ∀ (H1 : Heap) (locs1 : List Loc), va_P D vwCl (wa ++ (wb ++ (wc' ++ wr))) H1 → va_D A0 (wa ++ (wb ++ (wc' ++ wr))) → va_S A0 s.heap H1 locs1 → W p l e Rm s m args below meth c H1 locs1 (cells + mc) (slots + ms) Q (F0 m (pc + 3) ls (.int r :: rest))) : W p l e Rm s m args below meth c H locs cells slots Q (F0 m pc ls st) := by
  have hP2 := hP.perm (perm_rot wa wb wc wr)
  have hD2 := hD.perm (perm_rot wa wb wc wr)
  have ok : ∀ U : State, U.heap = H → s.WarmedH U.vm → PREC sa (.ref b :: As) D ca sl (wc ++ (wa ++ (wb ++ wr))) H.size (Value.ref b :: As).toArray U := fun U hU hWm =>
    ⟨rfl, by rw [hU], by rw [hU]; exact hP2, hE.warm hWm, hD2.weaken (fun _ _ _ _ => trivial), hZ.go hS hWm.alike hU (vaA_sub hD2 hS hA), hW9.go hS hWm.alike hU (vaA_sub hD2 hS hA)⟩
  exact va_calli (va_runV S hM cw ⟨PREC_blind, hrecv, ok⟩ rfl hn hsize hst hW hdg hf) hS (fun q _ h => vaA_sub hD2 hS hA q h) (vaA_sub hD2 hS hA) (fun r' u t H1 locs1 ht hvm hw hB hz1 hk1 hS1 => by
    obtain ⟨hP1, hD1⟩ := bw_ok hD2 hS hA ht hB
    rw [show r' = r from hw]
    exact kk H1 locs1 (hP1.perm (perm_rot wa wb wc' wr).symm) (hD1.perm (perm_rot wa wb wc' wr).symm) hS1)
end RD
theorem in_none (p : Int32) : f_M_in p 0 (-1) = some 0 := by
  unfold f_M_in
  by_cases h : p < 0
  · rw [if_pos h]
  · rw [if_neg h]
    have h2 : (-1 : Int32) < p := Int32.lt_iff_toInt_lt.mpr (by
      have h3 : ¬ p.toInt < (0 : Int32).toInt := fun q => h (Int32.lt_iff_toInt_lt.mpr q)
      have e1 : (-1 : Int32).toInt = -1 := rfl
      have e2 : (0 : Int32).toInt = 0 := rfl
      omega)
    rw [if_pos h2]

set_option maxHeartbeats 4000000 in
set_option maxRecDepth 100000 in
theorem m_K_coder (l : Launch) {D : va_G} {sl : List (String × Nat × String)} (ca : Nat → ClassId) (sa : Nat) (sz : Nat) : Met l yJ0_coder_7d493 (wm yJ0_coder_7d493 cJ0_coder_7d493 1 (some .byte)) ({ frames := 0, cells := 0, slots := 0, locals := 0 } : Room) (PREC sa [.ref sa] D ca sl [] sz) (QI 0 D [] [] sz) 0 0 (va_A [] sz) := by
  refine Met.ofW (cc := cJ0_coder_7d493) (maxL := 1) (ret := (some .byte)) (by decide) rfl ?_
  intro p e s m args below meth c s₁ B9 hml hv
  obtain ⟨rfl, rfl, hP, hE, hD0, hZ, hW9⟩ := hv
  have hx := B9.exec
  have hb := B9.bytes
  have hr := B9.returns
  have hts := wm_ww (atoms_spec (ws := wm yJ0_coder_7d493 cJ0_coder_7d493 1 (some .byte)) B9.pre)
  have hown : s.vm.findClass RJ0 = some m.cls := findClass_of_methodNamed B9.named
  have hlocks := B9.notSynchronized
  have hK := hE.1
  have hD := hD0.self (sz := s.heap.size)
  generalize hAe : va_A [] s.heap.size = A at hD hZ hW9 ⊢
  have hA : ∀ q : Nat, s.heap.size ≤ q → A q := fun q h => by rw [← hAe]; exact Or.inr h
  have hS : va_S A s.heap s.heap [] := va_S.rf
  have hl := lv_entry ([.ref sa]) (n := 1) (Nat.le_of_ble_eq_true rfl)
  rw [lg_entry_eq]
  generalize (lg_sl ([.ref sa]) ++ List.replicate (1 - (lg_sl ([.ref sa])).length) Slot.unset).toArray = ls at hl ⊢
  have hl : lv_has ls 1 [(0, .ref sa)] := hl
  change W p l e ({ frames := 0, cells := 0, slots := 0, locals := 0 } : Room) s m _ below meth c s.heap [] 0 0 _ _
  have hP : va_P D vwCl [] s.heap := hP
  refine va_gets (v := .int 1) hx hb hZ.2.2.1 hS hown (hts _ q1123) (fun _ h9 => h9) dJ0_coder_7d493_0 ?_
  refine lv_if_eq (tgt := 13) hx hb dJ0_coder_7d493_3 (by decide) (fun c1 => absurd c1 (by decide)) (fun c1 => ?_)
  refine lv_aload_n hx hb dJ0_coder_7d493_6 rfl (lv_at hl 0 rfl) ?_
  refine vk_getf (v := .int 0) hx hb hW9.2.1 hS hown (hts _ q1240) (fun _ h9 => h9) dJ0_coder_7d493_7 ?_
  refine lv_goto (tgt := 14) hx hb dJ0_coder_7d493_10 (by decide) ?_
  exact end_i hAe rfl hx hb hr hlocks rfl hP hD hS dJ0_coder_7d493_14
set_option maxHeartbeats 4000000 in
set_option maxRecDepth 100000 in
theorem m_K_length (l : Launch) {D : va_G} {sl : List (String × Nat × String)} (ca : Nat → ClassId) (sa : Nat) (sz : Nat) : Met l yJ0_length_8abf5 (wm yJ0_length_8abf5 cJ0_length_8abf5 1 (some .int)) ({ frames := 1, cells := 0, slots := 0, locals := 40 } : Room) (PREC sa [.ref sa] D ca sl [] sz) (QI 0 D [] [] sz) 0 0 (va_A [] sz) := by
  refine Met.ofW (cc := cJ0_length_8abf5) (maxL := 1) (ret := (some .int)) (by decide) rfl ?_
  intro p e s m args below meth c s₁ B9 hml hv
  obtain ⟨rfl, rfl, hP, hE, hD0, hZ, hW9⟩ := hv
  have hx := B9.exec
  have hb := B9.bytes
  have hr := B9.returns
  have hts := wm_ww (atoms_spec (ws := wm yJ0_length_8abf5 cJ0_length_8abf5 1 (some .int)) B9.pre)
  have hown : s.vm.findClass RJ0 = some m.cls := findClass_of_methodNamed B9.named
  have hlocks := B9.notSynchronized
  have hK := hE.1
  have hD := hD0.self (sz := s.heap.size)
  generalize hAe : va_A [] s.heap.size = A at hD hZ hW9 ⊢
  have hA : ∀ q : Nat, s.heap.size ≤ q → A q := fun q h => by rw [← hAe]; exact Or.inr h
  have hS : va_S A s.heap s.heap [] := va_S.rf
  have hl := lv_entry ([.ref sa]) (n := 1) (Nat.le_of_ble_eq_true rfl)
  rw [lg_entry_eq]
  generalize (lg_sl ([.ref sa]) ++ List.replicate (1 - (lg_sl ([.ref sa])).length) Slot.unset).toArray = ls at hl ⊢
  have hl : lv_has ls 1 [(0, .ref sa)] := hl
  change W p l e ({ frames := 1, cells := 0, slots := 0, locals := 40 } : Room) s m _ below meth c s.heap [] 0 0 _ _
  have hP : va_P D vwCl [] s.heap := hP
  refine lv_aload_n hx hb dJ0_length_8abf5_0 rfl (lv_at hl 0 rfl) ?_
  obtain ⟨vb, hF9, hT9⟩ := hW9.2.2
  refine vk_getf (v := .ref vb) hx hb hF9 hS hown (hts _ q1239) (fun _ h9 => h9) dJ0_length_8abf5_1 ?_
  refine va_tlen (v := 0) hx hb hT9 hS rfl dJ0_length_8abf5_4 ?_
  refine lv_aload_n hx hb dJ0_length_8abf5_5 rfl (lv_at hl 0 rfl) ?_
  refine zr_i (w := []) (rest := [.int 0]) (m_K_coder l ca sa _) ⟨hx, hb, hml, hown, hts⟩ (cwV 0 hts (gV q1119 q1120 q1121 q48 q1122) rfl rfl rfl (by decide +kernel) ⟨Nat.le_of_ble_eq_true rfl, Nat.le_of_ble_eq_true rfl⟩) (va_Orecv hW9.1 hS) hE hP hW9 hS hA hZ rfl hl.1 rfl (lv_room (Nat.le_of_ble_eq_true rfl)) dJ0_length_8abf5_6 ⟨Nat.le_of_ble_eq_true rfl, Nat.le_of_ble_eq_true rfl⟩ (fun H locs hP hS => ?_)
  refine lv_ishr hx hb dJ0_length_8abf5_9 ?_
  rw [sb_shr0]
  exact end_i hAe rfl hx hb hr hlocks rfl hP hD hS dJ0_length_8abf5_10
set_option maxHeartbeats 4000000 in
set_option maxRecDepth 100000 in
theorem m_K_lineAt (l : Launch) {D : va_G} {sl : List (String × Nat × String)} (ca : Nat → ClassId) (sa : Nat) (ad : Nat → Nat) (mcode : Int32) (mday : Int32) (mown : Int32) (mquot : Nat → Int32) (mprom : Nat → Int32) (mfiles : Int32) (mowner : Nat → Int32) (mlinks : Nat → Int32) (mblocks : Nat → Int32) (mvals : Nat → Int32) (msnaps : Int32) (mranks : Nat → Int32) (mkept : Nat → Int32) (mshot : Nat → Int32) (mwas : Nat → Int32) (mholds : Int32) (mheld : Nat → Int32) (mends : Nat → Int32) (mopen : Nat → Int32) (mentr : Int32) (mkinds : Nat → Int32) (misop : Int32) (mfilesT : Int32) (mentrT : Int32) (mpromT : Nat → Int32) (mlinksT : Nat → Int32) (mblocksT : Nat → Int32) (mvalsT : Nat → Int32) (R : va_W) (sz : Nat) (p1 : Int32) : Met l yX4_lineAt (wm yX4_lineAt cX4_lineAt 2 (some .char)) ({ frames := 3, cells := 0, slots := 0, locals := 120 } : Room) (PREC sa [.ref (ad 0), .int p1] D ca sl (WM ca ad sa mcode mday mown mquot mprom mfiles mowner mlinks mblocks mvals msnaps mranks mkept mshot mwas mholds mheld mends mopen mentr mkinds misop mfilesT mentrT mpromT mlinksT mblocksT mvalsT ++ R) sz) (QI 0 D (WM ca ad sa 1 mday mown mquot mprom mfiles mowner mlinks mblocks mvals msnaps mranks mkept mshot mwas mholds mheld mends mopen mentr mkinds misop mfilesT mentrT mpromT mlinksT mblocksT mvalsT ++ R) (WM ca ad sa mcode mday mown mquot mprom mfiles mowner mlinks mblocks mvals msnaps mranks mkept mshot mwas mholds mheld mends mopen mentr mkinds misop mfilesT mentrT mpromT mlinksT mblocksT mvalsT ++ R) sz) 0 0 (va_A (WM ca ad sa mcode mday mown mquot mprom mfiles mowner mlinks mblocks mvals msnaps mranks mkept mshot mwas mholds mheld mends mopen mentr mkinds misop mfilesT mentrT mpromT mlinksT mblocksT mvalsT ++ R) sz) := by
  refine Met.ofW (cc := cX4_lineAt) (maxL := 2) (ret := (some .char)) (by decide) rfl ?_
  intro p e s m args below meth c s₁ B9 hml hv
  obtain ⟨rfl, rfl, hP, hE, hD0, hZ, hW9⟩ := hv
  have hx := B9.exec
  have hb := B9.bytes
  have hr := B9.returns
  have hts := wm_ww (atoms_spec (ws := wm yX4_lineAt cX4_lineAt 2 (some .char)) B9.pre)
  have hown : s.vm.findClass RX4 = some m.cls := findClass_of_methodNamed B9.named
  have hlocks := B9.notSynchronized
  have hK := hE.1
  have hD := hD0.self (sz := s.heap.size)
  generalize hAe : va_A (WM ca ad sa mcode mday mown mquot mprom mfiles mowner mlinks mblocks mvals msnaps mranks mkept mshot mwas mholds mheld mends mopen mentr mkinds misop mfilesT mentrT mpromT mlinksT mblocksT mvalsT ++ R) s.heap.size = A at hD hZ hW9 ⊢
  have hA : ∀ q : Nat, s.heap.size ≤ q → A q := fun q h => by rw [← hAe]; exact Or.inr h
  have hS : va_S A s.heap s.heap [] := va_S.rf
  have hl := lv_entry ([.ref (ad 0), .int p1]) (n := 2) (Nat.le_of_ble_eq_true rfl)
  rw [lg_entry_eq]
  generalize (lg_sl ([.ref (ad 0), .int p1]) ++ List.replicate (2 - (lg_sl ([.ref (ad 0), .int p1])).length) Slot.unset).toArray = ls at hl ⊢
  have hl : lv_has ls 2 [(0, .ref (ad 0)), (1, .int p1)] := hl
  change W p l e ({ frames := 3, cells := 0, slots := 0, locals := 120 } : Room) s m _ below meth c s.heap [] 0 0 _ _
  have hP : va_P D vwCl (WM ca ad sa mcode mday mown mquot mprom mfiles mowner mlinks mblocks mvals msnaps mranks mkept mshot mwas mholds mheld mends mopen mentr mkinds misop mfilesT mentrT mpromT mlinksT mblocksT mvalsT ++ R) s.heap := hP
  refine lv_aload_n hx hb dX4_lineAt_0 rfl (lv_at hl 0 rfl) ?_
  refine lv_iload_n hx hb dX4_lineAt_1 rfl (lv_at hl 1 rfl) ?_
  refine lv_iconst (v := 0) hx hb dX4_lineAt_2 (by decide) ?_
  refine lv_aload_n hx hb dX4_lineAt_3 rfl (lv_at hl 0 rfl) ?_
  refine va_get (D := D) (ci := 8) (v := .ref sa) (C := RX4) (T := TX4) (N := 29) hx hb hts inX4 hown hK hP 0 rfl rfl 28 (by decide) (hts _ q1357) (fun _ h9 => h9) rfl dX4_lineAt_4 ?_
  refine zr_i (w := (WM ca ad sa mcode mday mown mquot mprom mfiles mowner mlinks mblocks mvals msnaps mranks mkept mshot mwas mholds mheld mends mopen mentr mkinds misop mfilesT mentrT mpromT mlinksT mblocksT mvalsT ++ R)) (rest := [.int 0, .int p1, .ref (ad 0)]) (m_K_length l ca sa _) ⟨hx, hb, hml, hown, hts⟩ (cwV 0 hts (gV q1665 q1116 q1117 q48 q1118) rfl rfl rfl (by decide +kernel) ⟨Nat.le_of_ble_eq_true rfl, Nat.le_of_ble_eq_true rfl⟩) (va_Orecv hW9.1 hS) hE hP hW9 hS hA hZ rfl hl.1 rfl (lv_room (Nat.le_of_ble_eq_true rfl)) dX4_lineAt_7 ⟨Nat.le_of_ble_eq_true rfl, Nat.le_of_ble_eq_true rfl⟩ (fun H locs hP hS => ?_)
  refine lv_iconst (v := 1) hx hb dX4_lineAt_10 (by decide) ?_
  refine lv_isub hx hb dX4_lineAt_11 ?_
  refine call_si (rest := [.ref (ad 0)]) (m_M_in l ca ad sa mcode mday mown mquot mprom mfiles mowner mlinks mblocks mvals msnaps mranks mkept mshot mwas mholds mheld mends mopen mentr mkinds misop mfilesT mentrT mpromT mlinksT mblocksT mvalsT R _ p1 0 (-1) 0 (in_none p1)) ⟨hx, hb, hml, hown, hts⟩ (va_cwS 3 hts (gS q1425 q1426 q50 q1427) rfl rfl rfl (by decide +kernel) ⟨Nat.le_of_ble_eq_true rfl, Nat.le_of_ble_eq_true rfl⟩) hE hP hD hS hA rfl hl.1 rfl (lv_room (Nat.le_of_ble_eq_true rfl)) dX4_lineAt_12 ⟨Nat.le_of_ble_eq_true rfl, Nat.le_of_ble_eq_true rfl⟩ (fun H locs hP hD hS => ?_)
  refine lv_if_eq (tgt := 22) hx hb dX4_lineAt_15 (by decide) (fun c1 => ?_) (fun c1 => absurd rfl c1)
  refine lv_iconst (v := 1) hx hb dX4_lineAt_22 (by decide) ?_
  refine va_put (D := D) (ci := 8) (v := .int 1) (ty := .int) (C := RX4) (T := TX4) (N := 29) hx hb hts inX4 tyX4 tyX4_ok nmX4 hown hK hP hD hS 0 rfl rfl 0 (by decide) (hts _ q1329) (fun _ h9 => h9) rfl (by decide +kernel) rfl rfl (Nat.le_of_ble_eq_true rfl) dX4_lineAt_23 (fun H locs hP hD hS => ?_)
  have hP : va_P D vwCl (WM ca ad sa 1 mday mown mquot mprom mfiles mowner mlinks mblocks mvals msnaps mranks mkept mshot mwas mholds mheld mends mopen mentr mkinds misop mfilesT mentrT mpromT mlinksT mblocksT mvalsT ++ R) H := hP
  have hD : va_D A (WM ca ad sa 1 mday mown mquot mprom mfiles mowner mlinks mblocks mvals msnaps mranks mkept mshot mwas mholds mheld mends mopen mentr mkinds misop mfilesT mentrT mpromT mlinksT mblocksT mvalsT ++ R) := hD
  refine lv_aload_n hx hb dX4_lineAt_26 rfl (lv_at hl 0 rfl) ?_
  refine va_get (D := D) (ci := 8) (v := .int 1) (C := RX4) (T := TX4) (N := 29) hx hb hts inX4 hown hK hP 0 rfl rfl 0 (by decide) (hts _ q1329) (fun _ h9 => h9) rfl dX4_lineAt_27 ?_
  refine lv_if_le (tgt := 37) hx hb dX4_lineAt_30 (by decide) (fun c1 => absurd c1 (by decide)) (fun c1 => ?_)
  refine lv_iconst (v := 0) hx hb dX4_lineAt_33 (by decide) ?_
  refine lv_goto (tgt := 45) hx hb dX4_lineAt_34 (by decide) ?_
  exact end_i hAe rfl hx hb hr hlocks rfl hP hD hS dX4_lineAt_45
