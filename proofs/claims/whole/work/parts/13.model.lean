/-! printed by program out of the bytecode: pure functions and contracts -/
def f_M_thrown (mcode : Int32) : Option (Int32) :=
  some mcode
set_option maxHeartbeats 4000000 in
set_option maxRecDepth 100000 in
theorem m_M_thrown (l : Launch) {D : va_G} {sl : List (String × Nat × String)} (ca : Nat → ClassId) (ad : Nat → Nat) (lq : Nat) (mcode : Int32) (mday : Int32) (mown : Int32) (mquot : Nat → Int32) (mprom : Nat → Int32) (mfiles : Int32) (mowner : Nat → Int32) (mlinks : Nat → Int32) (mblocks : Nat → Int32) (mvals : Nat → Int32) (msnaps : Int32) (mranks : Nat → Int32) (mkept : Nat → Int32) (mshot : Nat → Int32) (mwas : Nat → Int32) (mholds : Int32) (mheld : Nat → Int32) (mends : Nat → Int32) (mopen : Nat → Int32) (mentr : Int32) (mkinds : Nat → Int32) (misop : Int32) (mfilesT : Int32) (mentrT : Int32) (mpromT : Nat → Int32) (mlinksT : Nat → Int32) (mblocksT : Nat → Int32) (mvalsT : Nat → Int32) (R : va_W) (sz : Nat) (ro : Int32) (hf : f_M_thrown mcode = some ro) : Met l yX4_thrown (wm yX4_thrown cX4_thrown 1 (some .int)) ({ frames := 0, cells := 0, slots := 0, locals := 0 } : Room) (PRE [.ref (ad 0)] D ca sl (WM ca ad lq mcode mday mown mquot mprom mfiles mowner mlinks mblocks mvals msnaps mranks mkept mshot mwas mholds mheld mends mopen mentr mkinds misop mfilesT mentrT mpromT mlinksT mblocksT mvalsT ++ R) sz) (QI ro D (WM ca ad lq mcode mday mown mquot mprom mfiles mowner mlinks mblocks mvals msnaps mranks mkept mshot mwas mholds mheld mends mopen mentr mkinds misop mfilesT mentrT mpromT mlinksT mblocksT mvalsT ++ R) (WM ca ad lq mcode mday mown mquot mprom mfiles mowner mlinks mblocks mvals msnaps mranks mkept mshot mwas mholds mheld mends mopen mentr mkinds misop mfilesT mentrT mpromT mlinksT mblocksT mvalsT ++ R) sz) 0 0 (va_A (WM ca ad lq mcode mday mown mquot mprom mfiles mowner mlinks mblocks mvals msnaps mranks mkept mshot mwas mholds mheld mends mopen mentr mkinds misop mfilesT mentrT mpromT mlinksT mblocksT mvalsT ++ R) sz) := by
  refine Met.ofW (cc := cX4_thrown) (maxL := 1) (ret := (some .int)) (by decide) rfl ?_
  intro p e s m args below meth c s₁ B hml hv
  obtain ⟨rfl, rfl, hP, hE, hD0⟩ := hv
  have hx := B.exec
  have hb := B.bytes
  have hr := B.returns
  have hts := wm_ww (atoms_spec (ws := wm yX4_thrown cX4_thrown 1 (some .int)) B.pre)
  have hown : s.vm.findClass RX4 = some m.cls := findClass_of_methodNamed B.named
  have hlocks := B.notSynchronized
  have hK := hE.1
  have hD := hD0.self (sz := s.heap.size)
  generalize hAe : va_A (WM ca ad lq mcode mday mown mquot mprom mfiles mowner mlinks mblocks mvals msnaps mranks mkept mshot mwas mholds mheld mends mopen mentr mkinds misop mfilesT mentrT mpromT mlinksT mblocksT mvalsT ++ R) s.heap.size = A at hD ⊢
  have hA : ∀ q : Nat, s.heap.size ≤ q → A q := fun q h => by rw [← hAe]; exact Or.inr h
  have hS : va_S A s.heap s.heap [] := va_S.rf
  have hl := lv_entry ([.ref (ad 0)]) (n := 1) (Nat.le_of_ble_eq_true rfl)
  rw [lg_entry_eq]
  generalize (lg_sl ([.ref (ad 0)]) ++ List.replicate (1 - (lg_sl ([.ref (ad 0)])).length) Slot.unset).toArray = ls at hl ⊢
  have hl : lv_has ls 1 [(0, .ref (ad 0))] := hl
  change W p l e ({ frames := 0, cells := 0, slots := 0, locals := 0 } : Room) s m _ below meth c s.heap [] 0 0 _ _
  generalize hQm : MQ below (QI ro D (WM ca ad lq mcode mday mown mquot mprom mfiles mowner mlinks mblocks mvals msnaps mranks mkept mshot mwas mholds mheld mends mopen mentr mkinds misop mfilesT mentrT mpromT mlinksT mblocksT mvalsT ++ R) (WM ca ad lq mcode mday mown mquot mprom mfiles mowner mlinks mblocks mvals msnaps mranks mkept mshot mwas mholds mheld mends mopen mentr mkinds misop mfilesT mentrT mpromT mlinksT mblocksT mvalsT ++ R) s.heap.size) _ s 0 0 A = Qm
  have hP : va_P D vwCl (WM ca ad lq mcode mday mown mquot mprom mfiles mowner mlinks mblocks mvals msnaps mranks mkept mshot mwas mholds mheld mends mopen mentr mkinds misop mfilesT mentrT mpromT mlinksT mblocksT mvalsT ++ R) s.heap := hP
  generalize hae : ([.ref (ad 0)] : List Value).toArray = args at hts hQm ⊢
  refine lv_aload_n hx hb dX4_thrown_0 rfl (lv_at hl 0 rfl) ?_
  refine va_get (D := D) (ci := 8) (v := .int mcode) (C := RX4) (T := TX4) (N := 29) hx hb hts inX4 hown hK hP 0 rfl rfl 0 (by decide) (hts _ q1329) (fun _ h9 => h9) rfl dX4_thrown_1 ?_
  cases hf
  exact end_i hAe hQm hx hb hr hlocks rfl hP hD hS dX4_thrown_4
def f_M_in (p0 : Int32) (p1 : Int32) (p2 : Int32) : Option (Int32) :=
  if p0 < p1 then
    some 0
  else
    if p2 < p0 then
      some 0
    else
      some 1
set_option maxHeartbeats 4000000 in
set_option maxRecDepth 100000 in
theorem m_M_in (l : Launch) {D : va_G} {sl : List (String × Nat × String)} (ca : Nat → ClassId) (ad : Nat → Nat) (lq : Nat) (mcode : Int32) (mday : Int32) (mown : Int32) (mquot : Nat → Int32) (mprom : Nat → Int32) (mfiles : Int32) (mowner : Nat → Int32) (mlinks : Nat → Int32) (mblocks : Nat → Int32) (mvals : Nat → Int32) (msnaps : Int32) (mranks : Nat → Int32) (mkept : Nat → Int32) (mshot : Nat → Int32) (mwas : Nat → Int32) (mholds : Int32) (mheld : Nat → Int32) (mends : Nat → Int32) (mopen : Nat → Int32) (mentr : Int32) (mkinds : Nat → Int32) (misop : Int32) (mfilesT : Int32) (mentrT : Int32) (mpromT : Nat → Int32) (mlinksT : Nat → Int32) (mblocksT : Nat → Int32) (mvalsT : Nat → Int32) (R : va_W) (sz : Nat) (p0 : Int32) (p1 : Int32) (p2 : Int32) (ro : Int32) (hf : f_M_in p0 p1 p2 = some ro) : Met l yX4_in (wm yX4_in cX4_in 3 (some .boolean)) ({ frames := 0, cells := 0, slots := 0, locals := 0 } : Room) (PRE [.int p0, .int p1, .int p2] D ca sl (WM ca ad lq mcode mday mown mquot mprom mfiles mowner mlinks mblocks mvals msnaps mranks mkept mshot mwas mholds mheld mends mopen mentr mkinds misop mfilesT mentrT mpromT mlinksT mblocksT mvalsT ++ R) sz) (QI ro D (WM ca ad lq mcode mday mown mquot mprom mfiles mowner mlinks mblocks mvals msnaps mranks mkept mshot mwas mholds mheld mends mopen mentr mkinds misop mfilesT mentrT mpromT mlinksT mblocksT mvalsT ++ R) (WM ca ad lq mcode mday mown mquot mprom mfiles mowner mlinks mblocks mvals msnaps mranks mkept mshot mwas mholds mheld mends mopen mentr mkinds misop mfilesT mentrT mpromT mlinksT mblocksT mvalsT ++ R) sz) 0 0 (va_A (WM ca ad lq mcode mday mown mquot mprom mfiles mowner mlinks mblocks mvals msnaps mranks mkept mshot mwas mholds mheld mends mopen mentr mkinds misop mfilesT mentrT mpromT mlinksT mblocksT mvalsT ++ R) sz) := by
  refine Met.ofW (cc := cX4_in) (maxL := 3) (ret := (some .boolean)) (by decide) rfl ?_
  intro p e s m args below meth c s₁ B hml hv
  obtain ⟨rfl, rfl, hP, hE, hD0⟩ := hv
  have hx := B.exec
  have hb := B.bytes
  have hr := B.returns
  have hts := wm_ww (atoms_spec (ws := wm yX4_in cX4_in 3 (some .boolean)) B.pre)
  have hown : s.vm.findClass RX4 = some m.cls := findClass_of_methodNamed B.named
  have hlocks := B.notSynchronized
  have hK := hE.1
  have hD := hD0.self (sz := s.heap.size)
  generalize hAe : va_A (WM ca ad lq mcode mday mown mquot mprom mfiles mowner mlinks mblocks mvals msnaps mranks mkept mshot mwas mholds mheld mends mopen mentr mkinds misop mfilesT mentrT mpromT mlinksT mblocksT mvalsT ++ R) s.heap.size = A at hD ⊢
  have hA : ∀ q : Nat, s.heap.size ≤ q → A q := fun q h => by rw [← hAe]; exact Or.inr h
  have hS : va_S A s.heap s.heap [] := va_S.rf
  have hl := lv_entry ([.int p0, .int p1, .int p2]) (n := 3) (Nat.le_of_ble_eq_true rfl)
  rw [lg_entry_eq]
  generalize (lg_sl ([.int p0, .int p1, .int p2]) ++ List.replicate (3 - (lg_sl ([.int p0, .int p1, .int p2])).length) Slot.unset).toArray = ls at hl ⊢
  have hl : lv_has ls 3 [(0, .int p0), (1, .int p1), (2, .int p2)] := hl
  change W p l e ({ frames := 0, cells := 0, slots := 0, locals := 0 } : Room) s m _ below meth c s.heap [] 0 0 _ _
  generalize hQm : MQ below (QI ro D (WM ca ad lq mcode mday mown mquot mprom mfiles mowner mlinks mblocks mvals msnaps mranks mkept mshot mwas mholds mheld mends mopen mentr mkinds misop mfilesT mentrT mpromT mlinksT mblocksT mvalsT ++ R) (WM ca ad lq mcode mday mown mquot mprom mfiles mowner mlinks mblocks mvals msnaps mranks mkept mshot mwas mholds mheld mends mopen mentr mkinds misop mfilesT mentrT mpromT mlinksT mblocksT mvalsT ++ R) s.heap.size) _ s 0 0 A = Qm
  have hP : va_P D vwCl (WM ca ad lq mcode mday mown mquot mprom mfiles mowner mlinks mblocks mvals msnaps mranks mkept mshot mwas mholds mheld mends mopen mentr mkinds misop mfilesT mentrT mpromT mlinksT mblocksT mvalsT ++ R) s.heap := hP
  generalize hae : ([.int p0, .int p1, .int p2] : List Value).toArray = args at hts hQm ⊢
  refine lv_iload_n hx hb dX4_in_0 rfl (lv_at hl 0 rfl) ?_
  refine lv_iload_n hx hb dX4_in_1 rfl (lv_at hl 1 rfl) ?_
  refine lv_icmp_lt (tgt := 14) hx hb dX4_in_2 (by decide) (fun c1 => ?_) (fun c1 => ?_)
  · have hf := br_pos c1 hf
    refine lv_iconst (v := 0) hx hb dX4_in_14 (by decide) ?_
    cases hf
    exact end_i hAe hQm hx hb hr hlocks rfl hP hD hS dX4_in_15
  · have hf := br_neg c1 hf
    refine lv_iload_n hx hb dX4_in_5 rfl (lv_at hl 0 rfl) ?_
    refine lv_iload_n hx hb dX4_in_6 rfl (lv_at hl 2 rfl) ?_
    refine lv_icmp_gt (tgt := 14) hx hb dX4_in_7 (by decide) (fun c2 => ?_) (fun c2 => ?_)
    · have hf := br_pos c2 hf
      refine lv_iconst (v := 0) hx hb dX4_in_14 (by decide) ?_
      cases hf
      exact end_i hAe hQm hx hb hr hlocks rfl hP hD hS dX4_in_15
    · have hf := br_neg c2 hf
      refine lv_iconst (v := 1) hx hb dX4_in_10 (by decide) ?_
      refine lv_goto (tgt := 15) hx hb dX4_in_11 (by decide) ?_
      cases hf
      exact end_i hAe hQm hx hb hr hlocks rfl hP hD hS dX4_in_15
def f_M_fails (p1 : Int32) : Option (Int32 × Int32) :=
  some (0, p1)
set_option maxHeartbeats 4000000 in
set_option maxRecDepth 100000 in
theorem m_M_fails (l : Launch) {D : va_G} {sl : List (String × Nat × String)} (ca : Nat → ClassId) (ad : Nat → Nat) (lq : Nat) (mcode : Int32) (mday : Int32) (mown : Int32) (mquot : Nat → Int32) (mprom : Nat → Int32) (mfiles : Int32) (mowner : Nat → Int32) (mlinks : Nat → Int32) (mblocks : Nat → Int32) (mvals : Nat → Int32) (msnaps : Int32) (mranks : Nat → Int32) (mkept : Nat → Int32) (mshot : Nat → Int32) (mwas : Nat → Int32) (mholds : Int32) (mheld : Nat → Int32) (mends : Nat → Int32) (mopen : Nat → Int32) (mentr : Int32) (mkinds : Nat → Int32) (misop : Int32) (mfilesT : Int32) (mentrT : Int32) (mpromT : Nat → Int32) (mlinksT : Nat → Int32) (mblocksT : Nat → Int32) (mvalsT : Nat → Int32) (R : va_W) (sz : Nat) (p1 : Int32) (ro : Int32) (omcode : Int32) (hf : f_M_fails p1 = some (ro, omcode)) : Met l yX4_fails (wm yX4_fails cX4_fails 2 (some .int)) ({ frames := 0, cells := 0, slots := 0, locals := 0 } : Room) (PRE [.ref (ad 0), .int p1] D ca sl (WM ca ad lq mcode mday mown mquot mprom mfiles mowner mlinks mblocks mvals msnaps mranks mkept mshot mwas mholds mheld mends mopen mentr mkinds misop mfilesT mentrT mpromT mlinksT mblocksT mvalsT ++ R) sz) (QI ro D (WM ca ad lq omcode mday mown mquot mprom mfiles mowner mlinks mblocks mvals msnaps mranks mkept mshot mwas mholds mheld mends mopen mentr mkinds misop mfilesT mentrT mpromT mlinksT mblocksT mvalsT ++ R) (WM ca ad lq mcode mday mown mquot mprom mfiles mowner mlinks mblocks mvals msnaps mranks mkept mshot mwas mholds mheld mends mopen mentr mkinds misop mfilesT mentrT mpromT mlinksT mblocksT mvalsT ++ R) sz) 0 0 (va_A (WM ca ad lq mcode mday mown mquot mprom mfiles mowner mlinks mblocks mvals msnaps mranks mkept mshot mwas mholds mheld mends mopen mentr mkinds misop mfilesT mentrT mpromT mlinksT mblocksT mvalsT ++ R) sz) := by
  refine Met.ofW (cc := cX4_fails) (maxL := 2) (ret := (some .int)) (by decide) rfl ?_
  intro p e s m args below meth c s₁ B hml hv
  obtain ⟨rfl, rfl, hP, hE, hD0⟩ := hv
  have hx := B.exec
  have hb := B.bytes
  have hr := B.returns
  have hts := wm_ww (atoms_spec (ws := wm yX4_fails cX4_fails 2 (some .int)) B.pre)
  have hown : s.vm.findClass RX4 = some m.cls := findClass_of_methodNamed B.named
  have hlocks := B.notSynchronized
  have hK := hE.1
  have hD := hD0.self (sz := s.heap.size)
  generalize hAe : va_A (WM ca ad lq mcode mday mown mquot mprom mfiles mowner mlinks mblocks mvals msnaps mranks mkept mshot mwas mholds mheld mends mopen mentr mkinds misop mfilesT mentrT mpromT mlinksT mblocksT mvalsT ++ R) s.heap.size = A at hD ⊢
  have hA : ∀ q : Nat, s.heap.size ≤ q → A q := fun q h => by rw [← hAe]; exact Or.inr h
  have hS : va_S A s.heap s.heap [] := va_S.rf
  have hl := lv_entry ([.ref (ad 0), .int p1]) (n := 2) (Nat.le_of_ble_eq_true rfl)
  rw [lg_entry_eq]
  generalize (lg_sl ([.ref (ad 0), .int p1]) ++ List.replicate (2 - (lg_sl ([.ref (ad 0), .int p1])).length) Slot.unset).toArray = ls at hl ⊢
  have hl : lv_has ls 2 [(0, .ref (ad 0)), (1, .int p1)] := hl
  change W p l e ({ frames := 0, cells := 0, slots := 0, locals := 0 } : Room) s m _ below meth c s.heap [] 0 0 _ _
  generalize hQm : MQ below (QI ro D (WM ca ad lq omcode mday mown mquot mprom mfiles mowner mlinks mblocks mvals msnaps mranks mkept mshot mwas mholds mheld mends mopen mentr mkinds misop mfilesT mentrT mpromT mlinksT mblocksT mvalsT ++ R) (WM ca ad lq mcode mday mown mquot mprom mfiles mowner mlinks mblocks mvals msnaps mranks mkept mshot mwas mholds mheld mends mopen mentr mkinds misop mfilesT mentrT mpromT mlinksT mblocksT mvalsT ++ R) s.heap.size) _ s 0 0 A = Qm
  have hP : va_P D vwCl (WM ca ad lq mcode mday mown mquot mprom mfiles mowner mlinks mblocks mvals msnaps mranks mkept mshot mwas mholds mheld mends mopen mentr mkinds misop mfilesT mentrT mpromT mlinksT mblocksT mvalsT ++ R) s.heap := hP
  generalize hae : ([.ref (ad 0), .int p1] : List Value).toArray = args at hts hQm ⊢
  refine lv_aload_n hx hb dX4_fails_0 rfl (lv_at hl 0 rfl) ?_
  refine lv_iload_n hx hb dX4_fails_1 rfl (lv_at hl 1 rfl) ?_
  refine va_put (D := D) (ci := 8) (v := .int p1) (ty := .int) (C := RX4) (T := TX4) (N := 29) hx hb hts inX4 tyX4 tyX4_ok nmX4 hown hK hP hD hS 0 rfl rfl 0 (by decide) (hts _ q1329) (fun _ h9 => h9) rfl (by decide +kernel) rfl rfl (Nat.le_of_ble_eq_true rfl) dX4_fails_2 (fun H locs hP hD hS => ?_)
  have hP : va_P D vwCl (WM ca ad lq p1 mday mown mquot mprom mfiles mowner mlinks mblocks mvals msnaps mranks mkept mshot mwas mholds mheld mends mopen mentr mkinds misop mfilesT mentrT mpromT mlinksT mblocksT mvalsT ++ R) H := hP
  have hD : va_D A (WM ca ad lq p1 mday mown mquot mprom mfiles mowner mlinks mblocks mvals msnaps mranks mkept mshot mwas mholds mheld mends mopen mentr mkinds misop mfilesT mentrT mpromT mlinksT mblocksT mvalsT ++ R) := hD
  refine lv_iconst (v := 0) hx hb dX4_fails_5 (by decide) ?_
  cases hf
  exact end_i hAe hQm hx hb hr hlocks rfl hP hD hS dX4_fails_6
def f_M_isOwner (p1 : Int32) (mown : Int32) : Option (Int32) :=
  (f_M_in p1 0 (mown - 1)).bind fun r1 =>
  if vp_nar .boolean r1 = r1 then some r1 else none
set_option maxHeartbeats 4000000 in
set_option maxRecDepth 100000 in
theorem m_M_isOwner (l : Launch) {D : va_G} {sl : List (String × Nat × String)} (ca : Nat → ClassId) (ad : Nat → Nat) (lq : Nat) (mcode : Int32) (mday : Int32) (mown : Int32) (mquot : Nat → Int32) (mprom : Nat → Int32) (mfiles : Int32) (mowner : Nat → Int32) (mlinks : Nat → Int32) (mblocks : Nat → Int32) (mvals : Nat → Int32) (msnaps : Int32) (mranks : Nat → Int32) (mkept : Nat → Int32) (mshot : Nat → Int32) (mwas : Nat → Int32) (mholds : Int32) (mheld : Nat → Int32) (mends : Nat → Int32) (mopen : Nat → Int32) (mentr : Int32) (mkinds : Nat → Int32) (misop : Int32) (mfilesT : Int32) (mentrT : Int32) (mpromT : Nat → Int32) (mlinksT : Nat → Int32) (mblocksT : Nat → Int32) (mvalsT : Nat → Int32) (R : va_W) (sz : Nat) (p1 : Int32) (ro : Int32) (hf : f_M_isOwner p1 mown = some ro) : Met l yX4_isOwner (wm yX4_isOwner cX4_isOwner 2 (some .boolean)) ({ frames := 1, cells := 0, slots := 0, locals := 22 } : Room) (PRE [.ref (ad 0), .int p1] D ca sl (WM ca ad lq mcode mday mown mquot mprom mfiles mowner mlinks mblocks mvals msnaps mranks mkept mshot mwas mholds mheld mends mopen mentr mkinds misop mfilesT mentrT mpromT mlinksT mblocksT mvalsT ++ R) sz) (QI ro D (WM ca ad lq mcode mday mown mquot mprom mfiles mowner mlinks mblocks mvals msnaps mranks mkept mshot mwas mholds mheld mends mopen mentr mkinds misop mfilesT mentrT mpromT mlinksT mblocksT mvalsT ++ R) (WM ca ad lq mcode mday mown mquot mprom mfiles mowner mlinks mblocks mvals msnaps mranks mkept mshot mwas mholds mheld mends mopen mentr mkinds misop mfilesT mentrT mpromT mlinksT mblocksT mvalsT ++ R) sz) 0 0 (va_A (WM ca ad lq mcode mday mown mquot mprom mfiles mowner mlinks mblocks mvals msnaps mranks mkept mshot mwas mholds mheld mends mopen mentr mkinds misop mfilesT mentrT mpromT mlinksT mblocksT mvalsT ++ R) sz) := by
  refine Met.ofW (cc := cX4_isOwner) (maxL := 2) (ret := (some .boolean)) (by decide) rfl ?_
  intro p e s m args below meth c s₁ B hml hv
  obtain ⟨rfl, rfl, hP, hE, hD0⟩ := hv
  have hx := B.exec
  have hb := B.bytes
  have hr := B.returns
  have hts := wm_ww (atoms_spec (ws := wm yX4_isOwner cX4_isOwner 2 (some .boolean)) B.pre)
  have hown : s.vm.findClass RX4 = some m.cls := findClass_of_methodNamed B.named
  have hlocks := B.notSynchronized
  have hK := hE.1
  have hD := hD0.self (sz := s.heap.size)
  generalize hAe : va_A (WM ca ad lq mcode mday mown mquot mprom mfiles mowner mlinks mblocks mvals msnaps mranks mkept mshot mwas mholds mheld mends mopen mentr mkinds misop mfilesT mentrT mpromT mlinksT mblocksT mvalsT ++ R) s.heap.size = A at hD ⊢
  have hA : ∀ q : Nat, s.heap.size ≤ q → A q := fun q h => by rw [← hAe]; exact Or.inr h
  have hS : va_S A s.heap s.heap [] := va_S.rf
  have hl := lv_entry ([.ref (ad 0), .int p1]) (n := 2) (Nat.le_of_ble_eq_true rfl)
  rw [lg_entry_eq]
  generalize (lg_sl ([.ref (ad 0), .int p1]) ++ List.replicate (2 - (lg_sl ([.ref (ad 0), .int p1])).length) Slot.unset).toArray = ls at hl ⊢
  have hl : lv_has ls 2 [(0, .ref (ad 0)), (1, .int p1)] := hl
  change W p l e ({ frames := 1, cells := 0, slots := 0, locals := 22 } : Room) s m _ below meth c s.heap [] 0 0 _ _
  generalize hQm : MQ below (QI ro D (WM ca ad lq mcode mday mown mquot mprom mfiles mowner mlinks mblocks mvals msnaps mranks mkept mshot mwas mholds mheld mends mopen mentr mkinds misop mfilesT mentrT mpromT mlinksT mblocksT mvalsT ++ R) (WM ca ad lq mcode mday mown mquot mprom mfiles mowner mlinks mblocks mvals msnaps mranks mkept mshot mwas mholds mheld mends mopen mentr mkinds misop mfilesT mentrT mpromT mlinksT mblocksT mvalsT ++ R) s.heap.size) _ s 0 0 A = Qm
  have hP : va_P D vwCl (WM ca ad lq mcode mday mown mquot mprom mfiles mowner mlinks mblocks mvals msnaps mranks mkept mshot mwas mholds mheld mends mopen mentr mkinds misop mfilesT mentrT mpromT mlinksT mblocksT mvalsT ++ R) s.heap := hP
  generalize hae : ([.ref (ad 0), .int p1] : List Value).toArray = args at hts hQm ⊢
  refine lv_iload_n hx hb dX4_isOwner_0 rfl (lv_at hl 1 rfl) ?_
  refine lv_iconst (v := 0) hx hb dX4_isOwner_1 (by decide) ?_
  refine lv_aload_n hx hb dX4_isOwner_2 rfl (lv_at hl 0 rfl) ?_
  refine va_get (D := D) (ci := 8) (v := .int mown) (C := RX4) (T := TX4) (N := 29) hx hb hts inX4 hown hK hP 0 rfl rfl 2 (by decide) (hts _ q1331) (fun _ h9 => h9) rfl dX4_isOwner_3 ?_
  refine lv_iconst (v := 1) hx hb dX4_isOwner_6 (by decide) ?_
  refine lv_isub hx hb dX4_isOwner_7 ?_
  obtain ⟨r1, h2, hf⟩ := bnd hf
  refine call_si (rest := []) (m_M_in l ca ad lq mcode mday mown mquot mprom mfiles mowner mlinks mblocks mvals msnaps mranks mkept mshot mwas mholds mheld mends mopen mentr mkinds misop mfilesT mentrT mpromT mlinksT mblocksT mvalsT R _ p1 0 (mown - 1) r1 h2) ⟨hx, hb, hml, hown, hts⟩ (va_cwS 3 hts (gS q1425 q1426 q50 q1427) rfl rfl rfl (by decide +kernel) ⟨Nat.le_of_ble_eq_true rfl, Nat.le_of_ble_eq_true rfl⟩) hE hP hD hS hA rfl hl.1 rfl (lv_room (Nat.le_of_ble_eq_true rfl)) dX4_isOwner_8 ⟨Nat.le_of_ble_eq_true rfl, Nat.le_of_ble_eq_true rfl⟩ (fun H locs hP hD hS => ?_)
  obtain ⟨k3, hf⟩ := ck_yes hf
  cases hf
  exact end_i hAe hQm hx hb hr hlocks (nar_z k3) hP hD hS dX4_isOwner_11
def f_M_isFile (p1 : Int32) (mfiles : Int32) : Option (Int32) :=
  (f_M_in p1 0 (mfiles - 1)).bind fun r1 =>
  if vp_nar .boolean r1 = r1 then some r1 else none
set_option maxHeartbeats 4000000 in
set_option maxRecDepth 100000 in
theorem m_M_isFile (l : Launch) {D : va_G} {sl : List (String × Nat × String)} (ca : Nat → ClassId) (ad : Nat → Nat) (lq : Nat) (mcode : Int32) (mday : Int32) (mown : Int32) (mquot : Nat → Int32) (mprom : Nat → Int32) (mfiles : Int32) (mowner : Nat → Int32) (mlinks : Nat → Int32) (mblocks : Nat → Int32) (mvals : Nat → Int32) (msnaps : Int32) (mranks : Nat → Int32) (mkept : Nat → Int32) (mshot : Nat → Int32) (mwas : Nat → Int32) (mholds : Int32) (mheld : Nat → Int32) (mends : Nat → Int32) (mopen : Nat → Int32) (mentr : Int32) (mkinds : Nat → Int32) (misop : Int32) (mfilesT : Int32) (mentrT : Int32) (mpromT : Nat → Int32) (mlinksT : Nat → Int32) (mblocksT : Nat → Int32) (mvalsT : Nat → Int32) (R : va_W) (sz : Nat) (p1 : Int32) (ro : Int32) (hf : f_M_isFile p1 mfiles = some ro) : Met l yX4_isFile (wm yX4_isFile cX4_isFile 2 (some .boolean)) ({ frames := 1, cells := 0, slots := 0, locals := 22 } : Room) (PRE [.ref (ad 0), .int p1] D ca sl (WM ca ad lq mcode mday mown mquot mprom mfiles mowner mlinks mblocks mvals msnaps mranks mkept mshot mwas mholds mheld mends mopen mentr mkinds misop mfilesT mentrT mpromT mlinksT mblocksT mvalsT ++ R) sz) (QI ro D (WM ca ad lq mcode mday mown mquot mprom mfiles mowner mlinks mblocks mvals msnaps mranks mkept mshot mwas mholds mheld mends mopen mentr mkinds misop mfilesT mentrT mpromT mlinksT mblocksT mvalsT ++ R) (WM ca ad lq mcode mday mown mquot mprom mfiles mowner mlinks mblocks mvals msnaps mranks mkept mshot mwas mholds mheld mends mopen mentr mkinds misop mfilesT mentrT mpromT mlinksT mblocksT mvalsT ++ R) sz) 0 0 (va_A (WM ca ad lq mcode mday mown mquot mprom mfiles mowner mlinks mblocks mvals msnaps mranks mkept mshot mwas mholds mheld mends mopen mentr mkinds misop mfilesT mentrT mpromT mlinksT mblocksT mvalsT ++ R) sz) := by
  refine Met.ofW (cc := cX4_isFile) (maxL := 2) (ret := (some .boolean)) (by decide) rfl ?_
  intro p e s m args below meth c s₁ B hml hv
  obtain ⟨rfl, rfl, hP, hE, hD0⟩ := hv
  have hx := B.exec
  have hb := B.bytes
  have hr := B.returns
  have hts := wm_ww (atoms_spec (ws := wm yX4_isFile cX4_isFile 2 (some .boolean)) B.pre)
  have hown : s.vm.findClass RX4 = some m.cls := findClass_of_methodNamed B.named
  have hlocks := B.notSynchronized
  have hK := hE.1
  have hD := hD0.self (sz := s.heap.size)
  generalize hAe : va_A (WM ca ad lq mcode mday mown mquot mprom mfiles mowner mlinks mblocks mvals msnaps mranks mkept mshot mwas mholds mheld mends mopen mentr mkinds misop mfilesT mentrT mpromT mlinksT mblocksT mvalsT ++ R) s.heap.size = A at hD ⊢
  have hA : ∀ q : Nat, s.heap.size ≤ q → A q := fun q h => by rw [← hAe]; exact Or.inr h
  have hS : va_S A s.heap s.heap [] := va_S.rf
  have hl := lv_entry ([.ref (ad 0), .int p1]) (n := 2) (Nat.le_of_ble_eq_true rfl)
  rw [lg_entry_eq]
  generalize (lg_sl ([.ref (ad 0), .int p1]) ++ List.replicate (2 - (lg_sl ([.ref (ad 0), .int p1])).length) Slot.unset).toArray = ls at hl ⊢
  have hl : lv_has ls 2 [(0, .ref (ad 0)), (1, .int p1)] := hl
  change W p l e ({ frames := 1, cells := 0, slots := 0, locals := 22 } : Room) s m _ below meth c s.heap [] 0 0 _ _
  generalize hQm : MQ below (QI ro D (WM ca ad lq mcode mday mown mquot mprom mfiles mowner mlinks mblocks mvals msnaps mranks mkept mshot mwas mholds mheld mends mopen mentr mkinds misop mfilesT mentrT mpromT mlinksT mblocksT mvalsT ++ R) (WM ca ad lq mcode mday mown mquot mprom mfiles mowner mlinks mblocks mvals msnaps mranks mkept mshot mwas mholds mheld mends mopen mentr mkinds misop mfilesT mentrT mpromT mlinksT mblocksT mvalsT ++ R) s.heap.size) _ s 0 0 A = Qm
  have hP : va_P D vwCl (WM ca ad lq mcode mday mown mquot mprom mfiles mowner mlinks mblocks mvals msnaps mranks mkept mshot mwas mholds mheld mends mopen mentr mkinds misop mfilesT mentrT mpromT mlinksT mblocksT mvalsT ++ R) s.heap := hP
  generalize hae : ([.ref (ad 0), .int p1] : List Value).toArray = args at hts hQm ⊢
  refine lv_iload_n hx hb dX4_isFile_0 rfl (lv_at hl 1 rfl) ?_
  refine lv_iconst (v := 0) hx hb dX4_isFile_1 (by decide) ?_
  refine lv_aload_n hx hb dX4_isFile_2 rfl (lv_at hl 0 rfl) ?_
  refine va_get (D := D) (ci := 8) (v := .int mfiles) (C := RX4) (T := TX4) (N := 29) hx hb hts inX4 hown hK hP 0 rfl rfl 5 (by decide) (hts _ q1334) (fun _ h9 => h9) rfl dX4_isFile_3 ?_
  refine lv_iconst (v := 1) hx hb dX4_isFile_6 (by decide) ?_
  refine lv_isub hx hb dX4_isFile_7 ?_
  obtain ⟨r1, h2, hf⟩ := bnd hf
  refine call_si (rest := []) (m_M_in l ca ad lq mcode mday mown mquot mprom mfiles mowner mlinks mblocks mvals msnaps mranks mkept mshot mwas mholds mheld mends mopen mentr mkinds misop mfilesT mentrT mpromT mlinksT mblocksT mvalsT R _ p1 0 (mfiles - 1) r1 h2) ⟨hx, hb, hml, hown, hts⟩ (va_cwS 3 hts (gS q1425 q1426 q50 q1427) rfl rfl rfl (by decide +kernel) ⟨Nat.le_of_ble_eq_true rfl, Nat.le_of_ble_eq_true rfl⟩) hE hP hD hS hA rfl hl.1 rfl (lv_room (Nat.le_of_ble_eq_true rfl)) dX4_isFile_8 ⟨Nat.le_of_ble_eq_true rfl, Nat.le_of_ble_eq_true rfl⟩ (fun H locs hP hD hS => ?_)
  obtain ⟨k3, hf⟩ := ck_yes hf
  cases hf
  exact end_i hAe hQm hx hb hr hlocks (nar_z k3) hP hD hS dX4_isFile_11
def f_M_isPlace (p0 : Int32) : Option (Int32) :=
  (f_M_in p0 0 15).bind fun r1 =>
  if vp_nar .boolean r1 = r1 then some r1 else none
set_option maxHeartbeats 4000000 in
set_option maxRecDepth 100000 in
theorem m_M_isPlace (l : Launch) {D : va_G} {sl : List (String × Nat × String)} (ca : Nat → ClassId) (ad : Nat → Nat) (lq : Nat) (mcode : Int32) (mday : Int32) (mown : Int32) (mquot : Nat → Int32) (mprom : Nat → Int32) (mfiles : Int32) (mowner : Nat → Int32) (mlinks : Nat → Int32) (mblocks : Nat → Int32) (mvals : Nat → Int32) (msnaps : Int32) (mranks : Nat → Int32) (mkept : Nat → Int32) (mshot : Nat → Int32) (mwas : Nat → Int32) (mholds : Int32) (mheld : Nat → Int32) (mends : Nat → Int32) (mopen : Nat → Int32) (mentr : Int32) (mkinds : Nat → Int32) (misop : Int32) (mfilesT : Int32) (mentrT : Int32) (mpromT : Nat → Int32) (mlinksT : Nat → Int32) (mblocksT : Nat → Int32) (mvalsT : Nat → Int32) (R : va_W) (sz : Nat) (p0 : Int32) (ro : Int32) (hf : f_M_isPlace p0 = some ro) : Met l yX4_isPlace (wm yX4_isPlace cX4_isPlace 1 (some .boolean)) ({ frames := 1, cells := 0, slots := 0, locals := 22 } : Room) (PRE [.int p0] D ca sl (WM ca ad lq mcode mday mown mquot mprom mfiles mowner mlinks mblocks mvals msnaps mranks mkept mshot mwas mholds mheld mends mopen mentr mkinds misop mfilesT mentrT mpromT mlinksT mblocksT mvalsT ++ R) sz) (QI ro D (WM ca ad lq mcode mday mown mquot mprom mfiles mowner mlinks mblocks mvals msnaps mranks mkept mshot mwas mholds mheld mends mopen mentr mkinds misop mfilesT mentrT mpromT mlinksT mblocksT mvalsT ++ R) (WM ca ad lq mcode mday mown mquot mprom mfiles mowner mlinks mblocks mvals msnaps mranks mkept mshot mwas mholds mheld mends mopen mentr mkinds misop mfilesT mentrT mpromT mlinksT mblocksT mvalsT ++ R) sz) 0 0 (va_A (WM ca ad lq mcode mday mown mquot mprom mfiles mowner mlinks mblocks mvals msnaps mranks mkept mshot mwas mholds mheld mends mopen mentr mkinds misop mfilesT mentrT mpromT mlinksT mblocksT mvalsT ++ R) sz) := by
  refine Met.ofW (cc := cX4_isPlace) (maxL := 1) (ret := (some .boolean)) (by decide) rfl ?_
  intro p e s m args below meth c s₁ B hml hv
  obtain ⟨rfl, rfl, hP, hE, hD0⟩ := hv
  have hx := B.exec
  have hb := B.bytes
  have hr := B.returns
  have hts := wm_ww (atoms_spec (ws := wm yX4_isPlace cX4_isPlace 1 (some .boolean)) B.pre)
  have hown : s.vm.findClass RX4 = some m.cls := findClass_of_methodNamed B.named
  have hlocks := B.notSynchronized
  have hK := hE.1
  have hD := hD0.self (sz := s.heap.size)
  generalize hAe : va_A (WM ca ad lq mcode mday mown mquot mprom mfiles mowner mlinks mblocks mvals msnaps mranks mkept mshot mwas mholds mheld mends mopen mentr mkinds misop mfilesT mentrT mpromT mlinksT mblocksT mvalsT ++ R) s.heap.size = A at hD ⊢
  have hA : ∀ q : Nat, s.heap.size ≤ q → A q := fun q h => by rw [← hAe]; exact Or.inr h
  have hS : va_S A s.heap s.heap [] := va_S.rf
  have hl := lv_entry ([.int p0]) (n := 1) (Nat.le_of_ble_eq_true rfl)
  rw [lg_entry_eq]
  generalize (lg_sl ([.int p0]) ++ List.replicate (1 - (lg_sl ([.int p0])).length) Slot.unset).toArray = ls at hl ⊢
  have hl : lv_has ls 1 [(0, .int p0)] := hl
  change W p l e ({ frames := 1, cells := 0, slots := 0, locals := 22 } : Room) s m _ below meth c s.heap [] 0 0 _ _
  generalize hQm : MQ below (QI ro D (WM ca ad lq mcode mday mown mquot mprom mfiles mowner mlinks mblocks mvals msnaps mranks mkept mshot mwas mholds mheld mends mopen mentr mkinds misop mfilesT mentrT mpromT mlinksT mblocksT mvalsT ++ R) (WM ca ad lq mcode mday mown mquot mprom mfiles mowner mlinks mblocks mvals msnaps mranks mkept mshot mwas mholds mheld mends mopen mentr mkinds misop mfilesT mentrT mpromT mlinksT mblocksT mvalsT ++ R) s.heap.size) _ s 0 0 A = Qm
  have hP : va_P D vwCl (WM ca ad lq mcode mday mown mquot mprom mfiles mowner mlinks mblocks mvals msnaps mranks mkept mshot mwas mholds mheld mends mopen mentr mkinds misop mfilesT mentrT mpromT mlinksT mblocksT mvalsT ++ R) s.heap := hP
  generalize hae : ([.int p0] : List Value).toArray = args at hts hQm ⊢
  refine lv_iload_n hx hb dX4_isPlace_0 rfl (lv_at hl 0 rfl) ?_
  refine lv_iconst (v := 0) hx hb dX4_isPlace_1 (by decide) ?_
  refine lv_bipush (v := 15) hx hb dX4_isPlace_2 (by decide) ?_
  obtain ⟨r1, h2, hf⟩ := bnd hf
  refine call_si (rest := []) (m_M_in l ca ad lq mcode mday mown mquot mprom mfiles mowner mlinks mblocks mvals msnaps mranks mkept mshot mwas mholds mheld mends mopen mentr mkinds misop mfilesT mentrT mpromT mlinksT mblocksT mvalsT R _ p0 0 15 r1 h2) ⟨hx, hb, hml, hown, hts⟩ (va_cwS 3 hts (gS q1425 q1426 q50 q1427) rfl rfl rfl (by decide +kernel) ⟨Nat.le_of_ble_eq_true rfl, Nat.le_of_ble_eq_true rfl⟩) hE hP hD hS hA rfl hl.1 rfl (lv_room (Nat.le_of_ble_eq_true rfl)) dX4_isPlace_4 ⟨Nat.le_of_ble_eq_true rfl, Nat.le_of_ble_eq_true rfl⟩ (fun H locs hP hD hS => ?_)
  obtain ⟨k3, hf⟩ := ck_yes hf
  cases hf
  exact end_i hAe hQm hx hb hr hlocks (nar_z k3) hP hD hS dX4_isPlace_7
def f_M_isSnapshot (p1 : Int32) (msnaps : Int32) : Option (Int32) :=
  (f_M_in p1 0 (msnaps - 1)).bind fun r1 =>
  if vp_nar .boolean r1 = r1 then some r1 else none
set_option maxHeartbeats 4000000 in
set_option maxRecDepth 100000 in
theorem m_M_isSnapshot (l : Launch) {D : va_G} {sl : List (String × Nat × String)} (ca : Nat → ClassId) (ad : Nat → Nat) (lq : Nat) (mcode : Int32) (mday : Int32) (mown : Int32) (mquot : Nat → Int32) (mprom : Nat → Int32) (mfiles : Int32) (mowner : Nat → Int32) (mlinks : Nat → Int32) (mblocks : Nat → Int32) (mvals : Nat → Int32) (msnaps : Int32) (mranks : Nat → Int32) (mkept : Nat → Int32) (mshot : Nat → Int32) (mwas : Nat → Int32) (mholds : Int32) (mheld : Nat → Int32) (mends : Nat → Int32) (mopen : Nat → Int32) (mentr : Int32) (mkinds : Nat → Int32) (misop : Int32) (mfilesT : Int32) (mentrT : Int32) (mpromT : Nat → Int32) (mlinksT : Nat → Int32) (mblocksT : Nat → Int32) (mvalsT : Nat → Int32) (R : va_W) (sz : Nat) (p1 : Int32) (ro : Int32) (hf : f_M_isSnapshot p1 msnaps = some ro) : Met l yX4_isSnapshot (wm yX4_isSnapshot cX4_isSnapshot 2 (some .boolean)) ({ frames := 1, cells := 0, slots := 0, locals := 22 } : Room) (PRE [.ref (ad 0), .int p1] D ca sl (WM ca ad lq mcode mday mown mquot mprom mfiles mowner mlinks mblocks mvals msnaps mranks mkept mshot mwas mholds mheld mends mopen mentr mkinds misop mfilesT mentrT mpromT mlinksT mblocksT mvalsT ++ R) sz) (QI ro D (WM ca ad lq mcode mday mown mquot mprom mfiles mowner mlinks mblocks mvals msnaps mranks mkept mshot mwas mholds mheld mends mopen mentr mkinds misop mfilesT mentrT mpromT mlinksT mblocksT mvalsT ++ R) (WM ca ad lq mcode mday mown mquot mprom mfiles mowner mlinks mblocks mvals msnaps mranks mkept mshot mwas mholds mheld mends mopen mentr mkinds misop mfilesT mentrT mpromT mlinksT mblocksT mvalsT ++ R) sz) 0 0 (va_A (WM ca ad lq mcode mday mown mquot mprom mfiles mowner mlinks mblocks mvals msnaps mranks mkept mshot mwas mholds mheld mends mopen mentr mkinds misop mfilesT mentrT mpromT mlinksT mblocksT mvalsT ++ R) sz) := by
  refine Met.ofW (cc := cX4_isSnapshot) (maxL := 2) (ret := (some .boolean)) (by decide) rfl ?_
  intro p e s m args below meth c s₁ B hml hv
  obtain ⟨rfl, rfl, hP, hE, hD0⟩ := hv
  have hx := B.exec
  have hb := B.bytes
  have hr := B.returns
  have hts := wm_ww (atoms_spec (ws := wm yX4_isSnapshot cX4_isSnapshot 2 (some .boolean)) B.pre)
  have hown : s.vm.findClass RX4 = some m.cls := findClass_of_methodNamed B.named
  have hlocks := B.notSynchronized
  have hK := hE.1
  have hD := hD0.self (sz := s.heap.size)
  generalize hAe : va_A (WM ca ad lq mcode mday mown mquot mprom mfiles mowner mlinks mblocks mvals msnaps mranks mkept mshot mwas mholds mheld mends mopen mentr mkinds misop mfilesT mentrT mpromT mlinksT mblocksT mvalsT ++ R) s.heap.size = A at hD ⊢
  have hA : ∀ q : Nat, s.heap.size ≤ q → A q := fun q h => by rw [← hAe]; exact Or.inr h
  have hS : va_S A s.heap s.heap [] := va_S.rf
  have hl := lv_entry ([.ref (ad 0), .int p1]) (n := 2) (Nat.le_of_ble_eq_true rfl)
  rw [lg_entry_eq]
  generalize (lg_sl ([.ref (ad 0), .int p1]) ++ List.replicate (2 - (lg_sl ([.ref (ad 0), .int p1])).length) Slot.unset).toArray = ls at hl ⊢
  have hl : lv_has ls 2 [(0, .ref (ad 0)), (1, .int p1)] := hl
  change W p l e ({ frames := 1, cells := 0, slots := 0, locals := 22 } : Room) s m _ below meth c s.heap [] 0 0 _ _
  generalize hQm : MQ below (QI ro D (WM ca ad lq mcode mday mown mquot mprom mfiles mowner mlinks mblocks mvals msnaps mranks mkept mshot mwas mholds mheld mends mopen mentr mkinds misop mfilesT mentrT mpromT mlinksT mblocksT mvalsT ++ R) (WM ca ad lq mcode mday mown mquot mprom mfiles mowner mlinks mblocks mvals msnaps mranks mkept mshot mwas mholds mheld mends mopen mentr mkinds misop mfilesT mentrT mpromT mlinksT mblocksT mvalsT ++ R) s.heap.size) _ s 0 0 A = Qm
  have hP : va_P D vwCl (WM ca ad lq mcode mday mown mquot mprom mfiles mowner mlinks mblocks mvals msnaps mranks mkept mshot mwas mholds mheld mends mopen mentr mkinds misop mfilesT mentrT mpromT mlinksT mblocksT mvalsT ++ R) s.heap := hP
  generalize hae : ([.ref (ad 0), .int p1] : List Value).toArray = args at hts hQm ⊢
  refine lv_iload_n hx hb dX4_isSnapshot_0 rfl (lv_at hl 1 rfl) ?_
  refine lv_iconst (v := 0) hx hb dX4_isSnapshot_1 (by decide) ?_
  refine lv_aload_n hx hb dX4_isSnapshot_2 rfl (lv_at hl 0 rfl) ?_
  refine va_get (D := D) (ci := 8) (v := .int msnaps) (C := RX4) (T := TX4) (N := 29) hx hb hts inX4 hown hK hP 0 rfl rfl 10 (by decide) (hts _ q1339) (fun _ h9 => h9) rfl dX4_isSnapshot_3 ?_
  refine lv_iconst (v := 1) hx hb dX4_isSnapshot_6 (by decide) ?_
  refine lv_isub hx hb dX4_isSnapshot_7 ?_
  obtain ⟨r1, h2, hf⟩ := bnd hf
  refine call_si (rest := []) (m_M_in l ca ad lq mcode mday mown mquot mprom mfiles mowner mlinks mblocks mvals msnaps mranks mkept mshot mwas mholds mheld mends mopen mentr mkinds misop mfilesT mentrT mpromT mlinksT mblocksT mvalsT R _ p1 0 (msnaps - 1) r1 h2) ⟨hx, hb, hml, hown, hts⟩ (va_cwS 3 hts (gS q1425 q1426 q50 q1427) rfl rfl rfl (by decide +kernel) ⟨Nat.le_of_ble_eq_true rfl, Nat.le_of_ble_eq_true rfl⟩) hE hP hD hS hA rfl hl.1 rfl (lv_room (Nat.le_of_ble_eq_true rfl)) dX4_isSnapshot_8 ⟨Nat.le_of_ble_eq_true rfl, Nat.le_of_ble_eq_true rfl⟩ (fun H locs hP hD hS => ?_)
  obtain ⟨k3, hf⟩ := ck_yes hf
  cases hf
  exact end_i hAe hQm hx hb hr hlocks (nar_z k3) hP hD hS dX4_isSnapshot_11
def f_M_isHold (p1 : Int32) (mholds : Int32) : Option (Int32) :=
  (f_M_in p1 0 (mholds - 1)).bind fun r1 =>
  if vp_nar .boolean r1 = r1 then some r1 else none
set_option maxHeartbeats 4000000 in
set_option maxRecDepth 100000 in
theorem m_M_isHold (l : Launch) {D : va_G} {sl : List (String × Nat × String)} (ca : Nat → ClassId) (ad : Nat → Nat) (lq : Nat) (mcode : Int32) (mday : Int32) (mown : Int32) (mquot : Nat → Int32) (mprom : Nat → Int32) (mfiles : Int32) (mowner : Nat → Int32) (mlinks : Nat → Int32) (mblocks : Nat → Int32) (mvals : Nat → Int32) (msnaps : Int32) (mranks : Nat → Int32) (mkept : Nat → Int32) (mshot : Nat → Int32) (mwas : Nat → Int32) (mholds : Int32) (mheld : Nat → Int32) (mends : Nat → Int32) (mopen : Nat → Int32) (mentr : Int32) (mkinds : Nat → Int32) (misop : Int32) (mfilesT : Int32) (mentrT : Int32) (mpromT : Nat → Int32) (mlinksT : Nat → Int32) (mblocksT : Nat → Int32) (mvalsT : Nat → Int32) (R : va_W) (sz : Nat) (p1 : Int32) (ro : Int32) (hf : f_M_isHold p1 mholds = some ro) : Met l yX4_isHold (wm yX4_isHold cX4_isHold 2 (some .boolean)) ({ frames := 1, cells := 0, slots := 0, locals := 22 } : Room) (PRE [.ref (ad 0), .int p1] D ca sl (WM ca ad lq mcode mday mown mquot mprom mfiles mowner mlinks mblocks mvals msnaps mranks mkept mshot mwas mholds mheld mends mopen mentr mkinds misop mfilesT mentrT mpromT mlinksT mblocksT mvalsT ++ R) sz) (QI ro D (WM ca ad lq mcode mday mown mquot mprom mfiles mowner mlinks mblocks mvals msnaps mranks mkept mshot mwas mholds mheld mends mopen mentr mkinds misop mfilesT mentrT mpromT mlinksT mblocksT mvalsT ++ R) (WM ca ad lq mcode mday mown mquot mprom mfiles mowner mlinks mblocks mvals msnaps mranks mkept mshot mwas mholds mheld mends mopen mentr mkinds misop mfilesT mentrT mpromT mlinksT mblocksT mvalsT ++ R) sz) 0 0 (va_A (WM ca ad lq mcode mday mown mquot mprom mfiles mowner mlinks mblocks mvals msnaps mranks mkept mshot mwas mholds mheld mends mopen mentr mkinds misop mfilesT mentrT mpromT mlinksT mblocksT mvalsT ++ R) sz) := by
  refine Met.ofW (cc := cX4_isHold) (maxL := 2) (ret := (some .boolean)) (by decide) rfl ?_
  intro p e s m args below meth c s₁ B hml hv
  obtain ⟨rfl, rfl, hP, hE, hD0⟩ := hv
  have hx := B.exec
  have hb := B.bytes
  have hr := B.returns
  have hts := wm_ww (atoms_spec (ws := wm yX4_isHold cX4_isHold 2 (some .boolean)) B.pre)
  have hown : s.vm.findClass RX4 = some m.cls := findClass_of_methodNamed B.named
  have hlocks := B.notSynchronized
  have hK := hE.1
  have hD := hD0.self (sz := s.heap.size)
  generalize hAe : va_A (WM ca ad lq mcode mday mown mquot mprom mfiles mowner mlinks mblocks mvals msnaps mranks mkept mshot mwas mholds mheld mends mopen mentr mkinds misop mfilesT mentrT mpromT mlinksT mblocksT mvalsT ++ R) s.heap.size = A at hD ⊢
  have hA : ∀ q : Nat, s.heap.size ≤ q → A q := fun q h => by rw [← hAe]; exact Or.inr h
  have hS : va_S A s.heap s.heap [] := va_S.rf
  have hl := lv_entry ([.ref (ad 0), .int p1]) (n := 2) (Nat.le_of_ble_eq_true rfl)
  rw [lg_entry_eq]
  generalize (lg_sl ([.ref (ad 0), .int p1]) ++ List.replicate (2 - (lg_sl ([.ref (ad 0), .int p1])).length) Slot.unset).toArray = ls at hl ⊢
  have hl : lv_has ls 2 [(0, .ref (ad 0)), (1, .int p1)] := hl
  change W p l e ({ frames := 1, cells := 0, slots := 0, locals := 22 } : Room) s m _ below meth c s.heap [] 0 0 _ _
  generalize hQm : MQ below (QI ro D (WM ca ad lq mcode mday mown mquot mprom mfiles mowner mlinks mblocks mvals msnaps mranks mkept mshot mwas mholds mheld mends mopen mentr mkinds misop mfilesT mentrT mpromT mlinksT mblocksT mvalsT ++ R) (WM ca ad lq mcode mday mown mquot mprom mfiles mowner mlinks mblocks mvals msnaps mranks mkept mshot mwas mholds mheld mends mopen mentr mkinds misop mfilesT mentrT mpromT mlinksT mblocksT mvalsT ++ R) s.heap.size) _ s 0 0 A = Qm
  have hP : va_P D vwCl (WM ca ad lq mcode mday mown mquot mprom mfiles mowner mlinks mblocks mvals msnaps mranks mkept mshot mwas mholds mheld mends mopen mentr mkinds misop mfilesT mentrT mpromT mlinksT mblocksT mvalsT ++ R) s.heap := hP
  generalize hae : ([.ref (ad 0), .int p1] : List Value).toArray = args at hts hQm ⊢
  refine lv_iload_n hx hb dX4_isHold_0 rfl (lv_at hl 1 rfl) ?_
  refine lv_iconst (v := 0) hx hb dX4_isHold_1 (by decide) ?_
  refine lv_aload_n hx hb dX4_isHold_2 rfl (lv_at hl 0 rfl) ?_
  refine va_get (D := D) (ci := 8) (v := .int mholds) (C := RX4) (T := TX4) (N := 29) hx hb hts inX4 hown hK hP 0 rfl rfl 15 (by decide) (hts _ q1344) (fun _ h9 => h9) rfl dX4_isHold_3 ?_
  refine lv_iconst (v := 1) hx hb dX4_isHold_6 (by decide) ?_
  refine lv_isub hx hb dX4_isHold_7 ?_
  obtain ⟨r1, h2, hf⟩ := bnd hf
  refine call_si (rest := []) (m_M_in l ca ad lq mcode mday mown mquot mprom mfiles mowner mlinks mblocks mvals msnaps mranks mkept mshot mwas mholds mheld mends mopen mentr mkinds misop mfilesT mentrT mpromT mlinksT mblocksT mvalsT R _ p1 0 (mholds - 1) r1 h2) ⟨hx, hb, hml, hown, hts⟩ (va_cwS 3 hts (gS q1425 q1426 q50 q1427) rfl rfl rfl (by decide +kernel) ⟨Nat.le_of_ble_eq_true rfl, Nat.le_of_ble_eq_true rfl⟩) hE hP hD hS hA rfl hl.1 rfl (lv_room (Nat.le_of_ble_eq_true rfl)) dX4_isHold_8 ⟨Nat.le_of_ble_eq_true rfl, Nat.le_of_ble_eq_true rfl⟩ (fun H locs hP hD hS => ?_)
  obtain ⟨k3, hf⟩ := ck_yes hf
  cases hf
  exact end_i hAe hQm hx hb hr hlocks (nar_z k3) hP hD hS dX4_isHold_11
def f_M_held_L4 : Nat → Int32 → Int32 → Int32 → Int32 → (Nat → Int32) → (Nat → Int32) → Option (Int32)
  | 0, _, _, _, _, _, _ => none
  | fuel + 1, v1, v2, v3, mholds, mheld, mopen =>
    if mholds ≤ v3 then
      some v2
    else
      if v3 < 0 ∨ 30 ≤ v3.toNatClampNeg then none else
        if (mopen v3.toNatClampNeg) = 0 then
        f_M_held_L4 fuel v1 (v2 + 0) (v3 + 1) mholds mheld mopen
      else
        if v3 < 0 ∨ 30 ≤ v3.toNatClampNeg then none else
          if (mheld v3.toNatClampNeg) = v1 then
          f_M_held_L4 fuel v1 (v2 + 1) (v3 + 1) mholds mheld mopen
        else
          f_M_held_L4 fuel v1 (v2 + 0) (v3 + 1) mholds mheld mopen
def f_M_held (p1 : Int32) (mholds : Int32) (mheld : Nat → Int32) (mopen : Nat → Int32) : Option (Int32) :=
  (f_M_held_L4 FU p1 0 0 mholds mheld mopen).bind fun x12 =>
  some x12
set_option maxHeartbeats 4000000 in
set_option maxRecDepth 100000 in
theorem m_M_held (l : Launch) {D : va_G} {sl : List (String × Nat × String)} (ca : Nat → ClassId) (ad : Nat → Nat) (lq : Nat) (mcode : Int32) (mday : Int32) (mown : Int32) (mquot : Nat → Int32) (mprom : Nat → Int32) (mfiles : Int32) (mowner : Nat → Int32) (mlinks : Nat → Int32) (mblocks : Nat → Int32) (mvals : Nat → Int32) (msnaps : Int32) (mranks : Nat → Int32) (mkept : Nat → Int32) (mshot : Nat → Int32) (mwas : Nat → Int32) (mholds : Int32) (mheld : Nat → Int32) (mends : Nat → Int32) (mopen : Nat → Int32) (mentr : Int32) (mkinds : Nat → Int32) (misop : Int32) (mfilesT : Int32) (mentrT : Int32) (mpromT : Nat → Int32) (mlinksT : Nat → Int32) (mblocksT : Nat → Int32) (mvalsT : Nat → Int32) (R : va_W) (sz : Nat) (p1 : Int32) (ro : Int32) (hf : f_M_held p1 mholds mheld mopen = some ro) : Met l yX4_held (wm yX4_held cX4_held 4 (some .int)) ({ frames := 0, cells := 0, slots := 0, locals := 0 } : Room) (PRE [.ref (ad 0), .int p1] D ca sl (WM ca ad lq mcode mday mown mquot mprom mfiles mowner mlinks mblocks mvals msnaps mranks mkept mshot mwas mholds mheld mends mopen mentr mkinds misop mfilesT mentrT mpromT mlinksT mblocksT mvalsT ++ R) sz) (QI ro D (WM ca ad lq mcode mday mown mquot mprom mfiles mowner mlinks mblocks mvals msnaps mranks mkept mshot mwas mholds mheld mends mopen mentr mkinds misop mfilesT mentrT mpromT mlinksT mblocksT mvalsT ++ R) (WM ca ad lq mcode mday mown mquot mprom mfiles mowner mlinks mblocks mvals msnaps mranks mkept mshot mwas mholds mheld mends mopen mentr mkinds misop mfilesT mentrT mpromT mlinksT mblocksT mvalsT ++ R) sz) 0 0 (va_A (WM ca ad lq mcode mday mown mquot mprom mfiles mowner mlinks mblocks mvals msnaps mranks mkept mshot mwas mholds mheld mends mopen mentr mkinds misop mfilesT mentrT mpromT mlinksT mblocksT mvalsT ++ R) sz) := by
  refine Met.ofW (cc := cX4_held) (maxL := 4) (ret := (some .int)) (by decide) rfl ?_
  intro p e s m args below meth c s₁ B hml hv
  obtain ⟨rfl, rfl, hP, hE, hD0⟩ := hv
  have hx := B.exec
  have hb := B.bytes
  have hr := B.returns
  have hts := wm_ww (atoms_spec (ws := wm yX4_held cX4_held 4 (some .int)) B.pre)
  have hown : s.vm.findClass RX4 = some m.cls := findClass_of_methodNamed B.named
  have hlocks := B.notSynchronized
  have hK := hE.1
  have hD := hD0.self (sz := s.heap.size)
  generalize hAe : va_A (WM ca ad lq mcode mday mown mquot mprom mfiles mowner mlinks mblocks mvals msnaps mranks mkept mshot mwas mholds mheld mends mopen mentr mkinds misop mfilesT mentrT mpromT mlinksT mblocksT mvalsT ++ R) s.heap.size = A at hD ⊢
  have hA : ∀ q : Nat, s.heap.size ≤ q → A q := fun q h => by rw [← hAe]; exact Or.inr h
  have hS : va_S A s.heap s.heap [] := va_S.rf
  have hl := lv_entry ([.ref (ad 0), .int p1]) (n := 4) (Nat.le_of_ble_eq_true rfl)
  rw [lg_entry_eq]
  generalize (lg_sl ([.ref (ad 0), .int p1]) ++ List.replicate (4 - (lg_sl ([.ref (ad 0), .int p1])).length) Slot.unset).toArray = ls at hl ⊢
  have hl : lv_has ls 4 [(0, .ref (ad 0)), (1, .int p1)] := hl
  change W p l e ({ frames := 0, cells := 0, slots := 0, locals := 0 } : Room) s m _ below meth c s.heap [] 0 0 _ _
  generalize hQm : MQ below (QI ro D (WM ca ad lq mcode mday mown mquot mprom mfiles mowner mlinks mblocks mvals msnaps mranks mkept mshot mwas mholds mheld mends mopen mentr mkinds misop mfilesT mentrT mpromT mlinksT mblocksT mvalsT ++ R) (WM ca ad lq mcode mday mown mquot mprom mfiles mowner mlinks mblocks mvals msnaps mranks mkept mshot mwas mholds mheld mends mopen mentr mkinds misop mfilesT mentrT mpromT mlinksT mblocksT mvalsT ++ R) s.heap.size) _ s 0 0 A = Qm
  have hP : va_P D vwCl (WM ca ad lq mcode mday mown mquot mprom mfiles mowner mlinks mblocks mvals msnaps mranks mkept mshot mwas mholds mheld mends mopen mentr mkinds misop mfilesT mentrT mpromT mlinksT mblocksT mvalsT ++ R) s.heap := hP
  generalize hae : ([.ref (ad 0), .int p1] : List Value).toArray = args at hts hQm ⊢
  have L4 : ∀ (n : Nat) (v1 : Int32) (v2 : Int32) (v3 : Int32) (y2 : Int32), f_M_held_L4 n v1 v2 v3 mholds mheld mopen = some y2 → ∀ (H : Heap) (locs : List Loc) (ls : Array Slot), va_P D vwCl (WM ca ad lq mcode mday mown mquot mprom mfiles mowner mlinks mblocks mvals msnaps mranks mkept mshot mwas mholds mheld mends mopen mentr mkinds misop mfilesT mentrT mpromT mlinksT mblocksT mvalsT ++ R) H → va_D A (WM ca ad lq mcode mday mown mquot mprom mfiles mowner mlinks mblocks mvals msnaps mranks mkept mshot mwas mholds mheld mends mopen mentr mkinds misop mfilesT mentrT mpromT mlinksT mblocksT mvalsT ++ R) → va_S A s.heap H locs → lv_has ls 4 [(0, .ref (ad 0)), (1, .int v1), (2, .int v2), (3, .int v3)] → (∀ (H : Heap) (locs : List Loc) (ls : Array Slot), va_P D vwCl (WM ca ad lq mcode mday mown mquot mprom mfiles mowner mlinks mblocks mvals msnaps mranks mkept mshot mwas mholds mheld mends mopen mentr mkinds misop mfilesT mentrT mpromT mlinksT mblocksT mvalsT ++ R) H → va_D A (WM ca ad lq mcode mday mown mquot mprom mfiles mowner mlinks mblocks mvals msnaps mranks mkept mshot mwas mholds mheld mends mopen mentr mkinds misop mfilesT mentrT mpromT mlinksT mblocksT mvalsT ++ R) → va_S A s.heap H locs → lv_has ls 4 [(2, .int y2)] → W p l e ({ frames := 0, cells := 0, slots := 0, locals := 0 } : Room) s m args below meth c H locs 0 0 Qm (F0 m 45 ls [])) → W p l e ({ frames := 0, cells := 0, slots := 0, locals := 0 } : Room) s m args below meth c H locs 0 0 Qm (F0 m 4 ls []) := by
    intro n
    induction n with
    | zero => intro v1 v2 v3 y2 hf; cases hf
    | succ n ih =>
      intro v1 v2 v3 y2 hf H locs ls hP hD hS hl kk
      unfold f_M_held_L4 at hf
      refine lv_iload_n hx hb dX4_held_4 rfl (lv_at hl 3 rfl) ?_
      refine lv_aload_n hx hb dX4_held_5 rfl (lv_at hl 0 rfl) ?_
      refine va_get (D := D) (ci := 8) (v := .int mholds) (C := RX4) (T := TX4) (N := 29) hx hb hts inX4 hown hK hP 0 rfl rfl 15 (by decide) (hts _ q1344) (fun _ h9 => h9) rfl dX4_held_6 ?_
      refine lv_icmp_ge (tgt := 45) hx hb dX4_held_9 (by decide) (fun c6 => ?_) (fun c6 => ?_)
      · have hf := br_pos c6 hf
        cases hf
        exact kk _ _ _ hP hD hS (lv_sub hl [2] rfl)
      · have hf := br_neg c6 hf
        refine lv_iload_n hx hb dX4_held_12 rfl (lv_at hl 2 rfl) ?_
        refine lv_aload_n hx hb dX4_held_13 rfl (lv_at hl 0 rfl) ?_
        refine va_get (D := D) (ci := 8) (v := .ref (ad 13)) (C := RX4) (T := TX4) (N := 29) hx hb hts inX4 hown hK hP 0 rfl rfl 18 (by decide) (hts _ q1347) (fun _ h9 => h9) rfl dX4_held_14 ?_
        refine lv_iload_n hx hb dX4_held_17 rfl (lv_at hl 3 rfl) ?_
        obtain ⟨k7, hf⟩ := ck_not hf
        refine va_zald (D := D) hx hb hK hP 13 1 rfl rfl k7 dX4_held_18 ?_
        refine lv_if_eq (tgt := 36) hx hb dX4_held_19 (by decide) (fun c8 => ?_) (fun c8 => ?_)
        · have hf := br_pos c8 hf
          refine lv_iconst (v := 0) hx hb dX4_held_36 (by decide) ?_
          refine lv_iadd hx hb dX4_held_37 ?_
          refine lv_istore_n (lv' := [(2, .int (v2 + 0)), (0, .ref (ad 0)), (1, .int v1), (3, .int v3)]) hx hb dX4_held_38 rfl hl (by decide) rfl (fun ls hl => ?_)
          refine lv_iinc (v := (v3 + 1)) (lv' := [(3, .int (v3 + 1)), (2, .int (v2 + 0)), (0, .ref (ad 0)), (1, .int v1)]) hx hb dX4_held_39 hl (k := 3) rfl rfl (by decide) rfl (fun ls hl => ?_)
          refine lv_goto (tgt := 4) hx hb dX4_held_42 (by decide) ?_
          exact ih v1 (v2 + 0) (v3 + 1) _ hf _ _ _ hP hD hS (lv_sub hl [2, 3, 1, 0] rfl) kk
        · have hf := br_neg c8 hf
          refine lv_aload_n hx hb dX4_held_22 rfl (lv_at hl 0 rfl) ?_
          refine va_get (D := D) (ci := 8) (v := .ref (ad 11)) (C := RX4) (T := TX4) (N := 29) hx hb hts inX4 hown hK hP 0 rfl rfl 16 (by decide) (hts _ q1345) (fun _ h9 => h9) rfl dX4_held_23 ?_
          refine lv_iload_n hx hb dX4_held_26 rfl (lv_at hl 3 rfl) ?_
          obtain ⟨k9, hf⟩ := ck_not hf
          refine va_iald (D := D) hx hb hK hP 11 0 rfl rfl k9 dX4_held_27 ?_
          refine lv_iload_n hx hb dX4_held_28 rfl (lv_at hl 1 rfl) ?_
          refine lv_icmp_ne (tgt := 36) hx hb dX4_held_29 (by decide) (fun c10 => ?_) (fun c10 => ?_)
          · have hf := br_neg c10 hf
            refine lv_iconst (v := 0) hx hb dX4_held_36 (by decide) ?_
            refine lv_iadd hx hb dX4_held_37 ?_
            refine lv_istore_n (lv' := [(2, .int (v2 + 0)), (0, .ref (ad 0)), (1, .int v1), (3, .int v3)]) hx hb dX4_held_38 rfl hl (by decide) rfl (fun ls hl => ?_)
            refine lv_iinc (v := (v3 + 1)) (lv' := [(3, .int (v3 + 1)), (2, .int (v2 + 0)), (0, .ref (ad 0)), (1, .int v1)]) hx hb dX4_held_39 hl (k := 3) rfl rfl (by decide) rfl (fun ls hl => ?_)
            refine lv_goto (tgt := 4) hx hb dX4_held_42 (by decide) ?_
            exact ih v1 (v2 + 0) (v3 + 1) _ hf _ _ _ hP hD hS (lv_sub hl [2, 3, 1, 0] rfl) kk
          · have hf := br_pos c10 hf
            refine lv_iconst (v := 1) hx hb dX4_held_32 (by decide) ?_
            refine lv_goto (tgt := 37) hx hb dX4_held_33 (by decide) ?_
            refine lv_iadd hx hb dX4_held_37 ?_
            refine lv_istore_n (lv' := [(2, .int (v2 + 1)), (0, .ref (ad 0)), (1, .int v1), (3, .int v3)]) hx hb dX4_held_38 rfl hl (by decide) rfl (fun ls hl => ?_)
            refine lv_iinc (v := (v3 + 1)) (lv' := [(3, .int (v3 + 1)), (2, .int (v2 + 1)), (0, .ref (ad 0)), (1, .int v1)]) hx hb dX4_held_39 hl (k := 3) rfl rfl (by decide) rfl (fun ls hl => ?_)
            refine lv_goto (tgt := 4) hx hb dX4_held_42 (by decide) ?_
            exact ih v1 (v2 + 1) (v3 + 1) _ hf _ _ _ hP hD hS (lv_sub hl [2, 3, 1, 0] rfl) kk
  refine lv_iconst (v := 0) hx hb dX4_held_0 (by decide) ?_
  refine lv_istore_n (lv' := [(2, .int 0), (0, .ref (ad 0)), (1, .int p1)]) hx hb dX4_held_1 rfl hl (by decide) rfl (fun ls hl => ?_)
  refine lv_iconst (v := 0) hx hb dX4_held_2 (by decide) ?_
  refine lv_istore_n (lv' := [(3, .int 0), (2, .int 0), (0, .ref (ad 0)), (1, .int p1)]) hx hb dX4_held_3 rfl hl (by decide) rfl (fun ls hl => ?_)
  obtain ⟨x12, h11, hf⟩ := bnd hf
  refine L4 FU p1 0 0 x12 h11 _ _ _ hP hD hS (lv_sub hl [2, 3, 1, 0] rfl) (fun H locs ls hP hD hS hl => ?_)
  refine lv_iload_n hx hb dX4_held_45 rfl (lv_at hl 0 rfl) ?_
  cases hf
  exact end_i hAe hQm hx hb hr hlocks rfl hP hD hS dX4_held_46
def f_M_exists (p1 : Int32) (mlinks : Nat → Int32) (mholds : Int32) (mheld : Nat → Int32) (mopen : Nat → Int32) : Option (Int32) :=
  if p1 < 0 ∨ 40 ≤ p1.toNatClampNeg then none else
    if 0 < (mlinks p1.toNatClampNeg) then
    some 1
  else
    (f_M_held p1 mholds mheld mopen).bind fun r3 =>
    if r3 ≤ 0 then
      some 0
    else
      some 1
set_option maxHeartbeats 4000000 in
set_option maxRecDepth 100000 in
theorem m_M_exists (l : Launch) {D : va_G} {sl : List (String × Nat × String)} (ca : Nat → ClassId) (ad : Nat → Nat) (lq : Nat) (mcode : Int32) (mday : Int32) (mown : Int32) (mquot : Nat → Int32) (mprom : Nat → Int32) (mfiles : Int32) (mowner : Nat → Int32) (mlinks : Nat → Int32) (mblocks : Nat → Int32) (mvals : Nat → Int32) (msnaps : Int32) (mranks : Nat → Int32) (mkept : Nat → Int32) (mshot : Nat → Int32) (mwas : Nat → Int32) (mholds : Int32) (mheld : Nat → Int32) (mends : Nat → Int32) (mopen : Nat → Int32) (mentr : Int32) (mkinds : Nat → Int32) (misop : Int32) (mfilesT : Int32) (mentrT : Int32) (mpromT : Nat → Int32) (mlinksT : Nat → Int32) (mblocksT : Nat → Int32) (mvalsT : Nat → Int32) (R : va_W) (sz : Nat) (p1 : Int32) (ro : Int32) (hf : f_M_exists p1 mlinks mholds mheld mopen = some ro) : Met l yX4_exists (wm yX4_exists cX4_exists 2 (some .boolean)) ({ frames := 1, cells := 0, slots := 0, locals := 23 } : Room) (PRE [.ref (ad 0), .int p1] D ca sl (WM ca ad lq mcode mday mown mquot mprom mfiles mowner mlinks mblocks mvals msnaps mranks mkept mshot mwas mholds mheld mends mopen mentr mkinds misop mfilesT mentrT mpromT mlinksT mblocksT mvalsT ++ R) sz) (QI ro D (WM ca ad lq mcode mday mown mquot mprom mfiles mowner mlinks mblocks mvals msnaps mranks mkept mshot mwas mholds mheld mends mopen mentr mkinds misop mfilesT mentrT mpromT mlinksT mblocksT mvalsT ++ R) (WM ca ad lq mcode mday mown mquot mprom mfiles mowner mlinks mblocks mvals msnaps mranks mkept mshot mwas mholds mheld mends mopen mentr mkinds misop mfilesT mentrT mpromT mlinksT mblocksT mvalsT ++ R) sz) 0 0 (va_A (WM ca ad lq mcode mday mown mquot mprom mfiles mowner mlinks mblocks mvals msnaps mranks mkept mshot mwas mholds mheld mends mopen mentr mkinds misop mfilesT mentrT mpromT mlinksT mblocksT mvalsT ++ R) sz) := by
  refine Met.ofW (cc := cX4_exists) (maxL := 2) (ret := (some .boolean)) (by decide) rfl ?_
  intro p e s m args below meth c s₁ B hml hv
  obtain ⟨rfl, rfl, hP, hE, hD0⟩ := hv
  have hx := B.exec
  have hb := B.bytes
  have hr := B.returns
  have hts := wm_ww (atoms_spec (ws := wm yX4_exists cX4_exists 2 (some .boolean)) B.pre)
  have hown : s.vm.findClass RX4 = some m.cls := findClass_of_methodNamed B.named
  have hlocks := B.notSynchronized
  have hK := hE.1
  have hD := hD0.self (sz := s.heap.size)
  generalize hAe : va_A (WM ca ad lq mcode mday mown mquot mprom mfiles mowner mlinks mblocks mvals msnaps mranks mkept mshot mwas mholds mheld mends mopen mentr mkinds misop mfilesT mentrT mpromT mlinksT mblocksT mvalsT ++ R) s.heap.size = A at hD ⊢
  have hA : ∀ q : Nat, s.heap.size ≤ q → A q := fun q h => by rw [← hAe]; exact Or.inr h
  have hS : va_S A s.heap s.heap [] := va_S.rf
  have hl := lv_entry ([.ref (ad 0), .int p1]) (n := 2) (Nat.le_of_ble_eq_true rfl)
  rw [lg_entry_eq]
  generalize (lg_sl ([.ref (ad 0), .int p1]) ++ List.replicate (2 - (lg_sl ([.ref (ad 0), .int p1])).length) Slot.unset).toArray = ls at hl ⊢
  have hl : lv_has ls 2 [(0, .ref (ad 0)), (1, .int p1)] := hl
  change W p l e ({ frames := 1, cells := 0, slots := 0, locals := 23 } : Room) s m _ below meth c s.heap [] 0 0 _ _
  generalize hQm : MQ below (QI ro D (WM ca ad lq mcode mday mown mquot mprom mfiles mowner mlinks mblocks mvals msnaps mranks mkept mshot mwas mholds mheld mends mopen mentr mkinds misop mfilesT mentrT mpromT mlinksT mblocksT mvalsT ++ R) (WM ca ad lq mcode mday mown mquot mprom mfiles mowner mlinks mblocks mvals msnaps mranks mkept mshot mwas mholds mheld mends mopen mentr mkinds misop mfilesT mentrT mpromT mlinksT mblocksT mvalsT ++ R) s.heap.size) _ s 0 0 A = Qm
  have hP : va_P D vwCl (WM ca ad lq mcode mday mown mquot mprom mfiles mowner mlinks mblocks mvals msnaps mranks mkept mshot mwas mholds mheld mends mopen mentr mkinds misop mfilesT mentrT mpromT mlinksT mblocksT mvalsT ++ R) s.heap := hP
  generalize hae : ([.ref (ad 0), .int p1] : List Value).toArray = args at hts hQm ⊢
  refine lv_aload_n hx hb dX4_exists_0 rfl (lv_at hl 0 rfl) ?_
  refine va_get (D := D) (ci := 8) (v := .ref (ad 4)) (C := RX4) (T := TX4) (N := 29) hx hb hts inX4 hown hK hP 0 rfl rfl 7 (by decide) (hts _ q1336) (fun _ h9 => h9) rfl dX4_exists_1 ?_
  refine lv_iload_n hx hb dX4_exists_4 rfl (lv_at hl 1 rfl) ?_
  obtain ⟨k1, hf⟩ := ck_not hf
  refine va_iald (D := D) hx hb hK hP 4 0 rfl rfl k1 dX4_exists_5 ?_
  refine lv_if_gt (tgt := 17) hx hb dX4_exists_6 (by decide) (fun c2 => ?_) (fun c2 => ?_)
  · have hf := br_pos c2 hf
    refine lv_iconst (v := 1) hx hb dX4_exists_17 (by decide) ?_
    refine lv_goto (tgt := 22) hx hb dX4_exists_18 (by decide) ?_
    cases hf
    exact end_i hAe hQm hx hb hr hlocks rfl hP hD hS dX4_exists_22
  · have hf := br_neg c2 hf
    refine lv_aload_n hx hb dX4_exists_9 rfl (lv_at hl 0 rfl) ?_
    refine lv_iload_n hx hb dX4_exists_10 rfl (lv_at hl 1 rfl) ?_
    obtain ⟨r3, h4, hf⟩ := bnd hf
    refine call_vi (rest := []) (m_M_held l ca ad lq mcode mday mown mquot mprom mfiles mowner mlinks mblocks mvals msnaps mranks mkept mshot mwas mholds mheld mends mopen mentr mkinds misop mfilesT mentrT mpromT mlinksT mblocksT mvalsT R _ p1 r3 h4) ⟨hx, hb, hml, hown, hts⟩ (cwV 1 hts (gV q1460 q1462 q28 q50 q1463) rfl rfl rfl (by decide +kernel) ⟨Nat.le_of_ble_eq_true rfl, Nat.le_of_ble_eq_true rfl⟩) (va_recv hK hP (ci := 8) (q0 := 0) rfl rfl) hE hP hD hS hA rfl hl.1 rfl (lv_room (Nat.le_of_ble_eq_true rfl)) dX4_exists_11 ⟨Nat.le_of_ble_eq_true rfl, Nat.le_of_ble_eq_true rfl⟩ (fun H locs hP hD hS => ?_)
    refine lv_if_le (tgt := 21) hx hb dX4_exists_14 (by decide) (fun c5 => ?_) (fun c5 => ?_)
    · have hf := br_pos c5 hf
      refine lv_iconst (v := 0) hx hb dX4_exists_21 (by decide) ?_
      cases hf
      exact end_i hAe hQm hx hb hr hlocks rfl hP hD hS dX4_exists_22
    · have hf := br_neg c5 hf
      refine lv_iconst (v := 1) hx hb dX4_exists_17 (by decide) ?_
      refine lv_goto (tgt := 22) hx hb dX4_exists_18 (by decide) ?_
      cases hf
      exact end_i hAe hQm hx hb hr hlocks rfl hP hD hS dX4_exists_22
def f_M_goes_L12 : Nat → Int32 → Int32 → (Nat → Int32) → Option ((Nat → Int32))
  | 0, _, _, _ => none
  | fuel + 1, v1, v2, mblocks =>
    if 16 ≤ v2 then
      some mblocks
    else
      if ((16 * v1) + v2) < 0 ∨ 640 ≤ ((16 * v1) + v2).toNatClampNeg then none else
        f_M_goes_L12 fuel v1 (v2 + 1) (upd mblocks ((16 * v1) + v2).toNatClampNeg 0)
def f_M_goes (p1 : Int32) (mlinks : Nat → Int32) (mblocks : Nat → Int32) (mholds : Int32) (mheld : Nat → Int32) (mopen : Nat → Int32) : Option (Int32 × (Nat → Int32)) :=
  (f_M_exists p1 mlinks mholds mheld mopen).bind fun r1 =>
  if r1 = 0 then
    (f_M_goes_L12 FU p1 0 mblocks).bind fun mblocks_9 =>
    some (1, mblocks_9)
  else
    some (0, mblocks)
set_option maxHeartbeats 4000000 in
set_option maxRecDepth 100000 in
theorem m_M_goes (l : Launch) {D : va_G} {sl : List (String × Nat × String)} (ca : Nat → ClassId) (ad : Nat → Nat) (lq : Nat) (mcode : Int32) (mday : Int32) (mown : Int32) (mquot : Nat → Int32) (mprom : Nat → Int32) (mfiles : Int32) (mowner : Nat → Int32) (mlinks : Nat → Int32) (mblocks : Nat → Int32) (mvals : Nat → Int32) (msnaps : Int32) (mranks : Nat → Int32) (mkept : Nat → Int32) (mshot : Nat → Int32) (mwas : Nat → Int32) (mholds : Int32) (mheld : Nat → Int32) (mends : Nat → Int32) (mopen : Nat → Int32) (mentr : Int32) (mkinds : Nat → Int32) (misop : Int32) (mfilesT : Int32) (mentrT : Int32) (mpromT : Nat → Int32) (mlinksT : Nat → Int32) (mblocksT : Nat → Int32) (mvalsT : Nat → Int32) (R : va_W) (sz : Nat) (p1 : Int32) (ro : Int32) (omblocks : Nat → Int32) (hf : f_M_goes p1 mlinks mblocks mholds mheld mopen = some (ro, omblocks)) : Met l yX4_goes (wm yX4_goes cX4_goes 3 (some .boolean)) ({ frames := 2, cells := 0, slots := 0, locals := 44 } : Room) (PRE [.ref (ad 0), .int p1] D ca sl (WM ca ad lq mcode mday mown mquot mprom mfiles mowner mlinks mblocks mvals msnaps mranks mkept mshot mwas mholds mheld mends mopen mentr mkinds misop mfilesT mentrT mpromT mlinksT mblocksT mvalsT ++ R) sz) (QI ro D (WM ca ad lq mcode mday mown mquot mprom mfiles mowner mlinks omblocks mvals msnaps mranks mkept mshot mwas mholds mheld mends mopen mentr mkinds misop mfilesT mentrT mpromT mlinksT mblocksT mvalsT ++ R) (WM ca ad lq mcode mday mown mquot mprom mfiles mowner mlinks mblocks mvals msnaps mranks mkept mshot mwas mholds mheld mends mopen mentr mkinds misop mfilesT mentrT mpromT mlinksT mblocksT mvalsT ++ R) sz) 0 0 (va_A (WM ca ad lq mcode mday mown mquot mprom mfiles mowner mlinks mblocks mvals msnaps mranks mkept mshot mwas mholds mheld mends mopen mentr mkinds misop mfilesT mentrT mpromT mlinksT mblocksT mvalsT ++ R) sz) := by
  refine Met.ofW (cc := cX4_goes) (maxL := 3) (ret := (some .boolean)) (by decide) rfl ?_
  intro p e s m args below meth c s₁ B hml hv
  obtain ⟨rfl, rfl, hP, hE, hD0⟩ := hv
  have hx := B.exec
  have hb := B.bytes
  have hr := B.returns
  have hts := wm_ww (atoms_spec (ws := wm yX4_goes cX4_goes 3 (some .boolean)) B.pre)
  have hown : s.vm.findClass RX4 = some m.cls := findClass_of_methodNamed B.named
  have hlocks := B.notSynchronized
  have hK := hE.1
  have hD := hD0.self (sz := s.heap.size)
  generalize hAe : va_A (WM ca ad lq mcode mday mown mquot mprom mfiles mowner mlinks mblocks mvals msnaps mranks mkept mshot mwas mholds mheld mends mopen mentr mkinds misop mfilesT mentrT mpromT mlinksT mblocksT mvalsT ++ R) s.heap.size = A at hD ⊢
  have hA : ∀ q : Nat, s.heap.size ≤ q → A q := fun q h => by rw [← hAe]; exact Or.inr h
  have hS : va_S A s.heap s.heap [] := va_S.rf
  have hl := lv_entry ([.ref (ad 0), .int p1]) (n := 3) (Nat.le_of_ble_eq_true rfl)
  rw [lg_entry_eq]
  generalize (lg_sl ([.ref (ad 0), .int p1]) ++ List.replicate (3 - (lg_sl ([.ref (ad 0), .int p1])).length) Slot.unset).toArray = ls at hl ⊢
  have hl : lv_has ls 3 [(0, .ref (ad 0)), (1, .int p1)] := hl
  change W p l e ({ frames := 2, cells := 0, slots := 0, locals := 44 } : Room) s m _ below meth c s.heap [] 0 0 _ _
  generalize hQm : MQ below (QI ro D (WM ca ad lq mcode mday mown mquot mprom mfiles mowner mlinks omblocks mvals msnaps mranks mkept mshot mwas mholds mheld mends mopen mentr mkinds misop mfilesT mentrT mpromT mlinksT mblocksT mvalsT ++ R) (WM ca ad lq mcode mday mown mquot mprom mfiles mowner mlinks mblocks mvals msnaps mranks mkept mshot mwas mholds mheld mends mopen mentr mkinds misop mfilesT mentrT mpromT mlinksT mblocksT mvalsT ++ R) s.heap.size) _ s 0 0 A = Qm
  have hP : va_P D vwCl (WM ca ad lq mcode mday mown mquot mprom mfiles mowner mlinks mblocks mvals msnaps mranks mkept mshot mwas mholds mheld mends mopen mentr mkinds misop mfilesT mentrT mpromT mlinksT mblocksT mvalsT ++ R) s.heap := hP
  generalize hae : ([.ref (ad 0), .int p1] : List Value).toArray = args at hts hQm ⊢
  have L12 : ∀ (n : Nat) (v1 : Int32) (v2 : Int32) (mblocks : Nat → Int32) (zmblocks : Nat → Int32), f_M_goes_L12 n v1 v2 mblocks = some zmblocks → ∀ (H : Heap) (locs : List Loc) (ls : Array Slot), va_P D vwCl (WM ca ad lq mcode mday mown mquot mprom mfiles mowner mlinks mblocks mvals msnaps mranks mkept mshot mwas mholds mheld mends mopen mentr mkinds misop mfilesT mentrT mpromT mlinksT mblocksT mvalsT ++ R) H → va_D A (WM ca ad lq mcode mday mown mquot mprom mfiles mowner mlinks mblocks mvals msnaps mranks mkept mshot mwas mholds mheld mends mopen mentr mkinds misop mfilesT mentrT mpromT mlinksT mblocksT mvalsT ++ R) → va_S A s.heap H locs → lv_has ls 3 [(0, .ref (ad 0)), (1, .int v1), (2, .int v2)] → (∀ (H : Heap) (locs : List Loc) (ls : Array Slot), va_P D vwCl (WM ca ad lq mcode mday mown mquot mprom mfiles mowner mlinks zmblocks mvals msnaps mranks mkept mshot mwas mholds mheld mends mopen mentr mkinds misop mfilesT mentrT mpromT mlinksT mblocksT mvalsT ++ R) H → va_D A (WM ca ad lq mcode mday mown mquot mprom mfiles mowner mlinks zmblocks mvals msnaps mranks mkept mshot mwas mholds mheld mends mopen mentr mkinds misop mfilesT mentrT mpromT mlinksT mblocksT mvalsT ++ R) → va_S A s.heap H locs → lv_has ls 3 [] → W p l e ({ frames := 2, cells := 0, slots := 0, locals := 44 } : Room) s m args below meth c H locs 0 0 Qm (F0 m 36 ls [])) → W p l e ({ frames := 2, cells := 0, slots := 0, locals := 44 } : Room) s m args below meth c H locs 0 0 Qm (F0 m 12 ls []) := by
    intro n
    induction n with
    | zero => intro v1 v2 mblocks zmblocks hf; cases hf
    | succ n ih =>
      intro v1 v2 mblocks zmblocks hf H locs ls hP hD hS hl kk
      unfold f_M_goes_L12 at hf
      refine lv_iload_n hx hb dX4_goes_12 rfl (lv_at hl 2 rfl) ?_
      refine lv_bipush (v := 16) hx hb dX4_goes_13 (by decide) ?_
      refine lv_icmp_ge (tgt := 36) hx hb dX4_goes_15 (by decide) (fun c6 => ?_) (fun c6 => ?_)
      · have hf := br_pos c6 hf
        cases hf
        exact kk _ _ _ hP hD hS (lv_sub hl [] rfl)
      · have hf := br_neg c6 hf
        refine lv_aload_n hx hb dX4_goes_18 rfl (lv_at hl 0 rfl) ?_
        refine va_get (D := D) (ci := 8) (v := .ref (ad 5)) (C := RX4) (T := TX4) (N := 29) hx hb hts inX4 hown hK hP 0 rfl rfl 8 (by decide) (hts _ q1337) (fun _ h9 => h9) rfl dX4_goes_19 ?_
        refine lv_bipush (v := 16) hx hb dX4_goes_22 (by decide) ?_
        refine lv_iload_n hx hb dX4_goes_24 rfl (lv_at hl 1 rfl) ?_
        refine lv_imul hx hb dX4_goes_25 ?_
        refine lv_iload_n hx hb dX4_goes_26 rfl (lv_at hl 2 rfl) ?_
        refine lv_iadd hx hb dX4_goes_27 ?_
        refine lv_iconst (v := 0) hx hb dX4_goes_28 (by decide) ?_
        obtain ⟨k7, hf⟩ := ck_not hf
        refine va_iast (D := D) hx hb hK hP hD hS 5 0 rfl rfl k7 dX4_goes_29 (fun H locs hP hD hS => ?_)
        have hP : va_P D vwCl (WM ca ad lq mcode mday mown mquot mprom mfiles mowner mlinks (upd mblocks ((16 * v1) + v2).toNatClampNeg 0) mvals msnaps mranks mkept mshot mwas mholds mheld mends mopen mentr mkinds misop mfilesT mentrT mpromT mlinksT mblocksT mvalsT ++ R) H := hP
        have hD : va_D A (WM ca ad lq mcode mday mown mquot mprom mfiles mowner mlinks (upd mblocks ((16 * v1) + v2).toNatClampNeg 0) mvals msnaps mranks mkept mshot mwas mholds mheld mends mopen mentr mkinds misop mfilesT mentrT mpromT mlinksT mblocksT mvalsT ++ R) := hD
        refine lv_iinc (v := (v2 + 1)) (lv' := [(2, .int (v2 + 1)), (0, .ref (ad 0)), (1, .int v1)]) hx hb dX4_goes_30 hl (k := 2) rfl rfl (by decide) rfl (fun ls hl => ?_)
        refine lv_goto (tgt := 12) hx hb dX4_goes_33 (by decide) ?_
        exact ih v1 (v2 + 1) (upd mblocks ((16 * v1) + v2).toNatClampNeg 0) _ hf _ _ _ hP hD hS (lv_sub hl [1, 2, 0] rfl) kk
  refine lv_aload_n hx hb dX4_goes_0 rfl (lv_at hl 0 rfl) ?_
  refine lv_iload_n hx hb dX4_goes_1 rfl (lv_at hl 1 rfl) ?_
  obtain ⟨r1, h2, hf⟩ := bnd hf
  refine call_vi (rest := []) (m_M_exists l ca ad lq mcode mday mown mquot mprom mfiles mowner mlinks mblocks mvals msnaps mranks mkept mshot mwas mholds mheld mends mopen mentr mkinds misop mfilesT mentrT mpromT mlinksT mblocksT mvalsT R _ p1 r1 h2) ⟨hx, hb, hml, hown, hts⟩ (cwV 1 hts (gV q1456 q1458 q27 q50 q1459) rfl rfl rfl (by decide +kernel) ⟨Nat.le_of_ble_eq_true rfl, Nat.le_of_ble_eq_true rfl⟩) (va_recv hK hP (ci := 8) (q0 := 0) rfl rfl) hE hP hD hS hA rfl hl.1 rfl (lv_room (Nat.le_of_ble_eq_true rfl)) dX4_goes_2 ⟨Nat.le_of_ble_eq_true rfl, Nat.le_of_ble_eq_true rfl⟩ (fun H locs hP hD hS => ?_)
  refine lv_if_eq (tgt := 10) hx hb dX4_goes_5 (by decide) (fun c3 => ?_) (fun c3 => ?_)
  · have hf := br_pos c3 hf
    refine lv_iconst (v := 0) hx hb dX4_goes_10 (by decide) ?_
    refine lv_istore_n (lv' := [(2, .int 0), (0, .ref (ad 0)), (1, .int p1)]) hx hb dX4_goes_11 rfl hl (by decide) rfl (fun ls hl => ?_)
    obtain ⟨mblocks_9, h8, hf⟩ := bnd hf
    refine L12 FU p1 0 mblocks mblocks_9 h8 _ _ _ hP hD hS (lv_sub hl [1, 2, 0] rfl) (fun H locs ls hP hD hS hl => ?_)
    refine lv_iconst (v := 1) hx hb dX4_goes_36 (by decide) ?_
    cases hf
    exact end_i hAe hQm hx hb hr hlocks rfl hP hD hS dX4_goes_37
  · have hf := br_neg c3 hf
    refine lv_iconst (v := 0) hx hb dX4_goes_8 (by decide) ?_
    cases hf
    exact end_i hAe hQm hx hb hr hlocks rfl hP hD hS dX4_goes_9
def f_M_enters (p1 : Int32) (mentr : Int32) (mkinds : Nat → Int32) : Option (Int32 × (Nat → Int32)) :=
  if mentr < 0 ∨ 4000 ≤ mentr.toNatClampNeg then none else
    some ((mentr + 1), (upd mkinds mentr.toNatClampNeg (vp_nar .char p1)))
set_option maxHeartbeats 4000000 in
set_option maxRecDepth 100000 in
theorem m_M_enters (l : Launch) {D : va_G} {sl : List (String × Nat × String)} (ca : Nat → ClassId) (ad : Nat → Nat) (lq : Nat) (mcode : Int32) (mday : Int32) (mown : Int32) (mquot : Nat → Int32) (mprom : Nat → Int32) (mfiles : Int32) (mowner : Nat → Int32) (mlinks : Nat → Int32) (mblocks : Nat → Int32) (mvals : Nat → Int32) (msnaps : Int32) (mranks : Nat → Int32) (mkept : Nat → Int32) (mshot : Nat → Int32) (mwas : Nat → Int32) (mholds : Int32) (mheld : Nat → Int32) (mends : Nat → Int32) (mopen : Nat → Int32) (mentr : Int32) (mkinds : Nat → Int32) (misop : Int32) (mfilesT : Int32) (mentrT : Int32) (mpromT : Nat → Int32) (mlinksT : Nat → Int32) (mblocksT : Nat → Int32) (mvalsT : Nat → Int32) (R : va_W) (sz : Nat) (p1 : Int32) (omentr : Int32) (omkinds : Nat → Int32) (hf : f_M_enters p1 mentr mkinds = some (omentr, omkinds)) : Met l yX4_enters (wm yX4_enters cX4_enters 2 none) ({ frames := 0, cells := 0, slots := 0, locals := 0 } : Room) (PRE [.ref (ad 0), .int p1] D ca sl (WM ca ad lq mcode mday mown mquot mprom mfiles mowner mlinks mblocks mvals msnaps mranks mkept mshot mwas mholds mheld mends mopen mentr mkinds misop mfilesT mentrT mpromT mlinksT mblocksT mvalsT ++ R) sz) (QV D (WM ca ad lq mcode mday mown mquot mprom mfiles mowner mlinks mblocks mvals msnaps mranks mkept mshot mwas mholds mheld mends mopen omentr omkinds misop mfilesT mentrT mpromT mlinksT mblocksT mvalsT ++ R) (WM ca ad lq mcode mday mown mquot mprom mfiles mowner mlinks mblocks mvals msnaps mranks mkept mshot mwas mholds mheld mends mopen mentr mkinds misop mfilesT mentrT mpromT mlinksT mblocksT mvalsT ++ R) sz) 0 0 (va_A (WM ca ad lq mcode mday mown mquot mprom mfiles mowner mlinks mblocks mvals msnaps mranks mkept mshot mwas mholds mheld mends mopen mentr mkinds misop mfilesT mentrT mpromT mlinksT mblocksT mvalsT ++ R) sz) := by
  refine Met.ofW (cc := cX4_enters) (maxL := 2) (ret := none) (by decide) rfl ?_
  intro p e s m args below meth c s₁ B hml hv
  obtain ⟨rfl, rfl, hP, hE, hD0⟩ := hv
  have hx := B.exec
  have hb := B.bytes
  have hr := B.returns
  have hts := wm_ww (atoms_spec (ws := wm yX4_enters cX4_enters 2 none) B.pre)
  have hown : s.vm.findClass RX4 = some m.cls := findClass_of_methodNamed B.named
  have hlocks := B.notSynchronized
  have hK := hE.1
  have hD := hD0.self (sz := s.heap.size)
  generalize hAe : va_A (WM ca ad lq mcode mday mown mquot mprom mfiles mowner mlinks mblocks mvals msnaps mranks mkept mshot mwas mholds mheld mends mopen mentr mkinds misop mfilesT mentrT mpromT mlinksT mblocksT mvalsT ++ R) s.heap.size = A at hD ⊢
  have hA : ∀ q : Nat, s.heap.size ≤ q → A q := fun q h => by rw [← hAe]; exact Or.inr h
  have hS : va_S A s.heap s.heap [] := va_S.rf
  have hl := lv_entry ([.ref (ad 0), .int p1]) (n := 2) (Nat.le_of_ble_eq_true rfl)
  rw [lg_entry_eq]
  generalize (lg_sl ([.ref (ad 0), .int p1]) ++ List.replicate (2 - (lg_sl ([.ref (ad 0), .int p1])).length) Slot.unset).toArray = ls at hl ⊢
  have hl : lv_has ls 2 [(0, .ref (ad 0)), (1, .int p1)] := hl
  change W p l e ({ frames := 0, cells := 0, slots := 0, locals := 0 } : Room) s m _ below meth c s.heap [] 0 0 _ _
  generalize hQm : MQ below (QV D (WM ca ad lq mcode mday mown mquot mprom mfiles mowner mlinks mblocks mvals msnaps mranks mkept mshot mwas mholds mheld mends mopen omentr omkinds misop mfilesT mentrT mpromT mlinksT mblocksT mvalsT ++ R) (WM ca ad lq mcode mday mown mquot mprom mfiles mowner mlinks mblocks mvals msnaps mranks mkept mshot mwas mholds mheld mends mopen mentr mkinds misop mfilesT mentrT mpromT mlinksT mblocksT mvalsT ++ R) s.heap.size) _ s 0 0 A = Qm
  have hP : va_P D vwCl (WM ca ad lq mcode mday mown mquot mprom mfiles mowner mlinks mblocks mvals msnaps mranks mkept mshot mwas mholds mheld mends mopen mentr mkinds misop mfilesT mentrT mpromT mlinksT mblocksT mvalsT ++ R) s.heap := hP
  generalize hae : ([.ref (ad 0), .int p1] : List Value).toArray = args at hts hQm ⊢
  refine lv_aload_n hx hb dX4_enters_0 rfl (lv_at hl 0 rfl) ?_
  refine va_get (D := D) (ci := 8) (v := .ref (ad 14)) (C := RX4) (T := TX4) (N := 29) hx hb hts inX4 hown hK hP 0 rfl rfl 20 (by decide) (hts _ q1349) (fun _ h9 => h9) rfl dX4_enters_1 ?_
  refine lv_aload_n hx hb dX4_enters_4 rfl (lv_at hl 0 rfl) ?_
  refine va_get (D := D) (ci := 8) (v := .int mentr) (C := RX4) (T := TX4) (N := 29) hx hb hts inX4 hown hK hP 0 rfl rfl 19 (by decide) (hts _ q1348) (fun _ h9 => h9) rfl dX4_enters_5 ?_
  refine lv_iload_n hx hb dX4_enters_8 rfl (lv_at hl 1 rfl) ?_
  obtain ⟨k1, hf⟩ := ck_not hf
  refine va_cast (D := D) hx hb hK hP hD hS 14 2 rfl rfl k1 dX4_enters_9 (fun H locs hP hD hS => ?_)
  have hP : va_P D vwCl (WM ca ad lq mcode mday mown mquot mprom mfiles mowner mlinks mblocks mvals msnaps mranks mkept mshot mwas mholds mheld mends mopen mentr (upd mkinds mentr.toNatClampNeg (vp_nar .char p1)) misop mfilesT mentrT mpromT mlinksT mblocksT mvalsT ++ R) H := hP
  have hD : va_D A (WM ca ad lq mcode mday mown mquot mprom mfiles mowner mlinks mblocks mvals msnaps mranks mkept mshot mwas mholds mheld mends mopen mentr (upd mkinds mentr.toNatClampNeg (vp_nar .char p1)) misop mfilesT mentrT mpromT mlinksT mblocksT mvalsT ++ R) := hD
  refine lv_aload_n hx hb dX4_enters_10 rfl (lv_at hl 0 rfl) ?_
  refine lv_dup hx hb dX4_enters_11 rfl ?_
  refine va_get (D := D) (ci := 8) (v := .int mentr) (C := RX4) (T := TX4) (N := 29) hx hb hts inX4 hown hK hP 0 rfl rfl 19 (by decide) (hts _ q1348) (fun _ h9 => h9) rfl dX4_enters_12 ?_
  refine lv_iconst (v := 1) hx hb dX4_enters_15 (by decide) ?_
  refine lv_iadd hx hb dX4_enters_16 ?_
  refine va_put (D := D) (ci := 8) (v := .int (mentr + 1)) (ty := .int) (C := RX4) (T := TX4) (N := 29) hx hb hts inX4 tyX4 tyX4_ok nmX4 hown hK hP hD hS 0 rfl rfl 19 (by decide) (hts _ q1348) (fun _ h9 => h9) rfl (by decide +kernel) rfl rfl (Nat.le_of_ble_eq_true rfl) dX4_enters_17 (fun H locs hP hD hS => ?_)
  have hP : va_P D vwCl (WM ca ad lq mcode mday mown mquot mprom mfiles mowner mlinks mblocks mvals msnaps mranks mkept mshot mwas mholds mheld mends mopen (mentr + 1) (upd mkinds mentr.toNatClampNeg (vp_nar .char p1)) misop mfilesT mentrT mpromT mlinksT mblocksT mvalsT ++ R) H := hP
  have hD : va_D A (WM ca ad lq mcode mday mown mquot mprom mfiles mowner mlinks mblocks mvals msnaps mranks mkept mshot mwas mholds mheld mends mopen (mentr + 1) (upd mkinds mentr.toNatClampNeg (vp_nar .char p1)) misop mfilesT mentrT mpromT mlinksT mblocksT mvalsT ++ R) := hD
  cases hf
  exact end_v hAe hQm hx hb hr hlocks hP hD hS dX4_enters_20
def f_M_users_L4 : Nat → Int32 → Int32 → Int32 → (Nat → Int32) → Option (Int32)
  | 0, _, _, _, _ => none
  | fuel + 1, v1, v2, v3, mblocks =>
    if 640 ≤ v3 then
      some v2
    else
      if v3 < 0 ∨ 640 ≤ v3.toNatClampNeg then none else
        if (mblocks v3.toNatClampNeg) = (v1 + 1) then
        f_M_users_L4 fuel v1 (v2 + 1) (v3 + 1) mblocks
      else
        f_M_users_L4 fuel v1 (v2 + 0) (v3 + 1) mblocks
def f_M_users_L50 : Nat → Int32 → Int32 → Int32 → Int32 → (Nat → Int32) → (Nat → Int32) → Option (Int32)
  | 0, _, _, _, _, _, _ => none
  | fuel + 1, v1, v2, v3, v4, mkept, mshot =>
    if 640 ≤ v4 then
      some v2
    else
      if v3 < 0 ∨ 30 ≤ v3.toNatClampNeg then none else
        if (mkept v3.toNatClampNeg) = 0 then
        some v2
      else
        if ((640 * v3) + v4) < 0 ∨ 19200 ≤ ((640 * v3) + v4).toNatClampNeg then none else
          if (mshot ((640 * v3) + v4).toNatClampNeg) = (v1 + 1) then
          f_M_users_L50 fuel v1 (v2 + 1) v3 (v4 + 1) mkept mshot
        else
          f_M_users_L50 fuel v1 (v2 + 0) v3 (v4 + 1) mkept mshot
def f_M_users_L39 : Nat → Int32 → Int32 → Int32 → Int32 → (Nat → Int32) → (Nat → Int32) → Option (Int32)
  | 0, _, _, _, _, _, _ => none
  | fuel + 1, v1, v2, v3, msnaps, mkept, mshot =>
    if msnaps ≤ v3 then
      some v2
    else
      (f_M_users_L50 FU v1 v2 v3 0 mkept mshot).bind fun x34 =>
      f_M_users_L39 fuel v1 x34 (v3 + 1) msnaps mkept mshot
def f_M_users (p1 : Int32) (mblocks : Nat → Int32) (msnaps : Int32) (mkept : Nat → Int32) (mshot : Nat → Int32) : Option (Int32) :=
  (f_M_users_L4 FU p1 0 0 mblocks).bind fun x8 =>
  (f_M_users_L39 FU p1 x8 0 msnaps mkept mshot).bind fun x36 =>
  some x36
set_option maxHeartbeats 4000000 in
set_option maxRecDepth 100000 in
theorem m_M_users (l : Launch) {D : va_G} {sl : List (String × Nat × String)} (ca : Nat → ClassId) (ad : Nat → Nat) (lq : Nat) (mcode : Int32) (mday : Int32) (mown : Int32) (mquot : Nat → Int32) (mprom : Nat → Int32) (mfiles : Int32) (mowner : Nat → Int32) (mlinks : Nat → Int32) (mblocks : Nat → Int32) (mvals : Nat → Int32) (msnaps : Int32) (mranks : Nat → Int32) (mkept : Nat → Int32) (mshot : Nat → Int32) (mwas : Nat → Int32) (mholds : Int32) (mheld : Nat → Int32) (mends : Nat → Int32) (mopen : Nat → Int32) (mentr : Int32) (mkinds : Nat → Int32) (misop : Int32) (mfilesT : Int32) (mentrT : Int32) (mpromT : Nat → Int32) (mlinksT : Nat → Int32) (mblocksT : Nat → Int32) (mvalsT : Nat → Int32) (R : va_W) (sz : Nat) (p1 : Int32) (ro : Int32) (hf : f_M_users p1 mblocks msnaps mkept mshot = some ro) : Met l yX4_users (wm yX4_users cX4_users 5 (some .int)) ({ frames := 0, cells := 0, slots := 0, locals := 0 } : Room) (PRE [.ref (ad 0), .int p1] D ca sl (WM ca ad lq mcode mday mown mquot mprom mfiles mowner mlinks mblocks mvals msnaps mranks mkept mshot mwas mholds mheld mends mopen mentr mkinds misop mfilesT mentrT mpromT mlinksT mblocksT mvalsT ++ R) sz) (QI ro D (WM ca ad lq mcode mday mown mquot mprom mfiles mowner mlinks mblocks mvals msnaps mranks mkept mshot mwas mholds mheld mends mopen mentr mkinds misop mfilesT mentrT mpromT mlinksT mblocksT mvalsT ++ R) (WM ca ad lq mcode mday mown mquot mprom mfiles mowner mlinks mblocks mvals msnaps mranks mkept mshot mwas mholds mheld mends mopen mentr mkinds misop mfilesT mentrT mpromT mlinksT mblocksT mvalsT ++ R) sz) 0 0 (va_A (WM ca ad lq mcode mday mown mquot mprom mfiles mowner mlinks mblocks mvals msnaps mranks mkept mshot mwas mholds mheld mends mopen mentr mkinds misop mfilesT mentrT mpromT mlinksT mblocksT mvalsT ++ R) sz) := by
  refine Met.ofW (cc := cX4_users) (maxL := 5) (ret := (some .int)) (by decide) rfl ?_
  intro p e s m args below meth c s₁ B hml hv
  obtain ⟨rfl, rfl, hP, hE, hD0⟩ := hv
  have hx := B.exec
  have hb := B.bytes
  have hr := B.returns
  have hts := wm_ww (atoms_spec (ws := wm yX4_users cX4_users 5 (some .int)) B.pre)
  have hown : s.vm.findClass RX4 = some m.cls := findClass_of_methodNamed B.named
  have hlocks := B.notSynchronized
  have hK := hE.1
  have hD := hD0.self (sz := s.heap.size)
  generalize hAe : va_A (WM ca ad lq mcode mday mown mquot mprom mfiles mowner mlinks mblocks mvals msnaps mranks mkept mshot mwas mholds mheld mends mopen mentr mkinds misop mfilesT mentrT mpromT mlinksT mblocksT mvalsT ++ R) s.heap.size = A at hD ⊢
  have hA : ∀ q : Nat, s.heap.size ≤ q → A q := fun q h => by rw [← hAe]; exact Or.inr h
  have hS : va_S A s.heap s.heap [] := va_S.rf
  have hl := lv_entry ([.ref (ad 0), .int p1]) (n := 5) (Nat.le_of_ble_eq_true rfl)
  rw [lg_entry_eq]
  generalize (lg_sl ([.ref (ad 0), .int p1]) ++ List.replicate (5 - (lg_sl ([.ref (ad 0), .int p1])).length) Slot.unset).toArray = ls at hl ⊢
  have hl : lv_has ls 5 [(0, .ref (ad 0)), (1, .int p1)] := hl
  change W p l e ({ frames := 0, cells := 0, slots := 0, locals := 0 } : Room) s m _ below meth c s.heap [] 0 0 _ _
  generalize hQm : MQ below (QI ro D (WM ca ad lq mcode mday mown mquot mprom mfiles mowner mlinks mblocks mvals msnaps mranks mkept mshot mwas mholds mheld mends mopen mentr mkinds misop mfilesT mentrT mpromT mlinksT mblocksT mvalsT ++ R) (WM ca ad lq mcode mday mown mquot mprom mfiles mowner mlinks mblocks mvals msnaps mranks mkept mshot mwas mholds mheld mends mopen mentr mkinds misop mfilesT mentrT mpromT mlinksT mblocksT mvalsT ++ R) s.heap.size) _ s 0 0 A = Qm
  have hP : va_P D vwCl (WM ca ad lq mcode mday mown mquot mprom mfiles mowner mlinks mblocks mvals msnaps mranks mkept mshot mwas mholds mheld mends mopen mentr mkinds misop mfilesT mentrT mpromT mlinksT mblocksT mvalsT ++ R) s.heap := hP
  generalize hae : ([.ref (ad 0), .int p1] : List Value).toArray = args at hts hQm ⊢
  have L4 : ∀ (n : Nat) (v1 : Int32) (v2 : Int32) (v3 : Int32) (y2 : Int32), f_M_users_L4 n v1 v2 v3 mblocks = some y2 → ∀ (H : Heap) (locs : List Loc) (ls : Array Slot), va_P D vwCl (WM ca ad lq mcode mday mown mquot mprom mfiles mowner mlinks mblocks mvals msnaps mranks mkept mshot mwas mholds mheld mends mopen mentr mkinds misop mfilesT mentrT mpromT mlinksT mblocksT mvalsT ++ R) H → va_D A (WM ca ad lq mcode mday mown mquot mprom mfiles mowner mlinks mblocks mvals msnaps mranks mkept mshot mwas mholds mheld mends mopen mentr mkinds misop mfilesT mentrT mpromT mlinksT mblocksT mvalsT ++ R) → va_S A s.heap H locs → lv_has ls 5 [(0, .ref (ad 0)), (1, .int v1), (2, .int v2), (3, .int v3)] → (∀ (H : Heap) (locs : List Loc) (ls : Array Slot), va_P D vwCl (WM ca ad lq mcode mday mown mquot mprom mfiles mowner mlinks mblocks mvals msnaps mranks mkept mshot mwas mholds mheld mends mopen mentr mkinds misop mfilesT mentrT mpromT mlinksT mblocksT mvalsT ++ R) H → va_D A (WM ca ad lq mcode mday mown mquot mprom mfiles mowner mlinks mblocks mvals msnaps mranks mkept mshot mwas mholds mheld mends mopen mentr mkinds misop mfilesT mentrT mpromT mlinksT mblocksT mvalsT ++ R) → va_S A s.heap H locs → lv_has ls 5 [(0, .ref (ad 0)), (1, .int v1), (2, .int y2)] → W p l e ({ frames := 0, cells := 0, slots := 0, locals := 0 } : Room) s m args below meth c H locs 0 0 Qm (F0 m 37 ls [])) → W p l e ({ frames := 0, cells := 0, slots := 0, locals := 0 } : Room) s m args below meth c H locs 0 0 Qm (F0 m 4 ls []) := by
    intro n
    induction n with
    | zero => intro v1 v2 v3 y2 hf; cases hf
    | succ n ih =>
      intro v1 v2 v3 y2 hf H locs ls hP hD hS hl kk
      unfold f_M_users_L4 at hf
      refine lv_iload_n hx hb dX4_users_4 rfl (lv_at hl 3 rfl) ?_
      refine lv_sipush (v := 640) hx hb dX4_users_5 (by decide) ?_
      refine lv_icmp_ge (tgt := 37) hx hb dX4_users_8 (by decide) (fun c4 => ?_) (fun c4 => ?_)
      · have hf := br_pos c4 hf
        cases hf
        exact kk _ _ _ hP hD hS (lv_sub hl [0, 1, 2] rfl)
      · have hf := br_neg c4 hf
        refine lv_iload_n hx hb dX4_users_11 rfl (lv_at hl 2 rfl) ?_
        refine lv_aload_n hx hb dX4_users_12 rfl (lv_at hl 0 rfl) ?_
        refine va_get (D := D) (ci := 8) (v := .ref (ad 5)) (C := RX4) (T := TX4) (N := 29) hx hb hts inX4 hown hK hP 0 rfl rfl 8 (by decide) (hts _ q1337) (fun _ h9 => h9) rfl dX4_users_13 ?_
        refine lv_iload_n hx hb dX4_users_16 rfl (lv_at hl 3 rfl) ?_
        obtain ⟨k5, hf⟩ := ck_not hf
        refine va_iald (D := D) hx hb hK hP 5 0 rfl rfl k5 dX4_users_17 ?_
        refine lv_iload_n hx hb dX4_users_18 rfl (lv_at hl 1 rfl) ?_
        refine lv_iconst (v := 1) hx hb dX4_users_19 (by decide) ?_
        refine lv_iadd hx hb dX4_users_20 ?_
        refine lv_icmp_ne (tgt := 28) hx hb dX4_users_21 (by decide) (fun c6 => ?_) (fun c6 => ?_)
        · have hf := br_neg c6 hf
          refine lv_iconst (v := 0) hx hb dX4_users_28 (by decide) ?_
          refine lv_iadd hx hb dX4_users_29 ?_
          refine lv_istore_n (lv' := [(2, .int (v2 + 0)), (0, .ref (ad 0)), (1, .int v1), (3, .int v3)]) hx hb dX4_users_30 rfl hl (by decide) rfl (fun ls hl => ?_)
          refine lv_iinc (v := (v3 + 1)) (lv' := [(3, .int (v3 + 1)), (2, .int (v2 + 0)), (0, .ref (ad 0)), (1, .int v1)]) hx hb dX4_users_31 hl (k := 3) rfl rfl (by decide) rfl (fun ls hl => ?_)
          refine lv_goto (tgt := 4) hx hb dX4_users_34 (by decide) ?_
          exact ih v1 (v2 + 0) (v3 + 1) _ hf _ _ _ hP hD hS (lv_sub hl [2, 3, 1, 0] rfl) kk
        · have hf := br_pos c6 hf
          refine lv_iconst (v := 1) hx hb dX4_users_24 (by decide) ?_
          refine lv_goto (tgt := 29) hx hb dX4_users_25 (by decide) ?_
          refine lv_iadd hx hb dX4_users_29 ?_
          refine lv_istore_n (lv' := [(2, .int (v2 + 1)), (0, .ref (ad 0)), (1, .int v1), (3, .int v3)]) hx hb dX4_users_30 rfl hl (by decide) rfl (fun ls hl => ?_)
          refine lv_iinc (v := (v3 + 1)) (lv' := [(3, .int (v3 + 1)), (2, .int (v2 + 1)), (0, .ref (ad 0)), (1, .int v1)]) hx hb dX4_users_31 hl (k := 3) rfl rfl (by decide) rfl (fun ls hl => ?_)
          refine lv_goto (tgt := 4) hx hb dX4_users_34 (by decide) ?_
          exact ih v1 (v2 + 1) (v3 + 1) _ hf _ _ _ hP hD hS (lv_sub hl [2, 3, 1, 0] rfl) kk
  have L50 : ∀ (n : Nat) (v1 : Int32) (v2 : Int32) (v3 : Int32) (v4 : Int32) (y2 : Int32), f_M_users_L50 n v1 v2 v3 v4 mkept mshot = some y2 → ∀ (H : Heap) (locs : List Loc) (ls : Array Slot), va_P D vwCl (WM ca ad lq mcode mday mown mquot mprom mfiles mowner mlinks mblocks mvals msnaps mranks mkept mshot mwas mholds mheld mends mopen mentr mkinds misop mfilesT mentrT mpromT mlinksT mblocksT mvalsT ++ R) H → va_D A (WM ca ad lq mcode mday mown mquot mprom mfiles mowner mlinks mblocks mvals msnaps mranks mkept mshot mwas mholds mheld mends mopen mentr mkinds misop mfilesT mentrT mpromT mlinksT mblocksT mvalsT ++ R) → va_S A s.heap H locs → lv_has ls 5 [(0, .ref (ad 0)), (1, .int v1), (2, .int v2), (3, .int v3), (4, .int v4)] → (∀ (H : Heap) (locs : List Loc) (ls : Array Slot), va_P D vwCl (WM ca ad lq mcode mday mown mquot mprom mfiles mowner mlinks mblocks mvals msnaps mranks mkept mshot mwas mholds mheld mends mopen mentr mkinds misop mfilesT mentrT mpromT mlinksT mblocksT mvalsT ++ R) H → va_D A (WM ca ad lq mcode mday mown mquot mprom mfiles mowner mlinks mblocks mvals msnaps mranks mkept mshot mwas mholds mheld mends mopen mentr mkinds misop mfilesT mentrT mpromT mlinksT mblocksT mvalsT ++ R) → va_S A s.heap H locs → lv_has ls 5 [(0, .ref (ad 0)), (1, .int v1), (2, .int y2), (3, .int v3)] → W p l e ({ frames := 0, cells := 0, slots := 0, locals := 0 } : Room) s m args below meth c H locs 0 0 Qm (F0 m 100 ls [])) → W p l e ({ frames := 0, cells := 0, slots := 0, locals := 0 } : Room) s m args below meth c H locs 0 0 Qm (F0 m 50 ls []) := by
    intro n
    induction n with
    | zero => intro v1 v2 v3 v4 y2 hf; cases hf
    | succ n ih =>
      intro v1 v2 v3 v4 y2 hf H locs ls hP hD hS hl kk
      unfold f_M_users_L50 at hf
      refine lv_iload hx hb dX4_users_50 (lv_at hl 4 rfl) ?_
      refine lv_sipush (v := 640) hx hb dX4_users_52 (by decide) ?_
      refine lv_icmp_ge (tgt := 100) hx hb dX4_users_55 (by decide) (fun c28 => ?_) (fun c28 => ?_)
      · have hf := br_pos c28 hf
        cases hf
        exact kk _ _ _ hP hD hS (lv_sub hl [0, 1, 2, 3] rfl)
      · have hf := br_neg c28 hf
        refine lv_aload_n hx hb dX4_users_58 rfl (lv_at hl 0 rfl) ?_
        refine va_get (D := D) (ci := 8) (v := .ref (ad 8)) (C := RX4) (T := TX4) (N := 29) hx hb hts inX4 hown hK hP 0 rfl rfl 12 (by decide) (hts _ q1341) (fun _ h9 => h9) rfl dX4_users_59 ?_
        refine lv_iload_n hx hb dX4_users_62 rfl (lv_at hl 3 rfl) ?_
        obtain ⟨k29, hf⟩ := ck_not hf
        refine va_zald (D := D) hx hb hK hP 8 1 rfl rfl k29 dX4_users_63 ?_
        refine lv_if_eq (tgt := 100) hx hb dX4_users_64 (by decide) (fun c30 => ?_) (fun c30 => ?_)
        · have hf := br_pos c30 hf
          cases hf
          exact kk _ _ _ hP hD hS (lv_sub hl [0, 1, 2, 3] rfl)
        · have hf := br_neg c30 hf
          refine lv_iload_n hx hb dX4_users_67 rfl (lv_at hl 2 rfl) ?_
          refine lv_aload_n hx hb dX4_users_68 rfl (lv_at hl 0 rfl) ?_
          refine va_get (D := D) (ci := 8) (v := .ref (ad 9)) (C := RX4) (T := TX4) (N := 29) hx hb hts inX4 hown hK hP 0 rfl rfl 13 (by decide) (hts _ q1342) (fun _ h9 => h9) rfl dX4_users_69 ?_
          refine lv_sipush (v := 640) hx hb dX4_users_72 (by decide) ?_
          refine lv_iload_n hx hb dX4_users_75 rfl (lv_at hl 3 rfl) ?_
          refine lv_imul hx hb dX4_users_76 ?_
          refine lv_iload hx hb dX4_users_77 (lv_at hl 4 rfl) ?_
          refine lv_iadd hx hb dX4_users_79 ?_
          obtain ⟨k31, hf⟩ := ck_not hf
          refine va_iald (D := D) hx hb hK hP 9 0 rfl rfl k31 dX4_users_80 ?_
          refine lv_iload_n hx hb dX4_users_81 rfl (lv_at hl 1 rfl) ?_
          refine lv_iconst (v := 1) hx hb dX4_users_82 (by decide) ?_
          refine lv_iadd hx hb dX4_users_83 ?_
          refine lv_icmp_ne (tgt := 91) hx hb dX4_users_84 (by decide) (fun c32 => ?_) (fun c32 => ?_)
          · have hf := br_neg c32 hf
            refine lv_iconst (v := 0) hx hb dX4_users_91 (by decide) ?_
            refine lv_iadd hx hb dX4_users_92 ?_
            refine lv_istore_n (lv' := [(2, .int (v2 + 0)), (0, .ref (ad 0)), (1, .int v1), (3, .int v3), (4, .int v4)]) hx hb dX4_users_93 rfl hl (by decide) rfl (fun ls hl => ?_)
            refine lv_iinc (v := (v4 + 1)) (lv' := [(4, .int (v4 + 1)), (2, .int (v2 + 0)), (0, .ref (ad 0)), (1, .int v1), (3, .int v3)]) hx hb dX4_users_94 hl (k := 4) rfl rfl (by decide) rfl (fun ls hl => ?_)
            refine lv_goto (tgt := 50) hx hb dX4_users_97 (by decide) ?_
            exact ih v1 (v2 + 0) v3 (v4 + 1) _ hf _ _ _ hP hD hS (lv_sub hl [2, 3, 1, 4, 0] rfl) kk
          · have hf := br_pos c32 hf
            refine lv_iconst (v := 1) hx hb dX4_users_87 (by decide) ?_
            refine lv_goto (tgt := 92) hx hb dX4_users_88 (by decide) ?_
            refine lv_iadd hx hb dX4_users_92 ?_
            refine lv_istore_n (lv' := [(2, .int (v2 + 1)), (0, .ref (ad 0)), (1, .int v1), (3, .int v3), (4, .int v4)]) hx hb dX4_users_93 rfl hl (by decide) rfl (fun ls hl => ?_)
            refine lv_iinc (v := (v4 + 1)) (lv' := [(4, .int (v4 + 1)), (2, .int (v2 + 1)), (0, .ref (ad 0)), (1, .int v1), (3, .int v3)]) hx hb dX4_users_94 hl (k := 4) rfl rfl (by decide) rfl (fun ls hl => ?_)
            refine lv_goto (tgt := 50) hx hb dX4_users_97 (by decide) ?_
            exact ih v1 (v2 + 1) v3 (v4 + 1) _ hf _ _ _ hP hD hS (lv_sub hl [2, 3, 1, 4, 0] rfl) kk
  have L39 : ∀ (n : Nat) (v1 : Int32) (v2 : Int32) (v3 : Int32) (y2 : Int32), f_M_users_L39 n v1 v2 v3 msnaps mkept mshot = some y2 → ∀ (H : Heap) (locs : List Loc) (ls : Array Slot), va_P D vwCl (WM ca ad lq mcode mday mown mquot mprom mfiles mowner mlinks mblocks mvals msnaps mranks mkept mshot mwas mholds mheld mends mopen mentr mkinds misop mfilesT mentrT mpromT mlinksT mblocksT mvalsT ++ R) H → va_D A (WM ca ad lq mcode mday mown mquot mprom mfiles mowner mlinks mblocks mvals msnaps mranks mkept mshot mwas mholds mheld mends mopen mentr mkinds misop mfilesT mentrT mpromT mlinksT mblocksT mvalsT ++ R) → va_S A s.heap H locs → lv_has ls 5 [(0, .ref (ad 0)), (1, .int v1), (2, .int v2), (3, .int v3)] → (∀ (H : Heap) (locs : List Loc) (ls : Array Slot), va_P D vwCl (WM ca ad lq mcode mday mown mquot mprom mfiles mowner mlinks mblocks mvals msnaps mranks mkept mshot mwas mholds mheld mends mopen mentr mkinds misop mfilesT mentrT mpromT mlinksT mblocksT mvalsT ++ R) H → va_D A (WM ca ad lq mcode mday mown mquot mprom mfiles mowner mlinks mblocks mvals msnaps mranks mkept mshot mwas mholds mheld mends mopen mentr mkinds misop mfilesT mentrT mpromT mlinksT mblocksT mvalsT ++ R) → va_S A s.heap H locs → lv_has ls 5 [(2, .int y2)] → W p l e ({ frames := 0, cells := 0, slots := 0, locals := 0 } : Room) s m args below meth c H locs 0 0 Qm (F0 m 106 ls [])) → W p l e ({ frames := 0, cells := 0, slots := 0, locals := 0 } : Room) s m args below meth c H locs 0 0 Qm (F0 m 39 ls []) := by
    intro n
    induction n with
    | zero => intro v1 v2 v3 y2 hf; cases hf
    | succ n ih =>
      intro v1 v2 v3 y2 hf H locs ls hP hD hS hl kk
      unfold f_M_users_L39 at hf
      refine lv_iload_n hx hb dX4_users_39 rfl (lv_at hl 3 rfl) ?_
      refine lv_aload_n hx hb dX4_users_40 rfl (lv_at hl 0 rfl) ?_
      refine va_get (D := D) (ci := 8) (v := .int msnaps) (C := RX4) (T := TX4) (N := 29) hx hb hts inX4 hown hK hP 0 rfl rfl 10 (by decide) (hts _ q1339) (fun _ h9 => h9) rfl dX4_users_41 ?_
      refine lv_icmp_ge (tgt := 106) hx hb dX4_users_44 (by decide) (fun c22 => ?_) (fun c22 => ?_)
      · have hf := br_pos c22 hf
        cases hf
        exact kk _ _ _ hP hD hS (lv_sub hl [2] rfl)
      · have hf := br_neg c22 hf
        refine lv_iconst (v := 0) hx hb dX4_users_47 (by decide) ?_
        refine lv_istore (lv' := [(4, .int 0), (0, .ref (ad 0)), (1, .int v1), (2, .int v2), (3, .int v3)]) hx hb dX4_users_48 hl (by decide) rfl (fun ls hl => ?_)
        obtain ⟨x34, h33, hf⟩ := bnd hf
        refine L50 FU v1 v2 v3 0 x34 h33 _ _ _ hP hD hS (lv_sub hl [1, 2, 3, 4, 0] rfl) (fun H locs ls hP hD hS hl => ?_)
        refine lv_iinc (v := (v3 + 1)) (lv' := [(3, .int (v3 + 1)), (0, .ref (ad 0)), (1, .int v1), (2, .int x34)]) hx hb dX4_users_100 hl (k := 3) rfl rfl (by decide) rfl (fun ls hl => ?_)
        refine lv_goto (tgt := 39) hx hb dX4_users_103 (by decide) ?_
        exact ih v1 x34 (v3 + 1) _ hf _ _ _ hP hD hS (lv_sub hl [1, 2, 3, 0] rfl) kk
  refine lv_iconst (v := 0) hx hb dX4_users_0 (by decide) ?_
  refine lv_istore_n (lv' := [(2, .int 0), (0, .ref (ad 0)), (1, .int p1)]) hx hb dX4_users_1 rfl hl (by decide) rfl (fun ls hl => ?_)
  refine lv_iconst (v := 0) hx hb dX4_users_2 (by decide) ?_
  refine lv_istore_n (lv' := [(3, .int 0), (2, .int 0), (0, .ref (ad 0)), (1, .int p1)]) hx hb dX4_users_3 rfl hl (by decide) rfl (fun ls hl => ?_)
  obtain ⟨x8, h7, hf⟩ := bnd hf
  refine L4 FU p1 0 0 x8 h7 _ _ _ hP hD hS (lv_sub hl [2, 3, 1, 0] rfl) (fun H locs ls hP hD hS hl => ?_)
  refine lv_iconst (v := 0) hx hb dX4_users_37 (by decide) ?_
  refine lv_istore_n (lv' := [(3, .int 0), (0, .ref (ad 0)), (1, .int p1), (2, .int x8)]) hx hb dX4_users_38 rfl hl (by decide) rfl (fun ls hl => ?_)
  obtain ⟨x36, h35, hf⟩ := bnd hf
  refine L39 FU p1 x8 0 x36 h35 _ _ _ hP hD hS (lv_sub hl [1, 2, 3, 0] rfl) (fun H locs ls hP hD hS hl => ?_)
  refine lv_iload_n hx hb dX4_users_106 rfl (lv_at hl 0 rfl) ?_
  cases hf
  exact end_i hAe hQm hx hb hr hlocks rfl hP hD hS dX4_users_107
def f_M_freeNow_L4 : Nat → Int32 → Int32 → (Nat → Int32) → Int32 → (Nat → Int32) → (Nat → Int32) → Option (Int32)
  | 0, _, _, _, _, _, _ => none
  | fuel + 1, v1, v2, mblocks, msnaps, mkept, mshot =>
    if 64 ≤ v2 then
      some v1
    else
      (f_M_users v2 mblocks msnaps mkept mshot).bind fun r6 =>
      if r6 = 0 then
        f_M_freeNow_L4 fuel (v1 + 1) (v2 + 1) mblocks msnaps mkept mshot
      else
        f_M_freeNow_L4 fuel (v1 + 0) (v2 + 1) mblocks msnaps mkept mshot
def f_M_freeNow (mblocks : Nat → Int32) (msnaps : Int32) (mkept : Nat → Int32) (mshot : Nat → Int32) : Option (Int32) :=
  (f_M_freeNow_L4 FU 0 0 mblocks msnaps mkept mshot).bind fun x10 =>
  some x10
set_option maxHeartbeats 4000000 in
set_option maxRecDepth 100000 in
theorem m_M_freeNow (l : Launch) {D : va_G} {sl : List (String × Nat × String)} (ca : Nat → ClassId) (ad : Nat → Nat) (lq : Nat) (mcode : Int32) (mday : Int32) (mown : Int32) (mquot : Nat → Int32) (mprom : Nat → Int32) (mfiles : Int32) (mowner : Nat → Int32) (mlinks : Nat → Int32) (mblocks : Nat → Int32) (mvals : Nat → Int32) (msnaps : Int32) (mranks : Nat → Int32) (mkept : Nat → Int32) (mshot : Nat → Int32) (mwas : Nat → Int32) (mholds : Int32) (mheld : Nat → Int32) (mends : Nat → Int32) (mopen : Nat → Int32) (mentr : Int32) (mkinds : Nat → Int32) (misop : Int32) (mfilesT : Int32) (mentrT : Int32) (mpromT : Nat → Int32) (mlinksT : Nat → Int32) (mblocksT : Nat → Int32) (mvalsT : Nat → Int32) (R : va_W) (sz : Nat) (ro : Int32) (hf : f_M_freeNow mblocks msnaps mkept mshot = some ro) : Met l yX4_freeNow (wm yX4_freeNow cX4_freeNow 3 (some .int)) ({ frames := 1, cells := 0, slots := 0, locals := 24 } : Room) (PRE [.ref (ad 0)] D ca sl (WM ca ad lq mcode mday mown mquot mprom mfiles mowner mlinks mblocks mvals msnaps mranks mkept mshot mwas mholds mheld mends mopen mentr mkinds misop mfilesT mentrT mpromT mlinksT mblocksT mvalsT ++ R) sz) (QI ro D (WM ca ad lq mcode mday mown mquot mprom mfiles mowner mlinks mblocks mvals msnaps mranks mkept mshot mwas mholds mheld mends mopen mentr mkinds misop mfilesT mentrT mpromT mlinksT mblocksT mvalsT ++ R) (WM ca ad lq mcode mday mown mquot mprom mfiles mowner mlinks mblocks mvals msnaps mranks mkept mshot mwas mholds mheld mends mopen mentr mkinds misop mfilesT mentrT mpromT mlinksT mblocksT mvalsT ++ R) sz) 0 0 (va_A (WM ca ad lq mcode mday mown mquot mprom mfiles mowner mlinks mblocks mvals msnaps mranks mkept mshot mwas mholds mheld mends mopen mentr mkinds misop mfilesT mentrT mpromT mlinksT mblocksT mvalsT ++ R) sz) := by
  refine Met.ofW (cc := cX4_freeNow) (maxL := 3) (ret := (some .int)) (by decide) rfl ?_
  intro p e s m args below meth c s₁ B hml hv
  obtain ⟨rfl, rfl, hP, hE, hD0⟩ := hv
  have hx := B.exec
  have hb := B.bytes
  have hr := B.returns
  have hts := wm_ww (atoms_spec (ws := wm yX4_freeNow cX4_freeNow 3 (some .int)) B.pre)
  have hown : s.vm.findClass RX4 = some m.cls := findClass_of_methodNamed B.named
  have hlocks := B.notSynchronized
  have hK := hE.1
  have hD := hD0.self (sz := s.heap.size)
  generalize hAe : va_A (WM ca ad lq mcode mday mown mquot mprom mfiles mowner mlinks mblocks mvals msnaps mranks mkept mshot mwas mholds mheld mends mopen mentr mkinds misop mfilesT mentrT mpromT mlinksT mblocksT mvalsT ++ R) s.heap.size = A at hD ⊢
  have hA : ∀ q : Nat, s.heap.size ≤ q → A q := fun q h => by rw [← hAe]; exact Or.inr h
  have hS : va_S A s.heap s.heap [] := va_S.rf
  have hl := lv_entry ([.ref (ad 0)]) (n := 3) (Nat.le_of_ble_eq_true rfl)
  rw [lg_entry_eq]
  generalize (lg_sl ([.ref (ad 0)]) ++ List.replicate (3 - (lg_sl ([.ref (ad 0)])).length) Slot.unset).toArray = ls at hl ⊢
  have hl : lv_has ls 3 [(0, .ref (ad 0))] := hl
  change W p l e ({ frames := 1, cells := 0, slots := 0, locals := 24 } : Room) s m _ below meth c s.heap [] 0 0 _ _
  generalize hQm : MQ below (QI ro D (WM ca ad lq mcode mday mown mquot mprom mfiles mowner mlinks mblocks mvals msnaps mranks mkept mshot mwas mholds mheld mends mopen mentr mkinds misop mfilesT mentrT mpromT mlinksT mblocksT mvalsT ++ R) (WM ca ad lq mcode mday mown mquot mprom mfiles mowner mlinks mblocks mvals msnaps mranks mkept mshot mwas mholds mheld mends mopen mentr mkinds misop mfilesT mentrT mpromT mlinksT mblocksT mvalsT ++ R) s.heap.size) _ s 0 0 A = Qm
  have hP : va_P D vwCl (WM ca ad lq mcode mday mown mquot mprom mfiles mowner mlinks mblocks mvals msnaps mranks mkept mshot mwas mholds mheld mends mopen mentr mkinds misop mfilesT mentrT mpromT mlinksT mblocksT mvalsT ++ R) s.heap := hP
  generalize hae : ([.ref (ad 0)] : List Value).toArray = args at hts hQm ⊢
  have L4 : ∀ (n : Nat) (v1 : Int32) (v2 : Int32) (y1 : Int32), f_M_freeNow_L4 n v1 v2 mblocks msnaps mkept mshot = some y1 → ∀ (H : Heap) (locs : List Loc) (ls : Array Slot), va_P D vwCl (WM ca ad lq mcode mday mown mquot mprom mfiles mowner mlinks mblocks mvals msnaps mranks mkept mshot mwas mholds mheld mends mopen mentr mkinds misop mfilesT mentrT mpromT mlinksT mblocksT mvalsT ++ R) H → va_D A (WM ca ad lq mcode mday mown mquot mprom mfiles mowner mlinks mblocks mvals msnaps mranks mkept mshot mwas mholds mheld mends mopen mentr mkinds misop mfilesT mentrT mpromT mlinksT mblocksT mvalsT ++ R) → va_S A s.heap H locs → lv_has ls 3 [(0, .ref (ad 0)), (1, .int v1), (2, .int v2)] → (∀ (H : Heap) (locs : List Loc) (ls : Array Slot), va_P D vwCl (WM ca ad lq mcode mday mown mquot mprom mfiles mowner mlinks mblocks mvals msnaps mranks mkept mshot mwas mholds mheld mends mopen mentr mkinds misop mfilesT mentrT mpromT mlinksT mblocksT mvalsT ++ R) H → va_D A (WM ca ad lq mcode mday mown mquot mprom mfiles mowner mlinks mblocks mvals msnaps mranks mkept mshot mwas mholds mheld mends mopen mentr mkinds misop mfilesT mentrT mpromT mlinksT mblocksT mvalsT ++ R) → va_S A s.heap H locs → lv_has ls 3 [(1, .int y1)] → W p l e ({ frames := 1, cells := 0, slots := 0, locals := 24 } : Room) s m args below meth c H locs 0 0 Qm (F0 m 32 ls [])) → W p l e ({ frames := 1, cells := 0, slots := 0, locals := 24 } : Room) s m args below meth c H locs 0 0 Qm (F0 m 4 ls []) := by
    intro n
    induction n with
    | zero => intro v1 v2 y1 hf; cases hf
    | succ n ih =>
      intro v1 v2 y1 hf H locs ls hP hD hS hl kk
      unfold f_M_freeNow_L4 at hf
      refine lv_iload_n hx hb dX4_freeNow_4 rfl (lv_at hl 2 rfl) ?_
      refine lv_bipush (v := 64) hx hb dX4_freeNow_5 (by decide) ?_
      refine lv_icmp_ge (tgt := 32) hx hb dX4_freeNow_7 (by decide) (fun c5 => ?_) (fun c5 => ?_)
      · have hf := br_pos c5 hf
        cases hf
        exact kk _ _ _ hP hD hS (lv_sub hl [1] rfl)
      · have hf := br_neg c5 hf
        refine lv_iload_n hx hb dX4_freeNow_10 rfl (lv_at hl 1 rfl) ?_
        refine lv_aload_n hx hb dX4_freeNow_11 rfl (lv_at hl 0 rfl) ?_
        refine lv_iload_n hx hb dX4_freeNow_12 rfl (lv_at hl 2 rfl) ?_
        obtain ⟨r6, h7, hf⟩ := bnd hf
        refine call_vi (rest := [.int v1]) (m_M_users l ca ad lq mcode mday mown mquot mprom mfiles mowner mlinks mblocks mvals msnaps mranks mkept mshot mwas mholds mheld mends mopen mentr mkinds misop mfilesT mentrT mpromT mlinksT mblocksT mvalsT R _ v2 r6 h7) ⟨hx, hb, hml, hown, hts⟩ (cwV 1 hts (gV q1487 q1489 q30 q50 q1490) rfl rfl rfl (by decide +kernel) ⟨Nat.le_of_ble_eq_true rfl, Nat.le_of_ble_eq_true rfl⟩) (va_recv hK hP (ci := 8) (q0 := 0) rfl rfl) hE hP hD hS hA rfl hl.1 rfl (lv_room (Nat.le_of_ble_eq_true rfl)) dX4_freeNow_13 ⟨Nat.le_of_ble_eq_true rfl, Nat.le_of_ble_eq_true rfl⟩ (fun H locs hP hD hS => ?_)
        refine lv_if_ne (tgt := 23) hx hb dX4_freeNow_16 (by decide) (fun c8 => ?_) (fun c8 => ?_)
        · have hf := br_neg c8 hf
          refine lv_iconst (v := 0) hx hb dX4_freeNow_23 (by decide) ?_
          refine lv_iadd hx hb dX4_freeNow_24 ?_
          refine lv_istore_n (lv' := [(1, .int (v1 + 0)), (0, .ref (ad 0)), (2, .int v2)]) hx hb dX4_freeNow_25 rfl hl (by decide) rfl (fun ls hl => ?_)
          refine lv_iinc (v := (v2 + 1)) (lv' := [(2, .int (v2 + 1)), (1, .int (v1 + 0)), (0, .ref (ad 0))]) hx hb dX4_freeNow_26 hl (k := 2) rfl rfl (by decide) rfl (fun ls hl => ?_)
          refine lv_goto (tgt := 4) hx hb dX4_freeNow_29 (by decide) ?_
          exact ih (v1 + 0) (v2 + 1) _ hf _ _ _ hP hD hS (lv_sub hl [2, 1, 0] rfl) kk
        · have hf := br_pos c8 hf
          refine lv_iconst (v := 1) hx hb dX4_freeNow_19 (by decide) ?_
          refine lv_goto (tgt := 24) hx hb dX4_freeNow_20 (by decide) ?_
          refine lv_iadd hx hb dX4_freeNow_24 ?_
          refine lv_istore_n (lv' := [(1, .int (v1 + 1)), (0, .ref (ad 0)), (2, .int v2)]) hx hb dX4_freeNow_25 rfl hl (by decide) rfl (fun ls hl => ?_)
          refine lv_iinc (v := (v2 + 1)) (lv' := [(2, .int (v2 + 1)), (1, .int (v1 + 1)), (0, .ref (ad 0))]) hx hb dX4_freeNow_26 hl (k := 2) rfl rfl (by decide) rfl (fun ls hl => ?_)
          refine lv_goto (tgt := 4) hx hb dX4_freeNow_29 (by decide) ?_
          exact ih (v1 + 1) (v2 + 1) _ hf _ _ _ hP hD hS (lv_sub hl [2, 1, 0] rfl) kk
  refine lv_iconst (v := 0) hx hb dX4_freeNow_0 (by decide) ?_
  refine lv_istore_n (lv' := [(1, .int 0), (0, .ref (ad 0))]) hx hb dX4_freeNow_1 rfl hl (by decide) rfl (fun ls hl => ?_)
  refine lv_iconst (v := 0) hx hb dX4_freeNow_2 (by decide) ?_
  refine lv_istore_n (lv' := [(2, .int 0), (1, .int 0), (0, .ref (ad 0))]) hx hb dX4_freeNow_3 rfl hl (by decide) rfl (fun ls hl => ?_)
  obtain ⟨x10, h9, hf⟩ := bnd hf
  refine L4 FU 0 0 x10 h9 _ _ _ hP hD hS (lv_sub hl [2, 1, 0] rfl) (fun H locs ls hP hD hS hl => ?_)
  refine lv_iload_n hx hb dX4_freeNow_32 rfl (lv_at hl 0 rfl) ?_
  cases hf
  exact end_i hAe hQm hx hb hr hlocks rfl hP hD hS dX4_freeNow_33
def f_M_promisedNow (mprom : Nat → Int32) : Option (Int32) :=
  some ((((mprom (0 : Int32).toNatClampNeg) + (mprom (1 : Int32).toNatClampNeg)) + (mprom (2 : Int32).toNatClampNeg)) + (mprom (3 : Int32).toNatClampNeg))
set_option maxHeartbeats 4000000 in
set_option maxRecDepth 100000 in
theorem m_M_promisedNow (l : Launch) {D : va_G} {sl : List (String × Nat × String)} (ca : Nat → ClassId) (ad : Nat → Nat) (lq : Nat) (mcode : Int32) (mday : Int32) (mown : Int32) (mquot : Nat → Int32) (mprom : Nat → Int32) (mfiles : Int32) (mowner : Nat → Int32) (mlinks : Nat → Int32) (mblocks : Nat → Int32) (mvals : Nat → Int32) (msnaps : Int32) (mranks : Nat → Int32) (mkept : Nat → Int32) (mshot : Nat → Int32) (mwas : Nat → Int32) (mholds : Int32) (mheld : Nat → Int32) (mends : Nat → Int32) (mopen : Nat → Int32) (mentr : Int32) (mkinds : Nat → Int32) (misop : Int32) (mfilesT : Int32) (mentrT : Int32) (mpromT : Nat → Int32) (mlinksT : Nat → Int32) (mblocksT : Nat → Int32) (mvalsT : Nat → Int32) (R : va_W) (sz : Nat) (ro : Int32) (hf : f_M_promisedNow mprom = some ro) : Met l yX4_promisedNow (wm yX4_promisedNow cX4_promisedNow 1 (some .int)) ({ frames := 0, cells := 0, slots := 0, locals := 0 } : Room) (PRE [.ref (ad 0)] D ca sl (WM ca ad lq mcode mday mown mquot mprom mfiles mowner mlinks mblocks mvals msnaps mranks mkept mshot mwas mholds mheld mends mopen mentr mkinds misop mfilesT mentrT mpromT mlinksT mblocksT mvalsT ++ R) sz) (QI ro D (WM ca ad lq mcode mday mown mquot mprom mfiles mowner mlinks mblocks mvals msnaps mranks mkept mshot mwas mholds mheld mends mopen mentr mkinds misop mfilesT mentrT mpromT mlinksT mblocksT mvalsT ++ R) (WM ca ad lq mcode mday mown mquot mprom mfiles mowner mlinks mblocks mvals msnaps mranks mkept mshot mwas mholds mheld mends mopen mentr mkinds misop mfilesT mentrT mpromT mlinksT mblocksT mvalsT ++ R) sz) 0 0 (va_A (WM ca ad lq mcode mday mown mquot mprom mfiles mowner mlinks mblocks mvals msnaps mranks mkept mshot mwas mholds mheld mends mopen mentr mkinds misop mfilesT mentrT mpromT mlinksT mblocksT mvalsT ++ R) sz) := by
  refine Met.ofW (cc := cX4_promisedNow) (maxL := 1) (ret := (some .int)) (by decide) rfl ?_
  intro p e s m args below meth c s₁ B hml hv
  obtain ⟨rfl, rfl, hP, hE, hD0⟩ := hv
  have hx := B.exec
  have hb := B.bytes
  have hr := B.returns
  have hts := wm_ww (atoms_spec (ws := wm yX4_promisedNow cX4_promisedNow 1 (some .int)) B.pre)
  have hown : s.vm.findClass RX4 = some m.cls := findClass_of_methodNamed B.named
  have hlocks := B.notSynchronized
  have hK := hE.1
  have hD := hD0.self (sz := s.heap.size)
  generalize hAe : va_A (WM ca ad lq mcode mday mown mquot mprom mfiles mowner mlinks mblocks mvals msnaps mranks mkept mshot mwas mholds mheld mends mopen mentr mkinds misop mfilesT mentrT mpromT mlinksT mblocksT mvalsT ++ R) s.heap.size = A at hD ⊢
  have hA : ∀ q : Nat, s.heap.size ≤ q → A q := fun q h => by rw [← hAe]; exact Or.inr h
  have hS : va_S A s.heap s.heap [] := va_S.rf
  have hl := lv_entry ([.ref (ad 0)]) (n := 1) (Nat.le_of_ble_eq_true rfl)
  rw [lg_entry_eq]
  generalize (lg_sl ([.ref (ad 0)]) ++ List.replicate (1 - (lg_sl ([.ref (ad 0)])).length) Slot.unset).toArray = ls at hl ⊢
  have hl : lv_has ls 1 [(0, .ref (ad 0))] := hl
  change W p l e ({ frames := 0, cells := 0, slots := 0, locals := 0 } : Room) s m _ below meth c s.heap [] 0 0 _ _
  generalize hQm : MQ below (QI ro D (WM ca ad lq mcode mday mown mquot mprom mfiles mowner mlinks mblocks mvals msnaps mranks mkept mshot mwas mholds mheld mends mopen mentr mkinds misop mfilesT mentrT mpromT mlinksT mblocksT mvalsT ++ R) (WM ca ad lq mcode mday mown mquot mprom mfiles mowner mlinks mblocks mvals msnaps mranks mkept mshot mwas mholds mheld mends mopen mentr mkinds misop mfilesT mentrT mpromT mlinksT mblocksT mvalsT ++ R) s.heap.size) _ s 0 0 A = Qm
  have hP : va_P D vwCl (WM ca ad lq mcode mday mown mquot mprom mfiles mowner mlinks mblocks mvals msnaps mranks mkept mshot mwas mholds mheld mends mopen mentr mkinds misop mfilesT mentrT mpromT mlinksT mblocksT mvalsT ++ R) s.heap := hP
  generalize hae : ([.ref (ad 0)] : List Value).toArray = args at hts hQm ⊢
  refine lv_aload_n hx hb dX4_promisedNow_0 rfl (lv_at hl 0 rfl) ?_
  refine va_get (D := D) (ci := 8) (v := .ref (ad 2)) (C := RX4) (T := TX4) (N := 29) hx hb hts inX4 hown hK hP 0 rfl rfl 4 (by decide) (hts _ q1333) (fun _ h9 => h9) rfl dX4_promisedNow_1 ?_
  refine lv_iconst (v := 0) hx hb dX4_promisedNow_4 (by decide) ?_
  refine va_iald (D := D) hx hb hK hP 2 0 rfl rfl (by unfold vp_in; decide) dX4_promisedNow_5 ?_
  refine lv_aload_n hx hb dX4_promisedNow_6 rfl (lv_at hl 0 rfl) ?_
  refine va_get (D := D) (ci := 8) (v := .ref (ad 2)) (C := RX4) (T := TX4) (N := 29) hx hb hts inX4 hown hK hP 0 rfl rfl 4 (by decide) (hts _ q1333) (fun _ h9 => h9) rfl dX4_promisedNow_7 ?_
  refine lv_iconst (v := 1) hx hb dX4_promisedNow_10 (by decide) ?_
  refine va_iald (D := D) hx hb hK hP 2 0 rfl rfl (by unfold vp_in; decide) dX4_promisedNow_11 ?_
  refine lv_iadd hx hb dX4_promisedNow_12 ?_
  refine lv_aload_n hx hb dX4_promisedNow_13 rfl (lv_at hl 0 rfl) ?_
  refine va_get (D := D) (ci := 8) (v := .ref (ad 2)) (C := RX4) (T := TX4) (N := 29) hx hb hts inX4 hown hK hP 0 rfl rfl 4 (by decide) (hts _ q1333) (fun _ h9 => h9) rfl dX4_promisedNow_14 ?_
  refine lv_iconst (v := 2) hx hb dX4_promisedNow_17 (by decide) ?_
  refine va_iald (D := D) hx hb hK hP 2 0 rfl rfl (by unfold vp_in; decide) dX4_promisedNow_18 ?_
  refine lv_iadd hx hb dX4_promisedNow_19 ?_
  refine lv_aload_n hx hb dX4_promisedNow_20 rfl (lv_at hl 0 rfl) ?_
  refine va_get (D := D) (ci := 8) (v := .ref (ad 2)) (C := RX4) (T := TX4) (N := 29) hx hb hts inX4 hown hK hP 0 rfl rfl 4 (by decide) (hts _ q1333) (fun _ h9 => h9) rfl dX4_promisedNow_21 ?_
  refine lv_iconst (v := 3) hx hb dX4_promisedNow_24 (by decide) ?_
  refine va_iald (D := D) hx hb hK hP 2 0 rfl rfl (by unfold vp_in; decide) dX4_promisedNow_25 ?_
  refine lv_iadd hx hb dX4_promisedNow_26 ?_
  cases hf
  exact end_i hAe hQm hx hb hr hlocks rfl hP hD hS dX4_promisedNow_27
def f_M_isUsedBy_L2 : Nat → Int32 → Int32 → Int32 → (Nat → Int32) → (Nat → Int32) → Option (Int32)
  | 0, _, _, _, _, _ => none
  | fuel + 1, v1, v2, v3, mowner, mblocks =>
    if 640 ≤ v3 then
      some 0
    else
      if v3 < 0 ∨ 640 ≤ v3.toNatClampNeg then none else
        if (mblocks v3.toNatClampNeg) = (v2 + 1) then
        if (v3 / 16) < 0 ∨ 40 ≤ (v3 / 16).toNatClampNeg then none else
          if (mowner (v3 / 16).toNatClampNeg) = v1 then
          some 1
        else
          f_M_isUsedBy_L2 fuel v1 v2 (v3 + 1) mowner mblocks
      else
        f_M_isUsedBy_L2 fuel v1 v2 (v3 + 1) mowner mblocks
def f_M_isUsedBy (p1 : Int32) (p2 : Int32) (mowner : Nat → Int32) (mblocks : Nat → Int32) : Option (Int32) :=
  f_M_isUsedBy_L2 FU p1 p2 0 mowner mblocks
set_option maxHeartbeats 4000000 in
set_option maxRecDepth 100000 in
theorem m_M_isUsedBy (l : Launch) {D : va_G} {sl : List (String × Nat × String)} (ca : Nat → ClassId) (ad : Nat → Nat) (lq : Nat) (mcode : Int32) (mday : Int32) (mown : Int32) (mquot : Nat → Int32) (mprom : Nat → Int32) (mfiles : Int32) (mowner : Nat → Int32) (mlinks : Nat → Int32) (mblocks : Nat → Int32) (mvals : Nat → Int32) (msnaps : Int32) (mranks : Nat → Int32) (mkept : Nat → Int32) (mshot : Nat → Int32) (mwas : Nat → Int32) (mholds : Int32) (mheld : Nat → Int32) (mends : Nat → Int32) (mopen : Nat → Int32) (mentr : Int32) (mkinds : Nat → Int32) (misop : Int32) (mfilesT : Int32) (mentrT : Int32) (mpromT : Nat → Int32) (mlinksT : Nat → Int32) (mblocksT : Nat → Int32) (mvalsT : Nat → Int32) (R : va_W) (sz : Nat) (p1 : Int32) (p2 : Int32) (ro : Int32) (hf : f_M_isUsedBy p1 p2 mowner mblocks = some ro) : Met l yX4_isUsedBy (wm yX4_isUsedBy cX4_isUsedBy 4 (some .boolean)) ({ frames := 0, cells := 0, slots := 0, locals := 0 } : Room) (PRE [.ref (ad 0), .int p1, .int p2] D ca sl (WM ca ad lq mcode mday mown mquot mprom mfiles mowner mlinks mblocks mvals msnaps mranks mkept mshot mwas mholds mheld mends mopen mentr mkinds misop mfilesT mentrT mpromT mlinksT mblocksT mvalsT ++ R) sz) (QI ro D (WM ca ad lq mcode mday mown mquot mprom mfiles mowner mlinks mblocks mvals msnaps mranks mkept mshot mwas mholds mheld mends mopen mentr mkinds misop mfilesT mentrT mpromT mlinksT mblocksT mvalsT ++ R) (WM ca ad lq mcode mday mown mquot mprom mfiles mowner mlinks mblocks mvals msnaps mranks mkept mshot mwas mholds mheld mends mopen mentr mkinds misop mfilesT mentrT mpromT mlinksT mblocksT mvalsT ++ R) sz) 0 0 (va_A (WM ca ad lq mcode mday mown mquot mprom mfiles mowner mlinks mblocks mvals msnaps mranks mkept mshot mwas mholds mheld mends mopen mentr mkinds misop mfilesT mentrT mpromT mlinksT mblocksT mvalsT ++ R) sz) := by
  refine Met.ofW (cc := cX4_isUsedBy) (maxL := 4) (ret := (some .boolean)) (by decide) rfl ?_
  intro p e s m args below meth c s₁ B hml hv
  obtain ⟨rfl, rfl, hP, hE, hD0⟩ := hv
  have hx := B.exec
  have hb := B.bytes
  have hr := B.returns
  have hts := wm_ww (atoms_spec (ws := wm yX4_isUsedBy cX4_isUsedBy 4 (some .boolean)) B.pre)
  have hown : s.vm.findClass RX4 = some m.cls := findClass_of_methodNamed B.named
  have hlocks := B.notSynchronized
  have hK := hE.1
  have hD := hD0.self (sz := s.heap.size)
  generalize hAe : va_A (WM ca ad lq mcode mday mown mquot mprom mfiles mowner mlinks mblocks mvals msnaps mranks mkept mshot mwas mholds mheld mends mopen mentr mkinds misop mfilesT mentrT mpromT mlinksT mblocksT mvalsT ++ R) s.heap.size = A at hD ⊢
  have hA : ∀ q : Nat, s.heap.size ≤ q → A q := fun q h => by rw [← hAe]; exact Or.inr h
  have hS : va_S A s.heap s.heap [] := va_S.rf
  have hl := lv_entry ([.ref (ad 0), .int p1, .int p2]) (n := 4) (Nat.le_of_ble_eq_true rfl)
  rw [lg_entry_eq]
  generalize (lg_sl ([.ref (ad 0), .int p1, .int p2]) ++ List.replicate (4 - (lg_sl ([.ref (ad 0), .int p1, .int p2])).length) Slot.unset).toArray = ls at hl ⊢
  have hl : lv_has ls 4 [(0, .ref (ad 0)), (1, .int p1), (2, .int p2)] := hl
  change W p l e ({ frames := 0, cells := 0, slots := 0, locals := 0 } : Room) s m _ below meth c s.heap [] 0 0 _ _
  generalize hQm : MQ below (QI ro D (WM ca ad lq mcode mday mown mquot mprom mfiles mowner mlinks mblocks mvals msnaps mranks mkept mshot mwas mholds mheld mends mopen mentr mkinds misop mfilesT mentrT mpromT mlinksT mblocksT mvalsT ++ R) (WM ca ad lq mcode mday mown mquot mprom mfiles mowner mlinks mblocks mvals msnaps mranks mkept mshot mwas mholds mheld mends mopen mentr mkinds misop mfilesT mentrT mpromT mlinksT mblocksT mvalsT ++ R) s.heap.size) _ s 0 0 A = Qm
  have hP : va_P D vwCl (WM ca ad lq mcode mday mown mquot mprom mfiles mowner mlinks mblocks mvals msnaps mranks mkept mshot mwas mholds mheld mends mopen mentr mkinds misop mfilesT mentrT mpromT mlinksT mblocksT mvalsT ++ R) s.heap := hP
  generalize hae : ([.ref (ad 0), .int p1, .int p2] : List Value).toArray = args at hts hQm ⊢
  have L2 : ∀ (n : Nat) (v1 : Int32) (v2 : Int32) (v3 : Int32), f_M_isUsedBy_L2 n v1 v2 v3 mowner mblocks = some ro → ∀ (H : Heap) (locs : List Loc) (ls : Array Slot), va_P D vwCl (WM ca ad lq mcode mday mown mquot mprom mfiles mowner mlinks mblocks mvals msnaps mranks mkept mshot mwas mholds mheld mends mopen mentr mkinds misop mfilesT mentrT mpromT mlinksT mblocksT mvalsT ++ R) H → va_D A (WM ca ad lq mcode mday mown mquot mprom mfiles mowner mlinks mblocks mvals msnaps mranks mkept mshot mwas mholds mheld mends mopen mentr mkinds misop mfilesT mentrT mpromT mlinksT mblocksT mvalsT ++ R) → va_S A s.heap H locs → lv_has ls 4 [(0, .ref (ad 0)), (1, .int v1), (2, .int v2), (3, .int v3)] → W p l e ({ frames := 0, cells := 0, slots := 0, locals := 0 } : Room) s m args below meth c H locs 0 0 Qm (F0 m 2 ls []) := by
    intro n
    induction n with
    | zero => intro v1 v2 v3 hf; cases hf
    | succ n ih =>
      intro v1 v2 v3 hf H locs ls hP hD hS hl
      unfold f_M_isUsedBy_L2 at hf
      refine lv_iload_n hx hb dX4_isUsedBy_2 rfl (lv_at hl 3 rfl) ?_
      refine lv_sipush (v := 640) hx hb dX4_isUsedBy_3 (by decide) ?_
      refine lv_icmp_ge (tgt := 42) hx hb dX4_isUsedBy_6 (by decide) (fun c6 => ?_) (fun c6 => ?_)
      · have hf := br_pos c6 hf
        refine lv_iconst (v := 0) hx hb dX4_isUsedBy_42 (by decide) ?_
        cases hf
        exact end_i hAe hQm hx hb hr hlocks rfl hP hD hS dX4_isUsedBy_43
      · have hf := br_neg c6 hf
        refine lv_aload_n hx hb dX4_isUsedBy_9 rfl (lv_at hl 0 rfl) ?_
        refine va_get (D := D) (ci := 8) (v := .ref (ad 5)) (C := RX4) (T := TX4) (N := 29) hx hb hts inX4 hown hK hP 0 rfl rfl 8 (by decide) (hts _ q1337) (fun _ h9 => h9) rfl dX4_isUsedBy_10 ?_
        refine lv_iload_n hx hb dX4_isUsedBy_13 rfl (lv_at hl 3 rfl) ?_
        obtain ⟨k7, hf⟩ := ck_not hf
        refine va_iald (D := D) hx hb hK hP 5 0 rfl rfl k7 dX4_isUsedBy_14 ?_
        refine lv_iload_n hx hb dX4_isUsedBy_15 rfl (lv_at hl 2 rfl) ?_
        refine lv_iconst (v := 1) hx hb dX4_isUsedBy_16 (by decide) ?_
        refine lv_iadd hx hb dX4_isUsedBy_17 ?_
        refine lv_icmp_ne (tgt := 36) hx hb dX4_isUsedBy_18 (by decide) (fun c8 => ?_) (fun c8 => ?_)
        · have hf := br_neg c8 hf
          refine lv_iinc (v := (v3 + 1)) (lv' := [(3, .int (v3 + 1)), (0, .ref (ad 0)), (1, .int v1), (2, .int v2)]) hx hb dX4_isUsedBy_36 hl (k := 3) rfl rfl (by decide) rfl (fun ls hl => ?_)
          refine lv_goto (tgt := 2) hx hb dX4_isUsedBy_39 (by decide) ?_
          exact ih v1 v2 (v3 + 1) hf _ _ _ hP hD hS (lv_sub hl [1, 2, 3, 0] rfl)
        · have hf := br_pos c8 hf
          refine lv_aload_n hx hb dX4_isUsedBy_21 rfl (lv_at hl 0 rfl) ?_
          refine va_get (D := D) (ci := 8) (v := .ref (ad 3)) (C := RX4) (T := TX4) (N := 29) hx hb hts inX4 hown hK hP 0 rfl rfl 6 (by decide) (hts _ q1335) (fun _ h9 => h9) rfl dX4_isUsedBy_22 ?_
          refine lv_iload_n hx hb dX4_isUsedBy_25 rfl (lv_at hl 3 rfl) ?_
          refine lv_bipush (v := 16) hx hb dX4_isUsedBy_26 (by decide) ?_
          refine lv_idiv hx hb dX4_isUsedBy_28 (by decide) ?_
          obtain ⟨k9, hf⟩ := ck_not hf
          refine va_iald (D := D) hx hb hK hP 3 0 rfl rfl k9 dX4_isUsedBy_29 ?_
          refine lv_iload_n hx hb dX4_isUsedBy_30 rfl (lv_at hl 1 rfl) ?_
          refine lv_icmp_ne (tgt := 36) hx hb dX4_isUsedBy_31 (by decide) (fun c10 => ?_) (fun c10 => ?_)
          · have hf := br_neg c10 hf
            refine lv_iinc (v := (v3 + 1)) (lv' := [(3, .int (v3 + 1)), (0, .ref (ad 0)), (1, .int v1), (2, .int v2)]) hx hb dX4_isUsedBy_36 hl (k := 3) rfl rfl (by decide) rfl (fun ls hl => ?_)
            refine lv_goto (tgt := 2) hx hb dX4_isUsedBy_39 (by decide) ?_
            exact ih v1 v2 (v3 + 1) hf _ _ _ hP hD hS (lv_sub hl [1, 2, 3, 0] rfl)
          · have hf := br_pos c10 hf
            refine lv_iconst (v := 1) hx hb dX4_isUsedBy_34 (by decide) ?_
            cases hf
            exact end_i hAe hQm hx hb hr hlocks rfl hP hD hS dX4_isUsedBy_35
  refine lv_iconst (v := 0) hx hb dX4_isUsedBy_0 (by decide) ?_
  refine lv_istore_n (lv' := [(3, .int 0), (0, .ref (ad 0)), (1, .int p1), (2, .int p2)]) hx hb dX4_isUsedBy_1 rfl hl (by decide) rfl (fun ls hl => ?_)
  exact L2 FU p1 p2 0 hf _ _ _ hP hD hS (lv_sub hl [1, 2, 3, 0] rfl)
def f_M_countsFor_L4 : Nat → Int32 → Int32 → Int32 → (Nat → Int32) → (Nat → Int32) → Option (Int32)
  | 0, _, _, _, _, _ => none
  | fuel + 1, v1, v2, v3, mowner, mblocks =>
    if 64 ≤ v3 then
      some v2
    else
      (f_M_isUsedBy v1 v3 mowner mblocks).bind fun r6 =>
      if r6 = 0 then
        f_M_countsFor_L4 fuel v1 (v2 + 0) (v3 + 1) mowner mblocks
      else
        f_M_countsFor_L4 fuel v1 (v2 + 1) (v3 + 1) mowner mblocks
def f_M_countsFor (p1 : Int32) (mowner : Nat → Int32) (mblocks : Nat → Int32) : Option (Int32) :=
  (f_M_countsFor_L4 FU p1 0 0 mowner mblocks).bind fun x10 =>
  some x10
set_option maxHeartbeats 4000000 in
set_option maxRecDepth 100000 in
theorem m_M_countsFor (l : Launch) {D : va_G} {sl : List (String × Nat × String)} (ca : Nat → ClassId) (ad : Nat → Nat) (lq : Nat) (mcode : Int32) (mday : Int32) (mown : Int32) (mquot : Nat → Int32) (mprom : Nat → Int32) (mfiles : Int32) (mowner : Nat → Int32) (mlinks : Nat → Int32) (mblocks : Nat → Int32) (mvals : Nat → Int32) (msnaps : Int32) (mranks : Nat → Int32) (mkept : Nat → Int32) (mshot : Nat → Int32) (mwas : Nat → Int32) (mholds : Int32) (mheld : Nat → Int32) (mends : Nat → Int32) (mopen : Nat → Int32) (mentr : Int32) (mkinds : Nat → Int32) (misop : Int32) (mfilesT : Int32) (mentrT : Int32) (mpromT : Nat → Int32) (mlinksT : Nat → Int32) (mblocksT : Nat → Int32) (mvalsT : Nat → Int32) (R : va_W) (sz : Nat) (p1 : Int32) (ro : Int32) (hf : f_M_countsFor p1 mowner mblocks = some ro) : Met l yX4_countsFor (wm yX4_countsFor cX4_countsFor 4 (some .int)) ({ frames := 1, cells := 0, slots := 0, locals := 23 } : Room) (PRE [.ref (ad 0), .int p1] D ca sl (WM ca ad lq mcode mday mown mquot mprom mfiles mowner mlinks mblocks mvals msnaps mranks mkept mshot mwas mholds mheld mends mopen mentr mkinds misop mfilesT mentrT mpromT mlinksT mblocksT mvalsT ++ R) sz) (QI ro D (WM ca ad lq mcode mday mown mquot mprom mfiles mowner mlinks mblocks mvals msnaps mranks mkept mshot mwas mholds mheld mends mopen mentr mkinds misop mfilesT mentrT mpromT mlinksT mblocksT mvalsT ++ R) (WM ca ad lq mcode mday mown mquot mprom mfiles mowner mlinks mblocks mvals msnaps mranks mkept mshot mwas mholds mheld mends mopen mentr mkinds misop mfilesT mentrT mpromT mlinksT mblocksT mvalsT ++ R) sz) 0 0 (va_A (WM ca ad lq mcode mday mown mquot mprom mfiles mowner mlinks mblocks mvals msnaps mranks mkept mshot mwas mholds mheld mends mopen mentr mkinds misop mfilesT mentrT mpromT mlinksT mblocksT mvalsT ++ R) sz) := by
  refine Met.ofW (cc := cX4_countsFor) (maxL := 4) (ret := (some .int)) (by decide) rfl ?_
  intro p e s m args below meth c s₁ B hml hv
  obtain ⟨rfl, rfl, hP, hE, hD0⟩ := hv
  have hx := B.exec
  have hb := B.bytes
  have hr := B.returns
  have hts := wm_ww (atoms_spec (ws := wm yX4_countsFor cX4_countsFor 4 (some .int)) B.pre)
  have hown : s.vm.findClass RX4 = some m.cls := findClass_of_methodNamed B.named
  have hlocks := B.notSynchronized
  have hK := hE.1
  have hD := hD0.self (sz := s.heap.size)
  generalize hAe : va_A (WM ca ad lq mcode mday mown mquot mprom mfiles mowner mlinks mblocks mvals msnaps mranks mkept mshot mwas mholds mheld mends mopen mentr mkinds misop mfilesT mentrT mpromT mlinksT mblocksT mvalsT ++ R) s.heap.size = A at hD ⊢
  have hA : ∀ q : Nat, s.heap.size ≤ q → A q := fun q h => by rw [← hAe]; exact Or.inr h
  have hS : va_S A s.heap s.heap [] := va_S.rf
  have hl := lv_entry ([.ref (ad 0), .int p1]) (n := 4) (Nat.le_of_ble_eq_true rfl)
  rw [lg_entry_eq]
  generalize (lg_sl ([.ref (ad 0), .int p1]) ++ List.replicate (4 - (lg_sl ([.ref (ad 0), .int p1])).length) Slot.unset).toArray = ls at hl ⊢
  have hl : lv_has ls 4 [(0, .ref (ad 0)), (1, .int p1)] := hl
  change W p l e ({ frames := 1, cells := 0, slots := 0, locals := 23 } : Room) s m _ below meth c s.heap [] 0 0 _ _
  generalize hQm : MQ below (QI ro D (WM ca ad lq mcode mday mown mquot mprom mfiles mowner mlinks mblocks mvals msnaps mranks mkept mshot mwas mholds mheld mends mopen mentr mkinds misop mfilesT mentrT mpromT mlinksT mblocksT mvalsT ++ R) (WM ca ad lq mcode mday mown mquot mprom mfiles mowner mlinks mblocks mvals msnaps mranks mkept mshot mwas mholds mheld mends mopen mentr mkinds misop mfilesT mentrT mpromT mlinksT mblocksT mvalsT ++ R) s.heap.size) _ s 0 0 A = Qm
  have hP : va_P D vwCl (WM ca ad lq mcode mday mown mquot mprom mfiles mowner mlinks mblocks mvals msnaps mranks mkept mshot mwas mholds mheld mends mopen mentr mkinds misop mfilesT mentrT mpromT mlinksT mblocksT mvalsT ++ R) s.heap := hP
  generalize hae : ([.ref (ad 0), .int p1] : List Value).toArray = args at hts hQm ⊢
  have L4 : ∀ (n : Nat) (v1 : Int32) (v2 : Int32) (v3 : Int32) (y2 : Int32), f_M_countsFor_L4 n v1 v2 v3 mowner mblocks = some y2 → ∀ (H : Heap) (locs : List Loc) (ls : Array Slot), va_P D vwCl (WM ca ad lq mcode mday mown mquot mprom mfiles mowner mlinks mblocks mvals msnaps mranks mkept mshot mwas mholds mheld mends mopen mentr mkinds misop mfilesT mentrT mpromT mlinksT mblocksT mvalsT ++ R) H → va_D A (WM ca ad lq mcode mday mown mquot mprom mfiles mowner mlinks mblocks mvals msnaps mranks mkept mshot mwas mholds mheld mends mopen mentr mkinds misop mfilesT mentrT mpromT mlinksT mblocksT mvalsT ++ R) → va_S A s.heap H locs → lv_has ls 4 [(0, .ref (ad 0)), (1, .int v1), (2, .int v2), (3, .int v3)] → (∀ (H : Heap) (locs : List Loc) (ls : Array Slot), va_P D vwCl (WM ca ad lq mcode mday mown mquot mprom mfiles mowner mlinks mblocks mvals msnaps mranks mkept mshot mwas mholds mheld mends mopen mentr mkinds misop mfilesT mentrT mpromT mlinksT mblocksT mvalsT ++ R) H → va_D A (WM ca ad lq mcode mday mown mquot mprom mfiles mowner mlinks mblocks mvals msnaps mranks mkept mshot mwas mholds mheld mends mopen mentr mkinds misop mfilesT mentrT mpromT mlinksT mblocksT mvalsT ++ R) → va_S A s.heap H locs → lv_has ls 4 [(2, .int y2)] → W p l e ({ frames := 1, cells := 0, slots := 0, locals := 23 } : Room) s m args below meth c H locs 0 0 Qm (F0 m 33 ls [])) → W p l e ({ frames := 1, cells := 0, slots := 0, locals := 23 } : Room) s m args below meth c H locs 0 0 Qm (F0 m 4 ls []) := by
    intro n
    induction n with
    | zero => intro v1 v2 v3 y2 hf; cases hf
    | succ n ih =>
      intro v1 v2 v3 y2 hf H locs ls hP hD hS hl kk
      unfold f_M_countsFor_L4 at hf
      refine lv_iload_n hx hb dX4_countsFor_4 rfl (lv_at hl 3 rfl) ?_
      refine lv_bipush (v := 64) hx hb dX4_countsFor_5 (by decide) ?_
      refine lv_icmp_ge (tgt := 33) hx hb dX4_countsFor_7 (by decide) (fun c5 => ?_) (fun c5 => ?_)
      · have hf := br_pos c5 hf
        cases hf
        exact kk _ _ _ hP hD hS (lv_sub hl [2] rfl)
      · have hf := br_neg c5 hf
        refine lv_iload_n hx hb dX4_countsFor_10 rfl (lv_at hl 2 rfl) ?_
        refine lv_aload_n hx hb dX4_countsFor_11 rfl (lv_at hl 0 rfl) ?_
        refine lv_iload_n hx hb dX4_countsFor_12 rfl (lv_at hl 1 rfl) ?_
        refine lv_iload_n hx hb dX4_countsFor_13 rfl (lv_at hl 3 rfl) ?_
        obtain ⟨r6, h7, hf⟩ := bnd hf
        refine call_vi (rest := [.int v2]) (m_M_isUsedBy l ca ad lq mcode mday mown mquot mprom mfiles mowner mlinks mblocks mvals msnaps mranks mkept mshot mwas mholds mheld mends mopen mentr mkinds misop mfilesT mentrT mpromT mlinksT mblocksT mvalsT R _ v1 v3 r6 h7) ⟨hx, hb, hml, hown, hts⟩ (cwV 2 hts (gV q1507 q1509 q35 q50 q1510) rfl rfl rfl (by decide +kernel) ⟨Nat.le_of_ble_eq_true rfl, Nat.le_of_ble_eq_true rfl⟩) (va_recv hK hP (ci := 8) (q0 := 0) rfl rfl) hE hP hD hS hA rfl hl.1 rfl (lv_room (Nat.le_of_ble_eq_true rfl)) dX4_countsFor_14 ⟨Nat.le_of_ble_eq_true rfl, Nat.le_of_ble_eq_true rfl⟩ (fun H locs hP hD hS => ?_)
        refine lv_if_eq (tgt := 24) hx hb dX4_countsFor_17 (by decide) (fun c8 => ?_) (fun c8 => ?_)
        · have hf := br_pos c8 hf
          refine lv_iconst (v := 0) hx hb dX4_countsFor_24 (by decide) ?_
          refine lv_iadd hx hb dX4_countsFor_25 ?_
          refine lv_istore_n (lv' := [(2, .int (v2 + 0)), (0, .ref (ad 0)), (1, .int v1), (3, .int v3)]) hx hb dX4_countsFor_26 rfl hl (by decide) rfl (fun ls hl => ?_)
          refine lv_iinc (v := (v3 + 1)) (lv' := [(3, .int (v3 + 1)), (2, .int (v2 + 0)), (0, .ref (ad 0)), (1, .int v1)]) hx hb dX4_countsFor_27 hl (k := 3) rfl rfl (by decide) rfl (fun ls hl => ?_)
          refine lv_goto (tgt := 4) hx hb dX4_countsFor_30 (by decide) ?_
          exact ih v1 (v2 + 0) (v3 + 1) _ hf _ _ _ hP hD hS (lv_sub hl [2, 3, 1, 0] rfl) kk
        · have hf := br_neg c8 hf
          refine lv_iconst (v := 1) hx hb dX4_countsFor_20 (by decide) ?_
          refine lv_goto (tgt := 25) hx hb dX4_countsFor_21 (by decide) ?_
          refine lv_iadd hx hb dX4_countsFor_25 ?_
          refine lv_istore_n (lv' := [(2, .int (v2 + 1)), (0, .ref (ad 0)), (1, .int v1), (3, .int v3)]) hx hb dX4_countsFor_26 rfl hl (by decide) rfl (fun ls hl => ?_)
          refine lv_iinc (v := (v3 + 1)) (lv' := [(3, .int (v3 + 1)), (2, .int (v2 + 1)), (0, .ref (ad 0)), (1, .int v1)]) hx hb dX4_countsFor_27 hl (k := 3) rfl rfl (by decide) rfl (fun ls hl => ?_)
          refine lv_goto (tgt := 4) hx hb dX4_countsFor_30 (by decide) ?_
          exact ih v1 (v2 + 1) (v3 + 1) _ hf _ _ _ hP hD hS (lv_sub hl [2, 3, 1, 0] rfl) kk
  refine lv_iconst (v := 0) hx hb dX4_countsFor_0 (by decide) ?_
  refine lv_istore_n (lv' := [(2, .int 0), (0, .ref (ad 0)), (1, .int p1)]) hx hb dX4_countsFor_1 rfl hl (by decide) rfl (fun ls hl => ?_)
  refine lv_iconst (v := 0) hx hb dX4_countsFor_2 (by decide) ?_
  refine lv_istore_n (lv' := [(3, .int 0), (2, .int 0), (0, .ref (ad 0)), (1, .int p1)]) hx hb dX4_countsFor_3 rfl hl (by decide) rfl (fun ls hl => ?_)
  obtain ⟨x10, h9, hf⟩ := bnd hf
  refine L4 FU p1 0 0 x10 h9 _ _ _ hP hD hS (lv_sub hl [2, 3, 1, 0] rfl) (fun H locs ls hP hD hS hl => ?_)
  refine lv_iload_n hx hb dX4_countsFor_33 rfl (lv_at hl 0 rfl) ?_
  cases hf
  exact end_i hAe hQm hx hb hr hlocks rfl hP hD hS dX4_countsFor_34
def f_M_addOwner (p1 : Int32) (mown : Int32) (mquot : Nat → Int32) (misop : Int32) : Option (Int32 × Int32 × Int32 × (Nat → Int32)) :=
  (f_M_in p1 0 64).bind fun r1 =>
  if r1 = 0 then
    (f_M_fails 1).bind fun (r13, mcode_14) =>
    some (r13, mcode_14, mown, mquot)
  else
    if misop = 0 then
      if mown = 4 then
        (f_M_fails 2).bind fun (r10, mcode_11) =>
        some (r10, mcode_11, mown, mquot)
      else
        if mown < 0 ∨ 4 ≤ mown.toNatClampNeg then none else
          some (((mown + 1) - 1), 0, (mown + 1), (upd mquot mown.toNatClampNeg p1))
    else
      (f_M_fails 2).bind fun (r5, mcode_6) =>
      some (r5, mcode_6, mown, mquot)
set_option maxHeartbeats 4000000 in
set_option maxRecDepth 100000 in
theorem m_M_addOwner (l : Launch) {D : va_G} {sl : List (String × Nat × String)} (ca : Nat → ClassId) (ad : Nat → Nat) (lq : Nat) (mcode : Int32) (mday : Int32) (mown : Int32) (mquot : Nat → Int32) (mprom : Nat → Int32) (mfiles : Int32) (mowner : Nat → Int32) (mlinks : Nat → Int32) (mblocks : Nat → Int32) (mvals : Nat → Int32) (msnaps : Int32) (mranks : Nat → Int32) (mkept : Nat → Int32) (mshot : Nat → Int32) (mwas : Nat → Int32) (mholds : Int32) (mheld : Nat → Int32) (mends : Nat → Int32) (mopen : Nat → Int32) (mentr : Int32) (mkinds : Nat → Int32) (misop : Int32) (mfilesT : Int32) (mentrT : Int32) (mpromT : Nat → Int32) (mlinksT : Nat → Int32) (mblocksT : Nat → Int32) (mvalsT : Nat → Int32) (R : va_W) (sz : Nat) (p1 : Int32) (ro : Int32) (omcode : Int32) (omown : Int32) (omquot : Nat → Int32) (hf : f_M_addOwner p1 mown mquot misop = some (ro, omcode, omown, omquot)) : Met l yX4_addOwner (wm yX4_addOwner cX4_addOwner 2 (some .int)) ({ frames := 1, cells := 0, slots := 0, locals := 22 } : Room) (PRE [.ref (ad 0), .int p1] D ca sl (WM ca ad lq mcode mday mown mquot mprom mfiles mowner mlinks mblocks mvals msnaps mranks mkept mshot mwas mholds mheld mends mopen mentr mkinds misop mfilesT mentrT mpromT mlinksT mblocksT mvalsT ++ R) sz) (QI ro D (WM ca ad lq omcode mday omown omquot mprom mfiles mowner mlinks mblocks mvals msnaps mranks mkept mshot mwas mholds mheld mends mopen mentr mkinds misop mfilesT mentrT mpromT mlinksT mblocksT mvalsT ++ R) (WM ca ad lq mcode mday mown mquot mprom mfiles mowner mlinks mblocks mvals msnaps mranks mkept mshot mwas mholds mheld mends mopen mentr mkinds misop mfilesT mentrT mpromT mlinksT mblocksT mvalsT ++ R) sz) 0 0 (va_A (WM ca ad lq mcode mday mown mquot mprom mfiles mowner mlinks mblocks mvals msnaps mranks mkept mshot mwas mholds mheld mends mopen mentr mkinds misop mfilesT mentrT mpromT mlinksT mblocksT mvalsT ++ R) sz) := by
  refine Met.ofW (cc := cX4_addOwner) (maxL := 2) (ret := (some .int)) (by decide) rfl ?_
  intro p e s m args below meth c s₁ B hml hv
  obtain ⟨rfl, rfl, hP, hE, hD0⟩ := hv
  have hx := B.exec
  have hb := B.bytes
  have hr := B.returns
  have hts := wm_ww (atoms_spec (ws := wm yX4_addOwner cX4_addOwner 2 (some .int)) B.pre)
  have hown : s.vm.findClass RX4 = some m.cls := findClass_of_methodNamed B.named
  have hlocks := B.notSynchronized
  have hK := hE.1
  have hD := hD0.self (sz := s.heap.size)
  generalize hAe : va_A (WM ca ad lq mcode mday mown mquot mprom mfiles mowner mlinks mblocks mvals msnaps mranks mkept mshot mwas mholds mheld mends mopen mentr mkinds misop mfilesT mentrT mpromT mlinksT mblocksT mvalsT ++ R) s.heap.size = A at hD ⊢
  have hA : ∀ q : Nat, s.heap.size ≤ q → A q := fun q h => by rw [← hAe]; exact Or.inr h
  have hS : va_S A s.heap s.heap [] := va_S.rf
  have hl := lv_entry ([.ref (ad 0), .int p1]) (n := 2) (Nat.le_of_ble_eq_true rfl)
  rw [lg_entry_eq]
  generalize (lg_sl ([.ref (ad 0), .int p1]) ++ List.replicate (2 - (lg_sl ([.ref (ad 0), .int p1])).length) Slot.unset).toArray = ls at hl ⊢
  have hl : lv_has ls 2 [(0, .ref (ad 0)), (1, .int p1)] := hl
  change W p l e ({ frames := 1, cells := 0, slots := 0, locals := 22 } : Room) s m _ below meth c s.heap [] 0 0 _ _
  generalize hQm : MQ below (QI ro D (WM ca ad lq omcode mday omown omquot mprom mfiles mowner mlinks mblocks mvals msnaps mranks mkept mshot mwas mholds mheld mends mopen mentr mkinds misop mfilesT mentrT mpromT mlinksT mblocksT mvalsT ++ R) (WM ca ad lq mcode mday mown mquot mprom mfiles mowner mlinks mblocks mvals msnaps mranks mkept mshot mwas mholds mheld mends mopen mentr mkinds misop mfilesT mentrT mpromT mlinksT mblocksT mvalsT ++ R) s.heap.size) _ s 0 0 A = Qm
  have hP : va_P D vwCl (WM ca ad lq mcode mday mown mquot mprom mfiles mowner mlinks mblocks mvals msnaps mranks mkept mshot mwas mholds mheld mends mopen mentr mkinds misop mfilesT mentrT mpromT mlinksT mblocksT mvalsT ++ R) s.heap := hP
  generalize hae : ([.ref (ad 0), .int p1] : List Value).toArray = args at hts hQm ⊢
  refine lv_aload_n hx hb dX4_addOwner_0 rfl (lv_at hl 0 rfl) ?_
  refine lv_iconst (v := 0) hx hb dX4_addOwner_1 (by decide) ?_
  refine va_put (D := D) (ci := 8) (v := .int 0) (ty := .int) (C := RX4) (T := TX4) (N := 29) hx hb hts inX4 tyX4 tyX4_ok nmX4 hown hK hP hD hS 0 rfl rfl 0 (by decide) (hts _ q1329) (fun _ h9 => h9) rfl (by decide +kernel) rfl rfl (Nat.le_of_ble_eq_true rfl) dX4_addOwner_2 (fun H locs hP hD hS => ?_)
  have hP : va_P D vwCl (WM ca ad lq 0 mday mown mquot mprom mfiles mowner mlinks mblocks mvals msnaps mranks mkept mshot mwas mholds mheld mends mopen mentr mkinds misop mfilesT mentrT mpromT mlinksT mblocksT mvalsT ++ R) H := hP
  have hD : va_D A (WM ca ad lq 0 mday mown mquot mprom mfiles mowner mlinks mblocks mvals msnaps mranks mkept mshot mwas mholds mheld mends mopen mentr mkinds misop mfilesT mentrT mpromT mlinksT mblocksT mvalsT ++ R) := hD
  refine lv_iload_n hx hb dX4_addOwner_5 rfl (lv_at hl 1 rfl) ?_
  refine lv_iconst (v := 0) hx hb dX4_addOwner_6 (by decide) ?_
  refine lv_bipush (v := 64) hx hb dX4_addOwner_7 (by decide) ?_
  obtain ⟨r1, h2, hf⟩ := bnd hf
  refine call_si (rest := []) (m_M_in l ca ad lq 0 mday mown mquot mprom mfiles mowner mlinks mblocks mvals msnaps mranks mkept mshot mwas mholds mheld mends mopen mentr mkinds misop mfilesT mentrT mpromT mlinksT mblocksT mvalsT R _ p1 0 64 r1 h2) ⟨hx, hb, hml, hown, hts⟩ (va_cwS 3 hts (gS q1425 q1426 q50 q1427) rfl rfl rfl (by decide +kernel) ⟨Nat.le_of_ble_eq_true rfl, Nat.le_of_ble_eq_true rfl⟩) hE hP hD hS hA rfl hl.1 rfl (lv_room (Nat.le_of_ble_eq_true rfl)) dX4_addOwner_9 ⟨Nat.le_of_ble_eq_true rfl, Nat.le_of_ble_eq_true rfl⟩ (fun H locs hP hD hS => ?_)
  refine lv_if_ne (tgt := 21) hx hb dX4_addOwner_12 (by decide) (fun c3 => ?_) (fun c3 => ?_)
  · have hf := br_neg c3 hf
    refine lv_aload_n hx hb dX4_addOwner_21 rfl (lv_at hl 0 rfl) ?_
    refine va_get (D := D) (ci := 8) (v := .int misop) (C := RX4) (T := TX4) (N := 29) hx hb hts inX4 hown hK hP 0 rfl rfl 21 (by decide) (hts _ q1350) (fun _ h9 => h9) rfl dX4_addOwner_22 ?_
    refine lv_if_ne (tgt := 36) hx hb dX4_addOwner_25 (by decide) (fun c4 => ?_) (fun c4 => ?_)
    · have hf := br_neg c4 hf
      refine lv_aload_n hx hb dX4_addOwner_36 rfl (lv_at hl 0 rfl) ?_
      refine lv_iconst (v := 2) hx hb dX4_addOwner_37 (by decide) ?_
      obtain ⟨⟨r5, mcode_6⟩, h7, hf⟩ := bnd hf
      refine call_vi (rest := []) (m_M_fails l ca ad lq 0 mday mown mquot mprom mfiles mowner mlinks mblocks mvals msnaps mranks mkept mshot mwas mholds mheld mends mopen mentr mkinds misop mfilesT mentrT mpromT mlinksT mblocksT mvalsT R _ 2 r5 mcode_6 h7) ⟨hx, hb, hml, hown, hts⟩ (cwV 1 hts (gV q1428 q1430 q23 q50 q1431) rfl rfl rfl (by decide +kernel) ⟨Nat.le_of_ble_eq_true rfl, Nat.le_of_ble_eq_true rfl⟩) (va_recv hK hP (ci := 8) (q0 := 0) rfl rfl) hE hP hD hS hA rfl hl.1 rfl (lv_room (Nat.le_of_ble_eq_true rfl)) dX4_addOwner_38 ⟨Nat.le_of_ble_eq_true rfl, Nat.le_of_ble_eq_true rfl⟩ (fun H locs hP hD hS => ?_)
      cases hf
      exact end_i hAe hQm hx hb hr hlocks rfl hP hD hS dX4_addOwner_41
    · have hf := br_pos c4 hf
      refine lv_aload_n hx hb dX4_addOwner_28 rfl (lv_at hl 0 rfl) ?_
      refine va_get (D := D) (ci := 8) (v := .int mown) (C := RX4) (T := TX4) (N := 29) hx hb hts inX4 hown hK hP 0 rfl rfl 2 (by decide) (hts _ q1331) (fun _ h9 => h9) rfl dX4_addOwner_29 ?_
      refine lv_iconst (v := 4) hx hb dX4_addOwner_32 (by decide) ?_
      refine lv_icmp_ne (tgt := 42) hx hb dX4_addOwner_33 (by decide) (fun c8 => ?_) (fun c8 => ?_)
      · have hf := br_neg c8 hf
        refine lv_aload_n hx hb dX4_addOwner_42 rfl (lv_at hl 0 rfl) ?_
        refine va_get (D := D) (ci := 8) (v := .ref (ad 1)) (C := RX4) (T := TX4) (N := 29) hx hb hts inX4 hown hK hP 0 rfl rfl 3 (by decide) (hts _ q1332) (fun _ h9 => h9) rfl dX4_addOwner_43 ?_
        refine lv_aload_n hx hb dX4_addOwner_46 rfl (lv_at hl 0 rfl) ?_
        refine va_get (D := D) (ci := 8) (v := .int mown) (C := RX4) (T := TX4) (N := 29) hx hb hts inX4 hown hK hP 0 rfl rfl 2 (by decide) (hts _ q1331) (fun _ h9 => h9) rfl dX4_addOwner_47 ?_
        refine lv_iload_n hx hb dX4_addOwner_50 rfl (lv_at hl 1 rfl) ?_
        obtain ⟨k9, hf⟩ := ck_not hf
        refine va_iast (D := D) hx hb hK hP hD hS 1 0 rfl rfl k9 dX4_addOwner_51 (fun H locs hP hD hS => ?_)
        have hP : va_P D vwCl (WM ca ad lq 0 mday mown (upd mquot mown.toNatClampNeg p1) mprom mfiles mowner mlinks mblocks mvals msnaps mranks mkept mshot mwas mholds mheld mends mopen mentr mkinds misop mfilesT mentrT mpromT mlinksT mblocksT mvalsT ++ R) H := hP
        have hD : va_D A (WM ca ad lq 0 mday mown (upd mquot mown.toNatClampNeg p1) mprom mfiles mowner mlinks mblocks mvals msnaps mranks mkept mshot mwas mholds mheld mends mopen mentr mkinds misop mfilesT mentrT mpromT mlinksT mblocksT mvalsT ++ R) := hD
        refine lv_aload_n hx hb dX4_addOwner_52 rfl (lv_at hl 0 rfl) ?_
        refine lv_dup hx hb dX4_addOwner_53 rfl ?_
        refine va_get (D := D) (ci := 8) (v := .int mown) (C := RX4) (T := TX4) (N := 29) hx hb hts inX4 hown hK hP 0 rfl rfl 2 (by decide) (hts _ q1331) (fun _ h9 => h9) rfl dX4_addOwner_54 ?_
        refine lv_iconst (v := 1) hx hb dX4_addOwner_57 (by decide) ?_
        refine lv_iadd hx hb dX4_addOwner_58 ?_
        refine va_put (D := D) (ci := 8) (v := .int (mown + 1)) (ty := .int) (C := RX4) (T := TX4) (N := 29) hx hb hts inX4 tyX4 tyX4_ok nmX4 hown hK hP hD hS 0 rfl rfl 2 (by decide) (hts _ q1331) (fun _ h9 => h9) rfl (by decide +kernel) rfl rfl (Nat.le_of_ble_eq_true rfl) dX4_addOwner_59 (fun H locs hP hD hS => ?_)
        have hP : va_P D vwCl (WM ca ad lq 0 mday (mown + 1) (upd mquot mown.toNatClampNeg p1) mprom mfiles mowner mlinks mblocks mvals msnaps mranks mkept mshot mwas mholds mheld mends mopen mentr mkinds misop mfilesT mentrT mpromT mlinksT mblocksT mvalsT ++ R) H := hP
        have hD : va_D A (WM ca ad lq 0 mday (mown + 1) (upd mquot mown.toNatClampNeg p1) mprom mfiles mowner mlinks mblocks mvals msnaps mranks mkept mshot mwas mholds mheld mends mopen mentr mkinds misop mfilesT mentrT mpromT mlinksT mblocksT mvalsT ++ R) := hD
        refine lv_aload_n hx hb dX4_addOwner_62 rfl (lv_at hl 0 rfl) ?_
        refine va_get (D := D) (ci := 8) (v := .int (mown + 1)) (C := RX4) (T := TX4) (N := 29) hx hb hts inX4 hown hK hP 0 rfl rfl 2 (by decide) (hts _ q1331) (fun _ h9 => h9) rfl dX4_addOwner_63 ?_
        refine lv_iconst (v := 1) hx hb dX4_addOwner_66 (by decide) ?_
        refine lv_isub hx hb dX4_addOwner_67 ?_
        cases hf
        exact end_i hAe hQm hx hb hr hlocks rfl hP hD hS dX4_addOwner_68
      · have hf := br_pos c8 hf
        refine lv_aload_n hx hb dX4_addOwner_36 rfl (lv_at hl 0 rfl) ?_
        refine lv_iconst (v := 2) hx hb dX4_addOwner_37 (by decide) ?_
        obtain ⟨⟨r10, mcode_11⟩, h12, hf⟩ := bnd hf
        refine call_vi (rest := []) (m_M_fails l ca ad lq 0 mday mown mquot mprom mfiles mowner mlinks mblocks mvals msnaps mranks mkept mshot mwas mholds mheld mends mopen mentr mkinds misop mfilesT mentrT mpromT mlinksT mblocksT mvalsT R _ 2 r10 mcode_11 h12) ⟨hx, hb, hml, hown, hts⟩ (cwV 1 hts (gV q1428 q1430 q23 q50 q1431) rfl rfl rfl (by decide +kernel) ⟨Nat.le_of_ble_eq_true rfl, Nat.le_of_ble_eq_true rfl⟩) (va_recv hK hP (ci := 8) (q0 := 0) rfl rfl) hE hP hD hS hA rfl hl.1 rfl (lv_room (Nat.le_of_ble_eq_true rfl)) dX4_addOwner_38 ⟨Nat.le_of_ble_eq_true rfl, Nat.le_of_ble_eq_true rfl⟩ (fun H locs hP hD hS => ?_)
        cases hf
        exact end_i hAe hQm hx hb hr hlocks rfl hP hD hS dX4_addOwner_41
  · have hf := br_pos c3 hf
    refine lv_aload_n hx hb dX4_addOwner_15 rfl (lv_at hl 0 rfl) ?_
    refine lv_iconst (v := 1) hx hb dX4_addOwner_16 (by decide) ?_
    obtain ⟨⟨r13, mcode_14⟩, h15, hf⟩ := bnd hf
    refine call_vi (rest := []) (m_M_fails l ca ad lq 0 mday mown mquot mprom mfiles mowner mlinks mblocks mvals msnaps mranks mkept mshot mwas mholds mheld mends mopen mentr mkinds misop mfilesT mentrT mpromT mlinksT mblocksT mvalsT R _ 1 r13 mcode_14 h15) ⟨hx, hb, hml, hown, hts⟩ (cwV 1 hts (gV q1428 q1430 q23 q50 q1431) rfl rfl rfl (by decide +kernel) ⟨Nat.le_of_ble_eq_true rfl, Nat.le_of_ble_eq_true rfl⟩) (va_recv hK hP (ci := 8) (q0 := 0) rfl rfl) hE hP hD hS hA rfl hl.1 rfl (lv_room (Nat.le_of_ble_eq_true rfl)) dX4_addOwner_17 ⟨Nat.le_of_ble_eq_true rfl, Nat.le_of_ble_eq_true rfl⟩ (fun H locs hP hD hS => ?_)
    cases hf
    exact end_i hAe hQm hx hb hr hlocks rfl hP hD hS dX4_addOwner_20
def f_M_createFile (p1 : Int32) (mown : Int32) (mfiles : Int32) (mowner : Nat → Int32) (mlinks : Nat → Int32) (mentr : Int32) (mkinds : Nat → Int32) : Option (Int32 × Int32 × Int32 × (Nat → Int32) × (Nat → Int32) × Int32 × (Nat → Int32)) :=
  (f_M_isOwner p1 mown).bind fun r1 =>
  if r1 = 0 then
    (f_M_fails 1).bind fun (r13, mcode_14) =>
    some (r13, mcode_14, mfiles, mowner, mlinks, mentr, mkinds)
  else
    if mfiles = 40 then
      (f_M_fails 2).bind fun (r10, mcode_11) =>
      some (r10, mcode_11, mfiles, mowner, mlinks, mentr, mkinds)
    else
      if mfiles < 0 ∨ 40 ≤ mfiles.toNatClampNeg then none else
        if mfiles < 0 ∨ 40 ≤ mfiles.toNatClampNeg then none else
        (f_M_enters 99 mentr mkinds).bind fun (mentr_7, mkinds_8) =>
      some (((mfiles + 1) - 1), 0, (mfiles + 1), (upd mowner mfiles.toNatClampNeg p1), (upd mlinks mfiles.toNatClampNeg 1), mentr_7, mkinds_8)
set_option maxHeartbeats 4000000 in
set_option maxRecDepth 100000 in
theorem m_M_createFile (l : Launch) {D : va_G} {sl : List (String × Nat × String)} (ca : Nat → ClassId) (ad : Nat → Nat) (lq : Nat) (mcode : Int32) (mday : Int32) (mown : Int32) (mquot : Nat → Int32) (mprom : Nat → Int32) (mfiles : Int32) (mowner : Nat → Int32) (mlinks : Nat → Int32) (mblocks : Nat → Int32) (mvals : Nat → Int32) (msnaps : Int32) (mranks : Nat → Int32) (mkept : Nat → Int32) (mshot : Nat → Int32) (mwas : Nat → Int32) (mholds : Int32) (mheld : Nat → Int32) (mends : Nat → Int32) (mopen : Nat → Int32) (mentr : Int32) (mkinds : Nat → Int32) (misop : Int32) (mfilesT : Int32) (mentrT : Int32) (mpromT : Nat → Int32) (mlinksT : Nat → Int32) (mblocksT : Nat → Int32) (mvalsT : Nat → Int32) (R : va_W) (sz : Nat) (p1 : Int32) (ro : Int32) (omcode : Int32) (omfiles : Int32) (omowner : Nat → Int32) (omlinks : Nat → Int32) (omentr : Int32) (omkinds : Nat → Int32) (hf : f_M_createFile p1 mown mfiles mowner mlinks mentr mkinds = some (ro, omcode, omfiles, omowner, omlinks, omentr, omkinds)) : Met l yX4_createFile (wm yX4_createFile cX4_createFile 2 (some .int)) ({ frames := 2, cells := 0, slots := 0, locals := 43 } : Room) (PRE [.ref (ad 0), .int p1] D ca sl (WM ca ad lq mcode mday mown mquot mprom mfiles mowner mlinks mblocks mvals msnaps mranks mkept mshot mwas mholds mheld mends mopen mentr mkinds misop mfilesT mentrT mpromT mlinksT mblocksT mvalsT ++ R) sz) (QI ro D (WM ca ad lq omcode mday mown mquot mprom omfiles omowner omlinks mblocks mvals msnaps mranks mkept mshot mwas mholds mheld mends mopen omentr omkinds misop mfilesT mentrT mpromT mlinksT mblocksT mvalsT ++ R) (WM ca ad lq mcode mday mown mquot mprom mfiles mowner mlinks mblocks mvals msnaps mranks mkept mshot mwas mholds mheld mends mopen mentr mkinds misop mfilesT mentrT mpromT mlinksT mblocksT mvalsT ++ R) sz) 0 0 (va_A (WM ca ad lq mcode mday mown mquot mprom mfiles mowner mlinks mblocks mvals msnaps mranks mkept mshot mwas mholds mheld mends mopen mentr mkinds misop mfilesT mentrT mpromT mlinksT mblocksT mvalsT ++ R) sz) := by
  refine Met.ofW (cc := cX4_createFile) (maxL := 2) (ret := (some .int)) (by decide) rfl ?_
  intro p e s m args below meth c s₁ B hml hv
  obtain ⟨rfl, rfl, hP, hE, hD0⟩ := hv
  have hx := B.exec
  have hb := B.bytes
  have hr := B.returns
  have hts := wm_ww (atoms_spec (ws := wm yX4_createFile cX4_createFile 2 (some .int)) B.pre)
  have hown : s.vm.findClass RX4 = some m.cls := findClass_of_methodNamed B.named
  have hlocks := B.notSynchronized
  have hK := hE.1
  have hD := hD0.self (sz := s.heap.size)
  generalize hAe : va_A (WM ca ad lq mcode mday mown mquot mprom mfiles mowner mlinks mblocks mvals msnaps mranks mkept mshot mwas mholds mheld mends mopen mentr mkinds misop mfilesT mentrT mpromT mlinksT mblocksT mvalsT ++ R) s.heap.size = A at hD ⊢
  have hA : ∀ q : Nat, s.heap.size ≤ q → A q := fun q h => by rw [← hAe]; exact Or.inr h
  have hS : va_S A s.heap s.heap [] := va_S.rf
  have hl := lv_entry ([.ref (ad 0), .int p1]) (n := 2) (Nat.le_of_ble_eq_true rfl)
  rw [lg_entry_eq]
  generalize (lg_sl ([.ref (ad 0), .int p1]) ++ List.replicate (2 - (lg_sl ([.ref (ad 0), .int p1])).length) Slot.unset).toArray = ls at hl ⊢
  have hl : lv_has ls 2 [(0, .ref (ad 0)), (1, .int p1)] := hl
  change W p l e ({ frames := 2, cells := 0, slots := 0, locals := 43 } : Room) s m _ below meth c s.heap [] 0 0 _ _
  generalize hQm : MQ below (QI ro D (WM ca ad lq omcode mday mown mquot mprom omfiles omowner omlinks mblocks mvals msnaps mranks mkept mshot mwas mholds mheld mends mopen omentr omkinds misop mfilesT mentrT mpromT mlinksT mblocksT mvalsT ++ R) (WM ca ad lq mcode mday mown mquot mprom mfiles mowner mlinks mblocks mvals msnaps mranks mkept mshot mwas mholds mheld mends mopen mentr mkinds misop mfilesT mentrT mpromT mlinksT mblocksT mvalsT ++ R) s.heap.size) _ s 0 0 A = Qm
  have hP : va_P D vwCl (WM ca ad lq mcode mday mown mquot mprom mfiles mowner mlinks mblocks mvals msnaps mranks mkept mshot mwas mholds mheld mends mopen mentr mkinds misop mfilesT mentrT mpromT mlinksT mblocksT mvalsT ++ R) s.heap := hP
  generalize hae : ([.ref (ad 0), .int p1] : List Value).toArray = args at hts hQm ⊢
  refine lv_aload_n hx hb dX4_createFile_0 rfl (lv_at hl 0 rfl) ?_
  refine lv_iconst (v := 0) hx hb dX4_createFile_1 (by decide) ?_
  refine va_put (D := D) (ci := 8) (v := .int 0) (ty := .int) (C := RX4) (T := TX4) (N := 29) hx hb hts inX4 tyX4 tyX4_ok nmX4 hown hK hP hD hS 0 rfl rfl 0 (by decide) (hts _ q1329) (fun _ h9 => h9) rfl (by decide +kernel) rfl rfl (Nat.le_of_ble_eq_true rfl) dX4_createFile_2 (fun H locs hP hD hS => ?_)
  have hP : va_P D vwCl (WM ca ad lq 0 mday mown mquot mprom mfiles mowner mlinks mblocks mvals msnaps mranks mkept mshot mwas mholds mheld mends mopen mentr mkinds misop mfilesT mentrT mpromT mlinksT mblocksT mvalsT ++ R) H := hP
  have hD : va_D A (WM ca ad lq 0 mday mown mquot mprom mfiles mowner mlinks mblocks mvals msnaps mranks mkept mshot mwas mholds mheld mends mopen mentr mkinds misop mfilesT mentrT mpromT mlinksT mblocksT mvalsT ++ R) := hD
  refine lv_aload_n hx hb dX4_createFile_5 rfl (lv_at hl 0 rfl) ?_
  refine lv_iload_n hx hb dX4_createFile_6 rfl (lv_at hl 1 rfl) ?_
  obtain ⟨r1, h2, hf⟩ := bnd hf
  refine call_vi (rest := []) (m_M_isOwner l ca ad lq 0 mday mown mquot mprom mfiles mowner mlinks mblocks mvals msnaps mranks mkept mshot mwas mholds mheld mends mopen mentr mkinds misop mfilesT mentrT mpromT mlinksT mblocksT mvalsT R _ p1 r1 h2) ⟨hx, hb, hml, hown, hts⟩ (cwV 1 hts (gV q1436 q1438 q24 q50 q1439) rfl rfl rfl (by decide +kernel) ⟨Nat.le_of_ble_eq_true rfl, Nat.le_of_ble_eq_true rfl⟩) (va_recv hK hP (ci := 8) (q0 := 0) rfl rfl) hE hP hD hS hA rfl hl.1 rfl (lv_room (Nat.le_of_ble_eq_true rfl)) dX4_createFile_7 ⟨Nat.le_of_ble_eq_true rfl, Nat.le_of_ble_eq_true rfl⟩ (fun H locs hP hD hS => ?_)
  refine lv_if_ne (tgt := 19) hx hb dX4_createFile_10 (by decide) (fun c3 => ?_) (fun c3 => ?_)
  · have hf := br_neg c3 hf
    refine lv_aload_n hx hb dX4_createFile_19 rfl (lv_at hl 0 rfl) ?_
    refine va_get (D := D) (ci := 8) (v := .int mfiles) (C := RX4) (T := TX4) (N := 29) hx hb hts inX4 hown hK hP 0 rfl rfl 5 (by decide) (hts _ q1334) (fun _ h9 => h9) rfl dX4_createFile_20 ?_
    refine lv_bipush (v := 40) hx hb dX4_createFile_23 (by decide) ?_
    refine lv_icmp_ne (tgt := 34) hx hb dX4_createFile_25 (by decide) (fun c4 => ?_) (fun c4 => ?_)
    · have hf := br_neg c4 hf
      refine lv_aload_n hx hb dX4_createFile_34 rfl (lv_at hl 0 rfl) ?_
      refine va_get (D := D) (ci := 8) (v := .ref (ad 3)) (C := RX4) (T := TX4) (N := 29) hx hb hts inX4 hown hK hP 0 rfl rfl 6 (by decide) (hts _ q1335) (fun _ h9 => h9) rfl dX4_createFile_35 ?_
      refine lv_aload_n hx hb dX4_createFile_38 rfl (lv_at hl 0 rfl) ?_
      refine va_get (D := D) (ci := 8) (v := .int mfiles) (C := RX4) (T := TX4) (N := 29) hx hb hts inX4 hown hK hP 0 rfl rfl 5 (by decide) (hts _ q1334) (fun _ h9 => h9) rfl dX4_createFile_39 ?_
      refine lv_iload_n hx hb dX4_createFile_42 rfl (lv_at hl 1 rfl) ?_
      obtain ⟨k5, hf⟩ := ck_not hf
      refine va_iast (D := D) hx hb hK hP hD hS 3 0 rfl rfl k5 dX4_createFile_43 (fun H locs hP hD hS => ?_)
      have hP : va_P D vwCl (WM ca ad lq 0 mday mown mquot mprom mfiles (upd mowner mfiles.toNatClampNeg p1) mlinks mblocks mvals msnaps mranks mkept mshot mwas mholds mheld mends mopen mentr mkinds misop mfilesT mentrT mpromT mlinksT mblocksT mvalsT ++ R) H := hP
      have hD : va_D A (WM ca ad lq 0 mday mown mquot mprom mfiles (upd mowner mfiles.toNatClampNeg p1) mlinks mblocks mvals msnaps mranks mkept mshot mwas mholds mheld mends mopen mentr mkinds misop mfilesT mentrT mpromT mlinksT mblocksT mvalsT ++ R) := hD
      refine lv_aload_n hx hb dX4_createFile_44 rfl (lv_at hl 0 rfl) ?_
      refine va_get (D := D) (ci := 8) (v := .ref (ad 4)) (C := RX4) (T := TX4) (N := 29) hx hb hts inX4 hown hK hP 0 rfl rfl 7 (by decide) (hts _ q1336) (fun _ h9 => h9) rfl dX4_createFile_45 ?_
      refine lv_aload_n hx hb dX4_createFile_48 rfl (lv_at hl 0 rfl) ?_
      refine va_get (D := D) (ci := 8) (v := .int mfiles) (C := RX4) (T := TX4) (N := 29) hx hb hts inX4 hown hK hP 0 rfl rfl 5 (by decide) (hts _ q1334) (fun _ h9 => h9) rfl dX4_createFile_49 ?_
      refine lv_iconst (v := 1) hx hb dX4_createFile_52 (by decide) ?_
      obtain ⟨k6, hf⟩ := ck_not hf
      refine va_iast (D := D) hx hb hK hP hD hS 4 0 rfl rfl k6 dX4_createFile_53 (fun H locs hP hD hS => ?_)
      have hP : va_P D vwCl (WM ca ad lq 0 mday mown mquot mprom mfiles (upd mowner mfiles.toNatClampNeg p1) (upd mlinks mfiles.toNatClampNeg 1) mblocks mvals msnaps mranks mkept mshot mwas mholds mheld mends mopen mentr mkinds misop mfilesT mentrT mpromT mlinksT mblocksT mvalsT ++ R) H := hP
      have hD : va_D A (WM ca ad lq 0 mday mown mquot mprom mfiles (upd mowner mfiles.toNatClampNeg p1) (upd mlinks mfiles.toNatClampNeg 1) mblocks mvals msnaps mranks mkept mshot mwas mholds mheld mends mopen mentr mkinds misop mfilesT mentrT mpromT mlinksT mblocksT mvalsT ++ R) := hD
      refine lv_aload_n hx hb dX4_createFile_54 rfl (lv_at hl 0 rfl) ?_
      refine lv_dup hx hb dX4_createFile_55 rfl ?_
      refine va_get (D := D) (ci := 8) (v := .int mfiles) (C := RX4) (T := TX4) (N := 29) hx hb hts inX4 hown hK hP 0 rfl rfl 5 (by decide) (hts _ q1334) (fun _ h9 => h9) rfl dX4_createFile_56 ?_
      refine lv_iconst (v := 1) hx hb dX4_createFile_59 (by decide) ?_
      refine lv_iadd hx hb dX4_createFile_60 ?_
      refine va_put (D := D) (ci := 8) (v := .int (mfiles + 1)) (ty := .int) (C := RX4) (T := TX4) (N := 29) hx hb hts inX4 tyX4 tyX4_ok nmX4 hown hK hP hD hS 0 rfl rfl 5 (by decide) (hts _ q1334) (fun _ h9 => h9) rfl (by decide +kernel) rfl rfl (Nat.le_of_ble_eq_true rfl) dX4_createFile_61 (fun H locs hP hD hS => ?_)
      have hP : va_P D vwCl (WM ca ad lq 0 mday mown mquot mprom (mfiles + 1) (upd mowner mfiles.toNatClampNeg p1) (upd mlinks mfiles.toNatClampNeg 1) mblocks mvals msnaps mranks mkept mshot mwas mholds mheld mends mopen mentr mkinds misop mfilesT mentrT mpromT mlinksT mblocksT mvalsT ++ R) H := hP
      have hD : va_D A (WM ca ad lq 0 mday mown mquot mprom (mfiles + 1) (upd mowner mfiles.toNatClampNeg p1) (upd mlinks mfiles.toNatClampNeg 1) mblocks mvals msnaps mranks mkept mshot mwas mholds mheld mends mopen mentr mkinds misop mfilesT mentrT mpromT mlinksT mblocksT mvalsT ++ R) := hD
      refine lv_aload_n hx hb dX4_createFile_64 rfl (lv_at hl 0 rfl) ?_
      refine lv_bipush (v := 99) hx hb dX4_createFile_65 (by decide) ?_
      obtain ⟨⟨mentr_7, mkinds_8⟩, h9, hf⟩ := bnd hf
      refine call_vv (rest := []) (m_M_enters l ca ad lq 0 mday mown mquot mprom (mfiles + 1) (upd mowner mfiles.toNatClampNeg p1) (upd mlinks mfiles.toNatClampNeg 1) mblocks mvals msnaps mranks mkept mshot mwas mholds mheld mends mopen mentr mkinds misop mfilesT mentrT mpromT mlinksT mblocksT mvalsT R _ 99 mentr_7 mkinds_8 h9) ⟨hx, hb, hml, hown, hts⟩ (cwV 1 hts (gV q1440 q1442 q25 q50 q1443) rfl rfl rfl (by decide +kernel) ⟨Nat.le_of_ble_eq_true rfl, Nat.le_of_ble_eq_true rfl⟩) (va_recv hK hP (ci := 8) (q0 := 0) rfl rfl) hE hP hD hS hA rfl hl.1 rfl (lv_room (Nat.le_of_ble_eq_true rfl)) dX4_createFile_67 ⟨Nat.le_of_ble_eq_true rfl, Nat.le_of_ble_eq_true rfl⟩ (fun H locs hP hD hS => ?_)
      refine lv_aload_n hx hb dX4_createFile_70 rfl (lv_at hl 0 rfl) ?_
      refine va_get (D := D) (ci := 8) (v := .int (mfiles + 1)) (C := RX4) (T := TX4) (N := 29) hx hb hts inX4 hown hK hP 0 rfl rfl 5 (by decide) (hts _ q1334) (fun _ h9 => h9) rfl dX4_createFile_71 ?_
      refine lv_iconst (v := 1) hx hb dX4_createFile_74 (by decide) ?_
      refine lv_isub hx hb dX4_createFile_75 ?_
      cases hf
      exact end_i hAe hQm hx hb hr hlocks rfl hP hD hS dX4_createFile_76
    · have hf := br_pos c4 hf
      refine lv_aload_n hx hb dX4_createFile_28 rfl (lv_at hl 0 rfl) ?_
      refine lv_iconst (v := 2) hx hb dX4_createFile_29 (by decide) ?_
      obtain ⟨⟨r10, mcode_11⟩, h12, hf⟩ := bnd hf
      refine call_vi (rest := []) (m_M_fails l ca ad lq 0 mday mown mquot mprom mfiles mowner mlinks mblocks mvals msnaps mranks mkept mshot mwas mholds mheld mends mopen mentr mkinds misop mfilesT mentrT mpromT mlinksT mblocksT mvalsT R _ 2 r10 mcode_11 h12) ⟨hx, hb, hml, hown, hts⟩ (cwV 1 hts (gV q1428 q1430 q23 q50 q1431) rfl rfl rfl (by decide +kernel) ⟨Nat.le_of_ble_eq_true rfl, Nat.le_of_ble_eq_true rfl⟩) (va_recv hK hP (ci := 8) (q0 := 0) rfl rfl) hE hP hD hS hA rfl hl.1 rfl (lv_room (Nat.le_of_ble_eq_true rfl)) dX4_createFile_30 ⟨Nat.le_of_ble_eq_true rfl, Nat.le_of_ble_eq_true rfl⟩ (fun H locs hP hD hS => ?_)
      cases hf
      exact end_i hAe hQm hx hb hr hlocks rfl hP hD hS dX4_createFile_33
  · have hf := br_pos c3 hf
    refine lv_aload_n hx hb dX4_createFile_13 rfl (lv_at hl 0 rfl) ?_
    refine lv_iconst (v := 1) hx hb dX4_createFile_14 (by decide) ?_
    obtain ⟨⟨r13, mcode_14⟩, h15, hf⟩ := bnd hf
    refine call_vi (rest := []) (m_M_fails l ca ad lq 0 mday mown mquot mprom mfiles mowner mlinks mblocks mvals msnaps mranks mkept mshot mwas mholds mheld mends mopen mentr mkinds misop mfilesT mentrT mpromT mlinksT mblocksT mvalsT R _ 1 r13 mcode_14 h15) ⟨hx, hb, hml, hown, hts⟩ (cwV 1 hts (gV q1428 q1430 q23 q50 q1431) rfl rfl rfl (by decide +kernel) ⟨Nat.le_of_ble_eq_true rfl, Nat.le_of_ble_eq_true rfl⟩) (va_recv hK hP (ci := 8) (q0 := 0) rfl rfl) hE hP hD hS hA rfl hl.1 rfl (lv_room (Nat.le_of_ble_eq_true rfl)) dX4_createFile_15 ⟨Nat.le_of_ble_eq_true rfl, Nat.le_of_ble_eq_true rfl⟩ (fun H locs hP hD hS => ?_)
    cases hf
    exact end_i hAe hQm hx hb hr hlocks rfl hP hD hS dX4_createFile_18
def f_M_fileCount (mfiles : Int32) : Option (Int32 × Int32) :=
  some (mfiles, 0)
set_option maxHeartbeats 4000000 in
set_option maxRecDepth 100000 in
theorem m_M_fileCount (l : Launch) {D : va_G} {sl : List (String × Nat × String)} (ca : Nat → ClassId) (ad : Nat → Nat) (lq : Nat) (mcode : Int32) (mday : Int32) (mown : Int32) (mquot : Nat → Int32) (mprom : Nat → Int32) (mfiles : Int32) (mowner : Nat → Int32) (mlinks : Nat → Int32) (mblocks : Nat → Int32) (mvals : Nat → Int32) (msnaps : Int32) (mranks : Nat → Int32) (mkept : Nat → Int32) (mshot : Nat → Int32) (mwas : Nat → Int32) (mholds : Int32) (mheld : Nat → Int32) (mends : Nat → Int32) (mopen : Nat → Int32) (mentr : Int32) (mkinds : Nat → Int32) (misop : Int32) (mfilesT : Int32) (mentrT : Int32) (mpromT : Nat → Int32) (mlinksT : Nat → Int32) (mblocksT : Nat → Int32) (mvalsT : Nat → Int32) (R : va_W) (sz : Nat) (ro : Int32) (omcode : Int32) (hf : f_M_fileCount mfiles = some (ro, omcode)) : Met l yX4_fileCount (wm yX4_fileCount cX4_fileCount 1 (some .int)) ({ frames := 0, cells := 0, slots := 0, locals := 0 } : Room) (PRE [.ref (ad 0)] D ca sl (WM ca ad lq mcode mday mown mquot mprom mfiles mowner mlinks mblocks mvals msnaps mranks mkept mshot mwas mholds mheld mends mopen mentr mkinds misop mfilesT mentrT mpromT mlinksT mblocksT mvalsT ++ R) sz) (QI ro D (WM ca ad lq omcode mday mown mquot mprom mfiles mowner mlinks mblocks mvals msnaps mranks mkept mshot mwas mholds mheld mends mopen mentr mkinds misop mfilesT mentrT mpromT mlinksT mblocksT mvalsT ++ R) (WM ca ad lq mcode mday mown mquot mprom mfiles mowner mlinks mblocks mvals msnaps mranks mkept mshot mwas mholds mheld mends mopen mentr mkinds misop mfilesT mentrT mpromT mlinksT mblocksT mvalsT ++ R) sz) 0 0 (va_A (WM ca ad lq mcode mday mown mquot mprom mfiles mowner mlinks mblocks mvals msnaps mranks mkept mshot mwas mholds mheld mends mopen mentr mkinds misop mfilesT mentrT mpromT mlinksT mblocksT mvalsT ++ R) sz) := by
  refine Met.ofW (cc := cX4_fileCount) (maxL := 1) (ret := (some .int)) (by decide) rfl ?_
  intro p e s m args below meth c s₁ B hml hv
  obtain ⟨rfl, rfl, hP, hE, hD0⟩ := hv
  have hx := B.exec
  have hb := B.bytes
  have hr := B.returns
  have hts := wm_ww (atoms_spec (ws := wm yX4_fileCount cX4_fileCount 1 (some .int)) B.pre)
  have hown : s.vm.findClass RX4 = some m.cls := findClass_of_methodNamed B.named
  have hlocks := B.notSynchronized
  have hK := hE.1
  have hD := hD0.self (sz := s.heap.size)
  generalize hAe : va_A (WM ca ad lq mcode mday mown mquot mprom mfiles mowner mlinks mblocks mvals msnaps mranks mkept mshot mwas mholds mheld mends mopen mentr mkinds misop mfilesT mentrT mpromT mlinksT mblocksT mvalsT ++ R) s.heap.size = A at hD ⊢
  have hA : ∀ q : Nat, s.heap.size ≤ q → A q := fun q h => by rw [← hAe]; exact Or.inr h
  have hS : va_S A s.heap s.heap [] := va_S.rf
  have hl := lv_entry ([.ref (ad 0)]) (n := 1) (Nat.le_of_ble_eq_true rfl)
  rw [lg_entry_eq]
  generalize (lg_sl ([.ref (ad 0)]) ++ List.replicate (1 - (lg_sl ([.ref (ad 0)])).length) Slot.unset).toArray = ls at hl ⊢
  have hl : lv_has ls 1 [(0, .ref (ad 0))] := hl
  change W p l e ({ frames := 0, cells := 0, slots := 0, locals := 0 } : Room) s m _ below meth c s.heap [] 0 0 _ _
  generalize hQm : MQ below (QI ro D (WM ca ad lq omcode mday mown mquot mprom mfiles mowner mlinks mblocks mvals msnaps mranks mkept mshot mwas mholds mheld mends mopen mentr mkinds misop mfilesT mentrT mpromT mlinksT mblocksT mvalsT ++ R) (WM ca ad lq mcode mday mown mquot mprom mfiles mowner mlinks mblocks mvals msnaps mranks mkept mshot mwas mholds mheld mends mopen mentr mkinds misop mfilesT mentrT mpromT mlinksT mblocksT mvalsT ++ R) s.heap.size) _ s 0 0 A = Qm
  have hP : va_P D vwCl (WM ca ad lq mcode mday mown mquot mprom mfiles mowner mlinks mblocks mvals msnaps mranks mkept mshot mwas mholds mheld mends mopen mentr mkinds misop mfilesT mentrT mpromT mlinksT mblocksT mvalsT ++ R) s.heap := hP
  generalize hae : ([.ref (ad 0)] : List Value).toArray = args at hts hQm ⊢
  refine lv_aload_n hx hb dX4_fileCount_0 rfl (lv_at hl 0 rfl) ?_
  refine lv_iconst (v := 0) hx hb dX4_fileCount_1 (by decide) ?_
  refine va_put (D := D) (ci := 8) (v := .int 0) (ty := .int) (C := RX4) (T := TX4) (N := 29) hx hb hts inX4 tyX4 tyX4_ok nmX4 hown hK hP hD hS 0 rfl rfl 0 (by decide) (hts _ q1329) (fun _ h9 => h9) rfl (by decide +kernel) rfl rfl (Nat.le_of_ble_eq_true rfl) dX4_fileCount_2 (fun H locs hP hD hS => ?_)
  have hP : va_P D vwCl (WM ca ad lq 0 mday mown mquot mprom mfiles mowner mlinks mblocks mvals msnaps mranks mkept mshot mwas mholds mheld mends mopen mentr mkinds misop mfilesT mentrT mpromT mlinksT mblocksT mvalsT ++ R) H := hP
  have hD : va_D A (WM ca ad lq 0 mday mown mquot mprom mfiles mowner mlinks mblocks mvals msnaps mranks mkept mshot mwas mholds mheld mends mopen mentr mkinds misop mfilesT mentrT mpromT mlinksT mblocksT mvalsT ++ R) := hD
  refine lv_aload_n hx hb dX4_fileCount_5 rfl (lv_at hl 0 rfl) ?_
  refine va_get (D := D) (ci := 8) (v := .int mfiles) (C := RX4) (T := TX4) (N := 29) hx hb hts inX4 hown hK hP 0 rfl rfl 5 (by decide) (hts _ q1334) (fun _ h9 => h9) rfl dX4_fileCount_6 ?_
  cases hf
  exact end_i hAe hQm hx hb hr hlocks rfl hP hD hS dX4_fileCount_9
def f_M_doesExist (p1 : Int32) (mfiles : Int32) (mlinks : Nat → Int32) (mholds : Int32) (mheld : Nat → Int32) (mopen : Nat → Int32) : Option (Int32 × Int32) :=
  (f_M_isFile p1 mfiles).bind fun r1 =>
  if r1 = 0 then
    some (0, 1)
  else
    (f_M_exists p1 mlinks mholds mheld mopen).bind fun r6 =>
    if r6 = 0 then
      some (0, 0)
    else
      some (1, 0)
set_option maxHeartbeats 4000000 in
set_option maxRecDepth 100000 in
theorem m_M_doesExist (l : Launch) {D : va_G} {sl : List (String × Nat × String)} (ca : Nat → ClassId) (ad : Nat → Nat) (lq : Nat) (mcode : Int32) (mday : Int32) (mown : Int32) (mquot : Nat → Int32) (mprom : Nat → Int32) (mfiles : Int32) (mowner : Nat → Int32) (mlinks : Nat → Int32) (mblocks : Nat → Int32) (mvals : Nat → Int32) (msnaps : Int32) (mranks : Nat → Int32) (mkept : Nat → Int32) (mshot : Nat → Int32) (mwas : Nat → Int32) (mholds : Int32) (mheld : Nat → Int32) (mends : Nat → Int32) (mopen : Nat → Int32) (mentr : Int32) (mkinds : Nat → Int32) (misop : Int32) (mfilesT : Int32) (mentrT : Int32) (mpromT : Nat → Int32) (mlinksT : Nat → Int32) (mblocksT : Nat → Int32) (mvalsT : Nat → Int32) (R : va_W) (sz : Nat) (p1 : Int32) (ro : Int32) (omcode : Int32) (hf : f_M_doesExist p1 mfiles mlinks mholds mheld mopen = some (ro, omcode)) : Met l yX4_doesExist (wm yX4_doesExist cX4_doesExist 2 (some .boolean)) ({ frames := 2, cells := 0, slots := 0, locals := 44 } : Room) (PRE [.ref (ad 0), .int p1] D ca sl (WM ca ad lq mcode mday mown mquot mprom mfiles mowner mlinks mblocks mvals msnaps mranks mkept mshot mwas mholds mheld mends mopen mentr mkinds misop mfilesT mentrT mpromT mlinksT mblocksT mvalsT ++ R) sz) (QI ro D (WM ca ad lq omcode mday mown mquot mprom mfiles mowner mlinks mblocks mvals msnaps mranks mkept mshot mwas mholds mheld mends mopen mentr mkinds misop mfilesT mentrT mpromT mlinksT mblocksT mvalsT ++ R) (WM ca ad lq mcode mday mown mquot mprom mfiles mowner mlinks mblocks mvals msnaps mranks mkept mshot mwas mholds mheld mends mopen mentr mkinds misop mfilesT mentrT mpromT mlinksT mblocksT mvalsT ++ R) sz) 0 0 (va_A (WM ca ad lq mcode mday mown mquot mprom mfiles mowner mlinks mblocks mvals msnaps mranks mkept mshot mwas mholds mheld mends mopen mentr mkinds misop mfilesT mentrT mpromT mlinksT mblocksT mvalsT ++ R) sz) := by
  refine Met.ofW (cc := cX4_doesExist) (maxL := 2) (ret := (some .boolean)) (by decide) rfl ?_
  intro p e s m args below meth c s₁ B hml hv
  obtain ⟨rfl, rfl, hP, hE, hD0⟩ := hv
  have hx := B.exec
  have hb := B.bytes
  have hr := B.returns
  have hts := wm_ww (atoms_spec (ws := wm yX4_doesExist cX4_doesExist 2 (some .boolean)) B.pre)
  have hown : s.vm.findClass RX4 = some m.cls := findClass_of_methodNamed B.named
  have hlocks := B.notSynchronized
  have hK := hE.1
  have hD := hD0.self (sz := s.heap.size)
  generalize hAe : va_A (WM ca ad lq mcode mday mown mquot mprom mfiles mowner mlinks mblocks mvals msnaps mranks mkept mshot mwas mholds mheld mends mopen mentr mkinds misop mfilesT mentrT mpromT mlinksT mblocksT mvalsT ++ R) s.heap.size = A at hD ⊢
  have hA : ∀ q : Nat, s.heap.size ≤ q → A q := fun q h => by rw [← hAe]; exact Or.inr h
  have hS : va_S A s.heap s.heap [] := va_S.rf
  have hl := lv_entry ([.ref (ad 0), .int p1]) (n := 2) (Nat.le_of_ble_eq_true rfl)
  rw [lg_entry_eq]
  generalize (lg_sl ([.ref (ad 0), .int p1]) ++ List.replicate (2 - (lg_sl ([.ref (ad 0), .int p1])).length) Slot.unset).toArray = ls at hl ⊢
  have hl : lv_has ls 2 [(0, .ref (ad 0)), (1, .int p1)] := hl
  change W p l e ({ frames := 2, cells := 0, slots := 0, locals := 44 } : Room) s m _ below meth c s.heap [] 0 0 _ _
  generalize hQm : MQ below (QI ro D (WM ca ad lq omcode mday mown mquot mprom mfiles mowner mlinks mblocks mvals msnaps mranks mkept mshot mwas mholds mheld mends mopen mentr mkinds misop mfilesT mentrT mpromT mlinksT mblocksT mvalsT ++ R) (WM ca ad lq mcode mday mown mquot mprom mfiles mowner mlinks mblocks mvals msnaps mranks mkept mshot mwas mholds mheld mends mopen mentr mkinds misop mfilesT mentrT mpromT mlinksT mblocksT mvalsT ++ R) s.heap.size) _ s 0 0 A = Qm
  have hP : va_P D vwCl (WM ca ad lq mcode mday mown mquot mprom mfiles mowner mlinks mblocks mvals msnaps mranks mkept mshot mwas mholds mheld mends mopen mentr mkinds misop mfilesT mentrT mpromT mlinksT mblocksT mvalsT ++ R) s.heap := hP
  generalize hae : ([.ref (ad 0), .int p1] : List Value).toArray = args at hts hQm ⊢
  refine lv_aload_n hx hb dX4_doesExist_0 rfl (lv_at hl 0 rfl) ?_
  refine lv_aload_n hx hb dX4_doesExist_1 rfl (lv_at hl 0 rfl) ?_
  refine lv_iload_n hx hb dX4_doesExist_2 rfl (lv_at hl 1 rfl) ?_
  obtain ⟨r1, h2, hf⟩ := bnd hf
  refine call_vi (rest := [.ref (ad 0)]) (m_M_isFile l ca ad lq mcode mday mown mquot mprom mfiles mowner mlinks mblocks mvals msnaps mranks mkept mshot mwas mholds mheld mends mopen mentr mkinds misop mfilesT mentrT mpromT mlinksT mblocksT mvalsT R _ p1 r1 h2) ⟨hx, hb, hml, hown, hts⟩ (cwV 1 hts (gV q1452 q1454 q26 q50 q1455) rfl rfl rfl (by decide +kernel) ⟨Nat.le_of_ble_eq_true rfl, Nat.le_of_ble_eq_true rfl⟩) (va_recv hK hP (ci := 8) (q0 := 0) rfl rfl) hE hP hD hS hA rfl hl.1 rfl (lv_room (Nat.le_of_ble_eq_true rfl)) dX4_doesExist_3 ⟨Nat.le_of_ble_eq_true rfl, Nat.le_of_ble_eq_true rfl⟩ (fun H locs hP hD hS => ?_)
  refine lv_if_eq (tgt := 13) hx hb dX4_doesExist_6 (by decide) (fun c3 => ?_) (fun c3 => ?_)
  · have hf := br_pos c3 hf
    refine lv_iconst (v := 1) hx hb dX4_doesExist_13 (by decide) ?_
    refine va_put (D := D) (ci := 8) (v := .int 1) (ty := .int) (C := RX4) (T := TX4) (N := 29) hx hb hts inX4 tyX4 tyX4_ok nmX4 hown hK hP hD hS 0 rfl rfl 0 (by decide) (hts _ q1329) (fun _ h9 => h9) rfl (by decide +kernel) rfl rfl (Nat.le_of_ble_eq_true rfl) dX4_doesExist_14 (fun H locs hP hD hS => ?_)
    have hP : va_P D vwCl (WM ca ad lq 1 mday mown mquot mprom mfiles mowner mlinks mblocks mvals msnaps mranks mkept mshot mwas mholds mheld mends mopen mentr mkinds misop mfilesT mentrT mpromT mlinksT mblocksT mvalsT ++ R) H := hP
    have hD : va_D A (WM ca ad lq 1 mday mown mquot mprom mfiles mowner mlinks mblocks mvals msnaps mranks mkept mshot mwas mholds mheld mends mopen mentr mkinds misop mfilesT mentrT mpromT mlinksT mblocksT mvalsT ++ R) := hD
    refine lv_aload_n hx hb dX4_doesExist_17 rfl (lv_at hl 0 rfl) ?_
    refine va_get (D := D) (ci := 8) (v := .int 1) (C := RX4) (T := TX4) (N := 29) hx hb hts inX4 hown hK hP 0 rfl rfl 0 (by decide) (hts _ q1329) (fun _ h9 => h9) rfl dX4_doesExist_18 ?_
    refine lv_if_ne (tgt := 36) hx hb dX4_doesExist_21 (by decide) (fun c4 => ?_) (fun c4 => ?_)
    rotate_left
    · exact absurd c4 (by decide)
    refine lv_iconst (v := 0) hx hb dX4_doesExist_36 (by decide) ?_
    cases hf
    exact end_i hAe hQm hx hb hr hlocks rfl hP hD hS dX4_doesExist_37
  · have hf := br_neg c3 hf
    refine lv_iconst (v := 0) hx hb dX4_doesExist_9 (by decide) ?_
    refine lv_goto (tgt := 14) hx hb dX4_doesExist_10 (by decide) ?_
    refine va_put (D := D) (ci := 8) (v := .int 0) (ty := .int) (C := RX4) (T := TX4) (N := 29) hx hb hts inX4 tyX4 tyX4_ok nmX4 hown hK hP hD hS 0 rfl rfl 0 (by decide) (hts _ q1329) (fun _ h9 => h9) rfl (by decide +kernel) rfl rfl (Nat.le_of_ble_eq_true rfl) dX4_doesExist_14 (fun H locs hP hD hS => ?_)
    have hP : va_P D vwCl (WM ca ad lq 0 mday mown mquot mprom mfiles mowner mlinks mblocks mvals msnaps mranks mkept mshot mwas mholds mheld mends mopen mentr mkinds misop mfilesT mentrT mpromT mlinksT mblocksT mvalsT ++ R) H := hP
    have hD : va_D A (WM ca ad lq 0 mday mown mquot mprom mfiles mowner mlinks mblocks mvals msnaps mranks mkept mshot mwas mholds mheld mends mopen mentr mkinds misop mfilesT mentrT mpromT mlinksT mblocksT mvalsT ++ R) := hD
    refine lv_aload_n hx hb dX4_doesExist_17 rfl (lv_at hl 0 rfl) ?_
    refine va_get (D := D) (ci := 8) (v := .int 0) (C := RX4) (T := TX4) (N := 29) hx hb hts inX4 hown hK hP 0 rfl rfl 0 (by decide) (hts _ q1329) (fun _ h9 => h9) rfl dX4_doesExist_18 ?_
    refine lv_if_ne (tgt := 36) hx hb dX4_doesExist_21 (by decide) (fun c5 => ?_) (fun c5 => ?_)
    · exact absurd c5 (by decide)
    refine lv_aload_n hx hb dX4_doesExist_24 rfl (lv_at hl 0 rfl) ?_
    refine lv_iload_n hx hb dX4_doesExist_25 rfl (lv_at hl 1 rfl) ?_
    obtain ⟨r6, h7, hf⟩ := bnd hf
    refine call_vi (rest := []) (m_M_exists l ca ad lq 0 mday mown mquot mprom mfiles mowner mlinks mblocks mvals msnaps mranks mkept mshot mwas mholds mheld mends mopen mentr mkinds misop mfilesT mentrT mpromT mlinksT mblocksT mvalsT R _ p1 r6 h7) ⟨hx, hb, hml, hown, hts⟩ (cwV 1 hts (gV q1456 q1458 q27 q50 q1459) rfl rfl rfl (by decide +kernel) ⟨Nat.le_of_ble_eq_true rfl, Nat.le_of_ble_eq_true rfl⟩) (va_recv hK hP (ci := 8) (q0 := 0) rfl rfl) hE hP hD hS hA rfl hl.1 rfl (lv_room (Nat.le_of_ble_eq_true rfl)) dX4_doesExist_26 ⟨Nat.le_of_ble_eq_true rfl, Nat.le_of_ble_eq_true rfl⟩ (fun H locs hP hD hS => ?_)
    refine lv_if_eq (tgt := 36) hx hb dX4_doesExist_29 (by decide) (fun c8 => ?_) (fun c8 => ?_)
    · have hf := br_pos c8 hf
      refine lv_iconst (v := 0) hx hb dX4_doesExist_36 (by decide) ?_
      cases hf
      exact end_i hAe hQm hx hb hr hlocks rfl hP hD hS dX4_doesExist_37
    · have hf := br_neg c8 hf
      refine lv_iconst (v := 1) hx hb dX4_doesExist_32 (by decide) ?_
      refine lv_goto (tgt := 37) hx hb dX4_doesExist_33 (by decide) ?_
      cases hf
      exact end_i hAe hQm hx hb hr hlocks rfl hP hD hS dX4_doesExist_37
def f_M_linksOf (p1 : Int32) (mfiles : Int32) (mlinks : Nat → Int32) : Option (Int32 × Int32) :=
  (f_M_isFile p1 mfiles).bind fun r1 =>
  if r1 = 0 then
    (f_M_fails 1).bind fun (r4, mcode_5) =>
    some (r4, mcode_5)
  else
    if p1 < 0 ∨ 40 ≤ p1.toNatClampNeg then none else
      some ((mlinks p1.toNatClampNeg), 0)
set_option maxHeartbeats 4000000 in
set_option maxRecDepth 100000 in
theorem m_M_linksOf (l : Launch) {D : va_G} {sl : List (String × Nat × String)} (ca : Nat → ClassId) (ad : Nat → Nat) (lq : Nat) (mcode : Int32) (mday : Int32) (mown : Int32) (mquot : Nat → Int32) (mprom : Nat → Int32) (mfiles : Int32) (mowner : Nat → Int32) (mlinks : Nat → Int32) (mblocks : Nat → Int32) (mvals : Nat → Int32) (msnaps : Int32) (mranks : Nat → Int32) (mkept : Nat → Int32) (mshot : Nat → Int32) (mwas : Nat → Int32) (mholds : Int32) (mheld : Nat → Int32) (mends : Nat → Int32) (mopen : Nat → Int32) (mentr : Int32) (mkinds : Nat → Int32) (misop : Int32) (mfilesT : Int32) (mentrT : Int32) (mpromT : Nat → Int32) (mlinksT : Nat → Int32) (mblocksT : Nat → Int32) (mvalsT : Nat → Int32) (R : va_W) (sz : Nat) (p1 : Int32) (ro : Int32) (omcode : Int32) (hf : f_M_linksOf p1 mfiles mlinks = some (ro, omcode)) : Met l yX4_linksOf (wm yX4_linksOf cX4_linksOf 2 (some .int)) ({ frames := 2, cells := 0, slots := 0, locals := 43 } : Room) (PRE [.ref (ad 0), .int p1] D ca sl (WM ca ad lq mcode mday mown mquot mprom mfiles mowner mlinks mblocks mvals msnaps mranks mkept mshot mwas mholds mheld mends mopen mentr mkinds misop mfilesT mentrT mpromT mlinksT mblocksT mvalsT ++ R) sz) (QI ro D (WM ca ad lq omcode mday mown mquot mprom mfiles mowner mlinks mblocks mvals msnaps mranks mkept mshot mwas mholds mheld mends mopen mentr mkinds misop mfilesT mentrT mpromT mlinksT mblocksT mvalsT ++ R) (WM ca ad lq mcode mday mown mquot mprom mfiles mowner mlinks mblocks mvals msnaps mranks mkept mshot mwas mholds mheld mends mopen mentr mkinds misop mfilesT mentrT mpromT mlinksT mblocksT mvalsT ++ R) sz) 0 0 (va_A (WM ca ad lq mcode mday mown mquot mprom mfiles mowner mlinks mblocks mvals msnaps mranks mkept mshot mwas mholds mheld mends mopen mentr mkinds misop mfilesT mentrT mpromT mlinksT mblocksT mvalsT ++ R) sz) := by
  refine Met.ofW (cc := cX4_linksOf) (maxL := 2) (ret := (some .int)) (by decide) rfl ?_
  intro p e s m args below meth c s₁ B hml hv
  obtain ⟨rfl, rfl, hP, hE, hD0⟩ := hv
  have hx := B.exec
  have hb := B.bytes
  have hr := B.returns
  have hts := wm_ww (atoms_spec (ws := wm yX4_linksOf cX4_linksOf 2 (some .int)) B.pre)
  have hown : s.vm.findClass RX4 = some m.cls := findClass_of_methodNamed B.named
  have hlocks := B.notSynchronized
  have hK := hE.1
  have hD := hD0.self (sz := s.heap.size)
  generalize hAe : va_A (WM ca ad lq mcode mday mown mquot mprom mfiles mowner mlinks mblocks mvals msnaps mranks mkept mshot mwas mholds mheld mends mopen mentr mkinds misop mfilesT mentrT mpromT mlinksT mblocksT mvalsT ++ R) s.heap.size = A at hD ⊢
  have hA : ∀ q : Nat, s.heap.size ≤ q → A q := fun q h => by rw [← hAe]; exact Or.inr h
  have hS : va_S A s.heap s.heap [] := va_S.rf
  have hl := lv_entry ([.ref (ad 0), .int p1]) (n := 2) (Nat.le_of_ble_eq_true rfl)
  rw [lg_entry_eq]
  generalize (lg_sl ([.ref (ad 0), .int p1]) ++ List.replicate (2 - (lg_sl ([.ref (ad 0), .int p1])).length) Slot.unset).toArray = ls at hl ⊢
  have hl : lv_has ls 2 [(0, .ref (ad 0)), (1, .int p1)] := hl
  change W p l e ({ frames := 2, cells := 0, slots := 0, locals := 43 } : Room) s m _ below meth c s.heap [] 0 0 _ _
  generalize hQm : MQ below (QI ro D (WM ca ad lq omcode mday mown mquot mprom mfiles mowner mlinks mblocks mvals msnaps mranks mkept mshot mwas mholds mheld mends mopen mentr mkinds misop mfilesT mentrT mpromT mlinksT mblocksT mvalsT ++ R) (WM ca ad lq mcode mday mown mquot mprom mfiles mowner mlinks mblocks mvals msnaps mranks mkept mshot mwas mholds mheld mends mopen mentr mkinds misop mfilesT mentrT mpromT mlinksT mblocksT mvalsT ++ R) s.heap.size) _ s 0 0 A = Qm
  have hP : va_P D vwCl (WM ca ad lq mcode mday mown mquot mprom mfiles mowner mlinks mblocks mvals msnaps mranks mkept mshot mwas mholds mheld mends mopen mentr mkinds misop mfilesT mentrT mpromT mlinksT mblocksT mvalsT ++ R) s.heap := hP
  generalize hae : ([.ref (ad 0), .int p1] : List Value).toArray = args at hts hQm ⊢
  refine lv_aload_n hx hb dX4_linksOf_0 rfl (lv_at hl 0 rfl) ?_
  refine lv_iconst (v := 0) hx hb dX4_linksOf_1 (by decide) ?_
  refine va_put (D := D) (ci := 8) (v := .int 0) (ty := .int) (C := RX4) (T := TX4) (N := 29) hx hb hts inX4 tyX4 tyX4_ok nmX4 hown hK hP hD hS 0 rfl rfl 0 (by decide) (hts _ q1329) (fun _ h9 => h9) rfl (by decide +kernel) rfl rfl (Nat.le_of_ble_eq_true rfl) dX4_linksOf_2 (fun H locs hP hD hS => ?_)
  have hP : va_P D vwCl (WM ca ad lq 0 mday mown mquot mprom mfiles mowner mlinks mblocks mvals msnaps mranks mkept mshot mwas mholds mheld mends mopen mentr mkinds misop mfilesT mentrT mpromT mlinksT mblocksT mvalsT ++ R) H := hP
  have hD : va_D A (WM ca ad lq 0 mday mown mquot mprom mfiles mowner mlinks mblocks mvals msnaps mranks mkept mshot mwas mholds mheld mends mopen mentr mkinds misop mfilesT mentrT mpromT mlinksT mblocksT mvalsT ++ R) := hD
  refine lv_aload_n hx hb dX4_linksOf_5 rfl (lv_at hl 0 rfl) ?_
  refine lv_iload_n hx hb dX4_linksOf_6 rfl (lv_at hl 1 rfl) ?_
  obtain ⟨r1, h2, hf⟩ := bnd hf
  refine call_vi (rest := []) (m_M_isFile l ca ad lq 0 mday mown mquot mprom mfiles mowner mlinks mblocks mvals msnaps mranks mkept mshot mwas mholds mheld mends mopen mentr mkinds misop mfilesT mentrT mpromT mlinksT mblocksT mvalsT R _ p1 r1 h2) ⟨hx, hb, hml, hown, hts⟩ (cwV 1 hts (gV q1452 q1454 q26 q50 q1455) rfl rfl rfl (by decide +kernel) ⟨Nat.le_of_ble_eq_true rfl, Nat.le_of_ble_eq_true rfl⟩) (va_recv hK hP (ci := 8) (q0 := 0) rfl rfl) hE hP hD hS hA rfl hl.1 rfl (lv_room (Nat.le_of_ble_eq_true rfl)) dX4_linksOf_7 ⟨Nat.le_of_ble_eq_true rfl, Nat.le_of_ble_eq_true rfl⟩ (fun H locs hP hD hS => ?_)
  refine lv_if_eq (tgt := 22) hx hb dX4_linksOf_10 (by decide) (fun c3 => ?_) (fun c3 => ?_)
  · have hf := br_pos c3 hf
    refine lv_aload_n hx hb dX4_linksOf_22 rfl (lv_at hl 0 rfl) ?_
    refine lv_iconst (v := 1) hx hb dX4_linksOf_23 (by decide) ?_
    obtain ⟨⟨r4, mcode_5⟩, h6, hf⟩ := bnd hf
    refine call_vi (rest := []) (m_M_fails l ca ad lq 0 mday mown mquot mprom mfiles mowner mlinks mblocks mvals msnaps mranks mkept mshot mwas mholds mheld mends mopen mentr mkinds misop mfilesT mentrT mpromT mlinksT mblocksT mvalsT R _ 1 r4 mcode_5 h6) ⟨hx, hb, hml, hown, hts⟩ (cwV 1 hts (gV q1428 q1430 q23 q50 q1431) rfl rfl rfl (by decide +kernel) ⟨Nat.le_of_ble_eq_true rfl, Nat.le_of_ble_eq_true rfl⟩) (va_recv hK hP (ci := 8) (q0 := 0) rfl rfl) hE hP hD hS hA rfl hl.1 rfl (lv_room (Nat.le_of_ble_eq_true rfl)) dX4_linksOf_24 ⟨Nat.le_of_ble_eq_true rfl, Nat.le_of_ble_eq_true rfl⟩ (fun H locs hP hD hS => ?_)
    cases hf
    exact end_i hAe hQm hx hb hr hlocks rfl hP hD hS dX4_linksOf_27
  · have hf := br_neg c3 hf
    refine lv_aload_n hx hb dX4_linksOf_13 rfl (lv_at hl 0 rfl) ?_
    refine va_get (D := D) (ci := 8) (v := .ref (ad 4)) (C := RX4) (T := TX4) (N := 29) hx hb hts inX4 hown hK hP 0 rfl rfl 7 (by decide) (hts _ q1336) (fun _ h9 => h9) rfl dX4_linksOf_14 ?_
    refine lv_iload_n hx hb dX4_linksOf_17 rfl (lv_at hl 1 rfl) ?_
    obtain ⟨k7, hf⟩ := ck_not hf
    refine va_iald (D := D) hx hb hK hP 4 0 rfl rfl k7 dX4_linksOf_18 ?_
    refine lv_goto (tgt := 27) hx hb dX4_linksOf_19 (by decide) ?_
    cases hf
    exact end_i hAe hQm hx hb hr hlocks rfl hP hD hS dX4_linksOf_27
def f_M_link (p1 : Int32) (mfiles : Int32) (mlinks : Nat → Int32) (mentr : Int32) (mkinds : Nat → Int32) : Option (Int32 × Int32 × (Nat → Int32) × Int32 × (Nat → Int32)) :=
  (f_M_isFile p1 mfiles).bind fun r1 =>
  if r1 = 0 then
    (f_M_fails 1).bind fun (r20, mcode_21) =>
    some (r20, mcode_21, mlinks, mentr, mkinds)
  else
    if p1 < 0 ∨ 40 ≤ p1.toNatClampNeg then none else
      if (mlinks p1.toNatClampNeg) = 0 then
      (f_M_fails 2).bind fun (r6, mcode_7) =>
      some (r6, mcode_7, mlinks, mentr, mkinds)
    else
      if p1 < 0 ∨ 40 ≤ p1.toNatClampNeg then none else
        if (mlinks p1.toNatClampNeg) = 9 then
        (f_M_fails 2).bind fun (r17, mcode_18) =>
        some (r17, mcode_18, mlinks, mentr, mkinds)
      else
        if p1 < 0 ∨ 40 ≤ p1.toNatClampNeg then none else
          if p1 < 0 ∨ 40 ≤ p1.toNatClampNeg then none else
          (f_M_enters 108 mentr mkinds).bind fun (mentr_13, mkinds_14) =>
        if p1 < 0 ∨ 40 ≤ p1.toNatClampNeg then none else
          some (((upd mlinks p1.toNatClampNeg ((mlinks p1.toNatClampNeg) + 1)) p1.toNatClampNeg), 0, (upd mlinks p1.toNatClampNeg ((mlinks p1.toNatClampNeg) + 1)), mentr_13, mkinds_14)
set_option maxHeartbeats 4000000 in
set_option maxRecDepth 100000 in
theorem m_M_link (l : Launch) {D : va_G} {sl : List (String × Nat × String)} (ca : Nat → ClassId) (ad : Nat → Nat) (lq : Nat) (mcode : Int32) (mday : Int32) (mown : Int32) (mquot : Nat → Int32) (mprom : Nat → Int32) (mfiles : Int32) (mowner : Nat → Int32) (mlinks : Nat → Int32) (mblocks : Nat → Int32) (mvals : Nat → Int32) (msnaps : Int32) (mranks : Nat → Int32) (mkept : Nat → Int32) (mshot : Nat → Int32) (mwas : Nat → Int32) (mholds : Int32) (mheld : Nat → Int32) (mends : Nat → Int32) (mopen : Nat → Int32) (mentr : Int32) (mkinds : Nat → Int32) (misop : Int32) (mfilesT : Int32) (mentrT : Int32) (mpromT : Nat → Int32) (mlinksT : Nat → Int32) (mblocksT : Nat → Int32) (mvalsT : Nat → Int32) (R : va_W) (sz : Nat) (p1 : Int32) (ro : Int32) (omcode : Int32) (omlinks : Nat → Int32) (omentr : Int32) (omkinds : Nat → Int32) (hf : f_M_link p1 mfiles mlinks mentr mkinds = some (ro, omcode, omlinks, omentr, omkinds)) : Met l yX4_link (wm yX4_link cX4_link 2 (some .int)) ({ frames := 2, cells := 0, slots := 0, locals := 43 } : Room) (PRE [.ref (ad 0), .int p1] D ca sl (WM ca ad lq mcode mday mown mquot mprom mfiles mowner mlinks mblocks mvals msnaps mranks mkept mshot mwas mholds mheld mends mopen mentr mkinds misop mfilesT mentrT mpromT mlinksT mblocksT mvalsT ++ R) sz) (QI ro D (WM ca ad lq omcode mday mown mquot mprom mfiles mowner omlinks mblocks mvals msnaps mranks mkept mshot mwas mholds mheld mends mopen omentr omkinds misop mfilesT mentrT mpromT mlinksT mblocksT mvalsT ++ R) (WM ca ad lq mcode mday mown mquot mprom mfiles mowner mlinks mblocks mvals msnaps mranks mkept mshot mwas mholds mheld mends mopen mentr mkinds misop mfilesT mentrT mpromT mlinksT mblocksT mvalsT ++ R) sz) 0 0 (va_A (WM ca ad lq mcode mday mown mquot mprom mfiles mowner mlinks mblocks mvals msnaps mranks mkept mshot mwas mholds mheld mends mopen mentr mkinds misop mfilesT mentrT mpromT mlinksT mblocksT mvalsT ++ R) sz) := by
  refine Met.ofW (cc := cX4_link) (maxL := 2) (ret := (some .int)) (by decide) rfl ?_
  intro p e s m args below meth c s₁ B hml hv
  obtain ⟨rfl, rfl, hP, hE, hD0⟩ := hv
  have hx := B.exec
  have hb := B.bytes
  have hr := B.returns
  have hts := wm_ww (atoms_spec (ws := wm yX4_link cX4_link 2 (some .int)) B.pre)
  have hown : s.vm.findClass RX4 = some m.cls := findClass_of_methodNamed B.named
  have hlocks := B.notSynchronized
  have hK := hE.1
  have hD := hD0.self (sz := s.heap.size)
  generalize hAe : va_A (WM ca ad lq mcode mday mown mquot mprom mfiles mowner mlinks mblocks mvals msnaps mranks mkept mshot mwas mholds mheld mends mopen mentr mkinds misop mfilesT mentrT mpromT mlinksT mblocksT mvalsT ++ R) s.heap.size = A at hD ⊢
  have hA : ∀ q : Nat, s.heap.size ≤ q → A q := fun q h => by rw [← hAe]; exact Or.inr h
  have hS : va_S A s.heap s.heap [] := va_S.rf
  have hl := lv_entry ([.ref (ad 0), .int p1]) (n := 2) (Nat.le_of_ble_eq_true rfl)
  rw [lg_entry_eq]
  generalize (lg_sl ([.ref (ad 0), .int p1]) ++ List.replicate (2 - (lg_sl ([.ref (ad 0), .int p1])).length) Slot.unset).toArray = ls at hl ⊢
  have hl : lv_has ls 2 [(0, .ref (ad 0)), (1, .int p1)] := hl
  change W p l e ({ frames := 2, cells := 0, slots := 0, locals := 43 } : Room) s m _ below meth c s.heap [] 0 0 _ _
  generalize hQm : MQ below (QI ro D (WM ca ad lq omcode mday mown mquot mprom mfiles mowner omlinks mblocks mvals msnaps mranks mkept mshot mwas mholds mheld mends mopen omentr omkinds misop mfilesT mentrT mpromT mlinksT mblocksT mvalsT ++ R) (WM ca ad lq mcode mday mown mquot mprom mfiles mowner mlinks mblocks mvals msnaps mranks mkept mshot mwas mholds mheld mends mopen mentr mkinds misop mfilesT mentrT mpromT mlinksT mblocksT mvalsT ++ R) s.heap.size) _ s 0 0 A = Qm
  have hP : va_P D vwCl (WM ca ad lq mcode mday mown mquot mprom mfiles mowner mlinks mblocks mvals msnaps mranks mkept mshot mwas mholds mheld mends mopen mentr mkinds misop mfilesT mentrT mpromT mlinksT mblocksT mvalsT ++ R) s.heap := hP
  generalize hae : ([.ref (ad 0), .int p1] : List Value).toArray = args at hts hQm ⊢
  refine lv_aload_n hx hb dX4_link_0 rfl (lv_at hl 0 rfl) ?_
  refine lv_iconst (v := 0) hx hb dX4_link_1 (by decide) ?_
  refine va_put (D := D) (ci := 8) (v := .int 0) (ty := .int) (C := RX4) (T := TX4) (N := 29) hx hb hts inX4 tyX4 tyX4_ok nmX4 hown hK hP hD hS 0 rfl rfl 0 (by decide) (hts _ q1329) (fun _ h9 => h9) rfl (by decide +kernel) rfl rfl (Nat.le_of_ble_eq_true rfl) dX4_link_2 (fun H locs hP hD hS => ?_)
  have hP : va_P D vwCl (WM ca ad lq 0 mday mown mquot mprom mfiles mowner mlinks mblocks mvals msnaps mranks mkept mshot mwas mholds mheld mends mopen mentr mkinds misop mfilesT mentrT mpromT mlinksT mblocksT mvalsT ++ R) H := hP
  have hD : va_D A (WM ca ad lq 0 mday mown mquot mprom mfiles mowner mlinks mblocks mvals msnaps mranks mkept mshot mwas mholds mheld mends mopen mentr mkinds misop mfilesT mentrT mpromT mlinksT mblocksT mvalsT ++ R) := hD
  refine lv_aload_n hx hb dX4_link_5 rfl (lv_at hl 0 rfl) ?_
  refine lv_iload_n hx hb dX4_link_6 rfl (lv_at hl 1 rfl) ?_
  obtain ⟨r1, h2, hf⟩ := bnd hf
  refine call_vi (rest := []) (m_M_isFile l ca ad lq 0 mday mown mquot mprom mfiles mowner mlinks mblocks mvals msnaps mranks mkept mshot mwas mholds mheld mends mopen mentr mkinds misop mfilesT mentrT mpromT mlinksT mblocksT mvalsT R _ p1 r1 h2) ⟨hx, hb, hml, hown, hts⟩ (cwV 1 hts (gV q1452 q1454 q26 q50 q1455) rfl rfl rfl (by decide +kernel) ⟨Nat.le_of_ble_eq_true rfl, Nat.le_of_ble_eq_true rfl⟩) (va_recv hK hP (ci := 8) (q0 := 0) rfl rfl) hE hP hD hS hA rfl hl.1 rfl (lv_room (Nat.le_of_ble_eq_true rfl)) dX4_link_7 ⟨Nat.le_of_ble_eq_true rfl, Nat.le_of_ble_eq_true rfl⟩ (fun H locs hP hD hS => ?_)
  refine lv_if_ne (tgt := 19) hx hb dX4_link_10 (by decide) (fun c3 => ?_) (fun c3 => ?_)
  · have hf := br_neg c3 hf
    refine lv_aload_n hx hb dX4_link_19 rfl (lv_at hl 0 rfl) ?_
    refine va_get (D := D) (ci := 8) (v := .ref (ad 4)) (C := RX4) (T := TX4) (N := 29) hx hb hts inX4 hown hK hP 0 rfl rfl 7 (by decide) (hts _ q1336) (fun _ h9 => h9) rfl dX4_link_20 ?_
    refine lv_iload_n hx hb dX4_link_23 rfl (lv_at hl 1 rfl) ?_
    obtain ⟨k4, hf⟩ := ck_not hf
    refine va_iald (D := D) hx hb hK hP 4 0 rfl rfl k4 dX4_link_24 ?_
    refine lv_if_eq (tgt := 39) hx hb dX4_link_25 (by decide) (fun c5 => ?_) (fun c5 => ?_)
    · have hf := br_pos c5 hf
      refine lv_aload_n hx hb dX4_link_39 rfl (lv_at hl 0 rfl) ?_
      refine lv_iconst (v := 2) hx hb dX4_link_40 (by decide) ?_
      obtain ⟨⟨r6, mcode_7⟩, h8, hf⟩ := bnd hf
      refine call_vi (rest := []) (m_M_fails l ca ad lq 0 mday mown mquot mprom mfiles mowner mlinks mblocks mvals msnaps mranks mkept mshot mwas mholds mheld mends mopen mentr mkinds misop mfilesT mentrT mpromT mlinksT mblocksT mvalsT R _ 2 r6 mcode_7 h8) ⟨hx, hb, hml, hown, hts⟩ (cwV 1 hts (gV q1428 q1430 q23 q50 q1431) rfl rfl rfl (by decide +kernel) ⟨Nat.le_of_ble_eq_true rfl, Nat.le_of_ble_eq_true rfl⟩) (va_recv hK hP (ci := 8) (q0 := 0) rfl rfl) hE hP hD hS hA rfl hl.1 rfl (lv_room (Nat.le_of_ble_eq_true rfl)) dX4_link_41 ⟨Nat.le_of_ble_eq_true rfl, Nat.le_of_ble_eq_true rfl⟩ (fun H locs hP hD hS => ?_)
      cases hf
      exact end_i hAe hQm hx hb hr hlocks rfl hP hD hS dX4_link_44
    · have hf := br_neg c5 hf
      refine lv_aload_n hx hb dX4_link_28 rfl (lv_at hl 0 rfl) ?_
      refine va_get (D := D) (ci := 8) (v := .ref (ad 4)) (C := RX4) (T := TX4) (N := 29) hx hb hts inX4 hown hK hP 0 rfl rfl 7 (by decide) (hts _ q1336) (fun _ h9 => h9) rfl dX4_link_29 ?_
      refine lv_iload_n hx hb dX4_link_32 rfl (lv_at hl 1 rfl) ?_
      obtain ⟨k9, hf⟩ := ck_not hf
      refine va_iald (D := D) hx hb hK hP 4 0 rfl rfl k9 dX4_link_33 ?_
      refine lv_bipush (v := 9) hx hb dX4_link_34 (by decide) ?_
      refine lv_icmp_ne (tgt := 45) hx hb dX4_link_36 (by decide) (fun c10 => ?_) (fun c10 => ?_)
      · have hf := br_neg c10 hf
        refine lv_aload_n hx hb dX4_link_45 rfl (lv_at hl 0 rfl) ?_
        refine va_get (D := D) (ci := 8) (v := .ref (ad 4)) (C := RX4) (T := TX4) (N := 29) hx hb hts inX4 hown hK hP 0 rfl rfl 7 (by decide) (hts _ q1336) (fun _ h9 => h9) rfl dX4_link_46 ?_
        refine lv_iload_n hx hb dX4_link_49 rfl (lv_at hl 1 rfl) ?_
        refine lv_dup2_11 hx hb dX4_link_50 rfl rfl ?_
        obtain ⟨k11, hf⟩ := ck_not hf
        refine va_iald (D := D) hx hb hK hP 4 0 rfl rfl k11 dX4_link_51 ?_
        refine lv_iconst (v := 1) hx hb dX4_link_52 (by decide) ?_
        refine lv_iadd hx hb dX4_link_53 ?_
        obtain ⟨k12, hf⟩ := ck_not hf
        refine va_iast (D := D) hx hb hK hP hD hS 4 0 rfl rfl k12 dX4_link_54 (fun H locs hP hD hS => ?_)
        have hP : va_P D vwCl (WM ca ad lq 0 mday mown mquot mprom mfiles mowner (upd mlinks p1.toNatClampNeg ((mlinks p1.toNatClampNeg) + 1)) mblocks mvals msnaps mranks mkept mshot mwas mholds mheld mends mopen mentr mkinds misop mfilesT mentrT mpromT mlinksT mblocksT mvalsT ++ R) H := hP
        have hD : va_D A (WM ca ad lq 0 mday mown mquot mprom mfiles mowner (upd mlinks p1.toNatClampNeg ((mlinks p1.toNatClampNeg) + 1)) mblocks mvals msnaps mranks mkept mshot mwas mholds mheld mends mopen mentr mkinds misop mfilesT mentrT mpromT mlinksT mblocksT mvalsT ++ R) := hD
        refine lv_aload_n hx hb dX4_link_55 rfl (lv_at hl 0 rfl) ?_
        refine lv_bipush (v := 108) hx hb dX4_link_56 (by decide) ?_
        obtain ⟨⟨mentr_13, mkinds_14⟩, h15, hf⟩ := bnd hf
        refine call_vv (rest := []) (m_M_enters l ca ad lq 0 mday mown mquot mprom mfiles mowner (upd mlinks p1.toNatClampNeg ((mlinks p1.toNatClampNeg) + 1)) mblocks mvals msnaps mranks mkept mshot mwas mholds mheld mends mopen mentr mkinds misop mfilesT mentrT mpromT mlinksT mblocksT mvalsT R _ 108 mentr_13 mkinds_14 h15) ⟨hx, hb, hml, hown, hts⟩ (cwV 1 hts (gV q1440 q1442 q25 q50 q1443) rfl rfl rfl (by decide +kernel) ⟨Nat.le_of_ble_eq_true rfl, Nat.le_of_ble_eq_true rfl⟩) (va_recv hK hP (ci := 8) (q0 := 0) rfl rfl) hE hP hD hS hA rfl hl.1 rfl (lv_room (Nat.le_of_ble_eq_true rfl)) dX4_link_58 ⟨Nat.le_of_ble_eq_true rfl, Nat.le_of_ble_eq_true rfl⟩ (fun H locs hP hD hS => ?_)
        refine lv_aload_n hx hb dX4_link_61 rfl (lv_at hl 0 rfl) ?_
        refine va_get (D := D) (ci := 8) (v := .ref (ad 4)) (C := RX4) (T := TX4) (N := 29) hx hb hts inX4 hown hK hP 0 rfl rfl 7 (by decide) (hts _ q1336) (fun _ h9 => h9) rfl dX4_link_62 ?_
        refine lv_iload_n hx hb dX4_link_65 rfl (lv_at hl 1 rfl) ?_
        obtain ⟨k16, hf⟩ := ck_not hf
        refine va_iald (D := D) hx hb hK hP 4 0 rfl rfl k16 dX4_link_66 ?_
        cases hf
        exact end_i hAe hQm hx hb hr hlocks rfl hP hD hS dX4_link_67
      · have hf := br_pos c10 hf
        refine lv_aload_n hx hb dX4_link_39 rfl (lv_at hl 0 rfl) ?_
        refine lv_iconst (v := 2) hx hb dX4_link_40 (by decide) ?_
        obtain ⟨⟨r17, mcode_18⟩, h19, hf⟩ := bnd hf
        refine call_vi (rest := []) (m_M_fails l ca ad lq 0 mday mown mquot mprom mfiles mowner mlinks mblocks mvals msnaps mranks mkept mshot mwas mholds mheld mends mopen mentr mkinds misop mfilesT mentrT mpromT mlinksT mblocksT mvalsT R _ 2 r17 mcode_18 h19) ⟨hx, hb, hml, hown, hts⟩ (cwV 1 hts (gV q1428 q1430 q23 q50 q1431) rfl rfl rfl (by decide +kernel) ⟨Nat.le_of_ble_eq_true rfl, Nat.le_of_ble_eq_true rfl⟩) (va_recv hK hP (ci := 8) (q0 := 0) rfl rfl) hE hP hD hS hA rfl hl.1 rfl (lv_room (Nat.le_of_ble_eq_true rfl)) dX4_link_41 ⟨Nat.le_of_ble_eq_true rfl, Nat.le_of_ble_eq_true rfl⟩ (fun H locs hP hD hS => ?_)
        cases hf
        exact end_i hAe hQm hx hb hr hlocks rfl hP hD hS dX4_link_44
  · have hf := br_pos c3 hf
    refine lv_aload_n hx hb dX4_link_13 rfl (lv_at hl 0 rfl) ?_
    refine lv_iconst (v := 1) hx hb dX4_link_14 (by decide) ?_
    obtain ⟨⟨r20, mcode_21⟩, h22, hf⟩ := bnd hf
    refine call_vi (rest := []) (m_M_fails l ca ad lq 0 mday mown mquot mprom mfiles mowner mlinks mblocks mvals msnaps mranks mkept mshot mwas mholds mheld mends mopen mentr mkinds misop mfilesT mentrT mpromT mlinksT mblocksT mvalsT R _ 1 r20 mcode_21 h22) ⟨hx, hb, hml, hown, hts⟩ (cwV 1 hts (gV q1428 q1430 q23 q50 q1431) rfl rfl rfl (by decide +kernel) ⟨Nat.le_of_ble_eq_true rfl, Nat.le_of_ble_eq_true rfl⟩) (va_recv hK hP (ci := 8) (q0 := 0) rfl rfl) hE hP hD hS hA rfl hl.1 rfl (lv_room (Nat.le_of_ble_eq_true rfl)) dX4_link_15 ⟨Nat.le_of_ble_eq_true rfl, Nat.le_of_ble_eq_true rfl⟩ (fun H locs hP hD hS => ?_)
    cases hf
    exact end_i hAe hQm hx hb hr hlocks rfl hP hD hS dX4_link_18
def f_M_unlink (p1 : Int32) (mfiles : Int32) (mlinks : Nat → Int32) (mblocks : Nat → Int32) (mholds : Int32) (mheld : Nat → Int32) (mopen : Nat → Int32) (mentr : Int32) (mkinds : Nat → Int32) : Option (Int32 × Int32 × (Nat → Int32) × (Nat → Int32) × Int32 × (Nat → Int32)) :=
  (f_M_isFile p1 mfiles).bind fun r1 =>
  if r1 = 0 then
    (f_M_fails 1).bind fun (r18, mcode_19) =>
    some (r18, mcode_19, mlinks, mblocks, mentr, mkinds)
  else
    if p1 < 0 ∨ 40 ≤ p1.toNatClampNeg then none else
      if (mlinks p1.toNatClampNeg) = 0 then
      (f_M_fails 2).bind fun (r15, mcode_16) =>
      some (r15, mcode_16, mlinks, mblocks, mentr, mkinds)
    else
      if p1 < 0 ∨ 40 ≤ p1.toNatClampNeg then none else
        if p1 < 0 ∨ 40 ≤ p1.toNatClampNeg then none else
        (f_M_enters 117 mentr mkinds).bind fun (mentr_8, mkinds_9) =>
      (f_M_goes p1 (upd mlinks p1.toNatClampNeg ((mlinks p1.toNatClampNeg) - 1)) mblocks mholds mheld mopen).bind fun (r11, mblocks_12) =>
      if p1 < 0 ∨ 40 ≤ p1.toNatClampNeg then none else
        some (((upd mlinks p1.toNatClampNeg ((mlinks p1.toNatClampNeg) - 1)) p1.toNatClampNeg), 0, (upd mlinks p1.toNatClampNeg ((mlinks p1.toNatClampNeg) - 1)), mblocks_12, mentr_8, mkinds_9)
set_option maxHeartbeats 4000000 in
set_option maxRecDepth 100000 in
theorem m_M_unlink (l : Launch) {D : va_G} {sl : List (String × Nat × String)} (ca : Nat → ClassId) (ad : Nat → Nat) (lq : Nat) (mcode : Int32) (mday : Int32) (mown : Int32) (mquot : Nat → Int32) (mprom : Nat → Int32) (mfiles : Int32) (mowner : Nat → Int32) (mlinks : Nat → Int32) (mblocks : Nat → Int32) (mvals : Nat → Int32) (msnaps : Int32) (mranks : Nat → Int32) (mkept : Nat → Int32) (mshot : Nat → Int32) (mwas : Nat → Int32) (mholds : Int32) (mheld : Nat → Int32) (mends : Nat → Int32) (mopen : Nat → Int32) (mentr : Int32) (mkinds : Nat → Int32) (misop : Int32) (mfilesT : Int32) (mentrT : Int32) (mpromT : Nat → Int32) (mlinksT : Nat → Int32) (mblocksT : Nat → Int32) (mvalsT : Nat → Int32) (R : va_W) (sz : Nat) (p1 : Int32) (ro : Int32) (omcode : Int32) (omlinks : Nat → Int32) (omblocks : Nat → Int32) (omentr : Int32) (omkinds : Nat → Int32) (hf : f_M_unlink p1 mfiles mlinks mblocks mholds mheld mopen mentr mkinds = some (ro, omcode, omlinks, omblocks, omentr, omkinds)) : Met l yX4_unlink (wm yX4_unlink cX4_unlink 3 (some .int)) ({ frames := 3, cells := 0, slots := 0, locals := 66 } : Room) (PRE [.ref (ad 0), .int p1] D ca sl (WM ca ad lq mcode mday mown mquot mprom mfiles mowner mlinks mblocks mvals msnaps mranks mkept mshot mwas mholds mheld mends mopen mentr mkinds misop mfilesT mentrT mpromT mlinksT mblocksT mvalsT ++ R) sz) (QI ro D (WM ca ad lq omcode mday mown mquot mprom mfiles mowner omlinks omblocks mvals msnaps mranks mkept mshot mwas mholds mheld mends mopen omentr omkinds misop mfilesT mentrT mpromT mlinksT mblocksT mvalsT ++ R) (WM ca ad lq mcode mday mown mquot mprom mfiles mowner mlinks mblocks mvals msnaps mranks mkept mshot mwas mholds mheld mends mopen mentr mkinds misop mfilesT mentrT mpromT mlinksT mblocksT mvalsT ++ R) sz) 0 0 (va_A (WM ca ad lq mcode mday mown mquot mprom mfiles mowner mlinks mblocks mvals msnaps mranks mkept mshot mwas mholds mheld mends mopen mentr mkinds misop mfilesT mentrT mpromT mlinksT mblocksT mvalsT ++ R) sz) := by
  refine Met.ofW (cc := cX4_unlink) (maxL := 3) (ret := (some .int)) (by decide) rfl ?_
  intro p e s m args below meth c s₁ B hml hv
  obtain ⟨rfl, rfl, hP, hE, hD0⟩ := hv
  have hx := B.exec
  have hb := B.bytes
  have hr := B.returns
  have hts := wm_ww (atoms_spec (ws := wm yX4_unlink cX4_unlink 3 (some .int)) B.pre)
  have hown : s.vm.findClass RX4 = some m.cls := findClass_of_methodNamed B.named
  have hlocks := B.notSynchronized
  have hK := hE.1
  have hD := hD0.self (sz := s.heap.size)
  generalize hAe : va_A (WM ca ad lq mcode mday mown mquot mprom mfiles mowner mlinks mblocks mvals msnaps mranks mkept mshot mwas mholds mheld mends mopen mentr mkinds misop mfilesT mentrT mpromT mlinksT mblocksT mvalsT ++ R) s.heap.size = A at hD ⊢
  have hA : ∀ q : Nat, s.heap.size ≤ q → A q := fun q h => by rw [← hAe]; exact Or.inr h
  have hS : va_S A s.heap s.heap [] := va_S.rf
  have hl := lv_entry ([.ref (ad 0), .int p1]) (n := 3) (Nat.le_of_ble_eq_true rfl)
  rw [lg_entry_eq]
  generalize (lg_sl ([.ref (ad 0), .int p1]) ++ List.replicate (3 - (lg_sl ([.ref (ad 0), .int p1])).length) Slot.unset).toArray = ls at hl ⊢
  have hl : lv_has ls 3 [(0, .ref (ad 0)), (1, .int p1)] := hl
  change W p l e ({ frames := 3, cells := 0, slots := 0, locals := 66 } : Room) s m _ below meth c s.heap [] 0 0 _ _
  generalize hQm : MQ below (QI ro D (WM ca ad lq omcode mday mown mquot mprom mfiles mowner omlinks omblocks mvals msnaps mranks mkept mshot mwas mholds mheld mends mopen omentr omkinds misop mfilesT mentrT mpromT mlinksT mblocksT mvalsT ++ R) (WM ca ad lq mcode mday mown mquot mprom mfiles mowner mlinks mblocks mvals msnaps mranks mkept mshot mwas mholds mheld mends mopen mentr mkinds misop mfilesT mentrT mpromT mlinksT mblocksT mvalsT ++ R) s.heap.size) _ s 0 0 A = Qm
  have hP : va_P D vwCl (WM ca ad lq mcode mday mown mquot mprom mfiles mowner mlinks mblocks mvals msnaps mranks mkept mshot mwas mholds mheld mends mopen mentr mkinds misop mfilesT mentrT mpromT mlinksT mblocksT mvalsT ++ R) s.heap := hP
  generalize hae : ([.ref (ad 0), .int p1] : List Value).toArray = args at hts hQm ⊢
  refine lv_aload_n hx hb dX4_unlink_0 rfl (lv_at hl 0 rfl) ?_
  refine lv_iconst (v := 0) hx hb dX4_unlink_1 (by decide) ?_
  refine va_put (D := D) (ci := 8) (v := .int 0) (ty := .int) (C := RX4) (T := TX4) (N := 29) hx hb hts inX4 tyX4 tyX4_ok nmX4 hown hK hP hD hS 0 rfl rfl 0 (by decide) (hts _ q1329) (fun _ h9 => h9) rfl (by decide +kernel) rfl rfl (Nat.le_of_ble_eq_true rfl) dX4_unlink_2 (fun H locs hP hD hS => ?_)
  have hP : va_P D vwCl (WM ca ad lq 0 mday mown mquot mprom mfiles mowner mlinks mblocks mvals msnaps mranks mkept mshot mwas mholds mheld mends mopen mentr mkinds misop mfilesT mentrT mpromT mlinksT mblocksT mvalsT ++ R) H := hP
  have hD : va_D A (WM ca ad lq 0 mday mown mquot mprom mfiles mowner mlinks mblocks mvals msnaps mranks mkept mshot mwas mholds mheld mends mopen mentr mkinds misop mfilesT mentrT mpromT mlinksT mblocksT mvalsT ++ R) := hD
  refine lv_aload_n hx hb dX4_unlink_5 rfl (lv_at hl 0 rfl) ?_
  refine lv_iload_n hx hb dX4_unlink_6 rfl (lv_at hl 1 rfl) ?_
  obtain ⟨r1, h2, hf⟩ := bnd hf
  refine call_vi (rest := []) (m_M_isFile l ca ad lq 0 mday mown mquot mprom mfiles mowner mlinks mblocks mvals msnaps mranks mkept mshot mwas mholds mheld mends mopen mentr mkinds misop mfilesT mentrT mpromT mlinksT mblocksT mvalsT R _ p1 r1 h2) ⟨hx, hb, hml, hown, hts⟩ (cwV 1 hts (gV q1452 q1454 q26 q50 q1455) rfl rfl rfl (by decide +kernel) ⟨Nat.le_of_ble_eq_true rfl, Nat.le_of_ble_eq_true rfl⟩) (va_recv hK hP (ci := 8) (q0 := 0) rfl rfl) hE hP hD hS hA rfl hl.1 rfl (lv_room (Nat.le_of_ble_eq_true rfl)) dX4_unlink_7 ⟨Nat.le_of_ble_eq_true rfl, Nat.le_of_ble_eq_true rfl⟩ (fun H locs hP hD hS => ?_)
  refine lv_if_ne (tgt := 19) hx hb dX4_unlink_10 (by decide) (fun c3 => ?_) (fun c3 => ?_)
  · have hf := br_neg c3 hf
    refine lv_aload_n hx hb dX4_unlink_19 rfl (lv_at hl 0 rfl) ?_
    refine va_get (D := D) (ci := 8) (v := .ref (ad 4)) (C := RX4) (T := TX4) (N := 29) hx hb hts inX4 hown hK hP 0 rfl rfl 7 (by decide) (hts _ q1336) (fun _ h9 => h9) rfl dX4_unlink_20 ?_
    refine lv_iload_n hx hb dX4_unlink_23 rfl (lv_at hl 1 rfl) ?_
    obtain ⟨k4, hf⟩ := ck_not hf
    refine va_iald (D := D) hx hb hK hP 4 0 rfl rfl k4 dX4_unlink_24 ?_
    refine lv_if_ne (tgt := 34) hx hb dX4_unlink_25 (by decide) (fun c5 => ?_) (fun c5 => ?_)
    · have hf := br_neg c5 hf
      refine lv_aload_n hx hb dX4_unlink_34 rfl (lv_at hl 0 rfl) ?_
      refine va_get (D := D) (ci := 8) (v := .ref (ad 4)) (C := RX4) (T := TX4) (N := 29) hx hb hts inX4 hown hK hP 0 rfl rfl 7 (by decide) (hts _ q1336) (fun _ h9 => h9) rfl dX4_unlink_35 ?_
      refine lv_iload_n hx hb dX4_unlink_38 rfl (lv_at hl 1 rfl) ?_
      refine lv_dup2_11 hx hb dX4_unlink_39 rfl rfl ?_
      obtain ⟨k6, hf⟩ := ck_not hf
      refine va_iald (D := D) hx hb hK hP 4 0 rfl rfl k6 dX4_unlink_40 ?_
      refine lv_iconst (v := 1) hx hb dX4_unlink_41 (by decide) ?_
      refine lv_isub hx hb dX4_unlink_42 ?_
      obtain ⟨k7, hf⟩ := ck_not hf
      refine va_iast (D := D) hx hb hK hP hD hS 4 0 rfl rfl k7 dX4_unlink_43 (fun H locs hP hD hS => ?_)
      have hP : va_P D vwCl (WM ca ad lq 0 mday mown mquot mprom mfiles mowner (upd mlinks p1.toNatClampNeg ((mlinks p1.toNatClampNeg) - 1)) mblocks mvals msnaps mranks mkept mshot mwas mholds mheld mends mopen mentr mkinds misop mfilesT mentrT mpromT mlinksT mblocksT mvalsT ++ R) H := hP
      have hD : va_D A (WM ca ad lq 0 mday mown mquot mprom mfiles mowner (upd mlinks p1.toNatClampNeg ((mlinks p1.toNatClampNeg) - 1)) mblocks mvals msnaps mranks mkept mshot mwas mholds mheld mends mopen mentr mkinds misop mfilesT mentrT mpromT mlinksT mblocksT mvalsT ++ R) := hD
      refine lv_aload_n hx hb dX4_unlink_44 rfl (lv_at hl 0 rfl) ?_
      refine lv_bipush (v := 117) hx hb dX4_unlink_45 (by decide) ?_
      obtain ⟨⟨mentr_8, mkinds_9⟩, h10, hf⟩ := bnd hf
      refine call_vv (rest := []) (m_M_enters l ca ad lq 0 mday mown mquot mprom mfiles mowner (upd mlinks p1.toNatClampNeg ((mlinks p1.toNatClampNeg) - 1)) mblocks mvals msnaps mranks mkept mshot mwas mholds mheld mends mopen mentr mkinds misop mfilesT mentrT mpromT mlinksT mblocksT mvalsT R _ 117 mentr_8 mkinds_9 h10) ⟨hx, hb, hml, hown, hts⟩ (cwV 1 hts (gV q1440 q1442 q25 q50 q1443) rfl rfl rfl (by decide +kernel) ⟨Nat.le_of_ble_eq_true rfl, Nat.le_of_ble_eq_true rfl⟩) (va_recv hK hP (ci := 8) (q0 := 0) rfl rfl) hE hP hD hS hA rfl hl.1 rfl (lv_room (Nat.le_of_ble_eq_true rfl)) dX4_unlink_47 ⟨Nat.le_of_ble_eq_true rfl, Nat.le_of_ble_eq_true rfl⟩ (fun H locs hP hD hS => ?_)
      refine lv_aload_n hx hb dX4_unlink_50 rfl (lv_at hl 0 rfl) ?_
      refine lv_iload_n hx hb dX4_unlink_51 rfl (lv_at hl 1 rfl) ?_
      obtain ⟨⟨r11, mblocks_12⟩, h13, hf⟩ := bnd hf
      refine call_vi (rest := []) (m_M_goes l ca ad lq 0 mday mown mquot mprom mfiles mowner (upd mlinks p1.toNatClampNeg ((mlinks p1.toNatClampNeg) - 1)) mblocks mvals msnaps mranks mkept mshot mwas mholds mheld mends mopen mentr_8 mkinds_9 misop mfilesT mentrT mpromT mlinksT mblocksT mvalsT R _ p1 r11 mblocks_12 h13) ⟨hx, hb, hml, hown, hts⟩ (cwV 1 hts (gV q1476 q1478 q29 q50 q1479) rfl rfl rfl (by decide +kernel) ⟨Nat.le_of_ble_eq_true rfl, Nat.le_of_ble_eq_true rfl⟩) (va_recv hK hP (ci := 8) (q0 := 0) rfl rfl) hE hP hD hS hA rfl hl.1 rfl (lv_room (Nat.le_of_ble_eq_true rfl)) dX4_unlink_52 ⟨Nat.le_of_ble_eq_true rfl, Nat.le_of_ble_eq_true rfl⟩ (fun H locs hP hD hS => ?_)
      refine lv_istore_n (lv' := [(2, .int r11), (0, .ref (ad 0)), (1, .int p1)]) hx hb dX4_unlink_55 rfl hl (by decide) rfl (fun ls hl => ?_)
      refine lv_aload_n hx hb dX4_unlink_56 rfl (lv_at hl 1 rfl) ?_
      refine va_get (D := D) (ci := 8) (v := .ref (ad 4)) (C := RX4) (T := TX4) (N := 29) hx hb hts inX4 hown hK hP 0 rfl rfl 7 (by decide) (hts _ q1336) (fun _ h9 => h9) rfl dX4_unlink_57 ?_
      refine lv_iload_n hx hb dX4_unlink_60 rfl (lv_at hl 2 rfl) ?_
      obtain ⟨k14, hf⟩ := ck_not hf
      refine va_iald (D := D) hx hb hK hP 4 0 rfl rfl k14 dX4_unlink_61 ?_
      cases hf
      exact end_i hAe hQm hx hb hr hlocks rfl hP hD hS dX4_unlink_62
    · have hf := br_pos c5 hf
      refine lv_aload_n hx hb dX4_unlink_28 rfl (lv_at hl 0 rfl) ?_
      refine lv_iconst (v := 2) hx hb dX4_unlink_29 (by decide) ?_
      obtain ⟨⟨r15, mcode_16⟩, h17, hf⟩ := bnd hf
      refine call_vi (rest := []) (m_M_fails l ca ad lq 0 mday mown mquot mprom mfiles mowner mlinks mblocks mvals msnaps mranks mkept mshot mwas mholds mheld mends mopen mentr mkinds misop mfilesT mentrT mpromT mlinksT mblocksT mvalsT R _ 2 r15 mcode_16 h17) ⟨hx, hb, hml, hown, hts⟩ (cwV 1 hts (gV q1428 q1430 q23 q50 q1431) rfl rfl rfl (by decide +kernel) ⟨Nat.le_of_ble_eq_true rfl, Nat.le_of_ble_eq_true rfl⟩) (va_recv hK hP (ci := 8) (q0 := 0) rfl rfl) hE hP hD hS hA rfl hl.1 rfl (lv_room (Nat.le_of_ble_eq_true rfl)) dX4_unlink_30 ⟨Nat.le_of_ble_eq_true rfl, Nat.le_of_ble_eq_true rfl⟩ (fun H locs hP hD hS => ?_)
      cases hf
      exact end_i hAe hQm hx hb hr hlocks rfl hP hD hS dX4_unlink_33
  · have hf := br_pos c3 hf
    refine lv_aload_n hx hb dX4_unlink_13 rfl (lv_at hl 0 rfl) ?_
    refine lv_iconst (v := 1) hx hb dX4_unlink_14 (by decide) ?_
    obtain ⟨⟨r18, mcode_19⟩, h20, hf⟩ := bnd hf
    refine call_vi (rest := []) (m_M_fails l ca ad lq 0 mday mown mquot mprom mfiles mowner mlinks mblocks mvals msnaps mranks mkept mshot mwas mholds mheld mends mopen mentr mkinds misop mfilesT mentrT mpromT mlinksT mblocksT mvalsT R _ 1 r18 mcode_19 h20) ⟨hx, hb, hml, hown, hts⟩ (cwV 1 hts (gV q1428 q1430 q23 q50 q1431) rfl rfl rfl (by decide +kernel) ⟨Nat.le_of_ble_eq_true rfl, Nat.le_of_ble_eq_true rfl⟩) (va_recv hK hP (ci := 8) (q0 := 0) rfl rfl) hE hP hD hS hA rfl hl.1 rfl (lv_room (Nat.le_of_ble_eq_true rfl)) dX4_unlink_15 ⟨Nat.le_of_ble_eq_true rfl, Nat.le_of_ble_eq_true rfl⟩ (fun H locs hP hD hS => ?_)
    cases hf
    exact end_i hAe hQm hx hb hr hlocks rfl hP hD hS dX4_unlink_18
def f_M_lowestFree_L2 : Nat → Int32 → (Nat → Int32) → Int32 → (Nat → Int32) → (Nat → Int32) → Option (Int32)
  | 0, _, _, _, _, _ => none
  | fuel + 1, v1, mblocks, msnaps, mkept, mshot =>
    if 64 ≤ v1 then
      some v1
    else
      (f_M_users v1 mblocks msnaps mkept mshot).bind fun r6 =>
      if r6 ≤ 0 then
        some v1
      else
        f_M_lowestFree_L2 fuel (v1 + 1) mblocks msnaps mkept mshot
def f_M_lowestFree (mblocks : Nat → Int32) (msnaps : Int32) (mkept : Nat → Int32) (mshot : Nat → Int32) : Option (Int32) :=
  (f_M_lowestFree_L2 FU 0 mblocks msnaps mkept mshot).bind fun x10 =>
  some x10
set_option maxHeartbeats 4000000 in
set_option maxRecDepth 100000 in
theorem m_M_lowestFree (l : Launch) {D : va_G} {sl : List (String × Nat × String)} (ca : Nat → ClassId) (ad : Nat → Nat) (lq : Nat) (mcode : Int32) (mday : Int32) (mown : Int32) (mquot : Nat → Int32) (mprom : Nat → Int32) (mfiles : Int32) (mowner : Nat → Int32) (mlinks : Nat → Int32) (mblocks : Nat → Int32) (mvals : Nat → Int32) (msnaps : Int32) (mranks : Nat → Int32) (mkept : Nat → Int32) (mshot : Nat → Int32) (mwas : Nat → Int32) (mholds : Int32) (mheld : Nat → Int32) (mends : Nat → Int32) (mopen : Nat → Int32) (mentr : Int32) (mkinds : Nat → Int32) (misop : Int32) (mfilesT : Int32) (mentrT : Int32) (mpromT : Nat → Int32) (mlinksT : Nat → Int32) (mblocksT : Nat → Int32) (mvalsT : Nat → Int32) (R : va_W) (sz : Nat) (ro : Int32) (hf : f_M_lowestFree mblocks msnaps mkept mshot = some ro) : Met l yX4_lowestFree (wm yX4_lowestFree cX4_lowestFree 2 (some .int)) ({ frames := 1, cells := 0, slots := 0, locals := 24 } : Room) (PRE [.ref (ad 0)] D ca sl (WM ca ad lq mcode mday mown mquot mprom mfiles mowner mlinks mblocks mvals msnaps mranks mkept mshot mwas mholds mheld mends mopen mentr mkinds misop mfilesT mentrT mpromT mlinksT mblocksT mvalsT ++ R) sz) (QI ro D (WM ca ad lq mcode mday mown mquot mprom mfiles mowner mlinks mblocks mvals msnaps mranks mkept mshot mwas mholds mheld mends mopen mentr mkinds misop mfilesT mentrT mpromT mlinksT mblocksT mvalsT ++ R) (WM ca ad lq mcode mday mown mquot mprom mfiles mowner mlinks mblocks mvals msnaps mranks mkept mshot mwas mholds mheld mends mopen mentr mkinds misop mfilesT mentrT mpromT mlinksT mblocksT mvalsT ++ R) sz) 0 0 (va_A (WM ca ad lq mcode mday mown mquot mprom mfiles mowner mlinks mblocks mvals msnaps mranks mkept mshot mwas mholds mheld mends mopen mentr mkinds misop mfilesT mentrT mpromT mlinksT mblocksT mvalsT ++ R) sz) := by
  refine Met.ofW (cc := cX4_lowestFree) (maxL := 2) (ret := (some .int)) (by decide) rfl ?_
  intro p e s m args below meth c s₁ B hml hv
  obtain ⟨rfl, rfl, hP, hE, hD0⟩ := hv
  have hx := B.exec
  have hb := B.bytes
  have hr := B.returns
  have hts := wm_ww (atoms_spec (ws := wm yX4_lowestFree cX4_lowestFree 2 (some .int)) B.pre)
  have hown : s.vm.findClass RX4 = some m.cls := findClass_of_methodNamed B.named
  have hlocks := B.notSynchronized
  have hK := hE.1
  have hD := hD0.self (sz := s.heap.size)
  generalize hAe : va_A (WM ca ad lq mcode mday mown mquot mprom mfiles mowner mlinks mblocks mvals msnaps mranks mkept mshot mwas mholds mheld mends mopen mentr mkinds misop mfilesT mentrT mpromT mlinksT mblocksT mvalsT ++ R) s.heap.size = A at hD ⊢
  have hA : ∀ q : Nat, s.heap.size ≤ q → A q := fun q h => by rw [← hAe]; exact Or.inr h
  have hS : va_S A s.heap s.heap [] := va_S.rf
  have hl := lv_entry ([.ref (ad 0)]) (n := 2) (Nat.le_of_ble_eq_true rfl)
  rw [lg_entry_eq]
  generalize (lg_sl ([.ref (ad 0)]) ++ List.replicate (2 - (lg_sl ([.ref (ad 0)])).length) Slot.unset).toArray = ls at hl ⊢
  have hl : lv_has ls 2 [(0, .ref (ad 0))] := hl
  change W p l e ({ frames := 1, cells := 0, slots := 0, locals := 24 } : Room) s m _ below meth c s.heap [] 0 0 _ _
  generalize hQm : MQ below (QI ro D (WM ca ad lq mcode mday mown mquot mprom mfiles mowner mlinks mblocks mvals msnaps mranks mkept mshot mwas mholds mheld mends mopen mentr mkinds misop mfilesT mentrT mpromT mlinksT mblocksT mvalsT ++ R) (WM ca ad lq mcode mday mown mquot mprom mfiles mowner mlinks mblocks mvals msnaps mranks mkept mshot mwas mholds mheld mends mopen mentr mkinds misop mfilesT mentrT mpromT mlinksT mblocksT mvalsT ++ R) s.heap.size) _ s 0 0 A = Qm
  have hP : va_P D vwCl (WM ca ad lq mcode mday mown mquot mprom mfiles mowner mlinks mblocks mvals msnaps mranks mkept mshot mwas mholds mheld mends mopen mentr mkinds misop mfilesT mentrT mpromT mlinksT mblocksT mvalsT ++ R) s.heap := hP
  generalize hae : ([.ref (ad 0)] : List Value).toArray = args at hts hQm ⊢
  have L2 : ∀ (n : Nat) (v1 : Int32) (y1 : Int32), f_M_lowestFree_L2 n v1 mblocks msnaps mkept mshot = some y1 → ∀ (H : Heap) (locs : List Loc) (ls : Array Slot), va_P D vwCl (WM ca ad lq mcode mday mown mquot mprom mfiles mowner mlinks mblocks mvals msnaps mranks mkept mshot mwas mholds mheld mends mopen mentr mkinds misop mfilesT mentrT mpromT mlinksT mblocksT mvalsT ++ R) H → va_D A (WM ca ad lq mcode mday mown mquot mprom mfiles mowner mlinks mblocks mvals msnaps mranks mkept mshot mwas mholds mheld mends mopen mentr mkinds misop mfilesT mentrT mpromT mlinksT mblocksT mvalsT ++ R) → va_S A s.heap H locs → lv_has ls 2 [(0, .ref (ad 0)), (1, .int v1)] → (∀ (H : Heap) (locs : List Loc) (ls : Array Slot), va_P D vwCl (WM ca ad lq mcode mday mown mquot mprom mfiles mowner mlinks mblocks mvals msnaps mranks mkept mshot mwas mholds mheld mends mopen mentr mkinds misop mfilesT mentrT mpromT mlinksT mblocksT mvalsT ++ R) H → va_D A (WM ca ad lq mcode mday mown mquot mprom mfiles mowner mlinks mblocks mvals msnaps mranks mkept mshot mwas mholds mheld mends mopen mentr mkinds misop mfilesT mentrT mpromT mlinksT mblocksT mvalsT ++ R) → va_S A s.heap H locs → lv_has ls 2 [(1, .int y1)] → W p l e ({ frames := 1, cells := 0, slots := 0, locals := 24 } : Room) s m args below meth c H locs 0 0 Qm (F0 m 22 ls [])) → W p l e ({ frames := 1, cells := 0, slots := 0, locals := 24 } : Room) s m args below meth c H locs 0 0 Qm (F0 m 2 ls []) := by
    intro n
    induction n with
    | zero => intro v1 y1 hf; cases hf
    | succ n ih =>
      intro v1 y1 hf H locs ls hP hD hS hl kk
      unfold f_M_lowestFree_L2 at hf
      refine lv_iload_n hx hb dX4_lowestFree_2 rfl (lv_at hl 1 rfl) ?_
      refine lv_bipush (v := 64) hx hb dX4_lowestFree_3 (by decide) ?_
      refine lv_icmp_ge (tgt := 22) hx hb dX4_lowestFree_5 (by decide) (fun c5 => ?_) (fun c5 => ?_)
      · have hf := br_pos c5 hf
        cases hf
        exact kk _ _ _ hP hD hS (lv_sub hl [1] rfl)
      · have hf := br_neg c5 hf
        refine lv_aload_n hx hb dX4_lowestFree_8 rfl (lv_at hl 0 rfl) ?_
        refine lv_iload_n hx hb dX4_lowestFree_9 rfl (lv_at hl 1 rfl) ?_
        obtain ⟨r6, h7, hf⟩ := bnd hf
        refine call_vi (rest := []) (m_M_users l ca ad lq mcode mday mown mquot mprom mfiles mowner mlinks mblocks mvals msnaps mranks mkept mshot mwas mholds mheld mends mopen mentr mkinds misop mfilesT mentrT mpromT mlinksT mblocksT mvalsT R _ v1 r6 h7) ⟨hx, hb, hml, hown, hts⟩ (cwV 1 hts (gV q1487 q1489 q30 q50 q1490) rfl rfl rfl (by decide +kernel) ⟨Nat.le_of_ble_eq_true rfl, Nat.le_of_ble_eq_true rfl⟩) (va_recv hK hP (ci := 8) (q0 := 0) rfl rfl) hE hP hD hS hA rfl hl.1 rfl (lv_room (Nat.le_of_ble_eq_true rfl)) dX4_lowestFree_10 ⟨Nat.le_of_ble_eq_true rfl, Nat.le_of_ble_eq_true rfl⟩ (fun H locs hP hD hS => ?_)
        refine lv_if_le (tgt := 22) hx hb dX4_lowestFree_13 (by decide) (fun c8 => ?_) (fun c8 => ?_)
        · have hf := br_pos c8 hf
          cases hf
          exact kk _ _ _ hP hD hS (lv_sub hl [1] rfl)
        · have hf := br_neg c8 hf
          refine lv_iinc (v := (v1 + 1)) (lv' := [(1, .int (v1 + 1)), (0, .ref (ad 0))]) hx hb dX4_lowestFree_16 hl (k := 1) rfl rfl (by decide) rfl (fun ls hl => ?_)
          refine lv_goto (tgt := 2) hx hb dX4_lowestFree_19 (by decide) ?_
          exact ih (v1 + 1) _ hf _ _ _ hP hD hS (lv_sub hl [1, 0] rfl) kk
  refine lv_iconst (v := 0) hx hb dX4_lowestFree_0 (by decide) ?_
  refine lv_istore_n (lv' := [(1, .int 0), (0, .ref (ad 0))]) hx hb dX4_lowestFree_1 rfl hl (by decide) rfl (fun ls hl => ?_)
  obtain ⟨x10, h9, hf⟩ := bnd hf
  refine L2 FU 0 x10 h9 _ _ _ hP hD hS (lv_sub hl [1, 0] rfl) (fun H locs ls hP hD hS hl => ?_)
  refine lv_iload_n hx hb dX4_lowestFree_22 rfl (lv_at hl 0 rfl) ?_
  cases hf
  exact end_i hAe hQm hx hb hr hlocks rfl hP hD hS dX4_lowestFree_23
def f_M_write (p1 : Int32) (p2 : Int32) (p3 : Int32) (mquot : Nat → Int32) (mprom : Nat → Int32) (mfiles : Int32) (mowner : Nat → Int32) (mlinks : Nat → Int32) (mblocks : Nat → Int32) (mvals : Nat → Int32) (msnaps : Int32) (mkept : Nat → Int32) (mshot : Nat → Int32) (mentr : Int32) (mkinds : Nat → Int32) : Option (Int32 × Int32 × (Nat → Int32) × (Nat → Int32) × (Nat → Int32) × Int32 × (Nat → Int32)) :=
  (f_M_isFile p1 mfiles).bind fun r1 =>
  if r1 = 0 then
    (f_M_fails 1).bind fun (r4, mcode_5) =>
    some (r4, mcode_5, mprom, mblocks, mvals, mentr, mkinds)
  else
    (f_M_isPlace p2).bind fun r7 =>
    if r7 = 0 then
      (f_M_fails 1).bind fun (r107, mcode_108) =>
      some (r107, mcode_108, mprom, mblocks, mvals, mentr, mkinds)
    else
      (f_M_in p3 0 999).bind fun r10 =>
      if r10 = 0 then
        (f_M_fails 2).bind fun (r104, mcode_105) =>
        some (r104, mcode_105, mprom, mblocks, mvals, mentr, mkinds)
      else
        if p1 < 0 ∨ 40 ≤ p1.toNatClampNeg then none else
          if (mlinks p1.toNatClampNeg) = 0 then
          (f_M_fails 3).bind fun (r101, mcode_102) =>
          some (r101, mcode_102, mprom, mblocks, mvals, mentr, mkinds)
        else
          if p1 < 0 ∨ 40 ≤ p1.toNatClampNeg then none else
            if ((16 * p1) + p2) < 0 ∨ 640 ≤ ((16 * p1) + p2).toNatClampNeg then none else
            if (mblocks ((16 * p1) + p2).toNatClampNeg) = 0 then
            (f_M_freeNow mblocks msnaps mkept mshot).bind fun r18 =>
            (f_M_promisedNow mprom).bind fun r20 =>
            if (mowner p1.toNatClampNeg) < 0 ∨ 4 ≤ (mowner p1.toNatClampNeg).toNatClampNeg then none else
              if 1 ≤ ((r18 - r20) + (mprom (mowner p1.toNatClampNeg).toNatClampNeg)) then
              (f_M_lowestFree mblocks msnaps mkept mshot).bind fun r24 =>
              if ((16 * p1) + p2) < 0 ∨ 640 ≤ ((16 * p1) + p2).toNatClampNeg then none else
                (f_M_countsFor (mowner p1.toNatClampNeg) mowner (upd mblocks ((16 * p1) + p2).toNatClampNeg (r24 + 1))).bind fun r27 =>
              if (mowner p1.toNatClampNeg) < 0 ∨ 4 ≤ (mowner p1.toNatClampNeg).toNatClampNeg then none else
                if r27 ≤ (mquot (mowner p1.toNatClampNeg).toNatClampNeg) then
                if (mowner p1.toNatClampNeg) < 0 ∨ 4 ≤ (mowner p1.toNatClampNeg).toNatClampNeg then none else
                  if (mowner p1.toNatClampNeg) < 0 ∨ 4 ≤ (mowner p1.toNatClampNeg).toNatClampNeg then none else
                  if (mprom (mowner p1.toNatClampNeg).toNatClampNeg) ≤ 0 then
                  if (mowner p1.toNatClampNeg) < 0 ∨ 4 ≤ (mowner p1.toNatClampNeg).toNatClampNeg then none else
                    if ((16 * p1) + p2) < 0 ∨ 640 ≤ ((16 * p1) + p2).toNatClampNeg then none else
                    if (((upd mblocks ((16 * p1) + p2).toNatClampNeg (r24 + 1)) ((16 * p1) + p2).toNatClampNeg) - 1) < 0 ∨ 64 ≤ (((upd mblocks ((16 * p1) + p2).toNatClampNeg (r24 + 1)) ((16 * p1) + p2).toNatClampNeg) - 1).toNatClampNeg then none else
                    (f_M_enters 119 mentr mkinds).bind fun (mentr_37, mkinds_38) =>
                  if ((16 * p1) + p2) < 0 ∨ 640 ≤ ((16 * p1) + p2).toNatClampNeg then none else
                    some ((((upd mblocks ((16 * p1) + p2).toNatClampNeg (r24 + 1)) ((16 * p1) + p2).toNatClampNeg) - 1), 0, (upd mprom (mowner p1.toNatClampNeg).toNatClampNeg ((mprom (mowner p1.toNatClampNeg).toNatClampNeg) - 0)), (upd mblocks ((16 * p1) + p2).toNatClampNeg (r24 + 1)), (upd mvals (((upd mblocks ((16 * p1) + p2).toNatClampNeg (r24 + 1)) ((16 * p1) + p2).toNatClampNeg) - 1).toNatClampNeg p3), mentr_37, mkinds_38)
                else
                  if (mowner p1.toNatClampNeg) < 0 ∨ 4 ≤ (mowner p1.toNatClampNeg).toNatClampNeg then none else
                    if ((16 * p1) + p2) < 0 ∨ 640 ≤ ((16 * p1) + p2).toNatClampNeg then none else
                    if (((upd mblocks ((16 * p1) + p2).toNatClampNeg (r24 + 1)) ((16 * p1) + p2).toNatClampNeg) - 1) < 0 ∨ 64 ≤ (((upd mblocks ((16 * p1) + p2).toNatClampNeg (r24 + 1)) ((16 * p1) + p2).toNatClampNeg) - 1).toNatClampNeg then none else
                    (f_M_enters 119 mentr mkinds).bind fun (mentr_44, mkinds_45) =>
                  if ((16 * p1) + p2) < 0 ∨ 640 ≤ ((16 * p1) + p2).toNatClampNeg then none else
                    some ((((upd mblocks ((16 * p1) + p2).toNatClampNeg (r24 + 1)) ((16 * p1) + p2).toNatClampNeg) - 1), 0, (upd mprom (mowner p1.toNatClampNeg).toNatClampNeg ((mprom (mowner p1.toNatClampNeg).toNatClampNeg) - 1)), (upd mblocks ((16 * p1) + p2).toNatClampNeg (r24 + 1)), (upd mvals (((upd mblocks ((16 * p1) + p2).toNatClampNeg (r24 + 1)) ((16 * p1) + p2).toNatClampNeg) - 1).toNatClampNeg p3), mentr_44, mkinds_45)
              else
                if ((16 * p1) + p2) < 0 ∨ 640 ≤ ((16 * p1) + p2).toNatClampNeg then none else
                  (f_M_fails 4).bind fun (r49, mcode_50) =>
                some (r49, mcode_50, mprom, (upd (upd mblocks ((16 * p1) + p2).toNatClampNeg (r24 + 1)) ((16 * p1) + p2).toNatClampNeg (mblocks ((16 * p1) + p2).toNatClampNeg)), mvals, mentr, mkinds)
            else
              (f_M_fails 4).bind fun (r52, mcode_53) =>
              some (r52, mcode_53, mprom, mblocks, mvals, mentr, mkinds)
          else
            (f_M_users ((mblocks ((16 * p1) + p2).toNatClampNeg) - 1) mblocks msnaps mkept mshot).bind fun r55 =>
            if r55 ≤ 1 then
              if ((16 * p1) + p2) < 0 ∨ 640 ≤ ((16 * p1) + p2).toNatClampNeg then none else
                if ((mblocks ((16 * p1) + p2).toNatClampNeg) - 1) < 0 ∨ 64 ≤ ((mblocks ((16 * p1) + p2).toNatClampNeg) - 1).toNatClampNeg then none else
                (f_M_enters 119 mentr mkinds).bind fun (mentr_60, mkinds_61) =>
              if ((16 * p1) + p2) < 0 ∨ 640 ≤ ((16 * p1) + p2).toNatClampNeg then none else
                some (((mblocks ((16 * p1) + p2).toNatClampNeg) - 1), 0, mprom, mblocks, (upd mvals ((mblocks ((16 * p1) + p2).toNatClampNeg) - 1).toNatClampNeg p3), mentr_60, mkinds_61)
            else
              (f_M_freeNow mblocks msnaps mkept mshot).bind fun r64 =>
              (f_M_promisedNow mprom).bind fun r66 =>
              if (mowner p1.toNatClampNeg) < 0 ∨ 4 ≤ (mowner p1.toNatClampNeg).toNatClampNeg then none else
                if 1 ≤ ((r64 - r66) + (mprom (mowner p1.toNatClampNeg).toNatClampNeg)) then
                (f_M_lowestFree mblocks msnaps mkept mshot).bind fun r70 =>
                if ((16 * p1) + p2) < 0 ∨ 640 ≤ ((16 * p1) + p2).toNatClampNeg then none else
                  (f_M_countsFor (mowner p1.toNatClampNeg) mowner (upd mblocks ((16 * p1) + p2).toNatClampNeg (r70 + 1))).bind fun r73 =>
                if (mowner p1.toNatClampNeg) < 0 ∨ 4 ≤ (mowner p1.toNatClampNeg).toNatClampNeg then none else
                  if r73 ≤ (mquot (mowner p1.toNatClampNeg).toNatClampNeg) then
                  if (mowner p1.toNatClampNeg) < 0 ∨ 4 ≤ (mowner p1.toNatClampNeg).toNatClampNeg then none else
                    if (mowner p1.toNatClampNeg) < 0 ∨ 4 ≤ (mowner p1.toNatClampNeg).toNatClampNeg then none else
                    if (mprom (mowner p1.toNatClampNeg).toNatClampNeg) ≤ 0 then
                    if (mowner p1.toNatClampNeg) < 0 ∨ 4 ≤ (mowner p1.toNatClampNeg).toNatClampNeg then none else
                      if ((16 * p1) + p2) < 0 ∨ 640 ≤ ((16 * p1) + p2).toNatClampNeg then none else
                      if (((upd mblocks ((16 * p1) + p2).toNatClampNeg (r70 + 1)) ((16 * p1) + p2).toNatClampNeg) - 1) < 0 ∨ 64 ≤ (((upd mblocks ((16 * p1) + p2).toNatClampNeg (r70 + 1)) ((16 * p1) + p2).toNatClampNeg) - 1).toNatClampNeg then none else
                      (f_M_enters 119 mentr mkinds).bind fun (mentr_83, mkinds_84) =>
                    if ((16 * p1) + p2) < 0 ∨ 640 ≤ ((16 * p1) + p2).toNatClampNeg then none else
                      some ((((upd mblocks ((16 * p1) + p2).toNatClampNeg (r70 + 1)) ((16 * p1) + p2).toNatClampNeg) - 1), 0, (upd mprom (mowner p1.toNatClampNeg).toNatClampNeg ((mprom (mowner p1.toNatClampNeg).toNatClampNeg) - 0)), (upd mblocks ((16 * p1) + p2).toNatClampNeg (r70 + 1)), (upd mvals (((upd mblocks ((16 * p1) + p2).toNatClampNeg (r70 + 1)) ((16 * p1) + p2).toNatClampNeg) - 1).toNatClampNeg p3), mentr_83, mkinds_84)
                  else
                    if (mowner p1.toNatClampNeg) < 0 ∨ 4 ≤ (mowner p1.toNatClampNeg).toNatClampNeg then none else
                      if ((16 * p1) + p2) < 0 ∨ 640 ≤ ((16 * p1) + p2).toNatClampNeg then none else
                      if (((upd mblocks ((16 * p1) + p2).toNatClampNeg (r70 + 1)) ((16 * p1) + p2).toNatClampNeg) - 1) < 0 ∨ 64 ≤ (((upd mblocks ((16 * p1) + p2).toNatClampNeg (r70 + 1)) ((16 * p1) + p2).toNatClampNeg) - 1).toNatClampNeg then none else
                      (f_M_enters 119 mentr mkinds).bind fun (mentr_90, mkinds_91) =>
                    if ((16 * p1) + p2) < 0 ∨ 640 ≤ ((16 * p1) + p2).toNatClampNeg then none else
                      some ((((upd mblocks ((16 * p1) + p2).toNatClampNeg (r70 + 1)) ((16 * p1) + p2).toNatClampNeg) - 1), 0, (upd mprom (mowner p1.toNatClampNeg).toNatClampNeg ((mprom (mowner p1.toNatClampNeg).toNatClampNeg) - 1)), (upd mblocks ((16 * p1) + p2).toNatClampNeg (r70 + 1)), (upd mvals (((upd mblocks ((16 * p1) + p2).toNatClampNeg (r70 + 1)) ((16 * p1) + p2).toNatClampNeg) - 1).toNatClampNeg p3), mentr_90, mkinds_91)
                else
                  if ((16 * p1) + p2) < 0 ∨ 640 ≤ ((16 * p1) + p2).toNatClampNeg then none else
                    (f_M_fails 4).bind fun (r95, mcode_96) =>
                  some (r95, mcode_96, mprom, (upd (upd mblocks ((16 * p1) + p2).toNatClampNeg (r70 + 1)) ((16 * p1) + p2).toNatClampNeg (mblocks ((16 * p1) + p2).toNatClampNeg)), mvals, mentr, mkinds)
              else
                (f_M_fails 4).bind fun (r98, mcode_99) =>
                some (r98, mcode_99, mprom, mblocks, mvals, mentr, mkinds)
set_option maxHeartbeats 4000000 in
set_option maxRecDepth 100000 in
theorem m_M_write (l : Launch) {D : va_G} {sl : List (String × Nat × String)} (ca : Nat → ClassId) (ad : Nat → Nat) (lq : Nat) (mcode : Int32) (mday : Int32) (mown : Int32) (mquot : Nat → Int32) (mprom : Nat → Int32) (mfiles : Int32) (mowner : Nat → Int32) (mlinks : Nat → Int32) (mblocks : Nat → Int32) (mvals : Nat → Int32) (msnaps : Int32) (mranks : Nat → Int32) (mkept : Nat → Int32) (mshot : Nat → Int32) (mwas : Nat → Int32) (mholds : Int32) (mheld : Nat → Int32) (mends : Nat → Int32) (mopen : Nat → Int32) (mentr : Int32) (mkinds : Nat → Int32) (misop : Int32) (mfilesT : Int32) (mentrT : Int32) (mpromT : Nat → Int32) (mlinksT : Nat → Int32) (mblocksT : Nat → Int32) (mvalsT : Nat → Int32) (R : va_W) (sz : Nat) (p1 : Int32) (p2 : Int32) (p3 : Int32) (ro : Int32) (omcode : Int32) (omprom : Nat → Int32) (omblocks : Nat → Int32) (omvals : Nat → Int32) (omentr : Int32) (omkinds : Nat → Int32) (hf : f_M_write p1 p2 p3 mquot mprom mfiles mowner mlinks mblocks mvals msnaps mkept mshot mentr mkinds = some (ro, omcode, omprom, omblocks, omvals, omentr, omkinds)) : Met l yX4_write (wm yX4_write cX4_write 8 (some .int)) ({ frames := 2, cells := 0, slots := 0, locals := 46 } : Room) (PRE [.ref (ad 0), .int p1, .int p2, .int p3] D ca sl (WM ca ad lq mcode mday mown mquot mprom mfiles mowner mlinks mblocks mvals msnaps mranks mkept mshot mwas mholds mheld mends mopen mentr mkinds misop mfilesT mentrT mpromT mlinksT mblocksT mvalsT ++ R) sz) (QI ro D (WM ca ad lq omcode mday mown mquot omprom mfiles mowner mlinks omblocks omvals msnaps mranks mkept mshot mwas mholds mheld mends mopen omentr omkinds misop mfilesT mentrT mpromT mlinksT mblocksT mvalsT ++ R) (WM ca ad lq mcode mday mown mquot mprom mfiles mowner mlinks mblocks mvals msnaps mranks mkept mshot mwas mholds mheld mends mopen mentr mkinds misop mfilesT mentrT mpromT mlinksT mblocksT mvalsT ++ R) sz) 0 0 (va_A (WM ca ad lq mcode mday mown mquot mprom mfiles mowner mlinks mblocks mvals msnaps mranks mkept mshot mwas mholds mheld mends mopen mentr mkinds misop mfilesT mentrT mpromT mlinksT mblocksT mvalsT ++ R) sz) := by
  refine Met.ofW (cc := cX4_write) (maxL := 8) (ret := (some .int)) (by decide) rfl ?_
  intro p e s m args below meth c s₁ B hml hv
  obtain ⟨rfl, rfl, hP, hE, hD0⟩ := hv
  have hx := B.exec
  have hb := B.bytes
  have hr := B.returns
  have hts := wm_ww (atoms_spec (ws := wm yX4_write cX4_write 8 (some .int)) B.pre)
  have hown : s.vm.findClass RX4 = some m.cls := findClass_of_methodNamed B.named
  have hlocks := B.notSynchronized
  have hK := hE.1
  have hD := hD0.self (sz := s.heap.size)
  generalize hAe : va_A (WM ca ad lq mcode mday mown mquot mprom mfiles mowner mlinks mblocks mvals msnaps mranks mkept mshot mwas mholds mheld mends mopen mentr mkinds misop mfilesT mentrT mpromT mlinksT mblocksT mvalsT ++ R) s.heap.size = A at hD ⊢
  have hA : ∀ q : Nat, s.heap.size ≤ q → A q := fun q h => by rw [← hAe]; exact Or.inr h
  have hS : va_S A s.heap s.heap [] := va_S.rf
  have hl := lv_entry ([.ref (ad 0), .int p1, .int p2, .int p3]) (n := 8) (Nat.le_of_ble_eq_true rfl)
  rw [lg_entry_eq]
  generalize (lg_sl ([.ref (ad 0), .int p1, .int p2, .int p3]) ++ List.replicate (8 - (lg_sl ([.ref (ad 0), .int p1, .int p2, .int p3])).length) Slot.unset).toArray = ls at hl ⊢
  have hl : lv_has ls 8 [(0, .ref (ad 0)), (1, .int p1), (2, .int p2), (3, .int p3)] := hl
  change W p l e ({ frames := 2, cells := 0, slots := 0, locals := 46 } : Room) s m _ below meth c s.heap [] 0 0 _ _
  generalize hQm : MQ below (QI ro D (WM ca ad lq omcode mday mown mquot omprom mfiles mowner mlinks omblocks omvals msnaps mranks mkept mshot mwas mholds mheld mends mopen omentr omkinds misop mfilesT mentrT mpromT mlinksT mblocksT mvalsT ++ R) (WM ca ad lq mcode mday mown mquot mprom mfiles mowner mlinks mblocks mvals msnaps mranks mkept mshot mwas mholds mheld mends mopen mentr mkinds misop mfilesT mentrT mpromT mlinksT mblocksT mvalsT ++ R) s.heap.size) _ s 0 0 A = Qm
  have hP : va_P D vwCl (WM ca ad lq mcode mday mown mquot mprom mfiles mowner mlinks mblocks mvals msnaps mranks mkept mshot mwas mholds mheld mends mopen mentr mkinds misop mfilesT mentrT mpromT mlinksT mblocksT mvalsT ++ R) s.heap := hP
  generalize hae : ([.ref (ad 0), .int p1, .int p2, .int p3] : List Value).toArray = args at hts hQm ⊢
  refine lv_aload_n hx hb dX4_write_0 rfl (lv_at hl 0 rfl) ?_
  refine lv_iconst (v := 0) hx hb dX4_write_1 (by decide) ?_
  refine va_put (D := D) (ci := 8) (v := .int 0) (ty := .int) (C := RX4) (T := TX4) (N := 29) hx hb hts inX4 tyX4 tyX4_ok nmX4 hown hK hP hD hS 0 rfl rfl 0 (by decide) (hts _ q1329) (fun _ h9 => h9) rfl (by decide +kernel) rfl rfl (Nat.le_of_ble_eq_true rfl) dX4_write_2 (fun H locs hP hD hS => ?_)
  have hP : va_P D vwCl (WM ca ad lq 0 mday mown mquot mprom mfiles mowner mlinks mblocks mvals msnaps mranks mkept mshot mwas mholds mheld mends mopen mentr mkinds misop mfilesT mentrT mpromT mlinksT mblocksT mvalsT ++ R) H := hP
  have hD : va_D A (WM ca ad lq 0 mday mown mquot mprom mfiles mowner mlinks mblocks mvals msnaps mranks mkept mshot mwas mholds mheld mends mopen mentr mkinds misop mfilesT mentrT mpromT mlinksT mblocksT mvalsT ++ R) := hD
  refine lv_aload_n hx hb dX4_write_5 rfl (lv_at hl 0 rfl) ?_
  refine lv_iload_n hx hb dX4_write_6 rfl (lv_at hl 1 rfl) ?_
  obtain ⟨r1, h2, hf⟩ := bnd hf
  refine call_vi (rest := []) (m_M_isFile l ca ad lq 0 mday mown mquot mprom mfiles mowner mlinks mblocks mvals msnaps mranks mkept mshot mwas mholds mheld mends mopen mentr mkinds misop mfilesT mentrT mpromT mlinksT mblocksT mvalsT R _ p1 r1 h2) ⟨hx, hb, hml, hown, hts⟩ (cwV 1 hts (gV q1452 q1454 q26 q50 q1455) rfl rfl rfl (by decide +kernel) ⟨Nat.le_of_ble_eq_true rfl, Nat.le_of_ble_eq_true rfl⟩) (va_recv hK hP (ci := 8) (q0 := 0) rfl rfl) hE hP hD hS hA rfl hl.1 rfl (lv_room (Nat.le_of_ble_eq_true rfl)) dX4_write_7 ⟨Nat.le_of_ble_eq_true rfl, Nat.le_of_ble_eq_true rfl⟩ (fun H locs hP hD hS => ?_)
  refine lv_if_eq (tgt := 20) hx hb dX4_write_10 (by decide) (fun c3 => ?_) (fun c3 => ?_)
  · have hf := br_pos c3 hf
    refine lv_aload_n hx hb dX4_write_20 rfl (lv_at hl 0 rfl) ?_
    refine lv_iconst (v := 1) hx hb dX4_write_21 (by decide) ?_
    obtain ⟨⟨r4, mcode_5⟩, h6, hf⟩ := bnd hf
    refine call_vi (rest := []) (m_M_fails l ca ad lq 0 mday mown mquot mprom mfiles mowner mlinks mblocks mvals msnaps mranks mkept mshot mwas mholds mheld mends mopen mentr mkinds misop mfilesT mentrT mpromT mlinksT mblocksT mvalsT R _ 1 r4 mcode_5 h6) ⟨hx, hb, hml, hown, hts⟩ (cwV 1 hts (gV q1428 q1430 q23 q50 q1431) rfl rfl rfl (by decide +kernel) ⟨Nat.le_of_ble_eq_true rfl, Nat.le_of_ble_eq_true rfl⟩) (va_recv hK hP (ci := 8) (q0 := 0) rfl rfl) hE hP hD hS hA rfl hl.1 rfl (lv_room (Nat.le_of_ble_eq_true rfl)) dX4_write_22 ⟨Nat.le_of_ble_eq_true rfl, Nat.le_of_ble_eq_true rfl⟩ (fun H locs hP hD hS => ?_)
    cases hf
    exact end_i hAe hQm hx hb hr hlocks rfl hP hD hS dX4_write_25
  · have hf := br_neg c3 hf
    refine lv_iload_n hx hb dX4_write_13 rfl (lv_at hl 2 rfl) ?_
    obtain ⟨r7, h8, hf⟩ := bnd hf
    refine call_si (rest := []) (m_M_isPlace l ca ad lq 0 mday mown mquot mprom mfiles mowner mlinks mblocks mvals msnaps mranks mkept mshot mwas mholds mheld mends mopen mentr mkinds misop mfilesT mentrT mpromT mlinksT mblocksT mvalsT R _ p2 r7 h8) ⟨hx, hb, hml, hown, hts⟩ (va_cwS 1 hts (gS q1484 q1485 q50 q1486) rfl rfl rfl (by decide +kernel) ⟨Nat.le_of_ble_eq_true rfl, Nat.le_of_ble_eq_true rfl⟩) hE hP hD hS hA rfl hl.1 rfl (lv_room (Nat.le_of_ble_eq_true rfl)) dX4_write_14 ⟨Nat.le_of_ble_eq_true rfl, Nat.le_of_ble_eq_true rfl⟩ (fun H locs hP hD hS => ?_)
    refine lv_if_ne (tgt := 26) hx hb dX4_write_17 (by decide) (fun c9 => ?_) (fun c9 => ?_)
    · have hf := br_neg c9 hf
      refine lv_iload_n hx hb dX4_write_26 rfl (lv_at hl 3 rfl) ?_
      refine lv_iconst (v := 0) hx hb dX4_write_27 (by decide) ?_
      refine lv_sipush (v := 999) hx hb dX4_write_28 (by decide) ?_
      obtain ⟨r10, h11, hf⟩ := bnd hf
      refine call_si (rest := []) (m_M_in l ca ad lq 0 mday mown mquot mprom mfiles mowner mlinks mblocks mvals msnaps mranks mkept mshot mwas mholds mheld mends mopen mentr mkinds misop mfilesT mentrT mpromT mlinksT mblocksT mvalsT R _ p3 0 999 r10 h11) ⟨hx, hb, hml, hown, hts⟩ (va_cwS 3 hts (gS q1425 q1426 q50 q1427) rfl rfl rfl (by decide +kernel) ⟨Nat.le_of_ble_eq_true rfl, Nat.le_of_ble_eq_true rfl⟩) hE hP hD hS hA rfl hl.1 rfl (lv_room (Nat.le_of_ble_eq_true rfl)) dX4_write_31 ⟨Nat.le_of_ble_eq_true rfl, Nat.le_of_ble_eq_true rfl⟩ (fun H locs hP hD hS => ?_)
      refine lv_if_ne (tgt := 43) hx hb dX4_write_34 (by decide) (fun c12 => ?_) (fun c12 => ?_)
      · have hf := br_neg c12 hf
        refine lv_aload_n hx hb dX4_write_43 rfl (lv_at hl 0 rfl) ?_
        refine va_get (D := D) (ci := 8) (v := .ref (ad 4)) (C := RX4) (T := TX4) (N := 29) hx hb hts inX4 hown hK hP 0 rfl rfl 7 (by decide) (hts _ q1336) (fun _ h9 => h9) rfl dX4_write_44 ?_
        refine lv_iload_n hx hb dX4_write_47 rfl (lv_at hl 1 rfl) ?_
        obtain ⟨k13, hf⟩ := ck_not hf
        refine va_iald (D := D) hx hb hK hP 4 0 rfl rfl k13 dX4_write_48 ?_
        refine lv_if_ne (tgt := 58) hx hb dX4_write_49 (by decide) (fun c14 => ?_) (fun c14 => ?_)
        · have hf := br_neg c14 hf
          refine lv_bipush (v := 16) hx hb dX4_write_58 (by decide) ?_
          refine lv_iload_n hx hb dX4_write_60 rfl (lv_at hl 1 rfl) ?_
          refine lv_imul hx hb dX4_write_61 ?_
          refine lv_iload_n hx hb dX4_write_62 rfl (lv_at hl 2 rfl) ?_
          refine lv_iadd hx hb dX4_write_63 ?_
          refine lv_istore (lv' := [(4, .int ((16 * p1) + p2)), (0, .ref (ad 0)), (1, .int p1), (2, .int p2), (3, .int p3)]) hx hb dX4_write_64 hl (by decide) rfl (fun ls hl => ?_)
          refine lv_aload_n hx hb dX4_write_66 rfl (lv_at hl 1 rfl) ?_
          refine va_get (D := D) (ci := 8) (v := .ref (ad 3)) (C := RX4) (T := TX4) (N := 29) hx hb hts inX4 hown hK hP 0 rfl rfl 6 (by decide) (hts _ q1335) (fun _ h9 => h9) rfl dX4_write_67 ?_
          refine lv_iload_n hx hb dX4_write_70 rfl (lv_at hl 2 rfl) ?_
          obtain ⟨k15, hf⟩ := ck_not hf
          refine va_iald (D := D) hx hb hK hP 3 0 rfl rfl k15 dX4_write_71 ?_
          refine lv_istore (lv' := [(5, .int (mowner p1.toNatClampNeg)), (4, .int ((16 * p1) + p2)), (0, .ref (ad 0)), (1, .int p1), (2, .int p2), (3, .int p3)]) hx hb dX4_write_72 hl (by decide) rfl (fun ls hl => ?_)
          refine lv_aload_n hx hb dX4_write_74 rfl (lv_at hl 2 rfl) ?_
          refine va_get (D := D) (ci := 8) (v := .ref (ad 5)) (C := RX4) (T := TX4) (N := 29) hx hb hts inX4 hown hK hP 0 rfl rfl 8 (by decide) (hts _ q1337) (fun _ h9 => h9) rfl dX4_write_75 ?_
          refine lv_iload hx hb dX4_write_78 (lv_at hl 1 rfl) ?_
          obtain ⟨k16, hf⟩ := ck_not hf
          refine va_iald (D := D) hx hb hK hP 5 0 rfl rfl k16 dX4_write_80 ?_
          refine lv_istore (lv' := [(6, .int (mblocks ((16 * p1) + p2).toNatClampNeg)), (5, .int (mowner p1.toNatClampNeg)), (4, .int ((16 * p1) + p2)), (0, .ref (ad 0)), (1, .int p1), (2, .int p2), (3, .int p3)]) hx hb dX4_write_81 hl (by decide) rfl (fun ls hl => ?_)
          refine lv_iload hx hb dX4_write_83 (lv_at hl 0 rfl) ?_
          refine lv_if_eq (tgt := 100) hx hb dX4_write_85 (by decide) (fun c17 => ?_) (fun c17 => ?_)
          · have hf := br_pos c17 hf
            refine lv_aload_n hx hb dX4_write_100 rfl (lv_at hl 3 rfl) ?_
            obtain ⟨r18, h19, hf⟩ := bnd hf
            refine call_vi (rest := []) (m_M_freeNow l ca ad lq 0 mday mown mquot mprom mfiles mowner mlinks mblocks mvals msnaps mranks mkept mshot mwas mholds mheld mends mopen mentr mkinds misop mfilesT mentrT mpromT mlinksT mblocksT mvalsT R _ r18 h19) ⟨hx, hb, hml, hown, hts⟩ (cwV 0 hts (gV q1491 q1493 q31 q50 q1494) rfl rfl rfl (by decide +kernel) ⟨Nat.le_of_ble_eq_true rfl, Nat.le_of_ble_eq_true rfl⟩) (va_recv hK hP (ci := 8) (q0 := 0) rfl rfl) hE hP hD hS hA rfl hl.1 rfl (lv_room (Nat.le_of_ble_eq_true rfl)) dX4_write_101 ⟨Nat.le_of_ble_eq_true rfl, Nat.le_of_ble_eq_true rfl⟩ (fun H locs hP hD hS => ?_)
            refine lv_aload_n hx hb dX4_write_104 rfl (lv_at hl 3 rfl) ?_
            obtain ⟨r20, h21, hf⟩ := bnd hf
            refine call_vi (rest := [.int r18]) (m_M_promisedNow l ca ad lq 0 mday mown mquot mprom mfiles mowner mlinks mblocks mvals msnaps mranks mkept mshot mwas mholds mheld mends mopen mentr mkinds misop mfilesT mentrT mpromT mlinksT mblocksT mvalsT R _ r20 h21) ⟨hx, hb, hml, hown, hts⟩ (cwV 0 hts (gV q1495 q1497 q32 q50 q1498) rfl rfl rfl (by decide +kernel) ⟨Nat.le_of_ble_eq_true rfl, Nat.le_of_ble_eq_true rfl⟩) (va_recv hK hP (ci := 8) (q0 := 0) rfl rfl) hE hP hD hS hA rfl hl.1 rfl (lv_room (Nat.le_of_ble_eq_true rfl)) dX4_write_105 ⟨Nat.le_of_ble_eq_true rfl, Nat.le_of_ble_eq_true rfl⟩ (fun H locs hP hD hS => ?_)
            refine lv_isub hx hb dX4_write_108 ?_
            refine lv_aload_n hx hb dX4_write_109 rfl (lv_at hl 3 rfl) ?_
            refine va_get (D := D) (ci := 8) (v := .ref (ad 2)) (C := RX4) (T := TX4) (N := 29) hx hb hts inX4 hown hK hP 0 rfl rfl 4 (by decide) (hts _ q1333) (fun _ h9 => h9) rfl dX4_write_110 ?_
            refine lv_iload hx hb dX4_write_113 (lv_at hl 1 rfl) ?_
            obtain ⟨k22, hf⟩ := ck_not hf
            refine va_iald (D := D) hx hb hK hP 2 0 rfl rfl k22 dX4_write_115 ?_
            refine lv_iadd hx hb dX4_write_116 ?_
            refine lv_iconst (v := 1) hx hb dX4_write_117 (by decide) ?_
            refine lv_icmp_ge (tgt := 127) hx hb dX4_write_118 (by decide) (fun c23 => ?_) (fun c23 => ?_)
            · have hf := br_pos c23 hf
              refine lv_aload_n hx hb dX4_write_127 rfl (lv_at hl 3 rfl) ?_
              obtain ⟨r24, h25, hf⟩ := bnd hf
              refine call_vi (rest := []) (m_M_lowestFree l ca ad lq 0 mday mown mquot mprom mfiles mowner mlinks mblocks mvals msnaps mranks mkept mshot mwas mholds mheld mends mopen mentr mkinds misop mfilesT mentrT mpromT mlinksT mblocksT mvalsT R _ r24 h25) ⟨hx, hb, hml, hown, hts⟩ (cwV 0 hts (gV q1499 q1501 q33 q50 q1502) rfl rfl rfl (by decide +kernel) ⟨Nat.le_of_ble_eq_true rfl, Nat.le_of_ble_eq_true rfl⟩) (va_recv hK hP (ci := 8) (q0 := 0) rfl rfl) hE hP hD hS hA rfl hl.1 rfl (lv_room (Nat.le_of_ble_eq_true rfl)) dX4_write_128 ⟨Nat.le_of_ble_eq_true rfl, Nat.le_of_ble_eq_true rfl⟩ (fun H locs hP hD hS => ?_)
              refine lv_istore (lv' := [(7, .int r24), (6, .int (mblocks ((16 * p1) + p2).toNatClampNeg)), (5, .int (mowner p1.toNatClampNeg)), (4, .int ((16 * p1) + p2)), (0, .ref (ad 0)), (1, .int p1), (2, .int p2), (3, .int p3)]) hx hb dX4_write_131 hl (by decide) rfl (fun ls hl => ?_)
              refine lv_aload_n hx hb dX4_write_133 rfl (lv_at hl 4 rfl) ?_
              refine va_get (D := D) (ci := 8) (v := .ref (ad 5)) (C := RX4) (T := TX4) (N := 29) hx hb hts inX4 hown hK hP 0 rfl rfl 8 (by decide) (hts _ q1337) (fun _ h9 => h9) rfl dX4_write_134 ?_
              refine lv_iload hx hb dX4_write_137 (lv_at hl 3 rfl) ?_
              refine lv_iload hx hb dX4_write_139 (lv_at hl 0 rfl) ?_
              refine lv_iconst (v := 1) hx hb dX4_write_141 (by decide) ?_
              refine lv_iadd hx hb dX4_write_142 ?_
              obtain ⟨k26, hf⟩ := ck_not hf
              refine va_iast (D := D) hx hb hK hP hD hS 5 0 rfl rfl k26 dX4_write_143 (fun H locs hP hD hS => ?_)
              have hP : va_P D vwCl (WM ca ad lq 0 mday mown mquot mprom mfiles mowner mlinks (upd mblocks ((16 * p1) + p2).toNatClampNeg (r24 + 1)) mvals msnaps mranks mkept mshot mwas mholds mheld mends mopen mentr mkinds misop mfilesT mentrT mpromT mlinksT mblocksT mvalsT ++ R) H := hP
              have hD : va_D A (WM ca ad lq 0 mday mown mquot mprom mfiles mowner mlinks (upd mblocks ((16 * p1) + p2).toNatClampNeg (r24 + 1)) mvals msnaps mranks mkept mshot mwas mholds mheld mends mopen mentr mkinds misop mfilesT mentrT mpromT mlinksT mblocksT mvalsT ++ R) := hD
              refine lv_aload_n hx hb dX4_write_144 rfl (lv_at hl 4 rfl) ?_
              refine lv_iload hx hb dX4_write_145 (lv_at hl 2 rfl) ?_
              obtain ⟨r27, h28, hf⟩ := bnd hf
              refine call_vi (rest := []) (m_M_countsFor l ca ad lq 0 mday mown mquot mprom mfiles mowner mlinks (upd mblocks ((16 * p1) + p2).toNatClampNeg (r24 + 1)) mvals msnaps mranks mkept mshot mwas mholds mheld mends mopen mentr mkinds misop mfilesT mentrT mpromT mlinksT mblocksT mvalsT R _ (mowner p1.toNatClampNeg) r27 h28) ⟨hx, hb, hml, hown, hts⟩ (cwV 1 hts (gV q1503 q1505 q34 q50 q1506) rfl rfl rfl (by decide +kernel) ⟨Nat.le_of_ble_eq_true rfl, Nat.le_of_ble_eq_true rfl⟩) (va_recv hK hP (ci := 8) (q0 := 0) rfl rfl) hE hP hD hS hA rfl hl.1 rfl (lv_room (Nat.le_of_ble_eq_true rfl)) dX4_write_147 ⟨Nat.le_of_ble_eq_true rfl, Nat.le_of_ble_eq_true rfl⟩ (fun H locs hP hD hS => ?_)
              refine lv_aload_n hx hb dX4_write_150 rfl (lv_at hl 4 rfl) ?_
              refine va_get (D := D) (ci := 8) (v := .ref (ad 1)) (C := RX4) (T := TX4) (N := 29) hx hb hts inX4 hown hK hP 0 rfl rfl 3 (by decide) (hts _ q1332) (fun _ h9 => h9) rfl dX4_write_151 ?_
              refine lv_iload hx hb dX4_write_154 (lv_at hl 2 rfl) ?_
              obtain ⟨k29, hf⟩ := ck_not hf
              refine va_iald (D := D) hx hb hK hP 1 0 rfl rfl k29 dX4_write_156 ?_
              refine lv_icmp_le (tgt := 175) hx hb dX4_write_157 (by decide) (fun c30 => ?_) (fun c30 => ?_)
              · have hf := br_pos c30 hf
                refine lv_aload_n hx hb dX4_write_175 rfl (lv_at hl 4 rfl) ?_
                refine va_get (D := D) (ci := 8) (v := .ref (ad 2)) (C := RX4) (T := TX4) (N := 29) hx hb hts inX4 hown hK hP 0 rfl rfl 4 (by decide) (hts _ q1333) (fun _ h9 => h9) rfl dX4_write_176 ?_
                refine lv_iload hx hb dX4_write_179 (lv_at hl 2 rfl) ?_
                refine lv_dup2_11 hx hb dX4_write_181 rfl rfl ?_
                obtain ⟨k31, hf⟩ := ck_not hf
                refine va_iald (D := D) hx hb hK hP 2 0 rfl rfl k31 dX4_write_182 ?_
                refine lv_aload_n hx hb dX4_write_183 rfl (lv_at hl 4 rfl) ?_
                refine va_get (D := D) (ci := 8) (v := .ref (ad 2)) (C := RX4) (T := TX4) (N := 29) hx hb hts inX4 hown hK hP 0 rfl rfl 4 (by decide) (hts _ q1333) (fun _ h9 => h9) rfl dX4_write_184 ?_
                refine lv_iload hx hb dX4_write_187 (lv_at hl 2 rfl) ?_
                obtain ⟨k32, hf⟩ := ck_not hf
                refine va_iald (D := D) hx hb hK hP 2 0 rfl rfl k32 dX4_write_189 ?_
                refine lv_if_le (tgt := 197) hx hb dX4_write_190 (by decide) (fun c33 => ?_) (fun c33 => ?_)
                · have hf := br_pos c33 hf
                  refine lv_iconst (v := 0) hx hb dX4_write_197 (by decide) ?_
                  refine lv_isub hx hb dX4_write_198 ?_
                  obtain ⟨k34, hf⟩ := ck_not hf
                  refine va_iast (D := D) hx hb hK hP hD hS 2 0 rfl rfl k34 dX4_write_199 (fun H locs hP hD hS => ?_)
                  have hP : va_P D vwCl (WM ca ad lq 0 mday mown mquot (upd mprom (mowner p1.toNatClampNeg).toNatClampNeg ((mprom (mowner p1.toNatClampNeg).toNatClampNeg) - 0)) mfiles mowner mlinks (upd mblocks ((16 * p1) + p2).toNatClampNeg (r24 + 1)) mvals msnaps mranks mkept mshot mwas mholds mheld mends mopen mentr mkinds misop mfilesT mentrT mpromT mlinksT mblocksT mvalsT ++ R) H := hP
                  have hD : va_D A (WM ca ad lq 0 mday mown mquot (upd mprom (mowner p1.toNatClampNeg).toNatClampNeg ((mprom (mowner p1.toNatClampNeg).toNatClampNeg) - 0)) mfiles mowner mlinks (upd mblocks ((16 * p1) + p2).toNatClampNeg (r24 + 1)) mvals msnaps mranks mkept mshot mwas mholds mheld mends mopen mentr mkinds misop mfilesT mentrT mpromT mlinksT mblocksT mvalsT ++ R) := hD
                  refine lv_aload_n hx hb dX4_write_200 rfl (lv_at hl 4 rfl) ?_
                  refine va_get (D := D) (ci := 8) (v := .ref (ad 6)) (C := RX4) (T := TX4) (N := 29) hx hb hts inX4 hown hK hP 0 rfl rfl 9 (by decide) (hts _ q1338) (fun _ h9 => h9) rfl dX4_write_201 ?_
                  refine lv_aload_n hx hb dX4_write_204 rfl (lv_at hl 4 rfl) ?_
                  refine va_get (D := D) (ci := 8) (v := .ref (ad 5)) (C := RX4) (T := TX4) (N := 29) hx hb hts inX4 hown hK hP 0 rfl rfl 8 (by decide) (hts _ q1337) (fun _ h9 => h9) rfl dX4_write_205 ?_
                  refine lv_iload hx hb dX4_write_208 (lv_at hl 3 rfl) ?_
                  obtain ⟨k35, hf⟩ := ck_not hf
                  refine va_iald (D := D) hx hb hK hP 5 0 rfl rfl k35 dX4_write_210 ?_
                  refine lv_iconst (v := 1) hx hb dX4_write_211 (by decide) ?_
                  refine lv_isub hx hb dX4_write_212 ?_
                  refine lv_iload_n hx hb dX4_write_213 rfl (lv_at hl 7 rfl) ?_
                  obtain ⟨k36, hf⟩ := ck_not hf
                  refine va_iast (D := D) hx hb hK hP hD hS 6 0 rfl rfl k36 dX4_write_214 (fun H locs hP hD hS => ?_)
                  have hP : va_P D vwCl (WM ca ad lq 0 mday mown mquot (upd mprom (mowner p1.toNatClampNeg).toNatClampNeg ((mprom (mowner p1.toNatClampNeg).toNatClampNeg) - 0)) mfiles mowner mlinks (upd mblocks ((16 * p1) + p2).toNatClampNeg (r24 + 1)) (upd mvals (((upd mblocks ((16 * p1) + p2).toNatClampNeg (r24 + 1)) ((16 * p1) + p2).toNatClampNeg) - 1).toNatClampNeg p3) msnaps mranks mkept mshot mwas mholds mheld mends mopen mentr mkinds misop mfilesT mentrT mpromT mlinksT mblocksT mvalsT ++ R) H := hP
                  have hD : va_D A (WM ca ad lq 0 mday mown mquot (upd mprom (mowner p1.toNatClampNeg).toNatClampNeg ((mprom (mowner p1.toNatClampNeg).toNatClampNeg) - 0)) mfiles mowner mlinks (upd mblocks ((16 * p1) + p2).toNatClampNeg (r24 + 1)) (upd mvals (((upd mblocks ((16 * p1) + p2).toNatClampNeg (r24 + 1)) ((16 * p1) + p2).toNatClampNeg) - 1).toNatClampNeg p3) msnaps mranks mkept mshot mwas mholds mheld mends mopen mentr mkinds misop mfilesT mentrT mpromT mlinksT mblocksT mvalsT ++ R) := hD
                  refine lv_aload_n hx hb dX4_write_215 rfl (lv_at hl 4 rfl) ?_
                  refine lv_bipush (v := 119) hx hb dX4_write_216 (by decide) ?_
                  obtain ⟨⟨mentr_37, mkinds_38⟩, h39, hf⟩ := bnd hf
                  refine call_vv (rest := []) (m_M_enters l ca ad lq 0 mday mown mquot (upd mprom (mowner p1.toNatClampNeg).toNatClampNeg ((mprom (mowner p1.toNatClampNeg).toNatClampNeg) - 0)) mfiles mowner mlinks (upd mblocks ((16 * p1) + p2).toNatClampNeg (r24 + 1)) (upd mvals (((upd mblocks ((16 * p1) + p2).toNatClampNeg (r24 + 1)) ((16 * p1) + p2).toNatClampNeg) - 1).toNatClampNeg p3) msnaps mranks mkept mshot mwas mholds mheld mends mopen mentr mkinds misop mfilesT mentrT mpromT mlinksT mblocksT mvalsT R _ 119 mentr_37 mkinds_38 h39) ⟨hx, hb, hml, hown, hts⟩ (cwV 1 hts (gV q1440 q1442 q25 q50 q1443) rfl rfl rfl (by decide +kernel) ⟨Nat.le_of_ble_eq_true rfl, Nat.le_of_ble_eq_true rfl⟩) (va_recv hK hP (ci := 8) (q0 := 0) rfl rfl) hE hP hD hS hA rfl hl.1 rfl (lv_room (Nat.le_of_ble_eq_true rfl)) dX4_write_218 ⟨Nat.le_of_ble_eq_true rfl, Nat.le_of_ble_eq_true rfl⟩ (fun H locs hP hD hS => ?_)
                  refine lv_aload_n hx hb dX4_write_221 rfl (lv_at hl 4 rfl) ?_
                  refine va_get (D := D) (ci := 8) (v := .ref (ad 5)) (C := RX4) (T := TX4) (N := 29) hx hb hts inX4 hown hK hP 0 rfl rfl 8 (by decide) (hts _ q1337) (fun _ h9 => h9) rfl dX4_write_222 ?_
                  refine lv_iload hx hb dX4_write_225 (lv_at hl 3 rfl) ?_
                  obtain ⟨k40, hf⟩ := ck_not hf
                  refine va_iald (D := D) hx hb hK hP 5 0 rfl rfl k40 dX4_write_227 ?_
                  refine lv_iconst (v := 1) hx hb dX4_write_228 (by decide) ?_
                  refine lv_isub hx hb dX4_write_229 ?_
                  cases hf
                  exact end_i hAe hQm hx hb hr hlocks rfl hP hD hS dX4_write_230
                · have hf := br_neg c33 hf
                  refine lv_iconst (v := 1) hx hb dX4_write_193 (by decide) ?_
                  refine lv_goto (tgt := 198) hx hb dX4_write_194 (by decide) ?_
                  refine lv_isub hx hb dX4_write_198 ?_
                  obtain ⟨k41, hf⟩ := ck_not hf
                  refine va_iast (D := D) hx hb hK hP hD hS 2 0 rfl rfl k41 dX4_write_199 (fun H locs hP hD hS => ?_)
                  have hP : va_P D vwCl (WM ca ad lq 0 mday mown mquot (upd mprom (mowner p1.toNatClampNeg).toNatClampNeg ((mprom (mowner p1.toNatClampNeg).toNatClampNeg) - 1)) mfiles mowner mlinks (upd mblocks ((16 * p1) + p2).toNatClampNeg (r24 + 1)) mvals msnaps mranks mkept mshot mwas mholds mheld mends mopen mentr mkinds misop mfilesT mentrT mpromT mlinksT mblocksT mvalsT ++ R) H := hP
                  have hD : va_D A (WM ca ad lq 0 mday mown mquot (upd mprom (mowner p1.toNatClampNeg).toNatClampNeg ((mprom (mowner p1.toNatClampNeg).toNatClampNeg) - 1)) mfiles mowner mlinks (upd mblocks ((16 * p1) + p2).toNatClampNeg (r24 + 1)) mvals msnaps mranks mkept mshot mwas mholds mheld mends mopen mentr mkinds misop mfilesT mentrT mpromT mlinksT mblocksT mvalsT ++ R) := hD
                  refine lv_aload_n hx hb dX4_write_200 rfl (lv_at hl 4 rfl) ?_
                  refine va_get (D := D) (ci := 8) (v := .ref (ad 6)) (C := RX4) (T := TX4) (N := 29) hx hb hts inX4 hown hK hP 0 rfl rfl 9 (by decide) (hts _ q1338) (fun _ h9 => h9) rfl dX4_write_201 ?_
                  refine lv_aload_n hx hb dX4_write_204 rfl (lv_at hl 4 rfl) ?_
                  refine va_get (D := D) (ci := 8) (v := .ref (ad 5)) (C := RX4) (T := TX4) (N := 29) hx hb hts inX4 hown hK hP 0 rfl rfl 8 (by decide) (hts _ q1337) (fun _ h9 => h9) rfl dX4_write_205 ?_
                  refine lv_iload hx hb dX4_write_208 (lv_at hl 3 rfl) ?_
                  obtain ⟨k42, hf⟩ := ck_not hf
                  refine va_iald (D := D) hx hb hK hP 5 0 rfl rfl k42 dX4_write_210 ?_
                  refine lv_iconst (v := 1) hx hb dX4_write_211 (by decide) ?_
                  refine lv_isub hx hb dX4_write_212 ?_
                  refine lv_iload_n hx hb dX4_write_213 rfl (lv_at hl 7 rfl) ?_
                  obtain ⟨k43, hf⟩ := ck_not hf
                  refine va_iast (D := D) hx hb hK hP hD hS 6 0 rfl rfl k43 dX4_write_214 (fun H locs hP hD hS => ?_)
                  have hP : va_P D vwCl (WM ca ad lq 0 mday mown mquot (upd mprom (mowner p1.toNatClampNeg).toNatClampNeg ((mprom (mowner p1.toNatClampNeg).toNatClampNeg) - 1)) mfiles mowner mlinks (upd mblocks ((16 * p1) + p2).toNatClampNeg (r24 + 1)) (upd mvals (((upd mblocks ((16 * p1) + p2).toNatClampNeg (r24 + 1)) ((16 * p1) + p2).toNatClampNeg) - 1).toNatClampNeg p3) msnaps mranks mkept mshot mwas mholds mheld mends mopen mentr mkinds misop mfilesT mentrT mpromT mlinksT mblocksT mvalsT ++ R) H := hP
                  have hD : va_D A (WM ca ad lq 0 mday mown mquot (upd mprom (mowner p1.toNatClampNeg).toNatClampNeg ((mprom (mowner p1.toNatClampNeg).toNatClampNeg) - 1)) mfiles mowner mlinks (upd mblocks ((16 * p1) + p2).toNatClampNeg (r24 + 1)) (upd mvals (((upd mblocks ((16 * p1) + p2).toNatClampNeg (r24 + 1)) ((16 * p1) + p2).toNatClampNeg) - 1).toNatClampNeg p3) msnaps mranks mkept mshot mwas mholds mheld mends mopen mentr mkinds misop mfilesT mentrT mpromT mlinksT mblocksT mvalsT ++ R) := hD
                  refine lv_aload_n hx hb dX4_write_215 rfl (lv_at hl 4 rfl) ?_
                  refine lv_bipush (v := 119) hx hb dX4_write_216 (by decide) ?_
                  obtain ⟨⟨mentr_44, mkinds_45⟩, h46, hf⟩ := bnd hf
                  refine call_vv (rest := []) (m_M_enters l ca ad lq 0 mday mown mquot (upd mprom (mowner p1.toNatClampNeg).toNatClampNeg ((mprom (mowner p1.toNatClampNeg).toNatClampNeg) - 1)) mfiles mowner mlinks (upd mblocks ((16 * p1) + p2).toNatClampNeg (r24 + 1)) (upd mvals (((upd mblocks ((16 * p1) + p2).toNatClampNeg (r24 + 1)) ((16 * p1) + p2).toNatClampNeg) - 1).toNatClampNeg p3) msnaps mranks mkept mshot mwas mholds mheld mends mopen mentr mkinds misop mfilesT mentrT mpromT mlinksT mblocksT mvalsT R _ 119 mentr_44 mkinds_45 h46) ⟨hx, hb, hml, hown, hts⟩ (cwV 1 hts (gV q1440 q1442 q25 q50 q1443) rfl rfl rfl (by decide +kernel) ⟨Nat.le_of_ble_eq_true rfl, Nat.le_of_ble_eq_true rfl⟩) (va_recv hK hP (ci := 8) (q0 := 0) rfl rfl) hE hP hD hS hA rfl hl.1 rfl (lv_room (Nat.le_of_ble_eq_true rfl)) dX4_write_218 ⟨Nat.le_of_ble_eq_true rfl, Nat.le_of_ble_eq_true rfl⟩ (fun H locs hP hD hS => ?_)
                  refine lv_aload_n hx hb dX4_write_221 rfl (lv_at hl 4 rfl) ?_
                  refine va_get (D := D) (ci := 8) (v := .ref (ad 5)) (C := RX4) (T := TX4) (N := 29) hx hb hts inX4 hown hK hP 0 rfl rfl 8 (by decide) (hts _ q1337) (fun _ h9 => h9) rfl dX4_write_222 ?_
                  refine lv_iload hx hb dX4_write_225 (lv_at hl 3 rfl) ?_
                  obtain ⟨k47, hf⟩ := ck_not hf
                  refine va_iald (D := D) hx hb hK hP 5 0 rfl rfl k47 dX4_write_227 ?_
                  refine lv_iconst (v := 1) hx hb dX4_write_228 (by decide) ?_
                  refine lv_isub hx hb dX4_write_229 ?_
                  cases hf
                  exact end_i hAe hQm hx hb hr hlocks rfl hP hD hS dX4_write_230
              · have hf := br_neg c30 hf
                refine lv_aload_n hx hb dX4_write_160 rfl (lv_at hl 4 rfl) ?_
                refine va_get (D := D) (ci := 8) (v := .ref (ad 5)) (C := RX4) (T := TX4) (N := 29) hx hb hts inX4 hown hK hP 0 rfl rfl 8 (by decide) (hts _ q1337) (fun _ h9 => h9) rfl dX4_write_161 ?_
                refine lv_iload hx hb dX4_write_164 (lv_at hl 3 rfl) ?_
                refine lv_iload hx hb dX4_write_166 (lv_at hl 1 rfl) ?_
                obtain ⟨k48, hf⟩ := ck_not hf
                refine va_iast (D := D) hx hb hK hP hD hS 5 0 rfl rfl k48 dX4_write_168 (fun H locs hP hD hS => ?_)
                have hP : va_P D vwCl (WM ca ad lq 0 mday mown mquot mprom mfiles mowner mlinks (upd (upd mblocks ((16 * p1) + p2).toNatClampNeg (r24 + 1)) ((16 * p1) + p2).toNatClampNeg (mblocks ((16 * p1) + p2).toNatClampNeg)) mvals msnaps mranks mkept mshot mwas mholds mheld mends mopen mentr mkinds misop mfilesT mentrT mpromT mlinksT mblocksT mvalsT ++ R) H := hP
                have hD : va_D A (WM ca ad lq 0 mday mown mquot mprom mfiles mowner mlinks (upd (upd mblocks ((16 * p1) + p2).toNatClampNeg (r24 + 1)) ((16 * p1) + p2).toNatClampNeg (mblocks ((16 * p1) + p2).toNatClampNeg)) mvals msnaps mranks mkept mshot mwas mholds mheld mends mopen mentr mkinds misop mfilesT mentrT mpromT mlinksT mblocksT mvalsT ++ R) := hD
                refine lv_aload_n hx hb dX4_write_169 rfl (lv_at hl 4 rfl) ?_
                refine lv_iconst (v := 4) hx hb dX4_write_170 (by decide) ?_
                obtain ⟨⟨r49, mcode_50⟩, h51, hf⟩ := bnd hf
                refine call_vi (rest := []) (m_M_fails l ca ad lq 0 mday mown mquot mprom mfiles mowner mlinks (upd (upd mblocks ((16 * p1) + p2).toNatClampNeg (r24 + 1)) ((16 * p1) + p2).toNatClampNeg (mblocks ((16 * p1) + p2).toNatClampNeg)) mvals msnaps mranks mkept mshot mwas mholds mheld mends mopen mentr mkinds misop mfilesT mentrT mpromT mlinksT mblocksT mvalsT R _ 4 r49 mcode_50 h51) ⟨hx, hb, hml, hown, hts⟩ (cwV 1 hts (gV q1428 q1430 q23 q50 q1431) rfl rfl rfl (by decide +kernel) ⟨Nat.le_of_ble_eq_true rfl, Nat.le_of_ble_eq_true rfl⟩) (va_recv hK hP (ci := 8) (q0 := 0) rfl rfl) hE hP hD hS hA rfl hl.1 rfl (lv_room (Nat.le_of_ble_eq_true rfl)) dX4_write_171 ⟨Nat.le_of_ble_eq_true rfl, Nat.le_of_ble_eq_true rfl⟩ (fun H locs hP hD hS => ?_)
                cases hf
                exact end_i hAe hQm hx hb hr hlocks rfl hP hD hS dX4_write_174
            · have hf := br_neg c23 hf
              refine lv_aload_n hx hb dX4_write_121 rfl (lv_at hl 3 rfl) ?_
              refine lv_iconst (v := 4) hx hb dX4_write_122 (by decide) ?_
              obtain ⟨⟨r52, mcode_53⟩, h54, hf⟩ := bnd hf
              refine call_vi (rest := []) (m_M_fails l ca ad lq 0 mday mown mquot mprom mfiles mowner mlinks mblocks mvals msnaps mranks mkept mshot mwas mholds mheld mends mopen mentr mkinds misop mfilesT mentrT mpromT mlinksT mblocksT mvalsT R _ 4 r52 mcode_53 h54) ⟨hx, hb, hml, hown, hts⟩ (cwV 1 hts (gV q1428 q1430 q23 q50 q1431) rfl rfl rfl (by decide +kernel) ⟨Nat.le_of_ble_eq_true rfl, Nat.le_of_ble_eq_true rfl⟩) (va_recv hK hP (ci := 8) (q0 := 0) rfl rfl) hE hP hD hS hA rfl hl.1 rfl (lv_room (Nat.le_of_ble_eq_true rfl)) dX4_write_123 ⟨Nat.le_of_ble_eq_true rfl, Nat.le_of_ble_eq_true rfl⟩ (fun H locs hP hD hS => ?_)
              cases hf
              exact end_i hAe hQm hx hb hr hlocks rfl hP hD hS dX4_write_126
          · have hf := br_neg c17 hf
            refine lv_aload_n hx hb dX4_write_88 rfl (lv_at hl 3 rfl) ?_
            refine lv_iload hx hb dX4_write_89 (lv_at hl 0 rfl) ?_
            refine lv_iconst (v := 1) hx hb dX4_write_91 (by decide) ?_
            refine lv_isub hx hb dX4_write_92 ?_
            obtain ⟨r55, h56, hf⟩ := bnd hf
            refine call_vi (rest := []) (m_M_users l ca ad lq 0 mday mown mquot mprom mfiles mowner mlinks mblocks mvals msnaps mranks mkept mshot mwas mholds mheld mends mopen mentr mkinds misop mfilesT mentrT mpromT mlinksT mblocksT mvalsT R _ ((mblocks ((16 * p1) + p2).toNatClampNeg) - 1) r55 h56) ⟨hx, hb, hml, hown, hts⟩ (cwV 1 hts (gV q1487 q1489 q30 q50 q1490) rfl rfl rfl (by decide +kernel) ⟨Nat.le_of_ble_eq_true rfl, Nat.le_of_ble_eq_true rfl⟩) (va_recv hK hP (ci := 8) (q0 := 0) rfl rfl) hE hP hD hS hA rfl hl.1 rfl (lv_room (Nat.le_of_ble_eq_true rfl)) dX4_write_93 ⟨Nat.le_of_ble_eq_true rfl, Nat.le_of_ble_eq_true rfl⟩ (fun H locs hP hD hS => ?_)
            refine lv_iconst (v := 1) hx hb dX4_write_96 (by decide) ?_
            refine lv_icmp_le (tgt := 200) hx hb dX4_write_97 (by decide) (fun c57 => ?_) (fun c57 => ?_)
            · have hf := br_pos c57 hf
              refine lv_aload_n hx hb dX4_write_200 rfl (lv_at hl 3 rfl) ?_
              refine va_get (D := D) (ci := 8) (v := .ref (ad 6)) (C := RX4) (T := TX4) (N := 29) hx hb hts inX4 hown hK hP 0 rfl rfl 9 (by decide) (hts _ q1338) (fun _ h9 => h9) rfl dX4_write_201 ?_
              refine lv_aload_n hx hb dX4_write_204 rfl (lv_at hl 3 rfl) ?_
              refine va_get (D := D) (ci := 8) (v := .ref (ad 5)) (C := RX4) (T := TX4) (N := 29) hx hb hts inX4 hown hK hP 0 rfl rfl 8 (by decide) (hts _ q1337) (fun _ h9 => h9) rfl dX4_write_205 ?_
              refine lv_iload hx hb dX4_write_208 (lv_at hl 2 rfl) ?_
              obtain ⟨k58, hf⟩ := ck_not hf
              refine va_iald (D := D) hx hb hK hP 5 0 rfl rfl k58 dX4_write_210 ?_
              refine lv_iconst (v := 1) hx hb dX4_write_211 (by decide) ?_
              refine lv_isub hx hb dX4_write_212 ?_
              refine lv_iload_n hx hb dX4_write_213 rfl (lv_at hl 6 rfl) ?_
              obtain ⟨k59, hf⟩ := ck_not hf
              refine va_iast (D := D) hx hb hK hP hD hS 6 0 rfl rfl k59 dX4_write_214 (fun H locs hP hD hS => ?_)
              have hP : va_P D vwCl (WM ca ad lq 0 mday mown mquot mprom mfiles mowner mlinks mblocks (upd mvals ((mblocks ((16 * p1) + p2).toNatClampNeg) - 1).toNatClampNeg p3) msnaps mranks mkept mshot mwas mholds mheld mends mopen mentr mkinds misop mfilesT mentrT mpromT mlinksT mblocksT mvalsT ++ R) H := hP
              have hD : va_D A (WM ca ad lq 0 mday mown mquot mprom mfiles mowner mlinks mblocks (upd mvals ((mblocks ((16 * p1) + p2).toNatClampNeg) - 1).toNatClampNeg p3) msnaps mranks mkept mshot mwas mholds mheld mends mopen mentr mkinds misop mfilesT mentrT mpromT mlinksT mblocksT mvalsT ++ R) := hD
              refine lv_aload_n hx hb dX4_write_215 rfl (lv_at hl 3 rfl) ?_
              refine lv_bipush (v := 119) hx hb dX4_write_216 (by decide) ?_
              obtain ⟨⟨mentr_60, mkinds_61⟩, h62, hf⟩ := bnd hf
              refine call_vv (rest := []) (m_M_enters l ca ad lq 0 mday mown mquot mprom mfiles mowner mlinks mblocks (upd mvals ((mblocks ((16 * p1) + p2).toNatClampNeg) - 1).toNatClampNeg p3) msnaps mranks mkept mshot mwas mholds mheld mends mopen mentr mkinds misop mfilesT mentrT mpromT mlinksT mblocksT mvalsT R _ 119 mentr_60 mkinds_61 h62) ⟨hx, hb, hml, hown, hts⟩ (cwV 1 hts (gV q1440 q1442 q25 q50 q1443) rfl rfl rfl (by decide +kernel) ⟨Nat.le_of_ble_eq_true rfl, Nat.le_of_ble_eq_true rfl⟩) (va_recv hK hP (ci := 8) (q0 := 0) rfl rfl) hE hP hD hS hA rfl hl.1 rfl (lv_room (Nat.le_of_ble_eq_true rfl)) dX4_write_218 ⟨Nat.le_of_ble_eq_true rfl, Nat.le_of_ble_eq_true rfl⟩ (fun H locs hP hD hS => ?_)
              refine lv_aload_n hx hb dX4_write_221 rfl (lv_at hl 3 rfl) ?_
              refine va_get (D := D) (ci := 8) (v := .ref (ad 5)) (C := RX4) (T := TX4) (N := 29) hx hb hts inX4 hown hK hP 0 rfl rfl 8 (by decide) (hts _ q1337) (fun _ h9 => h9) rfl dX4_write_222 ?_
              refine lv_iload hx hb dX4_write_225 (lv_at hl 2 rfl) ?_
              obtain ⟨k63, hf⟩ := ck_not hf
              refine va_iald (D := D) hx hb hK hP 5 0 rfl rfl k63 dX4_write_227 ?_
              refine lv_iconst (v := 1) hx hb dX4_write_228 (by decide) ?_
              refine lv_isub hx hb dX4_write_229 ?_
              cases hf
              exact end_i hAe hQm hx hb hr hlocks rfl hP hD hS dX4_write_230
            · have hf := br_neg c57 hf
              refine lv_aload_n hx hb dX4_write_100 rfl (lv_at hl 3 rfl) ?_
              obtain ⟨r64, h65, hf⟩ := bnd hf
              refine call_vi (rest := []) (m_M_freeNow l ca ad lq 0 mday mown mquot mprom mfiles mowner mlinks mblocks mvals msnaps mranks mkept mshot mwas mholds mheld mends mopen mentr mkinds misop mfilesT mentrT mpromT mlinksT mblocksT mvalsT R _ r64 h65) ⟨hx, hb, hml, hown, hts⟩ (cwV 0 hts (gV q1491 q1493 q31 q50 q1494) rfl rfl rfl (by decide +kernel) ⟨Nat.le_of_ble_eq_true rfl, Nat.le_of_ble_eq_true rfl⟩) (va_recv hK hP (ci := 8) (q0 := 0) rfl rfl) hE hP hD hS hA rfl hl.1 rfl (lv_room (Nat.le_of_ble_eq_true rfl)) dX4_write_101 ⟨Nat.le_of_ble_eq_true rfl, Nat.le_of_ble_eq_true rfl⟩ (fun H locs hP hD hS => ?_)
              refine lv_aload_n hx hb dX4_write_104 rfl (lv_at hl 3 rfl) ?_
              obtain ⟨r66, h67, hf⟩ := bnd hf
              refine call_vi (rest := [.int r64]) (m_M_promisedNow l ca ad lq 0 mday mown mquot mprom mfiles mowner mlinks mblocks mvals msnaps mranks mkept mshot mwas mholds mheld mends mopen mentr mkinds misop mfilesT mentrT mpromT mlinksT mblocksT mvalsT R _ r66 h67) ⟨hx, hb, hml, hown, hts⟩ (cwV 0 hts (gV q1495 q1497 q32 q50 q1498) rfl rfl rfl (by decide +kernel) ⟨Nat.le_of_ble_eq_true rfl, Nat.le_of_ble_eq_true rfl⟩) (va_recv hK hP (ci := 8) (q0 := 0) rfl rfl) hE hP hD hS hA rfl hl.1 rfl (lv_room (Nat.le_of_ble_eq_true rfl)) dX4_write_105 ⟨Nat.le_of_ble_eq_true rfl, Nat.le_of_ble_eq_true rfl⟩ (fun H locs hP hD hS => ?_)
              refine lv_isub hx hb dX4_write_108 ?_
              refine lv_aload_n hx hb dX4_write_109 rfl (lv_at hl 3 rfl) ?_
              refine va_get (D := D) (ci := 8) (v := .ref (ad 2)) (C := RX4) (T := TX4) (N := 29) hx hb hts inX4 hown hK hP 0 rfl rfl 4 (by decide) (hts _ q1333) (fun _ h9 => h9) rfl dX4_write_110 ?_
              refine lv_iload hx hb dX4_write_113 (lv_at hl 1 rfl) ?_
              obtain ⟨k68, hf⟩ := ck_not hf
              refine va_iald (D := D) hx hb hK hP 2 0 rfl rfl k68 dX4_write_115 ?_
              refine lv_iadd hx hb dX4_write_116 ?_
              refine lv_iconst (v := 1) hx hb dX4_write_117 (by decide) ?_
              refine lv_icmp_ge (tgt := 127) hx hb dX4_write_118 (by decide) (fun c69 => ?_) (fun c69 => ?_)
              · have hf := br_pos c69 hf
                refine lv_aload_n hx hb dX4_write_127 rfl (lv_at hl 3 rfl) ?_
                obtain ⟨r70, h71, hf⟩ := bnd hf
                refine call_vi (rest := []) (m_M_lowestFree l ca ad lq 0 mday mown mquot mprom mfiles mowner mlinks mblocks mvals msnaps mranks mkept mshot mwas mholds mheld mends mopen mentr mkinds misop mfilesT mentrT mpromT mlinksT mblocksT mvalsT R _ r70 h71) ⟨hx, hb, hml, hown, hts⟩ (cwV 0 hts (gV q1499 q1501 q33 q50 q1502) rfl rfl rfl (by decide +kernel) ⟨Nat.le_of_ble_eq_true rfl, Nat.le_of_ble_eq_true rfl⟩) (va_recv hK hP (ci := 8) (q0 := 0) rfl rfl) hE hP hD hS hA rfl hl.1 rfl (lv_room (Nat.le_of_ble_eq_true rfl)) dX4_write_128 ⟨Nat.le_of_ble_eq_true rfl, Nat.le_of_ble_eq_true rfl⟩ (fun H locs hP hD hS => ?_)
                refine lv_istore (lv' := [(7, .int r70), (6, .int (mblocks ((16 * p1) + p2).toNatClampNeg)), (5, .int (mowner p1.toNatClampNeg)), (4, .int ((16 * p1) + p2)), (0, .ref (ad 0)), (1, .int p1), (2, .int p2), (3, .int p3)]) hx hb dX4_write_131 hl (by decide) rfl (fun ls hl => ?_)
                refine lv_aload_n hx hb dX4_write_133 rfl (lv_at hl 4 rfl) ?_
                refine va_get (D := D) (ci := 8) (v := .ref (ad 5)) (C := RX4) (T := TX4) (N := 29) hx hb hts inX4 hown hK hP 0 rfl rfl 8 (by decide) (hts _ q1337) (fun _ h9 => h9) rfl dX4_write_134 ?_
                refine lv_iload hx hb dX4_write_137 (lv_at hl 3 rfl) ?_
                refine lv_iload hx hb dX4_write_139 (lv_at hl 0 rfl) ?_
                refine lv_iconst (v := 1) hx hb dX4_write_141 (by decide) ?_
                refine lv_iadd hx hb dX4_write_142 ?_
                obtain ⟨k72, hf⟩ := ck_not hf
                refine va_iast (D := D) hx hb hK hP hD hS 5 0 rfl rfl k72 dX4_write_143 (fun H locs hP hD hS => ?_)
                have hP : va_P D vwCl (WM ca ad lq 0 mday mown mquot mprom mfiles mowner mlinks (upd mblocks ((16 * p1) + p2).toNatClampNeg (r70 + 1)) mvals msnaps mranks mkept mshot mwas mholds mheld mends mopen mentr mkinds misop mfilesT mentrT mpromT mlinksT mblocksT mvalsT ++ R) H := hP
                have hD : va_D A (WM ca ad lq 0 mday mown mquot mprom mfiles mowner mlinks (upd mblocks ((16 * p1) + p2).toNatClampNeg (r70 + 1)) mvals msnaps mranks mkept mshot mwas mholds mheld mends mopen mentr mkinds misop mfilesT mentrT mpromT mlinksT mblocksT mvalsT ++ R) := hD
                refine lv_aload_n hx hb dX4_write_144 rfl (lv_at hl 4 rfl) ?_
                refine lv_iload hx hb dX4_write_145 (lv_at hl 2 rfl) ?_
                obtain ⟨r73, h74, hf⟩ := bnd hf
                refine call_vi (rest := []) (m_M_countsFor l ca ad lq 0 mday mown mquot mprom mfiles mowner mlinks (upd mblocks ((16 * p1) + p2).toNatClampNeg (r70 + 1)) mvals msnaps mranks mkept mshot mwas mholds mheld mends mopen mentr mkinds misop mfilesT mentrT mpromT mlinksT mblocksT mvalsT R _ (mowner p1.toNatClampNeg) r73 h74) ⟨hx, hb, hml, hown, hts⟩ (cwV 1 hts (gV q1503 q1505 q34 q50 q1506) rfl rfl rfl (by decide +kernel) ⟨Nat.le_of_ble_eq_true rfl, Nat.le_of_ble_eq_true rfl⟩) (va_recv hK hP (ci := 8) (q0 := 0) rfl rfl) hE hP hD hS hA rfl hl.1 rfl (lv_room (Nat.le_of_ble_eq_true rfl)) dX4_write_147 ⟨Nat.le_of_ble_eq_true rfl, Nat.le_of_ble_eq_true rfl⟩ (fun H locs hP hD hS => ?_)
                refine lv_aload_n hx hb dX4_write_150 rfl (lv_at hl 4 rfl) ?_
                refine va_get (D := D) (ci := 8) (v := .ref (ad 1)) (C := RX4) (T := TX4) (N := 29) hx hb hts inX4 hown hK hP 0 rfl rfl 3 (by decide) (hts _ q1332) (fun _ h9 => h9) rfl dX4_write_151 ?_
                refine lv_iload hx hb dX4_write_154 (lv_at hl 2 rfl) ?_
                obtain ⟨k75, hf⟩ := ck_not hf
                refine va_iald (D := D) hx hb hK hP 1 0 rfl rfl k75 dX4_write_156 ?_
                refine lv_icmp_le (tgt := 175) hx hb dX4_write_157 (by decide) (fun c76 => ?_) (fun c76 => ?_)
                · have hf := br_pos c76 hf
                  refine lv_aload_n hx hb dX4_write_175 rfl (lv_at hl 4 rfl) ?_
                  refine va_get (D := D) (ci := 8) (v := .ref (ad 2)) (C := RX4) (T := TX4) (N := 29) hx hb hts inX4 hown hK hP 0 rfl rfl 4 (by decide) (hts _ q1333) (fun _ h9 => h9) rfl dX4_write_176 ?_
                  refine lv_iload hx hb dX4_write_179 (lv_at hl 2 rfl) ?_
                  refine lv_dup2_11 hx hb dX4_write_181 rfl rfl ?_
                  obtain ⟨k77, hf⟩ := ck_not hf
                  refine va_iald (D := D) hx hb hK hP 2 0 rfl rfl k77 dX4_write_182 ?_
                  refine lv_aload_n hx hb dX4_write_183 rfl (lv_at hl 4 rfl) ?_
                  refine va_get (D := D) (ci := 8) (v := .ref (ad 2)) (C := RX4) (T := TX4) (N := 29) hx hb hts inX4 hown hK hP 0 rfl rfl 4 (by decide) (hts _ q1333) (fun _ h9 => h9) rfl dX4_write_184 ?_
                  refine lv_iload hx hb dX4_write_187 (lv_at hl 2 rfl) ?_
                  obtain ⟨k78, hf⟩ := ck_not hf
                  refine va_iald (D := D) hx hb hK hP 2 0 rfl rfl k78 dX4_write_189 ?_
                  refine lv_if_le (tgt := 197) hx hb dX4_write_190 (by decide) (fun c79 => ?_) (fun c79 => ?_)
                  · have hf := br_pos c79 hf
                    refine lv_iconst (v := 0) hx hb dX4_write_197 (by decide) ?_
                    refine lv_isub hx hb dX4_write_198 ?_
                    obtain ⟨k80, hf⟩ := ck_not hf
                    refine va_iast (D := D) hx hb hK hP hD hS 2 0 rfl rfl k80 dX4_write_199 (fun H locs hP hD hS => ?_)
                    have hP : va_P D vwCl (WM ca ad lq 0 mday mown mquot (upd mprom (mowner p1.toNatClampNeg).toNatClampNeg ((mprom (mowner p1.toNatClampNeg).toNatClampNeg) - 0)) mfiles mowner mlinks (upd mblocks ((16 * p1) + p2).toNatClampNeg (r70 + 1)) mvals msnaps mranks mkept mshot mwas mholds mheld mends mopen mentr mkinds misop mfilesT mentrT mpromT mlinksT mblocksT mvalsT ++ R) H := hP
                    have hD : va_D A (WM ca ad lq 0 mday mown mquot (upd mprom (mowner p1.toNatClampNeg).toNatClampNeg ((mprom (mowner p1.toNatClampNeg).toNatClampNeg) - 0)) mfiles mowner mlinks (upd mblocks ((16 * p1) + p2).toNatClampNeg (r70 + 1)) mvals msnaps mranks mkept mshot mwas mholds mheld mends mopen mentr mkinds misop mfilesT mentrT mpromT mlinksT mblocksT mvalsT ++ R) := hD
                    refine lv_aload_n hx hb dX4_write_200 rfl (lv_at hl 4 rfl) ?_
                    refine va_get (D := D) (ci := 8) (v := .ref (ad 6)) (C := RX4) (T := TX4) (N := 29) hx hb hts inX4 hown hK hP 0 rfl rfl 9 (by decide) (hts _ q1338) (fun _ h9 => h9) rfl dX4_write_201 ?_
                    refine lv_aload_n hx hb dX4_write_204 rfl (lv_at hl 4 rfl) ?_
                    refine va_get (D := D) (ci := 8) (v := .ref (ad 5)) (C := RX4) (T := TX4) (N := 29) hx hb hts inX4 hown hK hP 0 rfl rfl 8 (by decide) (hts _ q1337) (fun _ h9 => h9) rfl dX4_write_205 ?_
                    refine lv_iload hx hb dX4_write_208 (lv_at hl 3 rfl) ?_
                    obtain ⟨k81, hf⟩ := ck_not hf
                    refine va_iald (D := D) hx hb hK hP 5 0 rfl rfl k81 dX4_write_210 ?_
                    refine lv_iconst (v := 1) hx hb dX4_write_211 (by decide) ?_
                    refine lv_isub hx hb dX4_write_212 ?_
                    refine lv_iload_n hx hb dX4_write_213 rfl (lv_at hl 7 rfl) ?_
                    obtain ⟨k82, hf⟩ := ck_not hf
                    refine va_iast (D := D) hx hb hK hP hD hS 6 0 rfl rfl k82 dX4_write_214 (fun H locs hP hD hS => ?_)
                    have hP : va_P D vwCl (WM ca ad lq 0 mday mown mquot (upd mprom (mowner p1.toNatClampNeg).toNatClampNeg ((mprom (mowner p1.toNatClampNeg).toNatClampNeg) - 0)) mfiles mowner mlinks (upd mblocks ((16 * p1) + p2).toNatClampNeg (r70 + 1)) (upd mvals (((upd mblocks ((16 * p1) + p2).toNatClampNeg (r70 + 1)) ((16 * p1) + p2).toNatClampNeg) - 1).toNatClampNeg p3) msnaps mranks mkept mshot mwas mholds mheld mends mopen mentr mkinds misop mfilesT mentrT mpromT mlinksT mblocksT mvalsT ++ R) H := hP
                    have hD : va_D A (WM ca ad lq 0 mday mown mquot (upd mprom (mowner p1.toNatClampNeg).toNatClampNeg ((mprom (mowner p1.toNatClampNeg).toNatClampNeg) - 0)) mfiles mowner mlinks (upd mblocks ((16 * p1) + p2).toNatClampNeg (r70 + 1)) (upd mvals (((upd mblocks ((16 * p1) + p2).toNatClampNeg (r70 + 1)) ((16 * p1) + p2).toNatClampNeg) - 1).toNatClampNeg p3) msnaps mranks mkept mshot mwas mholds mheld mends mopen mentr mkinds misop mfilesT mentrT mpromT mlinksT mblocksT mvalsT ++ R) := hD
                    refine lv_aload_n hx hb dX4_write_215 rfl (lv_at hl 4 rfl) ?_
                    refine lv_bipush (v := 119) hx hb dX4_write_216 (by decide) ?_
                    obtain ⟨⟨mentr_83, mkinds_84⟩, h85, hf⟩ := bnd hf
                    refine call_vv (rest := []) (m_M_enters l ca ad lq 0 mday mown mquot (upd mprom (mowner p1.toNatClampNeg).toNatClampNeg ((mprom (mowner p1.toNatClampNeg).toNatClampNeg) - 0)) mfiles mowner mlinks (upd mblocks ((16 * p1) + p2).toNatClampNeg (r70 + 1)) (upd mvals (((upd mblocks ((16 * p1) + p2).toNatClampNeg (r70 + 1)) ((16 * p1) + p2).toNatClampNeg) - 1).toNatClampNeg p3) msnaps mranks mkept mshot mwas mholds mheld mends mopen mentr mkinds misop mfilesT mentrT mpromT mlinksT mblocksT mvalsT R _ 119 mentr_83 mkinds_84 h85) ⟨hx, hb, hml, hown, hts⟩ (cwV 1 hts (gV q1440 q1442 q25 q50 q1443) rfl rfl rfl (by decide +kernel) ⟨Nat.le_of_ble_eq_true rfl, Nat.le_of_ble_eq_true rfl⟩) (va_recv hK hP (ci := 8) (q0 := 0) rfl rfl) hE hP hD hS hA rfl hl.1 rfl (lv_room (Nat.le_of_ble_eq_true rfl)) dX4_write_218 ⟨Nat.le_of_ble_eq_true rfl, Nat.le_of_ble_eq_true rfl⟩ (fun H locs hP hD hS => ?_)
                    refine lv_aload_n hx hb dX4_write_221 rfl (lv_at hl 4 rfl) ?_
                    refine va_get (D := D) (ci := 8) (v := .ref (ad 5)) (C := RX4) (T := TX4) (N := 29) hx hb hts inX4 hown hK hP 0 rfl rfl 8 (by decide) (hts _ q1337) (fun _ h9 => h9) rfl dX4_write_222 ?_
                    refine lv_iload hx hb dX4_write_225 (lv_at hl 3 rfl) ?_
                    obtain ⟨k86, hf⟩ := ck_not hf
                    refine va_iald (D := D) hx hb hK hP 5 0 rfl rfl k86 dX4_write_227 ?_
                    refine lv_iconst (v := 1) hx hb dX4_write_228 (by decide) ?_
                    refine lv_isub hx hb dX4_write_229 ?_
                    cases hf
                    exact end_i hAe hQm hx hb hr hlocks rfl hP hD hS dX4_write_230
                  · have hf := br_neg c79 hf
                    refine lv_iconst (v := 1) hx hb dX4_write_193 (by decide) ?_
                    refine lv_goto (tgt := 198) hx hb dX4_write_194 (by decide) ?_
                    refine lv_isub hx hb dX4_write_198 ?_
                    obtain ⟨k87, hf⟩ := ck_not hf
                    refine va_iast (D := D) hx hb hK hP hD hS 2 0 rfl rfl k87 dX4_write_199 (fun H locs hP hD hS => ?_)
                    have hP : va_P D vwCl (WM ca ad lq 0 mday mown mquot (upd mprom (mowner p1.toNatClampNeg).toNatClampNeg ((mprom (mowner p1.toNatClampNeg).toNatClampNeg) - 1)) mfiles mowner mlinks (upd mblocks ((16 * p1) + p2).toNatClampNeg (r70 + 1)) mvals msnaps mranks mkept mshot mwas mholds mheld mends mopen mentr mkinds misop mfilesT mentrT mpromT mlinksT mblocksT mvalsT ++ R) H := hP
                    have hD : va_D A (WM ca ad lq 0 mday mown mquot (upd mprom (mowner p1.toNatClampNeg).toNatClampNeg ((mprom (mowner p1.toNatClampNeg).toNatClampNeg) - 1)) mfiles mowner mlinks (upd mblocks ((16 * p1) + p2).toNatClampNeg (r70 + 1)) mvals msnaps mranks mkept mshot mwas mholds mheld mends mopen mentr mkinds misop mfilesT mentrT mpromT mlinksT mblocksT mvalsT ++ R) := hD
                    refine lv_aload_n hx hb dX4_write_200 rfl (lv_at hl 4 rfl) ?_
                    refine va_get (D := D) (ci := 8) (v := .ref (ad 6)) (C := RX4) (T := TX4) (N := 29) hx hb hts inX4 hown hK hP 0 rfl rfl 9 (by decide) (hts _ q1338) (fun _ h9 => h9) rfl dX4_write_201 ?_
                    refine lv_aload_n hx hb dX4_write_204 rfl (lv_at hl 4 rfl) ?_
                    refine va_get (D := D) (ci := 8) (v := .ref (ad 5)) (C := RX4) (T := TX4) (N := 29) hx hb hts inX4 hown hK hP 0 rfl rfl 8 (by decide) (hts _ q1337) (fun _ h9 => h9) rfl dX4_write_205 ?_
                    refine lv_iload hx hb dX4_write_208 (lv_at hl 3 rfl) ?_
                    obtain ⟨k88, hf⟩ := ck_not hf
                    refine va_iald (D := D) hx hb hK hP 5 0 rfl rfl k88 dX4_write_210 ?_
                    refine lv_iconst (v := 1) hx hb dX4_write_211 (by decide) ?_
                    refine lv_isub hx hb dX4_write_212 ?_
                    refine lv_iload_n hx hb dX4_write_213 rfl (lv_at hl 7 rfl) ?_
                    obtain ⟨k89, hf⟩ := ck_not hf
                    refine va_iast (D := D) hx hb hK hP hD hS 6 0 rfl rfl k89 dX4_write_214 (fun H locs hP hD hS => ?_)
                    have hP : va_P D vwCl (WM ca ad lq 0 mday mown mquot (upd mprom (mowner p1.toNatClampNeg).toNatClampNeg ((mprom (mowner p1.toNatClampNeg).toNatClampNeg) - 1)) mfiles mowner mlinks (upd mblocks ((16 * p1) + p2).toNatClampNeg (r70 + 1)) (upd mvals (((upd mblocks ((16 * p1) + p2).toNatClampNeg (r70 + 1)) ((16 * p1) + p2).toNatClampNeg) - 1).toNatClampNeg p3) msnaps mranks mkept mshot mwas mholds mheld mends mopen mentr mkinds misop mfilesT mentrT mpromT mlinksT mblocksT mvalsT ++ R) H := hP
                    have hD : va_D A (WM ca ad lq 0 mday mown mquot (upd mprom (mowner p1.toNatClampNeg).toNatClampNeg ((mprom (mowner p1.toNatClampNeg).toNatClampNeg) - 1)) mfiles mowner mlinks (upd mblocks ((16 * p1) + p2).toNatClampNeg (r70 + 1)) (upd mvals (((upd mblocks ((16 * p1) + p2).toNatClampNeg (r70 + 1)) ((16 * p1) + p2).toNatClampNeg) - 1).toNatClampNeg p3) msnaps mranks mkept mshot mwas mholds mheld mends mopen mentr mkinds misop mfilesT mentrT mpromT mlinksT mblocksT mvalsT ++ R) := hD
                    refine lv_aload_n hx hb dX4_write_215 rfl (lv_at hl 4 rfl) ?_
                    refine lv_bipush (v := 119) hx hb dX4_write_216 (by decide) ?_
                    obtain ⟨⟨mentr_90, mkinds_91⟩, h92, hf⟩ := bnd hf
                    refine call_vv (rest := []) (m_M_enters l ca ad lq 0 mday mown mquot (upd mprom (mowner p1.toNatClampNeg).toNatClampNeg ((mprom (mowner p1.toNatClampNeg).toNatClampNeg) - 1)) mfiles mowner mlinks (upd mblocks ((16 * p1) + p2).toNatClampNeg (r70 + 1)) (upd mvals (((upd mblocks ((16 * p1) + p2).toNatClampNeg (r70 + 1)) ((16 * p1) + p2).toNatClampNeg) - 1).toNatClampNeg p3) msnaps mranks mkept mshot mwas mholds mheld mends mopen mentr mkinds misop mfilesT mentrT mpromT mlinksT mblocksT mvalsT R _ 119 mentr_90 mkinds_91 h92) ⟨hx, hb, hml, hown, hts⟩ (cwV 1 hts (gV q1440 q1442 q25 q50 q1443) rfl rfl rfl (by decide +kernel) ⟨Nat.le_of_ble_eq_true rfl, Nat.le_of_ble_eq_true rfl⟩) (va_recv hK hP (ci := 8) (q0 := 0) rfl rfl) hE hP hD hS hA rfl hl.1 rfl (lv_room (Nat.le_of_ble_eq_true rfl)) dX4_write_218 ⟨Nat.le_of_ble_eq_true rfl, Nat.le_of_ble_eq_true rfl⟩ (fun H locs hP hD hS => ?_)
                    refine lv_aload_n hx hb dX4_write_221 rfl (lv_at hl 4 rfl) ?_
                    refine va_get (D := D) (ci := 8) (v := .ref (ad 5)) (C := RX4) (T := TX4) (N := 29) hx hb hts inX4 hown hK hP 0 rfl rfl 8 (by decide) (hts _ q1337) (fun _ h9 => h9) rfl dX4_write_222 ?_
                    refine lv_iload hx hb dX4_write_225 (lv_at hl 3 rfl) ?_
                    obtain ⟨k93, hf⟩ := ck_not hf
                    refine va_iald (D := D) hx hb hK hP 5 0 rfl rfl k93 dX4_write_227 ?_
                    refine lv_iconst (v := 1) hx hb dX4_write_228 (by decide) ?_
                    refine lv_isub hx hb dX4_write_229 ?_
                    cases hf
                    exact end_i hAe hQm hx hb hr hlocks rfl hP hD hS dX4_write_230
                · have hf := br_neg c76 hf
                  refine lv_aload_n hx hb dX4_write_160 rfl (lv_at hl 4 rfl) ?_
                  refine va_get (D := D) (ci := 8) (v := .ref (ad 5)) (C := RX4) (T := TX4) (N := 29) hx hb hts inX4 hown hK hP 0 rfl rfl 8 (by decide) (hts _ q1337) (fun _ h9 => h9) rfl dX4_write_161 ?_
                  refine lv_iload hx hb dX4_write_164 (lv_at hl 3 rfl) ?_
                  refine lv_iload hx hb dX4_write_166 (lv_at hl 1 rfl) ?_
                  obtain ⟨k94, hf⟩ := ck_not hf
                  refine va_iast (D := D) hx hb hK hP hD hS 5 0 rfl rfl k94 dX4_write_168 (fun H locs hP hD hS => ?_)
                  have hP : va_P D vwCl (WM ca ad lq 0 mday mown mquot mprom mfiles mowner mlinks (upd (upd mblocks ((16 * p1) + p2).toNatClampNeg (r70 + 1)) ((16 * p1) + p2).toNatClampNeg (mblocks ((16 * p1) + p2).toNatClampNeg)) mvals msnaps mranks mkept mshot mwas mholds mheld mends mopen mentr mkinds misop mfilesT mentrT mpromT mlinksT mblocksT mvalsT ++ R) H := hP
                  have hD : va_D A (WM ca ad lq 0 mday mown mquot mprom mfiles mowner mlinks (upd (upd mblocks ((16 * p1) + p2).toNatClampNeg (r70 + 1)) ((16 * p1) + p2).toNatClampNeg (mblocks ((16 * p1) + p2).toNatClampNeg)) mvals msnaps mranks mkept mshot mwas mholds mheld mends mopen mentr mkinds misop mfilesT mentrT mpromT mlinksT mblocksT mvalsT ++ R) := hD
                  refine lv_aload_n hx hb dX4_write_169 rfl (lv_at hl 4 rfl) ?_
                  refine lv_iconst (v := 4) hx hb dX4_write_170 (by decide) ?_
                  obtain ⟨⟨r95, mcode_96⟩, h97, hf⟩ := bnd hf
                  refine call_vi (rest := []) (m_M_fails l ca ad lq 0 mday mown mquot mprom mfiles mowner mlinks (upd (upd mblocks ((16 * p1) + p2).toNatClampNeg (r70 + 1)) ((16 * p1) + p2).toNatClampNeg (mblocks ((16 * p1) + p2).toNatClampNeg)) mvals msnaps mranks mkept mshot mwas mholds mheld mends mopen mentr mkinds misop mfilesT mentrT mpromT mlinksT mblocksT mvalsT R _ 4 r95 mcode_96 h97) ⟨hx, hb, hml, hown, hts⟩ (cwV 1 hts (gV q1428 q1430 q23 q50 q1431) rfl rfl rfl (by decide +kernel) ⟨Nat.le_of_ble_eq_true rfl, Nat.le_of_ble_eq_true rfl⟩) (va_recv hK hP (ci := 8) (q0 := 0) rfl rfl) hE hP hD hS hA rfl hl.1 rfl (lv_room (Nat.le_of_ble_eq_true rfl)) dX4_write_171 ⟨Nat.le_of_ble_eq_true rfl, Nat.le_of_ble_eq_true rfl⟩ (fun H locs hP hD hS => ?_)
                  cases hf
                  exact end_i hAe hQm hx hb hr hlocks rfl hP hD hS dX4_write_174
              · have hf := br_neg c69 hf
                refine lv_aload_n hx hb dX4_write_121 rfl (lv_at hl 3 rfl) ?_
                refine lv_iconst (v := 4) hx hb dX4_write_122 (by decide) ?_
                obtain ⟨⟨r98, mcode_99⟩, h100, hf⟩ := bnd hf
                refine call_vi (rest := []) (m_M_fails l ca ad lq 0 mday mown mquot mprom mfiles mowner mlinks mblocks mvals msnaps mranks mkept mshot mwas mholds mheld mends mopen mentr mkinds misop mfilesT mentrT mpromT mlinksT mblocksT mvalsT R _ 4 r98 mcode_99 h100) ⟨hx, hb, hml, hown, hts⟩ (cwV 1 hts (gV q1428 q1430 q23 q50 q1431) rfl rfl rfl (by decide +kernel) ⟨Nat.le_of_ble_eq_true rfl, Nat.le_of_ble_eq_true rfl⟩) (va_recv hK hP (ci := 8) (q0 := 0) rfl rfl) hE hP hD hS hA rfl hl.1 rfl (lv_room (Nat.le_of_ble_eq_true rfl)) dX4_write_123 ⟨Nat.le_of_ble_eq_true rfl, Nat.le_of_ble_eq_true rfl⟩ (fun H locs hP hD hS => ?_)
                cases hf
                exact end_i hAe hQm hx hb hr hlocks rfl hP hD hS dX4_write_126
        · have hf := br_pos c14 hf
          refine lv_aload_n hx hb dX4_write_52 rfl (lv_at hl 0 rfl) ?_
          refine lv_iconst (v := 3) hx hb dX4_write_53 (by decide) ?_
          obtain ⟨⟨r101, mcode_102⟩, h103, hf⟩ := bnd hf
          refine call_vi (rest := []) (m_M_fails l ca ad lq 0 mday mown mquot mprom mfiles mowner mlinks mblocks mvals msnaps mranks mkept mshot mwas mholds mheld mends mopen mentr mkinds misop mfilesT mentrT mpromT mlinksT mblocksT mvalsT R _ 3 r101 mcode_102 h103) ⟨hx, hb, hml, hown, hts⟩ (cwV 1 hts (gV q1428 q1430 q23 q50 q1431) rfl rfl rfl (by decide +kernel) ⟨Nat.le_of_ble_eq_true rfl, Nat.le_of_ble_eq_true rfl⟩) (va_recv hK hP (ci := 8) (q0 := 0) rfl rfl) hE hP hD hS hA rfl hl.1 rfl (lv_room (Nat.le_of_ble_eq_true rfl)) dX4_write_54 ⟨Nat.le_of_ble_eq_true rfl, Nat.le_of_ble_eq_true rfl⟩ (fun H locs hP hD hS => ?_)
          cases hf
          exact end_i hAe hQm hx hb hr hlocks rfl hP hD hS dX4_write_57
      · have hf := br_pos c12 hf
        refine lv_aload_n hx hb dX4_write_37 rfl (lv_at hl 0 rfl) ?_
        refine lv_iconst (v := 2) hx hb dX4_write_38 (by decide) ?_
        obtain ⟨⟨r104, mcode_105⟩, h106, hf⟩ := bnd hf
        refine call_vi (rest := []) (m_M_fails l ca ad lq 0 mday mown mquot mprom mfiles mowner mlinks mblocks mvals msnaps mranks mkept mshot mwas mholds mheld mends mopen mentr mkinds misop mfilesT mentrT mpromT mlinksT mblocksT mvalsT R _ 2 r104 mcode_105 h106) ⟨hx, hb, hml, hown, hts⟩ (cwV 1 hts (gV q1428 q1430 q23 q50 q1431) rfl rfl rfl (by decide +kernel) ⟨Nat.le_of_ble_eq_true rfl, Nat.le_of_ble_eq_true rfl⟩) (va_recv hK hP (ci := 8) (q0 := 0) rfl rfl) hE hP hD hS hA rfl hl.1 rfl (lv_room (Nat.le_of_ble_eq_true rfl)) dX4_write_39 ⟨Nat.le_of_ble_eq_true rfl, Nat.le_of_ble_eq_true rfl⟩ (fun H locs hP hD hS => ?_)
        cases hf
        exact end_i hAe hQm hx hb hr hlocks rfl hP hD hS dX4_write_42
    · have hf := br_pos c9 hf
      refine lv_aload_n hx hb dX4_write_20 rfl (lv_at hl 0 rfl) ?_
      refine lv_iconst (v := 1) hx hb dX4_write_21 (by decide) ?_
      obtain ⟨⟨r107, mcode_108⟩, h109, hf⟩ := bnd hf
      refine call_vi (rest := []) (m_M_fails l ca ad lq 0 mday mown mquot mprom mfiles mowner mlinks mblocks mvals msnaps mranks mkept mshot mwas mholds mheld mends mopen mentr mkinds misop mfilesT mentrT mpromT mlinksT mblocksT mvalsT R _ 1 r107 mcode_108 h109) ⟨hx, hb, hml, hown, hts⟩ (cwV 1 hts (gV q1428 q1430 q23 q50 q1431) rfl rfl rfl (by decide +kernel) ⟨Nat.le_of_ble_eq_true rfl, Nat.le_of_ble_eq_true rfl⟩) (va_recv hK hP (ci := 8) (q0 := 0) rfl rfl) hE hP hD hS hA rfl hl.1 rfl (lv_room (Nat.le_of_ble_eq_true rfl)) dX4_write_22 ⟨Nat.le_of_ble_eq_true rfl, Nat.le_of_ble_eq_true rfl⟩ (fun H locs hP hD hS => ?_)
      cases hf
      exact end_i hAe hQm hx hb hr hlocks rfl hP hD hS dX4_write_25
def f_M_punch (p1 : Int32) (p2 : Int32) (mfiles : Int32) (mlinks : Nat → Int32) (mblocks : Nat → Int32) (mentr : Int32) (mkinds : Nat → Int32) : Option (Int32 × Int32 × (Nat → Int32) × Int32 × (Nat → Int32)) :=
  (f_M_isFile p1 mfiles).bind fun r1 =>
  if r1 = 0 then
    (f_M_fails 1).bind fun (r4, mcode_5) =>
    some (r4, mcode_5, mblocks, mentr, mkinds)
  else
    (f_M_isPlace p2).bind fun r7 =>
    if r7 = 0 then
      (f_M_fails 1).bind fun (r25, mcode_26) =>
      some (r25, mcode_26, mblocks, mentr, mkinds)
    else
      if p1 < 0 ∨ 40 ≤ p1.toNatClampNeg then none else
        if (mlinks p1.toNatClampNeg) = 0 then
        (f_M_fails 2).bind fun (r12, mcode_13) =>
        some (r12, mcode_13, mblocks, mentr, mkinds)
      else
        if ((16 * p1) + p2) < 0 ∨ 640 ≤ ((16 * p1) + p2).toNatClampNeg then none else
          if (mblocks ((16 * p1) + p2).toNatClampNeg) = 0 then
          (f_M_fails 2).bind fun (r22, mcode_23) =>
          some (r22, mcode_23, mblocks, mentr, mkinds)
        else
          if ((16 * p1) + p2) < 0 ∨ 640 ≤ ((16 * p1) + p2).toNatClampNeg then none else
            if ((16 * p1) + p2) < 0 ∨ 640 ≤ ((16 * p1) + p2).toNatClampNeg then none else
            (f_M_enters 104 mentr mkinds).bind fun (mentr_19, mkinds_20) =>
          some (((mblocks ((16 * p1) + p2).toNatClampNeg) - 1), 0, (upd mblocks ((16 * p1) + p2).toNatClampNeg 0), mentr_19, mkinds_20)
set_option maxHeartbeats 4000000 in
set_option maxRecDepth 100000 in
theorem m_M_punch (l : Launch) {D : va_G} {sl : List (String × Nat × String)} (ca : Nat → ClassId) (ad : Nat → Nat) (lq : Nat) (mcode : Int32) (mday : Int32) (mown : Int32) (mquot : Nat → Int32) (mprom : Nat → Int32) (mfiles : Int32) (mowner : Nat → Int32) (mlinks : Nat → Int32) (mblocks : Nat → Int32) (mvals : Nat → Int32) (msnaps : Int32) (mranks : Nat → Int32) (mkept : Nat → Int32) (mshot : Nat → Int32) (mwas : Nat → Int32) (mholds : Int32) (mheld : Nat → Int32) (mends : Nat → Int32) (mopen : Nat → Int32) (mentr : Int32) (mkinds : Nat → Int32) (misop : Int32) (mfilesT : Int32) (mentrT : Int32) (mpromT : Nat → Int32) (mlinksT : Nat → Int32) (mblocksT : Nat → Int32) (mvalsT : Nat → Int32) (R : va_W) (sz : Nat) (p1 : Int32) (p2 : Int32) (ro : Int32) (omcode : Int32) (omblocks : Nat → Int32) (omentr : Int32) (omkinds : Nat → Int32) (hf : f_M_punch p1 p2 mfiles mlinks mblocks mentr mkinds = some (ro, omcode, omblocks, omentr, omkinds)) : Met l yX4_punch (wm yX4_punch cX4_punch 5 (some .int)) ({ frames := 2, cells := 0, slots := 0, locals := 43 } : Room) (PRE [.ref (ad 0), .int p1, .int p2] D ca sl (WM ca ad lq mcode mday mown mquot mprom mfiles mowner mlinks mblocks mvals msnaps mranks mkept mshot mwas mholds mheld mends mopen mentr mkinds misop mfilesT mentrT mpromT mlinksT mblocksT mvalsT ++ R) sz) (QI ro D (WM ca ad lq omcode mday mown mquot mprom mfiles mowner mlinks omblocks mvals msnaps mranks mkept mshot mwas mholds mheld mends mopen omentr omkinds misop mfilesT mentrT mpromT mlinksT mblocksT mvalsT ++ R) (WM ca ad lq mcode mday mown mquot mprom mfiles mowner mlinks mblocks mvals msnaps mranks mkept mshot mwas mholds mheld mends mopen mentr mkinds misop mfilesT mentrT mpromT mlinksT mblocksT mvalsT ++ R) sz) 0 0 (va_A (WM ca ad lq mcode mday mown mquot mprom mfiles mowner mlinks mblocks mvals msnaps mranks mkept mshot mwas mholds mheld mends mopen mentr mkinds misop mfilesT mentrT mpromT mlinksT mblocksT mvalsT ++ R) sz) := by
  refine Met.ofW (cc := cX4_punch) (maxL := 5) (ret := (some .int)) (by decide) rfl ?_
  intro p e s m args below meth c s₁ B hml hv
  obtain ⟨rfl, rfl, hP, hE, hD0⟩ := hv
  have hx := B.exec
  have hb := B.bytes
  have hr := B.returns
  have hts := wm_ww (atoms_spec (ws := wm yX4_punch cX4_punch 5 (some .int)) B.pre)
  have hown : s.vm.findClass RX4 = some m.cls := findClass_of_methodNamed B.named
  have hlocks := B.notSynchronized
  have hK := hE.1
  have hD := hD0.self (sz := s.heap.size)
  generalize hAe : va_A (WM ca ad lq mcode mday mown mquot mprom mfiles mowner mlinks mblocks mvals msnaps mranks mkept mshot mwas mholds mheld mends mopen mentr mkinds misop mfilesT mentrT mpromT mlinksT mblocksT mvalsT ++ R) s.heap.size = A at hD ⊢
  have hA : ∀ q : Nat, s.heap.size ≤ q → A q := fun q h => by rw [← hAe]; exact Or.inr h
  have hS : va_S A s.heap s.heap [] := va_S.rf
  have hl := lv_entry ([.ref (ad 0), .int p1, .int p2]) (n := 5) (Nat.le_of_ble_eq_true rfl)
  rw [lg_entry_eq]
  generalize (lg_sl ([.ref (ad 0), .int p1, .int p2]) ++ List.replicate (5 - (lg_sl ([.ref (ad 0), .int p1, .int p2])).length) Slot.unset).toArray = ls at hl ⊢
  have hl : lv_has ls 5 [(0, .ref (ad 0)), (1, .int p1), (2, .int p2)] := hl
  change W p l e ({ frames := 2, cells := 0, slots := 0, locals := 43 } : Room) s m _ below meth c s.heap [] 0 0 _ _
  generalize hQm : MQ below (QI ro D (WM ca ad lq omcode mday mown mquot mprom mfiles mowner mlinks omblocks mvals msnaps mranks mkept mshot mwas mholds mheld mends mopen omentr omkinds misop mfilesT mentrT mpromT mlinksT mblocksT mvalsT ++ R) (WM ca ad lq mcode mday mown mquot mprom mfiles mowner mlinks mblocks mvals msnaps mranks mkept mshot mwas mholds mheld mends mopen mentr mkinds misop mfilesT mentrT mpromT mlinksT mblocksT mvalsT ++ R) s.heap.size) _ s 0 0 A = Qm
  have hP : va_P D vwCl (WM ca ad lq mcode mday mown mquot mprom mfiles mowner mlinks mblocks mvals msnaps mranks mkept mshot mwas mholds mheld mends mopen mentr mkinds misop mfilesT mentrT mpromT mlinksT mblocksT mvalsT ++ R) s.heap := hP
  generalize hae : ([.ref (ad 0), .int p1, .int p2] : List Value).toArray = args at hts hQm ⊢
  refine lv_aload_n hx hb dX4_punch_0 rfl (lv_at hl 0 rfl) ?_
  refine lv_iconst (v := 0) hx hb dX4_punch_1 (by decide) ?_
  refine va_put (D := D) (ci := 8) (v := .int 0) (ty := .int) (C := RX4) (T := TX4) (N := 29) hx hb hts inX4 tyX4 tyX4_ok nmX4 hown hK hP hD hS 0 rfl rfl 0 (by decide) (hts _ q1329) (fun _ h9 => h9) rfl (by decide +kernel) rfl rfl (Nat.le_of_ble_eq_true rfl) dX4_punch_2 (fun H locs hP hD hS => ?_)
  have hP : va_P D vwCl (WM ca ad lq 0 mday mown mquot mprom mfiles mowner mlinks mblocks mvals msnaps mranks mkept mshot mwas mholds mheld mends mopen mentr mkinds misop mfilesT mentrT mpromT mlinksT mblocksT mvalsT ++ R) H := hP
  have hD : va_D A (WM ca ad lq 0 mday mown mquot mprom mfiles mowner mlinks mblocks mvals msnaps mranks mkept mshot mwas mholds mheld mends mopen mentr mkinds misop mfilesT mentrT mpromT mlinksT mblocksT mvalsT ++ R) := hD
  refine lv_aload_n hx hb dX4_punch_5 rfl (lv_at hl 0 rfl) ?_
  refine lv_iload_n hx hb dX4_punch_6 rfl (lv_at hl 1 rfl) ?_
  obtain ⟨r1, h2, hf⟩ := bnd hf
  refine call_vi (rest := []) (m_M_isFile l ca ad lq 0 mday mown mquot mprom mfiles mowner mlinks mblocks mvals msnaps mranks mkept mshot mwas mholds mheld mends mopen mentr mkinds misop mfilesT mentrT mpromT mlinksT mblocksT mvalsT R _ p1 r1 h2) ⟨hx, hb, hml, hown, hts⟩ (cwV 1 hts (gV q1452 q1454 q26 q50 q1455) rfl rfl rfl (by decide +kernel) ⟨Nat.le_of_ble_eq_true rfl, Nat.le_of_ble_eq_true rfl⟩) (va_recv hK hP (ci := 8) (q0 := 0) rfl rfl) hE hP hD hS hA rfl hl.1 rfl (lv_room (Nat.le_of_ble_eq_true rfl)) dX4_punch_7 ⟨Nat.le_of_ble_eq_true rfl, Nat.le_of_ble_eq_true rfl⟩ (fun H locs hP hD hS => ?_)
  refine lv_if_eq (tgt := 20) hx hb dX4_punch_10 (by decide) (fun c3 => ?_) (fun c3 => ?_)
  · have hf := br_pos c3 hf
    refine lv_aload_n hx hb dX4_punch_20 rfl (lv_at hl 0 rfl) ?_
    refine lv_iconst (v := 1) hx hb dX4_punch_21 (by decide) ?_
    obtain ⟨⟨r4, mcode_5⟩, h6, hf⟩ := bnd hf
    refine call_vi (rest := []) (m_M_fails l ca ad lq 0 mday mown mquot mprom mfiles mowner mlinks mblocks mvals msnaps mranks mkept mshot mwas mholds mheld mends mopen mentr mkinds misop mfilesT mentrT mpromT mlinksT mblocksT mvalsT R _ 1 r4 mcode_5 h6) ⟨hx, hb, hml, hown, hts⟩ (cwV 1 hts (gV q1428 q1430 q23 q50 q1431) rfl rfl rfl (by decide +kernel) ⟨Nat.le_of_ble_eq_true rfl, Nat.le_of_ble_eq_true rfl⟩) (va_recv hK hP (ci := 8) (q0 := 0) rfl rfl) hE hP hD hS hA rfl hl.1 rfl (lv_room (Nat.le_of_ble_eq_true rfl)) dX4_punch_22 ⟨Nat.le_of_ble_eq_true rfl, Nat.le_of_ble_eq_true rfl⟩ (fun H locs hP hD hS => ?_)
    cases hf
    exact end_i hAe hQm hx hb hr hlocks rfl hP hD hS dX4_punch_25
  · have hf := br_neg c3 hf
    refine lv_iload_n hx hb dX4_punch_13 rfl (lv_at hl 2 rfl) ?_
    obtain ⟨r7, h8, hf⟩ := bnd hf
    refine call_si (rest := []) (m_M_isPlace l ca ad lq 0 mday mown mquot mprom mfiles mowner mlinks mblocks mvals msnaps mranks mkept mshot mwas mholds mheld mends mopen mentr mkinds misop mfilesT mentrT mpromT mlinksT mblocksT mvalsT R _ p2 r7 h8) ⟨hx, hb, hml, hown, hts⟩ (va_cwS 1 hts (gS q1484 q1485 q50 q1486) rfl rfl rfl (by decide +kernel) ⟨Nat.le_of_ble_eq_true rfl, Nat.le_of_ble_eq_true rfl⟩) hE hP hD hS hA rfl hl.1 rfl (lv_room (Nat.le_of_ble_eq_true rfl)) dX4_punch_14 ⟨Nat.le_of_ble_eq_true rfl, Nat.le_of_ble_eq_true rfl⟩ (fun H locs hP hD hS => ?_)
    refine lv_if_ne (tgt := 26) hx hb dX4_punch_17 (by decide) (fun c9 => ?_) (fun c9 => ?_)
    · have hf := br_neg c9 hf
      refine lv_bipush (v := 16) hx hb dX4_punch_26 (by decide) ?_
      refine lv_iload_n hx hb dX4_punch_28 rfl (lv_at hl 1 rfl) ?_
      refine lv_imul hx hb dX4_punch_29 ?_
      refine lv_iload_n hx hb dX4_punch_30 rfl (lv_at hl 2 rfl) ?_
      refine lv_iadd hx hb dX4_punch_31 ?_
      refine lv_istore_n (lv' := [(3, .int ((16 * p1) + p2)), (0, .ref (ad 0)), (1, .int p1), (2, .int p2)]) hx hb dX4_punch_32 rfl hl (by decide) rfl (fun ls hl => ?_)
      refine lv_aload_n hx hb dX4_punch_33 rfl (lv_at hl 1 rfl) ?_
      refine va_get (D := D) (ci := 8) (v := .ref (ad 4)) (C := RX4) (T := TX4) (N := 29) hx hb hts inX4 hown hK hP 0 rfl rfl 7 (by decide) (hts _ q1336) (fun _ h9 => h9) rfl dX4_punch_34 ?_
      refine lv_iload_n hx hb dX4_punch_37 rfl (lv_at hl 2 rfl) ?_
      obtain ⟨k10, hf⟩ := ck_not hf
      refine va_iald (D := D) hx hb hK hP 4 0 rfl rfl k10 dX4_punch_38 ?_
      refine lv_if_eq (tgt := 51) hx hb dX4_punch_39 (by decide) (fun c11 => ?_) (fun c11 => ?_)
      · have hf := br_pos c11 hf
        refine lv_aload_n hx hb dX4_punch_51 rfl (lv_at hl 1 rfl) ?_
        refine lv_iconst (v := 2) hx hb dX4_punch_52 (by decide) ?_
        obtain ⟨⟨r12, mcode_13⟩, h14, hf⟩ := bnd hf
        refine call_vi (rest := []) (m_M_fails l ca ad lq 0 mday mown mquot mprom mfiles mowner mlinks mblocks mvals msnaps mranks mkept mshot mwas mholds mheld mends mopen mentr mkinds misop mfilesT mentrT mpromT mlinksT mblocksT mvalsT R _ 2 r12 mcode_13 h14) ⟨hx, hb, hml, hown, hts⟩ (cwV 1 hts (gV q1428 q1430 q23 q50 q1431) rfl rfl rfl (by decide +kernel) ⟨Nat.le_of_ble_eq_true rfl, Nat.le_of_ble_eq_true rfl⟩) (va_recv hK hP (ci := 8) (q0 := 0) rfl rfl) hE hP hD hS hA rfl hl.1 rfl (lv_room (Nat.le_of_ble_eq_true rfl)) dX4_punch_53 ⟨Nat.le_of_ble_eq_true rfl, Nat.le_of_ble_eq_true rfl⟩ (fun H locs hP hD hS => ?_)
        cases hf
        exact end_i hAe hQm hx hb hr hlocks rfl hP hD hS dX4_punch_56
      · have hf := br_neg c11 hf
        refine lv_aload_n hx hb dX4_punch_42 rfl (lv_at hl 1 rfl) ?_
        refine va_get (D := D) (ci := 8) (v := .ref (ad 5)) (C := RX4) (T := TX4) (N := 29) hx hb hts inX4 hown hK hP 0 rfl rfl 8 (by decide) (hts _ q1337) (fun _ h9 => h9) rfl dX4_punch_43 ?_
        refine lv_iload_n hx hb dX4_punch_46 rfl (lv_at hl 0 rfl) ?_
        obtain ⟨k15, hf⟩ := ck_not hf
        refine va_iald (D := D) hx hb hK hP 5 0 rfl rfl k15 dX4_punch_47 ?_
        refine lv_if_ne (tgt := 57) hx hb dX4_punch_48 (by decide) (fun c16 => ?_) (fun c16 => ?_)
        · have hf := br_neg c16 hf
          refine lv_aload_n hx hb dX4_punch_57 rfl (lv_at hl 1 rfl) ?_
          refine va_get (D := D) (ci := 8) (v := .ref (ad 5)) (C := RX4) (T := TX4) (N := 29) hx hb hts inX4 hown hK hP 0 rfl rfl 8 (by decide) (hts _ q1337) (fun _ h9 => h9) rfl dX4_punch_58 ?_
          refine lv_iload_n hx hb dX4_punch_61 rfl (lv_at hl 0 rfl) ?_
          obtain ⟨k17, hf⟩ := ck_not hf
          refine va_iald (D := D) hx hb hK hP 5 0 rfl rfl k17 dX4_punch_62 ?_
          refine lv_istore (lv' := [(4, .int (mblocks ((16 * p1) + p2).toNatClampNeg)), (3, .int ((16 * p1) + p2)), (0, .ref (ad 0)), (1, .int p1), (2, .int p2)]) hx hb dX4_punch_63 hl (by decide) rfl (fun ls hl => ?_)
          refine lv_aload_n hx hb dX4_punch_65 rfl (lv_at hl 2 rfl) ?_
          refine va_get (D := D) (ci := 8) (v := .ref (ad 5)) (C := RX4) (T := TX4) (N := 29) hx hb hts inX4 hown hK hP 0 rfl rfl 8 (by decide) (hts _ q1337) (fun _ h9 => h9) rfl dX4_punch_66 ?_
          refine lv_iload_n hx hb dX4_punch_69 rfl (lv_at hl 1 rfl) ?_
          refine lv_iconst (v := 0) hx hb dX4_punch_70 (by decide) ?_
          obtain ⟨k18, hf⟩ := ck_not hf
          refine va_iast (D := D) hx hb hK hP hD hS 5 0 rfl rfl k18 dX4_punch_71 (fun H locs hP hD hS => ?_)
          have hP : va_P D vwCl (WM ca ad lq 0 mday mown mquot mprom mfiles mowner mlinks (upd mblocks ((16 * p1) + p2).toNatClampNeg 0) mvals msnaps mranks mkept mshot mwas mholds mheld mends mopen mentr mkinds misop mfilesT mentrT mpromT mlinksT mblocksT mvalsT ++ R) H := hP
          have hD : va_D A (WM ca ad lq 0 mday mown mquot mprom mfiles mowner mlinks (upd mblocks ((16 * p1) + p2).toNatClampNeg 0) mvals msnaps mranks mkept mshot mwas mholds mheld mends mopen mentr mkinds misop mfilesT mentrT mpromT mlinksT mblocksT mvalsT ++ R) := hD
          refine lv_aload_n hx hb dX4_punch_72 rfl (lv_at hl 2 rfl) ?_
          refine lv_bipush (v := 104) hx hb dX4_punch_73 (by decide) ?_
          obtain ⟨⟨mentr_19, mkinds_20⟩, h21, hf⟩ := bnd hf
          refine call_vv (rest := []) (m_M_enters l ca ad lq 0 mday mown mquot mprom mfiles mowner mlinks (upd mblocks ((16 * p1) + p2).toNatClampNeg 0) mvals msnaps mranks mkept mshot mwas mholds mheld mends mopen mentr mkinds misop mfilesT mentrT mpromT mlinksT mblocksT mvalsT R _ 104 mentr_19 mkinds_20 h21) ⟨hx, hb, hml, hown, hts⟩ (cwV 1 hts (gV q1440 q1442 q25 q50 q1443) rfl rfl rfl (by decide +kernel) ⟨Nat.le_of_ble_eq_true rfl, Nat.le_of_ble_eq_true rfl⟩) (va_recv hK hP (ci := 8) (q0 := 0) rfl rfl) hE hP hD hS hA rfl hl.1 rfl (lv_room (Nat.le_of_ble_eq_true rfl)) dX4_punch_75 ⟨Nat.le_of_ble_eq_true rfl, Nat.le_of_ble_eq_true rfl⟩ (fun H locs hP hD hS => ?_)
          refine lv_iload hx hb dX4_punch_78 (lv_at hl 0 rfl) ?_
          refine lv_iconst (v := 1) hx hb dX4_punch_80 (by decide) ?_
          refine lv_isub hx hb dX4_punch_81 ?_
          cases hf
          exact end_i hAe hQm hx hb hr hlocks rfl hP hD hS dX4_punch_82
        · have hf := br_pos c16 hf
          refine lv_aload_n hx hb dX4_punch_51 rfl (lv_at hl 1 rfl) ?_
          refine lv_iconst (v := 2) hx hb dX4_punch_52 (by decide) ?_
          obtain ⟨⟨r22, mcode_23⟩, h24, hf⟩ := bnd hf
          refine call_vi (rest := []) (m_M_fails l ca ad lq 0 mday mown mquot mprom mfiles mowner mlinks mblocks mvals msnaps mranks mkept mshot mwas mholds mheld mends mopen mentr mkinds misop mfilesT mentrT mpromT mlinksT mblocksT mvalsT R _ 2 r22 mcode_23 h24) ⟨hx, hb, hml, hown, hts⟩ (cwV 1 hts (gV q1428 q1430 q23 q50 q1431) rfl rfl rfl (by decide +kernel) ⟨Nat.le_of_ble_eq_true rfl, Nat.le_of_ble_eq_true rfl⟩) (va_recv hK hP (ci := 8) (q0 := 0) rfl rfl) hE hP hD hS hA rfl hl.1 rfl (lv_room (Nat.le_of_ble_eq_true rfl)) dX4_punch_53 ⟨Nat.le_of_ble_eq_true rfl, Nat.le_of_ble_eq_true rfl⟩ (fun H locs hP hD hS => ?_)
          cases hf
          exact end_i hAe hQm hx hb hr hlocks rfl hP hD hS dX4_punch_56
    · have hf := br_pos c9 hf
      refine lv_aload_n hx hb dX4_punch_20 rfl (lv_at hl 0 rfl) ?_
      refine lv_iconst (v := 1) hx hb dX4_punch_21 (by decide) ?_
      obtain ⟨⟨r25, mcode_26⟩, h27, hf⟩ := bnd hf
      refine call_vi (rest := []) (m_M_fails l ca ad lq 0 mday mown mquot mprom mfiles mowner mlinks mblocks mvals msnaps mranks mkept mshot mwas mholds mheld mends mopen mentr mkinds misop mfilesT mentrT mpromT mlinksT mblocksT mvalsT R _ 1 r25 mcode_26 h27) ⟨hx, hb, hml, hown, hts⟩ (cwV 1 hts (gV q1428 q1430 q23 q50 q1431) rfl rfl rfl (by decide +kernel) ⟨Nat.le_of_ble_eq_true rfl, Nat.le_of_ble_eq_true rfl⟩) (va_recv hK hP (ci := 8) (q0 := 0) rfl rfl) hE hP hD hS hA rfl hl.1 rfl (lv_room (Nat.le_of_ble_eq_true rfl)) dX4_punch_22 ⟨Nat.le_of_ble_eq_true rfl, Nat.le_of_ble_eq_true rfl⟩ (fun H locs hP hD hS => ?_)
      cases hf
      exact end_i hAe hQm hx hb hr hlocks rfl hP hD hS dX4_punch_25
def f_M_read (p1 : Int32) (p2 : Int32) (mfiles : Int32) (mblocks : Nat → Int32) (mvals : Nat → Int32) : Option (Int32 × Int32) :=
  (f_M_isFile p1 mfiles).bind fun r1 =>
  if r1 = 0 then
    (f_M_fails 1).bind fun (r4, mcode_5) =>
    some (r4, mcode_5)
  else
    (f_M_isPlace p2).bind fun r7 =>
    if r7 = 0 then
      (f_M_fails 1).bind fun (r16, mcode_17) =>
      some (r16, mcode_17)
    else
      if ((16 * p1) + p2) < 0 ∨ 640 ≤ ((16 * p1) + p2).toNatClampNeg then none else
        if (mblocks ((16 * p1) + p2).toNatClampNeg) = 0 then
        (f_M_fails 2).bind fun (r13, mcode_14) =>
        some (r13, mcode_14)
      else
        if ((mblocks ((16 * p1) + p2).toNatClampNeg) - 1) < 0 ∨ 64 ≤ ((mblocks ((16 * p1) + p2).toNatClampNeg) - 1).toNatClampNeg then none else
          some ((mvals ((mblocks ((16 * p1) + p2).toNatClampNeg) - 1).toNatClampNeg), 0)
set_option maxHeartbeats 4000000 in
set_option maxRecDepth 100000 in
theorem m_M_read (l : Launch) {D : va_G} {sl : List (String × Nat × String)} (ca : Nat → ClassId) (ad : Nat → Nat) (lq : Nat) (mcode : Int32) (mday : Int32) (mown : Int32) (mquot : Nat → Int32) (mprom : Nat → Int32) (mfiles : Int32) (mowner : Nat → Int32) (mlinks : Nat → Int32) (mblocks : Nat → Int32) (mvals : Nat → Int32) (msnaps : Int32) (mranks : Nat → Int32) (mkept : Nat → Int32) (mshot : Nat → Int32) (mwas : Nat → Int32) (mholds : Int32) (mheld : Nat → Int32) (mends : Nat → Int32) (mopen : Nat → Int32) (mentr : Int32) (mkinds : Nat → Int32) (misop : Int32) (mfilesT : Int32) (mentrT : Int32) (mpromT : Nat → Int32) (mlinksT : Nat → Int32) (mblocksT : Nat → Int32) (mvalsT : Nat → Int32) (R : va_W) (sz : Nat) (p1 : Int32) (p2 : Int32) (ro : Int32) (omcode : Int32) (hf : f_M_read p1 p2 mfiles mblocks mvals = some (ro, omcode)) : Met l yX4_read (wm yX4_read cX4_read 4 (some .int)) ({ frames := 2, cells := 0, slots := 0, locals := 43 } : Room) (PRE [.ref (ad 0), .int p1, .int p2] D ca sl (WM ca ad lq mcode mday mown mquot mprom mfiles mowner mlinks mblocks mvals msnaps mranks mkept mshot mwas mholds mheld mends mopen mentr mkinds misop mfilesT mentrT mpromT mlinksT mblocksT mvalsT ++ R) sz) (QI ro D (WM ca ad lq omcode mday mown mquot mprom mfiles mowner mlinks mblocks mvals msnaps mranks mkept mshot mwas mholds mheld mends mopen mentr mkinds misop mfilesT mentrT mpromT mlinksT mblocksT mvalsT ++ R) (WM ca ad lq mcode mday mown mquot mprom mfiles mowner mlinks mblocks mvals msnaps mranks mkept mshot mwas mholds mheld mends mopen mentr mkinds misop mfilesT mentrT mpromT mlinksT mblocksT mvalsT ++ R) sz) 0 0 (va_A (WM ca ad lq mcode mday mown mquot mprom mfiles mowner mlinks mblocks mvals msnaps mranks mkept mshot mwas mholds mheld mends mopen mentr mkinds misop mfilesT mentrT mpromT mlinksT mblocksT mvalsT ++ R) sz) := by
  refine Met.ofW (cc := cX4_read) (maxL := 4) (ret := (some .int)) (by decide) rfl ?_
  intro p e s m args below meth c s₁ B hml hv
  obtain ⟨rfl, rfl, hP, hE, hD0⟩ := hv
  have hx := B.exec
  have hb := B.bytes
  have hr := B.returns
  have hts := wm_ww (atoms_spec (ws := wm yX4_read cX4_read 4 (some .int)) B.pre)
  have hown : s.vm.findClass RX4 = some m.cls := findClass_of_methodNamed B.named
  have hlocks := B.notSynchronized
  have hK := hE.1
  have hD := hD0.self (sz := s.heap.size)
  generalize hAe : va_A (WM ca ad lq mcode mday mown mquot mprom mfiles mowner mlinks mblocks mvals msnaps mranks mkept mshot mwas mholds mheld mends mopen mentr mkinds misop mfilesT mentrT mpromT mlinksT mblocksT mvalsT ++ R) s.heap.size = A at hD ⊢
  have hA : ∀ q : Nat, s.heap.size ≤ q → A q := fun q h => by rw [← hAe]; exact Or.inr h
  have hS : va_S A s.heap s.heap [] := va_S.rf
  have hl := lv_entry ([.ref (ad 0), .int p1, .int p2]) (n := 4) (Nat.le_of_ble_eq_true rfl)
  rw [lg_entry_eq]
  generalize (lg_sl ([.ref (ad 0), .int p1, .int p2]) ++ List.replicate (4 - (lg_sl ([.ref (ad 0), .int p1, .int p2])).length) Slot.unset).toArray = ls at hl ⊢
  have hl : lv_has ls 4 [(0, .ref (ad 0)), (1, .int p1), (2, .int p2)] := hl
  change W p l e ({ frames := 2, cells := 0, slots := 0, locals := 43 } : Room) s m _ below meth c s.heap [] 0 0 _ _
  generalize hQm : MQ below (QI ro D (WM ca ad lq omcode mday mown mquot mprom mfiles mowner mlinks mblocks mvals msnaps mranks mkept mshot mwas mholds mheld mends mopen mentr mkinds misop mfilesT mentrT mpromT mlinksT mblocksT mvalsT ++ R) (WM ca ad lq mcode mday mown mquot mprom mfiles mowner mlinks mblocks mvals msnaps mranks mkept mshot mwas mholds mheld mends mopen mentr mkinds misop mfilesT mentrT mpromT mlinksT mblocksT mvalsT ++ R) s.heap.size) _ s 0 0 A = Qm
  have hP : va_P D vwCl (WM ca ad lq mcode mday mown mquot mprom mfiles mowner mlinks mblocks mvals msnaps mranks mkept mshot mwas mholds mheld mends mopen mentr mkinds misop mfilesT mentrT mpromT mlinksT mblocksT mvalsT ++ R) s.heap := hP
  generalize hae : ([.ref (ad 0), .int p1, .int p2] : List Value).toArray = args at hts hQm ⊢
  refine lv_aload_n hx hb dX4_read_0 rfl (lv_at hl 0 rfl) ?_
  refine lv_iconst (v := 0) hx hb dX4_read_1 (by decide) ?_
  refine va_put (D := D) (ci := 8) (v := .int 0) (ty := .int) (C := RX4) (T := TX4) (N := 29) hx hb hts inX4 tyX4 tyX4_ok nmX4 hown hK hP hD hS 0 rfl rfl 0 (by decide) (hts _ q1329) (fun _ h9 => h9) rfl (by decide +kernel) rfl rfl (Nat.le_of_ble_eq_true rfl) dX4_read_2 (fun H locs hP hD hS => ?_)
  have hP : va_P D vwCl (WM ca ad lq 0 mday mown mquot mprom mfiles mowner mlinks mblocks mvals msnaps mranks mkept mshot mwas mholds mheld mends mopen mentr mkinds misop mfilesT mentrT mpromT mlinksT mblocksT mvalsT ++ R) H := hP
  have hD : va_D A (WM ca ad lq 0 mday mown mquot mprom mfiles mowner mlinks mblocks mvals msnaps mranks mkept mshot mwas mholds mheld mends mopen mentr mkinds misop mfilesT mentrT mpromT mlinksT mblocksT mvalsT ++ R) := hD
  refine lv_aload_n hx hb dX4_read_5 rfl (lv_at hl 0 rfl) ?_
  refine lv_iload_n hx hb dX4_read_6 rfl (lv_at hl 1 rfl) ?_
  obtain ⟨r1, h2, hf⟩ := bnd hf
  refine call_vi (rest := []) (m_M_isFile l ca ad lq 0 mday mown mquot mprom mfiles mowner mlinks mblocks mvals msnaps mranks mkept mshot mwas mholds mheld mends mopen mentr mkinds misop mfilesT mentrT mpromT mlinksT mblocksT mvalsT R _ p1 r1 h2) ⟨hx, hb, hml, hown, hts⟩ (cwV 1 hts (gV q1452 q1454 q26 q50 q1455) rfl rfl rfl (by decide +kernel) ⟨Nat.le_of_ble_eq_true rfl, Nat.le_of_ble_eq_true rfl⟩) (va_recv hK hP (ci := 8) (q0 := 0) rfl rfl) hE hP hD hS hA rfl hl.1 rfl (lv_room (Nat.le_of_ble_eq_true rfl)) dX4_read_7 ⟨Nat.le_of_ble_eq_true rfl, Nat.le_of_ble_eq_true rfl⟩ (fun H locs hP hD hS => ?_)
  refine lv_if_eq (tgt := 20) hx hb dX4_read_10 (by decide) (fun c3 => ?_) (fun c3 => ?_)
  · have hf := br_pos c3 hf
    refine lv_aload_n hx hb dX4_read_20 rfl (lv_at hl 0 rfl) ?_
    refine lv_iconst (v := 1) hx hb dX4_read_21 (by decide) ?_
    obtain ⟨⟨r4, mcode_5⟩, h6, hf⟩ := bnd hf
    refine call_vi (rest := []) (m_M_fails l ca ad lq 0 mday mown mquot mprom mfiles mowner mlinks mblocks mvals msnaps mranks mkept mshot mwas mholds mheld mends mopen mentr mkinds misop mfilesT mentrT mpromT mlinksT mblocksT mvalsT R _ 1 r4 mcode_5 h6) ⟨hx, hb, hml, hown, hts⟩ (cwV 1 hts (gV q1428 q1430 q23 q50 q1431) rfl rfl rfl (by decide +kernel) ⟨Nat.le_of_ble_eq_true rfl, Nat.le_of_ble_eq_true rfl⟩) (va_recv hK hP (ci := 8) (q0 := 0) rfl rfl) hE hP hD hS hA rfl hl.1 rfl (lv_room (Nat.le_of_ble_eq_true rfl)) dX4_read_22 ⟨Nat.le_of_ble_eq_true rfl, Nat.le_of_ble_eq_true rfl⟩ (fun H locs hP hD hS => ?_)
    cases hf
    exact end_i hAe hQm hx hb hr hlocks rfl hP hD hS dX4_read_25
  · have hf := br_neg c3 hf
    refine lv_iload_n hx hb dX4_read_13 rfl (lv_at hl 2 rfl) ?_
    obtain ⟨r7, h8, hf⟩ := bnd hf
    refine call_si (rest := []) (m_M_isPlace l ca ad lq 0 mday mown mquot mprom mfiles mowner mlinks mblocks mvals msnaps mranks mkept mshot mwas mholds mheld mends mopen mentr mkinds misop mfilesT mentrT mpromT mlinksT mblocksT mvalsT R _ p2 r7 h8) ⟨hx, hb, hml, hown, hts⟩ (va_cwS 1 hts (gS q1484 q1485 q50 q1486) rfl rfl rfl (by decide +kernel) ⟨Nat.le_of_ble_eq_true rfl, Nat.le_of_ble_eq_true rfl⟩) hE hP hD hS hA rfl hl.1 rfl (lv_room (Nat.le_of_ble_eq_true rfl)) dX4_read_14 ⟨Nat.le_of_ble_eq_true rfl, Nat.le_of_ble_eq_true rfl⟩ (fun H locs hP hD hS => ?_)
    refine lv_if_ne (tgt := 26) hx hb dX4_read_17 (by decide) (fun c9 => ?_) (fun c9 => ?_)
    · have hf := br_neg c9 hf
      refine lv_aload_n hx hb dX4_read_26 rfl (lv_at hl 0 rfl) ?_
      refine va_get (D := D) (ci := 8) (v := .ref (ad 5)) (C := RX4) (T := TX4) (N := 29) hx hb hts inX4 hown hK hP 0 rfl rfl 8 (by decide) (hts _ q1337) (fun _ h9 => h9) rfl dX4_read_27 ?_
      refine lv_bipush (v := 16) hx hb dX4_read_30 (by decide) ?_
      refine lv_iload_n hx hb dX4_read_32 rfl (lv_at hl 1 rfl) ?_
      refine lv_imul hx hb dX4_read_33 ?_
      refine lv_iload_n hx hb dX4_read_34 rfl (lv_at hl 2 rfl) ?_
      refine lv_iadd hx hb dX4_read_35 ?_
      obtain ⟨k10, hf⟩ := ck_not hf
      refine va_iald (D := D) hx hb hK hP 5 0 rfl rfl k10 dX4_read_36 ?_
      refine lv_istore_n (lv' := [(3, .int (mblocks ((16 * p1) + p2).toNatClampNeg)), (0, .ref (ad 0)), (1, .int p1), (2, .int p2)]) hx hb dX4_read_37 rfl hl (by decide) rfl (fun ls hl => ?_)
      refine lv_iload_n hx hb dX4_read_38 rfl (lv_at hl 0 rfl) ?_
      refine lv_if_ne (tgt := 50) hx hb dX4_read_39 (by decide) (fun c11 => ?_) (fun c11 => ?_)
      · have hf := br_neg c11 hf
        refine lv_aload_n hx hb dX4_read_50 rfl (lv_at hl 1 rfl) ?_
        refine va_get (D := D) (ci := 8) (v := .ref (ad 6)) (C := RX4) (T := TX4) (N := 29) hx hb hts inX4 hown hK hP 0 rfl rfl 9 (by decide) (hts _ q1338) (fun _ h9 => h9) rfl dX4_read_51 ?_
        refine lv_iload_n hx hb dX4_read_54 rfl (lv_at hl 0 rfl) ?_
        refine lv_iconst (v := 1) hx hb dX4_read_55 (by decide) ?_
        refine lv_isub hx hb dX4_read_56 ?_
        obtain ⟨k12, hf⟩ := ck_not hf
        refine va_iald (D := D) hx hb hK hP 6 0 rfl rfl k12 dX4_read_57 ?_
        cases hf
        exact end_i hAe hQm hx hb hr hlocks rfl hP hD hS dX4_read_58
      · have hf := br_pos c11 hf
        refine lv_aload_n hx hb dX4_read_42 rfl (lv_at hl 1 rfl) ?_
        refine lv_iconst (v := 2) hx hb dX4_read_43 (by decide) ?_
        obtain ⟨⟨r13, mcode_14⟩, h15, hf⟩ := bnd hf
        refine call_vi (rest := []) (m_M_fails l ca ad lq 0 mday mown mquot mprom mfiles mowner mlinks mblocks mvals msnaps mranks mkept mshot mwas mholds mheld mends mopen mentr mkinds misop mfilesT mentrT mpromT mlinksT mblocksT mvalsT R _ 2 r13 mcode_14 h15) ⟨hx, hb, hml, hown, hts⟩ (cwV 1 hts (gV q1428 q1430 q23 q50 q1431) rfl rfl rfl (by decide +kernel) ⟨Nat.le_of_ble_eq_true rfl, Nat.le_of_ble_eq_true rfl⟩) (va_recv hK hP (ci := 8) (q0 := 0) rfl rfl) hE hP hD hS hA rfl hl.1 rfl (lv_room (Nat.le_of_ble_eq_true rfl)) dX4_read_44 ⟨Nat.le_of_ble_eq_true rfl, Nat.le_of_ble_eq_true rfl⟩ (fun H locs hP hD hS => ?_)
        refine lv_goto (tgt := 58) hx hb dX4_read_47 (by decide) ?_
        cases hf
        exact end_i hAe hQm hx hb hr hlocks rfl hP hD hS dX4_read_58
    · have hf := br_pos c9 hf
      refine lv_aload_n hx hb dX4_read_20 rfl (lv_at hl 0 rfl) ?_
      refine lv_iconst (v := 1) hx hb dX4_read_21 (by decide) ?_
      obtain ⟨⟨r16, mcode_17⟩, h18, hf⟩ := bnd hf
      refine call_vi (rest := []) (m_M_fails l ca ad lq 0 mday mown mquot mprom mfiles mowner mlinks mblocks mvals msnaps mranks mkept mshot mwas mholds mheld mends mopen mentr mkinds misop mfilesT mentrT mpromT mlinksT mblocksT mvalsT R _ 1 r16 mcode_17 h18) ⟨hx, hb, hml, hown, hts⟩ (cwV 1 hts (gV q1428 q1430 q23 q50 q1431) rfl rfl rfl (by decide +kernel) ⟨Nat.le_of_ble_eq_true rfl, Nat.le_of_ble_eq_true rfl⟩) (va_recv hK hP (ci := 8) (q0 := 0) rfl rfl) hE hP hD hS hA rfl hl.1 rfl (lv_room (Nat.le_of_ble_eq_true rfl)) dX4_read_22 ⟨Nat.le_of_ble_eq_true rfl, Nat.le_of_ble_eq_true rfl⟩ (fun H locs hP hD hS => ?_)
      cases hf
      exact end_i hAe hQm hx hb hr hlocks rfl hP hD hS dX4_read_25
def f_M_blockAt (p1 : Int32) (p2 : Int32) (mfiles : Int32) (mblocks : Nat → Int32) : Option (Int32 × Int32) :=
  (f_M_isFile p1 mfiles).bind fun r1 =>
  if r1 = 0 then
    (f_M_fails 1).bind fun (r4, mcode_5) =>
    some (r4, mcode_5)
  else
    (f_M_isPlace p2).bind fun r7 =>
    if r7 = 0 then
      (f_M_fails 1).bind fun (r15, mcode_16) =>
      some (r15, mcode_16)
    else
      if ((16 * p1) + p2) < 0 ∨ 640 ≤ ((16 * p1) + p2).toNatClampNeg then none else
        if (mblocks ((16 * p1) + p2).toNatClampNeg) = 0 then
        (f_M_fails 2).bind fun (r12, mcode_13) =>
        some (r12, mcode_13)
      else
        some (((mblocks ((16 * p1) + p2).toNatClampNeg) - 1), 0)
set_option maxHeartbeats 4000000 in
set_option maxRecDepth 100000 in
theorem m_M_blockAt (l : Launch) {D : va_G} {sl : List (String × Nat × String)} (ca : Nat → ClassId) (ad : Nat → Nat) (lq : Nat) (mcode : Int32) (mday : Int32) (mown : Int32) (mquot : Nat → Int32) (mprom : Nat → Int32) (mfiles : Int32) (mowner : Nat → Int32) (mlinks : Nat → Int32) (mblocks : Nat → Int32) (mvals : Nat → Int32) (msnaps : Int32) (mranks : Nat → Int32) (mkept : Nat → Int32) (mshot : Nat → Int32) (mwas : Nat → Int32) (mholds : Int32) (mheld : Nat → Int32) (mends : Nat → Int32) (mopen : Nat → Int32) (mentr : Int32) (mkinds : Nat → Int32) (misop : Int32) (mfilesT : Int32) (mentrT : Int32) (mpromT : Nat → Int32) (mlinksT : Nat → Int32) (mblocksT : Nat → Int32) (mvalsT : Nat → Int32) (R : va_W) (sz : Nat) (p1 : Int32) (p2 : Int32) (ro : Int32) (omcode : Int32) (hf : f_M_blockAt p1 p2 mfiles mblocks = some (ro, omcode)) : Met l yX4_blockAt (wm yX4_blockAt cX4_blockAt 4 (some .int)) ({ frames := 2, cells := 0, slots := 0, locals := 43 } : Room) (PRE [.ref (ad 0), .int p1, .int p2] D ca sl (WM ca ad lq mcode mday mown mquot mprom mfiles mowner mlinks mblocks mvals msnaps mranks mkept mshot mwas mholds mheld mends mopen mentr mkinds misop mfilesT mentrT mpromT mlinksT mblocksT mvalsT ++ R) sz) (QI ro D (WM ca ad lq omcode mday mown mquot mprom mfiles mowner mlinks mblocks mvals msnaps mranks mkept mshot mwas mholds mheld mends mopen mentr mkinds misop mfilesT mentrT mpromT mlinksT mblocksT mvalsT ++ R) (WM ca ad lq mcode mday mown mquot mprom mfiles mowner mlinks mblocks mvals msnaps mranks mkept mshot mwas mholds mheld mends mopen mentr mkinds misop mfilesT mentrT mpromT mlinksT mblocksT mvalsT ++ R) sz) 0 0 (va_A (WM ca ad lq mcode mday mown mquot mprom mfiles mowner mlinks mblocks mvals msnaps mranks mkept mshot mwas mholds mheld mends mopen mentr mkinds misop mfilesT mentrT mpromT mlinksT mblocksT mvalsT ++ R) sz) := by
  refine Met.ofW (cc := cX4_blockAt) (maxL := 4) (ret := (some .int)) (by decide) rfl ?_
  intro p e s m args below meth c s₁ B hml hv
  obtain ⟨rfl, rfl, hP, hE, hD0⟩ := hv
  have hx := B.exec
  have hb := B.bytes
  have hr := B.returns
  have hts := wm_ww (atoms_spec (ws := wm yX4_blockAt cX4_blockAt 4 (some .int)) B.pre)
  have hown : s.vm.findClass RX4 = some m.cls := findClass_of_methodNamed B.named
  have hlocks := B.notSynchronized
  have hK := hE.1
  have hD := hD0.self (sz := s.heap.size)
  generalize hAe : va_A (WM ca ad lq mcode mday mown mquot mprom mfiles mowner mlinks mblocks mvals msnaps mranks mkept mshot mwas mholds mheld mends mopen mentr mkinds misop mfilesT mentrT mpromT mlinksT mblocksT mvalsT ++ R) s.heap.size = A at hD ⊢
  have hA : ∀ q : Nat, s.heap.size ≤ q → A q := fun q h => by rw [← hAe]; exact Or.inr h
  have hS : va_S A s.heap s.heap [] := va_S.rf
  have hl := lv_entry ([.ref (ad 0), .int p1, .int p2]) (n := 4) (Nat.le_of_ble_eq_true rfl)
  rw [lg_entry_eq]
  generalize (lg_sl ([.ref (ad 0), .int p1, .int p2]) ++ List.replicate (4 - (lg_sl ([.ref (ad 0), .int p1, .int p2])).length) Slot.unset).toArray = ls at hl ⊢
  have hl : lv_has ls 4 [(0, .ref (ad 0)), (1, .int p1), (2, .int p2)] := hl
  change W p l e ({ frames := 2, cells := 0, slots := 0, locals := 43 } : Room) s m _ below meth c s.heap [] 0 0 _ _
  generalize hQm : MQ below (QI ro D (WM ca ad lq omcode mday mown mquot mprom mfiles mowner mlinks mblocks mvals msnaps mranks mkept mshot mwas mholds mheld mends mopen mentr mkinds misop mfilesT mentrT mpromT mlinksT mblocksT mvalsT ++ R) (WM ca ad lq mcode mday mown mquot mprom mfiles mowner mlinks mblocks mvals msnaps mranks mkept mshot mwas mholds mheld mends mopen mentr mkinds misop mfilesT mentrT mpromT mlinksT mblocksT mvalsT ++ R) s.heap.size) _ s 0 0 A = Qm
  have hP : va_P D vwCl (WM ca ad lq mcode mday mown mquot mprom mfiles mowner mlinks mblocks mvals msnaps mranks mkept mshot mwas mholds mheld mends mopen mentr mkinds misop mfilesT mentrT mpromT mlinksT mblocksT mvalsT ++ R) s.heap := hP
  generalize hae : ([.ref (ad 0), .int p1, .int p2] : List Value).toArray = args at hts hQm ⊢
  refine lv_aload_n hx hb dX4_blockAt_0 rfl (lv_at hl 0 rfl) ?_
  refine lv_iconst (v := 0) hx hb dX4_blockAt_1 (by decide) ?_
  refine va_put (D := D) (ci := 8) (v := .int 0) (ty := .int) (C := RX4) (T := TX4) (N := 29) hx hb hts inX4 tyX4 tyX4_ok nmX4 hown hK hP hD hS 0 rfl rfl 0 (by decide) (hts _ q1329) (fun _ h9 => h9) rfl (by decide +kernel) rfl rfl (Nat.le_of_ble_eq_true rfl) dX4_blockAt_2 (fun H locs hP hD hS => ?_)
  have hP : va_P D vwCl (WM ca ad lq 0 mday mown mquot mprom mfiles mowner mlinks mblocks mvals msnaps mranks mkept mshot mwas mholds mheld mends mopen mentr mkinds misop mfilesT mentrT mpromT mlinksT mblocksT mvalsT ++ R) H := hP
  have hD : va_D A (WM ca ad lq 0 mday mown mquot mprom mfiles mowner mlinks mblocks mvals msnaps mranks mkept mshot mwas mholds mheld mends mopen mentr mkinds misop mfilesT mentrT mpromT mlinksT mblocksT mvalsT ++ R) := hD
  refine lv_aload_n hx hb dX4_blockAt_5 rfl (lv_at hl 0 rfl) ?_
  refine lv_iload_n hx hb dX4_blockAt_6 rfl (lv_at hl 1 rfl) ?_
  obtain ⟨r1, h2, hf⟩ := bnd hf
  refine call_vi (rest := []) (m_M_isFile l ca ad lq 0 mday mown mquot mprom mfiles mowner mlinks mblocks mvals msnaps mranks mkept mshot mwas mholds mheld mends mopen mentr mkinds misop mfilesT mentrT mpromT mlinksT mblocksT mvalsT R _ p1 r1 h2) ⟨hx, hb, hml, hown, hts⟩ (cwV 1 hts (gV q1452 q1454 q26 q50 q1455) rfl rfl rfl (by decide +kernel) ⟨Nat.le_of_ble_eq_true rfl, Nat.le_of_ble_eq_true rfl⟩) (va_recv hK hP (ci := 8) (q0 := 0) rfl rfl) hE hP hD hS hA rfl hl.1 rfl (lv_room (Nat.le_of_ble_eq_true rfl)) dX4_blockAt_7 ⟨Nat.le_of_ble_eq_true rfl, Nat.le_of_ble_eq_true rfl⟩ (fun H locs hP hD hS => ?_)
  refine lv_if_eq (tgt := 20) hx hb dX4_blockAt_10 (by decide) (fun c3 => ?_) (fun c3 => ?_)
  · have hf := br_pos c3 hf
    refine lv_aload_n hx hb dX4_blockAt_20 rfl (lv_at hl 0 rfl) ?_
    refine lv_iconst (v := 1) hx hb dX4_blockAt_21 (by decide) ?_
    obtain ⟨⟨r4, mcode_5⟩, h6, hf⟩ := bnd hf
    refine call_vi (rest := []) (m_M_fails l ca ad lq 0 mday mown mquot mprom mfiles mowner mlinks mblocks mvals msnaps mranks mkept mshot mwas mholds mheld mends mopen mentr mkinds misop mfilesT mentrT mpromT mlinksT mblocksT mvalsT R _ 1 r4 mcode_5 h6) ⟨hx, hb, hml, hown, hts⟩ (cwV 1 hts (gV q1428 q1430 q23 q50 q1431) rfl rfl rfl (by decide +kernel) ⟨Nat.le_of_ble_eq_true rfl, Nat.le_of_ble_eq_true rfl⟩) (va_recv hK hP (ci := 8) (q0 := 0) rfl rfl) hE hP hD hS hA rfl hl.1 rfl (lv_room (Nat.le_of_ble_eq_true rfl)) dX4_blockAt_22 ⟨Nat.le_of_ble_eq_true rfl, Nat.le_of_ble_eq_true rfl⟩ (fun H locs hP hD hS => ?_)
    cases hf
    exact end_i hAe hQm hx hb hr hlocks rfl hP hD hS dX4_blockAt_25
  · have hf := br_neg c3 hf
    refine lv_iload_n hx hb dX4_blockAt_13 rfl (lv_at hl 2 rfl) ?_
    obtain ⟨r7, h8, hf⟩ := bnd hf
    refine call_si (rest := []) (m_M_isPlace l ca ad lq 0 mday mown mquot mprom mfiles mowner mlinks mblocks mvals msnaps mranks mkept mshot mwas mholds mheld mends mopen mentr mkinds misop mfilesT mentrT mpromT mlinksT mblocksT mvalsT R _ p2 r7 h8) ⟨hx, hb, hml, hown, hts⟩ (va_cwS 1 hts (gS q1484 q1485 q50 q1486) rfl rfl rfl (by decide +kernel) ⟨Nat.le_of_ble_eq_true rfl, Nat.le_of_ble_eq_true rfl⟩) hE hP hD hS hA rfl hl.1 rfl (lv_room (Nat.le_of_ble_eq_true rfl)) dX4_blockAt_14 ⟨Nat.le_of_ble_eq_true rfl, Nat.le_of_ble_eq_true rfl⟩ (fun H locs hP hD hS => ?_)
    refine lv_if_ne (tgt := 26) hx hb dX4_blockAt_17 (by decide) (fun c9 => ?_) (fun c9 => ?_)
    · have hf := br_neg c9 hf
      refine lv_aload_n hx hb dX4_blockAt_26 rfl (lv_at hl 0 rfl) ?_
      refine va_get (D := D) (ci := 8) (v := .ref (ad 5)) (C := RX4) (T := TX4) (N := 29) hx hb hts inX4 hown hK hP 0 rfl rfl 8 (by decide) (hts _ q1337) (fun _ h9 => h9) rfl dX4_blockAt_27 ?_
      refine lv_bipush (v := 16) hx hb dX4_blockAt_30 (by decide) ?_
      refine lv_iload_n hx hb dX4_blockAt_32 rfl (lv_at hl 1 rfl) ?_
      refine lv_imul hx hb dX4_blockAt_33 ?_
      refine lv_iload_n hx hb dX4_blockAt_34 rfl (lv_at hl 2 rfl) ?_
      refine lv_iadd hx hb dX4_blockAt_35 ?_
      obtain ⟨k10, hf⟩ := ck_not hf
      refine va_iald (D := D) hx hb hK hP 5 0 rfl rfl k10 dX4_blockAt_36 ?_
      refine lv_istore_n (lv' := [(3, .int (mblocks ((16 * p1) + p2).toNatClampNeg)), (0, .ref (ad 0)), (1, .int p1), (2, .int p2)]) hx hb dX4_blockAt_37 rfl hl (by decide) rfl (fun ls hl => ?_)
      refine lv_iload_n hx hb dX4_blockAt_38 rfl (lv_at hl 0 rfl) ?_
      refine lv_if_ne (tgt := 50) hx hb dX4_blockAt_39 (by decide) (fun c11 => ?_) (fun c11 => ?_)
      · have hf := br_neg c11 hf
        refine lv_iload_n hx hb dX4_blockAt_50 rfl (lv_at hl 0 rfl) ?_
        refine lv_iconst (v := 1) hx hb dX4_blockAt_51 (by decide) ?_
        refine lv_isub hx hb dX4_blockAt_52 ?_
        cases hf
        exact end_i hAe hQm hx hb hr hlocks rfl hP hD hS dX4_blockAt_53
      · have hf := br_pos c11 hf
        refine lv_aload_n hx hb dX4_blockAt_42 rfl (lv_at hl 1 rfl) ?_
        refine lv_iconst (v := 2) hx hb dX4_blockAt_43 (by decide) ?_
        obtain ⟨⟨r12, mcode_13⟩, h14, hf⟩ := bnd hf
        refine call_vi (rest := []) (m_M_fails l ca ad lq 0 mday mown mquot mprom mfiles mowner mlinks mblocks mvals msnaps mranks mkept mshot mwas mholds mheld mends mopen mentr mkinds misop mfilesT mentrT mpromT mlinksT mblocksT mvalsT R _ 2 r12 mcode_13 h14) ⟨hx, hb, hml, hown, hts⟩ (cwV 1 hts (gV q1428 q1430 q23 q50 q1431) rfl rfl rfl (by decide +kernel) ⟨Nat.le_of_ble_eq_true rfl, Nat.le_of_ble_eq_true rfl⟩) (va_recv hK hP (ci := 8) (q0 := 0) rfl rfl) hE hP hD hS hA rfl hl.1 rfl (lv_room (Nat.le_of_ble_eq_true rfl)) dX4_blockAt_44 ⟨Nat.le_of_ble_eq_true rfl, Nat.le_of_ble_eq_true rfl⟩ (fun H locs hP hD hS => ?_)
        refine lv_goto (tgt := 53) hx hb dX4_blockAt_47 (by decide) ?_
        cases hf
        exact end_i hAe hQm hx hb hr hlocks rfl hP hD hS dX4_blockAt_53
    · have hf := br_pos c9 hf
      refine lv_aload_n hx hb dX4_blockAt_20 rfl (lv_at hl 0 rfl) ?_
      refine lv_iconst (v := 1) hx hb dX4_blockAt_21 (by decide) ?_
      obtain ⟨⟨r15, mcode_16⟩, h17, hf⟩ := bnd hf
      refine call_vi (rest := []) (m_M_fails l ca ad lq 0 mday mown mquot mprom mfiles mowner mlinks mblocks mvals msnaps mranks mkept mshot mwas mholds mheld mends mopen mentr mkinds misop mfilesT mentrT mpromT mlinksT mblocksT mvalsT R _ 1 r15 mcode_16 h17) ⟨hx, hb, hml, hown, hts⟩ (cwV 1 hts (gV q1428 q1430 q23 q50 q1431) rfl rfl rfl (by decide +kernel) ⟨Nat.le_of_ble_eq_true rfl, Nat.le_of_ble_eq_true rfl⟩) (va_recv hK hP (ci := 8) (q0 := 0) rfl rfl) hE hP hD hS hA rfl hl.1 rfl (lv_room (Nat.le_of_ble_eq_true rfl)) dX4_blockAt_22 ⟨Nat.le_of_ble_eq_true rfl, Nat.le_of_ble_eq_true rfl⟩ (fun H locs hP hD hS => ?_)
      cases hf
      exact end_i hAe hQm hx hb hr hlocks rfl hP hD hS dX4_blockAt_25
def f_M_blocksOf_L23 : Nat → Int32 → Int32 → Int32 → (Nat → Int32) → Option (Int32)
  | 0, _, _, _, _ => none
  | fuel + 1, v1, v2, v3, mblocks =>
    if 16 ≤ v3 then
      some v2
    else
      if ((16 * v1) + v3) < 0 ∨ 640 ≤ ((16 * v1) + v3).toNatClampNeg then none else
        if (mblocks ((16 * v1) + v3).toNatClampNeg) ≤ 0 then
        f_M_blocksOf_L23 fuel v1 (v2 + 0) (v3 + 1) mblocks
      else
        f_M_blocksOf_L23 fuel v1 (v2 + 1) (v3 + 1) mblocks
def f_M_blocksOf (p1 : Int32) (mfiles : Int32) (mblocks : Nat → Int32) : Option (Int32 × Int32) :=
  (f_M_isFile p1 mfiles).bind fun r1 =>
  if r1 = 0 then
    (f_M_fails 1).bind fun (r12, mcode_13) =>
    some (r12, mcode_13)
  else
    (f_M_blocksOf_L23 FU p1 0 0 mblocks).bind fun x11 =>
    some (x11, 0)
set_option maxHeartbeats 4000000 in
set_option maxRecDepth 100000 in
theorem m_M_blocksOf (l : Launch) {D : va_G} {sl : List (String × Nat × String)} (ca : Nat → ClassId) (ad : Nat → Nat) (lq : Nat) (mcode : Int32) (mday : Int32) (mown : Int32) (mquot : Nat → Int32) (mprom : Nat → Int32) (mfiles : Int32) (mowner : Nat → Int32) (mlinks : Nat → Int32) (mblocks : Nat → Int32) (mvals : Nat → Int32) (msnaps : Int32) (mranks : Nat → Int32) (mkept : Nat → Int32) (mshot : Nat → Int32) (mwas : Nat → Int32) (mholds : Int32) (mheld : Nat → Int32) (mends : Nat → Int32) (mopen : Nat → Int32) (mentr : Int32) (mkinds : Nat → Int32) (misop : Int32) (mfilesT : Int32) (mentrT : Int32) (mpromT : Nat → Int32) (mlinksT : Nat → Int32) (mblocksT : Nat → Int32) (mvalsT : Nat → Int32) (R : va_W) (sz : Nat) (p1 : Int32) (ro : Int32) (omcode : Int32) (hf : f_M_blocksOf p1 mfiles mblocks = some (ro, omcode)) : Met l yX4_blocksOf (wm yX4_blocksOf cX4_blocksOf 4 (some .int)) ({ frames := 2, cells := 0, slots := 0, locals := 43 } : Room) (PRE [.ref (ad 0), .int p1] D ca sl (WM ca ad lq mcode mday mown mquot mprom mfiles mowner mlinks mblocks mvals msnaps mranks mkept mshot mwas mholds mheld mends mopen mentr mkinds misop mfilesT mentrT mpromT mlinksT mblocksT mvalsT ++ R) sz) (QI ro D (WM ca ad lq omcode mday mown mquot mprom mfiles mowner mlinks mblocks mvals msnaps mranks mkept mshot mwas mholds mheld mends mopen mentr mkinds misop mfilesT mentrT mpromT mlinksT mblocksT mvalsT ++ R) (WM ca ad lq mcode mday mown mquot mprom mfiles mowner mlinks mblocks mvals msnaps mranks mkept mshot mwas mholds mheld mends mopen mentr mkinds misop mfilesT mentrT mpromT mlinksT mblocksT mvalsT ++ R) sz) 0 0 (va_A (WM ca ad lq mcode mday mown mquot mprom mfiles mowner mlinks mblocks mvals msnaps mranks mkept mshot mwas mholds mheld mends mopen mentr mkinds misop mfilesT mentrT mpromT mlinksT mblocksT mvalsT ++ R) sz) := by
  refine Met.ofW (cc := cX4_blocksOf) (maxL := 4) (ret := (some .int)) (by decide) rfl ?_
  intro p e s m args below meth c s₁ B hml hv
  obtain ⟨rfl, rfl, hP, hE, hD0⟩ := hv
  have hx := B.exec
  have hb := B.bytes
  have hr := B.returns
  have hts := wm_ww (atoms_spec (ws := wm yX4_blocksOf cX4_blocksOf 4 (some .int)) B.pre)
  have hown : s.vm.findClass RX4 = some m.cls := findClass_of_methodNamed B.named
  have hlocks := B.notSynchronized
  have hK := hE.1
  have hD := hD0.self (sz := s.heap.size)
  generalize hAe : va_A (WM ca ad lq mcode mday mown mquot mprom mfiles mowner mlinks mblocks mvals msnaps mranks mkept mshot mwas mholds mheld mends mopen mentr mkinds misop mfilesT mentrT mpromT mlinksT mblocksT mvalsT ++ R) s.heap.size = A at hD ⊢
  have hA : ∀ q : Nat, s.heap.size ≤ q → A q := fun q h => by rw [← hAe]; exact Or.inr h
  have hS : va_S A s.heap s.heap [] := va_S.rf
  have hl := lv_entry ([.ref (ad 0), .int p1]) (n := 4) (Nat.le_of_ble_eq_true rfl)
  rw [lg_entry_eq]
  generalize (lg_sl ([.ref (ad 0), .int p1]) ++ List.replicate (4 - (lg_sl ([.ref (ad 0), .int p1])).length) Slot.unset).toArray = ls at hl ⊢
  have hl : lv_has ls 4 [(0, .ref (ad 0)), (1, .int p1)] := hl
  change W p l e ({ frames := 2, cells := 0, slots := 0, locals := 43 } : Room) s m _ below meth c s.heap [] 0 0 _ _
  generalize hQm : MQ below (QI ro D (WM ca ad lq omcode mday mown mquot mprom mfiles mowner mlinks mblocks mvals msnaps mranks mkept mshot mwas mholds mheld mends mopen mentr mkinds misop mfilesT mentrT mpromT mlinksT mblocksT mvalsT ++ R) (WM ca ad lq mcode mday mown mquot mprom mfiles mowner mlinks mblocks mvals msnaps mranks mkept mshot mwas mholds mheld mends mopen mentr mkinds misop mfilesT mentrT mpromT mlinksT mblocksT mvalsT ++ R) s.heap.size) _ s 0 0 A = Qm
  have hP : va_P D vwCl (WM ca ad lq mcode mday mown mquot mprom mfiles mowner mlinks mblocks mvals msnaps mranks mkept mshot mwas mholds mheld mends mopen mentr mkinds misop mfilesT mentrT mpromT mlinksT mblocksT mvalsT ++ R) s.heap := hP
  generalize hae : ([.ref (ad 0), .int p1] : List Value).toArray = args at hts hQm ⊢
  have L23 : ∀ (n : Nat) (v1 : Int32) (v2 : Int32) (v3 : Int32) (mcode : Int32) (y2 : Int32), f_M_blocksOf_L23 n v1 v2 v3 mblocks = some y2 → ∀ (H : Heap) (locs : List Loc) (ls : Array Slot), va_P D vwCl (WM ca ad lq mcode mday mown mquot mprom mfiles mowner mlinks mblocks mvals msnaps mranks mkept mshot mwas mholds mheld mends mopen mentr mkinds misop mfilesT mentrT mpromT mlinksT mblocksT mvalsT ++ R) H → va_D A (WM ca ad lq mcode mday mown mquot mprom mfiles mowner mlinks mblocks mvals msnaps mranks mkept mshot mwas mholds mheld mends mopen mentr mkinds misop mfilesT mentrT mpromT mlinksT mblocksT mvalsT ++ R) → va_S A s.heap H locs → lv_has ls 4 [(0, .ref (ad 0)), (1, .int v1), (2, .int v2), (3, .int v3)] → (∀ (H : Heap) (locs : List Loc) (ls : Array Slot), va_P D vwCl (WM ca ad lq mcode mday mown mquot mprom mfiles mowner mlinks mblocks mvals msnaps mranks mkept mshot mwas mholds mheld mends mopen mentr mkinds misop mfilesT mentrT mpromT mlinksT mblocksT mvalsT ++ R) H → va_D A (WM ca ad lq mcode mday mown mquot mprom mfiles mowner mlinks mblocks mvals msnaps mranks mkept mshot mwas mholds mheld mends mopen mentr mkinds misop mfilesT mentrT mpromT mlinksT mblocksT mvalsT ++ R) → va_S A s.heap H locs → lv_has ls 4 [(2, .int y2)] → W p l e ({ frames := 2, cells := 0, slots := 0, locals := 43 } : Room) s m args below meth c H locs 0 0 Qm (F0 m 57 ls [])) → W p l e ({ frames := 2, cells := 0, slots := 0, locals := 43 } : Room) s m args below meth c H locs 0 0 Qm (F0 m 23 ls []) := by
    intro n
    induction n with
    | zero => intro v1 v2 v3 mcode y2 hf; cases hf
    | succ n ih =>
      intro v1 v2 v3 mcode y2 hf H locs ls hP hD hS hl kk
      unfold f_M_blocksOf_L23 at hf
      refine lv_iload_n hx hb dX4_blocksOf_23 rfl (lv_at hl 3 rfl) ?_
      refine lv_bipush (v := 16) hx hb dX4_blocksOf_24 (by decide) ?_
      refine lv_icmp_ge (tgt := 57) hx hb dX4_blocksOf_26 (by decide) (fun c7 => ?_) (fun c7 => ?_)
      · have hf := br_pos c7 hf
        cases hf
        exact kk _ _ _ hP hD hS (lv_sub hl [2] rfl)
      · have hf := br_neg c7 hf
        refine lv_iload_n hx hb dX4_blocksOf_29 rfl (lv_at hl 2 rfl) ?_
        refine lv_aload_n hx hb dX4_blocksOf_30 rfl (lv_at hl 0 rfl) ?_
        refine va_get (D := D) (ci := 8) (v := .ref (ad 5)) (C := RX4) (T := TX4) (N := 29) hx hb hts inX4 hown hK hP 0 rfl rfl 8 (by decide) (hts _ q1337) (fun _ h9 => h9) rfl dX4_blocksOf_31 ?_
        refine lv_bipush (v := 16) hx hb dX4_blocksOf_34 (by decide) ?_
        refine lv_iload_n hx hb dX4_blocksOf_36 rfl (lv_at hl 1 rfl) ?_
        refine lv_imul hx hb dX4_blocksOf_37 ?_
        refine lv_iload_n hx hb dX4_blocksOf_38 rfl (lv_at hl 3 rfl) ?_
        refine lv_iadd hx hb dX4_blocksOf_39 ?_
        obtain ⟨k8, hf⟩ := ck_not hf
        refine va_iald (D := D) hx hb hK hP 5 0 rfl rfl k8 dX4_blocksOf_40 ?_
        refine lv_if_le (tgt := 48) hx hb dX4_blocksOf_41 (by decide) (fun c9 => ?_) (fun c9 => ?_)
        · have hf := br_pos c9 hf
          refine lv_iconst (v := 0) hx hb dX4_blocksOf_48 (by decide) ?_
          refine lv_iadd hx hb dX4_blocksOf_49 ?_
          refine lv_istore_n (lv' := [(2, .int (v2 + 0)), (0, .ref (ad 0)), (1, .int v1), (3, .int v3)]) hx hb dX4_blocksOf_50 rfl hl (by decide) rfl (fun ls hl => ?_)
          refine lv_iinc (v := (v3 + 1)) (lv' := [(3, .int (v3 + 1)), (2, .int (v2 + 0)), (0, .ref (ad 0)), (1, .int v1)]) hx hb dX4_blocksOf_51 hl (k := 3) rfl rfl (by decide) rfl (fun ls hl => ?_)
          refine lv_goto (tgt := 23) hx hb dX4_blocksOf_54 (by decide) ?_
          exact ih v1 (v2 + 0) (v3 + 1) mcode _ hf _ _ _ hP hD hS (lv_sub hl [2, 3, 1, 0] rfl) kk
        · have hf := br_neg c9 hf
          refine lv_iconst (v := 1) hx hb dX4_blocksOf_44 (by decide) ?_
          refine lv_goto (tgt := 49) hx hb dX4_blocksOf_45 (by decide) ?_
          refine lv_iadd hx hb dX4_blocksOf_49 ?_
          refine lv_istore_n (lv' := [(2, .int (v2 + 1)), (0, .ref (ad 0)), (1, .int v1), (3, .int v3)]) hx hb dX4_blocksOf_50 rfl hl (by decide) rfl (fun ls hl => ?_)
          refine lv_iinc (v := (v3 + 1)) (lv' := [(3, .int (v3 + 1)), (2, .int (v2 + 1)), (0, .ref (ad 0)), (1, .int v1)]) hx hb dX4_blocksOf_51 hl (k := 3) rfl rfl (by decide) rfl (fun ls hl => ?_)
          refine lv_goto (tgt := 23) hx hb dX4_blocksOf_54 (by decide) ?_
          exact ih v1 (v2 + 1) (v3 + 1) mcode _ hf _ _ _ hP hD hS (lv_sub hl [2, 3, 1, 0] rfl) kk
  refine lv_aload_n hx hb dX4_blocksOf_0 rfl (lv_at hl 0 rfl) ?_
  refine lv_iconst (v := 0) hx hb dX4_blocksOf_1 (by decide) ?_
  refine va_put (D := D) (ci := 8) (v := .int 0) (ty := .int) (C := RX4) (T := TX4) (N := 29) hx hb hts inX4 tyX4 tyX4_ok nmX4 hown hK hP hD hS 0 rfl rfl 0 (by decide) (hts _ q1329) (fun _ h9 => h9) rfl (by decide +kernel) rfl rfl (Nat.le_of_ble_eq_true rfl) dX4_blocksOf_2 (fun H locs hP hD hS => ?_)
  have hP : va_P D vwCl (WM ca ad lq 0 mday mown mquot mprom mfiles mowner mlinks mblocks mvals msnaps mranks mkept mshot mwas mholds mheld mends mopen mentr mkinds misop mfilesT mentrT mpromT mlinksT mblocksT mvalsT ++ R) H := hP
  have hD : va_D A (WM ca ad lq 0 mday mown mquot mprom mfiles mowner mlinks mblocks mvals msnaps mranks mkept mshot mwas mholds mheld mends mopen mentr mkinds misop mfilesT mentrT mpromT mlinksT mblocksT mvalsT ++ R) := hD
  refine lv_aload_n hx hb dX4_blocksOf_5 rfl (lv_at hl 0 rfl) ?_
  refine lv_iload_n hx hb dX4_blocksOf_6 rfl (lv_at hl 1 rfl) ?_
  obtain ⟨r1, h2, hf⟩ := bnd hf
  refine call_vi (rest := []) (m_M_isFile l ca ad lq 0 mday mown mquot mprom mfiles mowner mlinks mblocks mvals msnaps mranks mkept mshot mwas mholds mheld mends mopen mentr mkinds misop mfilesT mentrT mpromT mlinksT mblocksT mvalsT R _ p1 r1 h2) ⟨hx, hb, hml, hown, hts⟩ (cwV 1 hts (gV q1452 q1454 q26 q50 q1455) rfl rfl rfl (by decide +kernel) ⟨Nat.le_of_ble_eq_true rfl, Nat.le_of_ble_eq_true rfl⟩) (va_recv hK hP (ci := 8) (q0 := 0) rfl rfl) hE hP hD hS hA rfl hl.1 rfl (lv_room (Nat.le_of_ble_eq_true rfl)) dX4_blocksOf_7 ⟨Nat.le_of_ble_eq_true rfl, Nat.le_of_ble_eq_true rfl⟩ (fun H locs hP hD hS => ?_)
  refine lv_if_ne (tgt := 19) hx hb dX4_blocksOf_10 (by decide) (fun c3 => ?_) (fun c3 => ?_)
  · have hf := br_neg c3 hf
    refine lv_iconst (v := 0) hx hb dX4_blocksOf_19 (by decide) ?_
    refine lv_istore_n (lv' := [(2, .int 0), (0, .ref (ad 0)), (1, .int p1)]) hx hb dX4_blocksOf_20 rfl hl (by decide) rfl (fun ls hl => ?_)
    refine lv_iconst (v := 0) hx hb dX4_blocksOf_21 (by decide) ?_
    refine lv_istore_n (lv' := [(3, .int 0), (2, .int 0), (0, .ref (ad 0)), (1, .int p1)]) hx hb dX4_blocksOf_22 rfl hl (by decide) rfl (fun ls hl => ?_)
    obtain ⟨x11, h10, hf⟩ := bnd hf
    refine L23 FU p1 0 0 0 x11 h10 _ _ _ hP hD hS (lv_sub hl [2, 3, 1, 0] rfl) (fun H locs ls hP hD hS hl => ?_)
    refine lv_iload_n hx hb dX4_blocksOf_57 rfl (lv_at hl 0 rfl) ?_
    cases hf
    exact end_i hAe hQm hx hb hr hlocks rfl hP hD hS dX4_blocksOf_58
  · have hf := br_pos c3 hf
    refine lv_aload_n hx hb dX4_blocksOf_13 rfl (lv_at hl 0 rfl) ?_
    refine lv_iconst (v := 1) hx hb dX4_blocksOf_14 (by decide) ?_
    obtain ⟨⟨r12, mcode_13⟩, h14, hf⟩ := bnd hf
    refine call_vi (rest := []) (m_M_fails l ca ad lq 0 mday mown mquot mprom mfiles mowner mlinks mblocks mvals msnaps mranks mkept mshot mwas mholds mheld mends mopen mentr mkinds misop mfilesT mentrT mpromT mlinksT mblocksT mvalsT R _ 1 r12 mcode_13 h14) ⟨hx, hb, hml, hown, hts⟩ (cwV 1 hts (gV q1428 q1430 q23 q50 q1431) rfl rfl rfl (by decide +kernel) ⟨Nat.le_of_ble_eq_true rfl, Nat.le_of_ble_eq_true rfl⟩) (va_recv hK hP (ci := 8) (q0 := 0) rfl rfl) hE hP hD hS hA rfl hl.1 rfl (lv_room (Nat.le_of_ble_eq_true rfl)) dX4_blocksOf_15 ⟨Nat.le_of_ble_eq_true rfl, Nat.le_of_ble_eq_true rfl⟩ (fun H locs hP hD hS => ?_)
    cases hf
    exact end_i hAe hQm hx hb hr hlocks rfl hP hD hS dX4_blocksOf_18
def f_M_usedBy (p1 : Int32) (mown : Int32) (mowner : Nat → Int32) (mblocks : Nat → Int32) : Option (Int32 × Int32) :=
  (f_M_isOwner p1 mown).bind fun r1 =>
  if r1 = 0 then
    (f_M_fails 1).bind fun (r4, mcode_5) =>
    some (r4, mcode_5)
  else
    (f_M_countsFor p1 mowner mblocks).bind fun r7 =>
    some (r7, 0)
set_option maxHeartbeats 4000000 in
set_option maxRecDepth 100000 in
theorem m_M_usedBy (l : Launch) {D : va_G} {sl : List (String × Nat × String)} (ca : Nat → ClassId) (ad : Nat → Nat) (lq : Nat) (mcode : Int32) (mday : Int32) (mown : Int32) (mquot : Nat → Int32) (mprom : Nat → Int32) (mfiles : Int32) (mowner : Nat → Int32) (mlinks : Nat → Int32) (mblocks : Nat → Int32) (mvals : Nat → Int32) (msnaps : Int32) (mranks : Nat → Int32) (mkept : Nat → Int32) (mshot : Nat → Int32) (mwas : Nat → Int32) (mholds : Int32) (mheld : Nat → Int32) (mends : Nat → Int32) (mopen : Nat → Int32) (mentr : Int32) (mkinds : Nat → Int32) (misop : Int32) (mfilesT : Int32) (mentrT : Int32) (mpromT : Nat → Int32) (mlinksT : Nat → Int32) (mblocksT : Nat → Int32) (mvalsT : Nat → Int32) (R : va_W) (sz : Nat) (p1 : Int32) (ro : Int32) (omcode : Int32) (hf : f_M_usedBy p1 mown mowner mblocks = some (ro, omcode)) : Met l yX4_usedBy (wm yX4_usedBy cX4_usedBy 2 (some .int)) ({ frames := 2, cells := 0, slots := 0, locals := 46 } : Room) (PRE [.ref (ad 0), .int p1] D ca sl (WM ca ad lq mcode mday mown mquot mprom mfiles mowner mlinks mblocks mvals msnaps mranks mkept mshot mwas mholds mheld mends mopen mentr mkinds misop mfilesT mentrT mpromT mlinksT mblocksT mvalsT ++ R) sz) (QI ro D (WM ca ad lq omcode mday mown mquot mprom mfiles mowner mlinks mblocks mvals msnaps mranks mkept mshot mwas mholds mheld mends mopen mentr mkinds misop mfilesT mentrT mpromT mlinksT mblocksT mvalsT ++ R) (WM ca ad lq mcode mday mown mquot mprom mfiles mowner mlinks mblocks mvals msnaps mranks mkept mshot mwas mholds mheld mends mopen mentr mkinds misop mfilesT mentrT mpromT mlinksT mblocksT mvalsT ++ R) sz) 0 0 (va_A (WM ca ad lq mcode mday mown mquot mprom mfiles mowner mlinks mblocks mvals msnaps mranks mkept mshot mwas mholds mheld mends mopen mentr mkinds misop mfilesT mentrT mpromT mlinksT mblocksT mvalsT ++ R) sz) := by
  refine Met.ofW (cc := cX4_usedBy) (maxL := 2) (ret := (some .int)) (by decide) rfl ?_
  intro p e s m args below meth c s₁ B hml hv
  obtain ⟨rfl, rfl, hP, hE, hD0⟩ := hv
  have hx := B.exec
  have hb := B.bytes
  have hr := B.returns
  have hts := wm_ww (atoms_spec (ws := wm yX4_usedBy cX4_usedBy 2 (some .int)) B.pre)
  have hown : s.vm.findClass RX4 = some m.cls := findClass_of_methodNamed B.named
  have hlocks := B.notSynchronized
  have hK := hE.1
  have hD := hD0.self (sz := s.heap.size)
  generalize hAe : va_A (WM ca ad lq mcode mday mown mquot mprom mfiles mowner mlinks mblocks mvals msnaps mranks mkept mshot mwas mholds mheld mends mopen mentr mkinds misop mfilesT mentrT mpromT mlinksT mblocksT mvalsT ++ R) s.heap.size = A at hD ⊢
  have hA : ∀ q : Nat, s.heap.size ≤ q → A q := fun q h => by rw [← hAe]; exact Or.inr h
  have hS : va_S A s.heap s.heap [] := va_S.rf
  have hl := lv_entry ([.ref (ad 0), .int p1]) (n := 2) (Nat.le_of_ble_eq_true rfl)
  rw [lg_entry_eq]
  generalize (lg_sl ([.ref (ad 0), .int p1]) ++ List.replicate (2 - (lg_sl ([.ref (ad 0), .int p1])).length) Slot.unset).toArray = ls at hl ⊢
  have hl : lv_has ls 2 [(0, .ref (ad 0)), (1, .int p1)] := hl
  change W p l e ({ frames := 2, cells := 0, slots := 0, locals := 46 } : Room) s m _ below meth c s.heap [] 0 0 _ _
  generalize hQm : MQ below (QI ro D (WM ca ad lq omcode mday mown mquot mprom mfiles mowner mlinks mblocks mvals msnaps mranks mkept mshot mwas mholds mheld mends mopen mentr mkinds misop mfilesT mentrT mpromT mlinksT mblocksT mvalsT ++ R) (WM ca ad lq mcode mday mown mquot mprom mfiles mowner mlinks mblocks mvals msnaps mranks mkept mshot mwas mholds mheld mends mopen mentr mkinds misop mfilesT mentrT mpromT mlinksT mblocksT mvalsT ++ R) s.heap.size) _ s 0 0 A = Qm
  have hP : va_P D vwCl (WM ca ad lq mcode mday mown mquot mprom mfiles mowner mlinks mblocks mvals msnaps mranks mkept mshot mwas mholds mheld mends mopen mentr mkinds misop mfilesT mentrT mpromT mlinksT mblocksT mvalsT ++ R) s.heap := hP
  generalize hae : ([.ref (ad 0), .int p1] : List Value).toArray = args at hts hQm ⊢
  refine lv_aload_n hx hb dX4_usedBy_0 rfl (lv_at hl 0 rfl) ?_
  refine lv_iconst (v := 0) hx hb dX4_usedBy_1 (by decide) ?_
  refine va_put (D := D) (ci := 8) (v := .int 0) (ty := .int) (C := RX4) (T := TX4) (N := 29) hx hb hts inX4 tyX4 tyX4_ok nmX4 hown hK hP hD hS 0 rfl rfl 0 (by decide) (hts _ q1329) (fun _ h9 => h9) rfl (by decide +kernel) rfl rfl (Nat.le_of_ble_eq_true rfl) dX4_usedBy_2 (fun H locs hP hD hS => ?_)
  have hP : va_P D vwCl (WM ca ad lq 0 mday mown mquot mprom mfiles mowner mlinks mblocks mvals msnaps mranks mkept mshot mwas mholds mheld mends mopen mentr mkinds misop mfilesT mentrT mpromT mlinksT mblocksT mvalsT ++ R) H := hP
  have hD : va_D A (WM ca ad lq 0 mday mown mquot mprom mfiles mowner mlinks mblocks mvals msnaps mranks mkept mshot mwas mholds mheld mends mopen mentr mkinds misop mfilesT mentrT mpromT mlinksT mblocksT mvalsT ++ R) := hD
  refine lv_aload_n hx hb dX4_usedBy_5 rfl (lv_at hl 0 rfl) ?_
  refine lv_iload_n hx hb dX4_usedBy_6 rfl (lv_at hl 1 rfl) ?_
  obtain ⟨r1, h2, hf⟩ := bnd hf
  refine call_vi (rest := []) (m_M_isOwner l ca ad lq 0 mday mown mquot mprom mfiles mowner mlinks mblocks mvals msnaps mranks mkept mshot mwas mholds mheld mends mopen mentr mkinds misop mfilesT mentrT mpromT mlinksT mblocksT mvalsT R _ p1 r1 h2) ⟨hx, hb, hml, hown, hts⟩ (cwV 1 hts (gV q1436 q1438 q24 q50 q1439) rfl rfl rfl (by decide +kernel) ⟨Nat.le_of_ble_eq_true rfl, Nat.le_of_ble_eq_true rfl⟩) (va_recv hK hP (ci := 8) (q0 := 0) rfl rfl) hE hP hD hS hA rfl hl.1 rfl (lv_room (Nat.le_of_ble_eq_true rfl)) dX4_usedBy_7 ⟨Nat.le_of_ble_eq_true rfl, Nat.le_of_ble_eq_true rfl⟩ (fun H locs hP hD hS => ?_)
  refine lv_if_eq (tgt := 21) hx hb dX4_usedBy_10 (by decide) (fun c3 => ?_) (fun c3 => ?_)
  · have hf := br_pos c3 hf
    refine lv_aload_n hx hb dX4_usedBy_21 rfl (lv_at hl 0 rfl) ?_
    refine lv_iconst (v := 1) hx hb dX4_usedBy_22 (by decide) ?_
    obtain ⟨⟨r4, mcode_5⟩, h6, hf⟩ := bnd hf
    refine call_vi (rest := []) (m_M_fails l ca ad lq 0 mday mown mquot mprom mfiles mowner mlinks mblocks mvals msnaps mranks mkept mshot mwas mholds mheld mends mopen mentr mkinds misop mfilesT mentrT mpromT mlinksT mblocksT mvalsT R _ 1 r4 mcode_5 h6) ⟨hx, hb, hml, hown, hts⟩ (cwV 1 hts (gV q1428 q1430 q23 q50 q1431) rfl rfl rfl (by decide +kernel) ⟨Nat.le_of_ble_eq_true rfl, Nat.le_of_ble_eq_true rfl⟩) (va_recv hK hP (ci := 8) (q0 := 0) rfl rfl) hE hP hD hS hA rfl hl.1 rfl (lv_room (Nat.le_of_ble_eq_true rfl)) dX4_usedBy_23 ⟨Nat.le_of_ble_eq_true rfl, Nat.le_of_ble_eq_true rfl⟩ (fun H locs hP hD hS => ?_)
    cases hf
    exact end_i hAe hQm hx hb hr hlocks rfl hP hD hS dX4_usedBy_26
  · have hf := br_neg c3 hf
    refine lv_aload_n hx hb dX4_usedBy_13 rfl (lv_at hl 0 rfl) ?_
    refine lv_iload_n hx hb dX4_usedBy_14 rfl (lv_at hl 1 rfl) ?_
    obtain ⟨r7, h8, hf⟩ := bnd hf
    refine call_vi (rest := []) (m_M_countsFor l ca ad lq 0 mday mown mquot mprom mfiles mowner mlinks mblocks mvals msnaps mranks mkept mshot mwas mholds mheld mends mopen mentr mkinds misop mfilesT mentrT mpromT mlinksT mblocksT mvalsT R _ p1 r7 h8) ⟨hx, hb, hml, hown, hts⟩ (cwV 1 hts (gV q1503 q1505 q34 q50 q1506) rfl rfl rfl (by decide +kernel) ⟨Nat.le_of_ble_eq_true rfl, Nat.le_of_ble_eq_true rfl⟩) (va_recv hK hP (ci := 8) (q0 := 0) rfl rfl) hE hP hD hS hA rfl hl.1 rfl (lv_room (Nat.le_of_ble_eq_true rfl)) dX4_usedBy_15 ⟨Nat.le_of_ble_eq_true rfl, Nat.le_of_ble_eq_true rfl⟩ (fun H locs hP hD hS => ?_)
    refine lv_goto (tgt := 26) hx hb dX4_usedBy_18 (by decide) ?_
    cases hf
    exact end_i hAe hQm hx hb hr hlocks rfl hP hD hS dX4_usedBy_26
def f_M_free (mblocks : Nat → Int32) (msnaps : Int32) (mkept : Nat → Int32) (mshot : Nat → Int32) : Option (Int32 × Int32) :=
  (f_M_freeNow mblocks msnaps mkept mshot).bind fun r1 =>
  some (r1, 0)
set_option maxHeartbeats 4000000 in
set_option maxRecDepth 100000 in
theorem m_M_free (l : Launch) {D : va_G} {sl : List (String × Nat × String)} (ca : Nat → ClassId) (ad : Nat → Nat) (lq : Nat) (mcode : Int32) (mday : Int32) (mown : Int32) (mquot : Nat → Int32) (mprom : Nat → Int32) (mfiles : Int32) (mowner : Nat → Int32) (mlinks : Nat → Int32) (mblocks : Nat → Int32) (mvals : Nat → Int32) (msnaps : Int32) (mranks : Nat → Int32) (mkept : Nat → Int32) (mshot : Nat → Int32) (mwas : Nat → Int32) (mholds : Int32) (mheld : Nat → Int32) (mends : Nat → Int32) (mopen : Nat → Int32) (mentr : Int32) (mkinds : Nat → Int32) (misop : Int32) (mfilesT : Int32) (mentrT : Int32) (mpromT : Nat → Int32) (mlinksT : Nat → Int32) (mblocksT : Nat → Int32) (mvalsT : Nat → Int32) (R : va_W) (sz : Nat) (ro : Int32) (omcode : Int32) (hf : f_M_free mblocks msnaps mkept mshot = some (ro, omcode)) : Met l yX4_free (wm yX4_free cX4_free 1 (some .int)) ({ frames := 2, cells := 0, slots := 0, locals := 46 } : Room) (PRE [.ref (ad 0)] D ca sl (WM ca ad lq mcode mday mown mquot mprom mfiles mowner mlinks mblocks mvals msnaps mranks mkept mshot mwas mholds mheld mends mopen mentr mkinds misop mfilesT mentrT mpromT mlinksT mblocksT mvalsT ++ R) sz) (QI ro D (WM ca ad lq omcode mday mown mquot mprom mfiles mowner mlinks mblocks mvals msnaps mranks mkept mshot mwas mholds mheld mends mopen mentr mkinds misop mfilesT mentrT mpromT mlinksT mblocksT mvalsT ++ R) (WM ca ad lq mcode mday mown mquot mprom mfiles mowner mlinks mblocks mvals msnaps mranks mkept mshot mwas mholds mheld mends mopen mentr mkinds misop mfilesT mentrT mpromT mlinksT mblocksT mvalsT ++ R) sz) 0 0 (va_A (WM ca ad lq mcode mday mown mquot mprom mfiles mowner mlinks mblocks mvals msnaps mranks mkept mshot mwas mholds mheld mends mopen mentr mkinds misop mfilesT mentrT mpromT mlinksT mblocksT mvalsT ++ R) sz) := by
  refine Met.ofW (cc := cX4_free) (maxL := 1) (ret := (some .int)) (by decide) rfl ?_
  intro p e s m args below meth c s₁ B hml hv
  obtain ⟨rfl, rfl, hP, hE, hD0⟩ := hv
  have hx := B.exec
  have hb := B.bytes
  have hr := B.returns
  have hts := wm_ww (atoms_spec (ws := wm yX4_free cX4_free 1 (some .int)) B.pre)
  have hown : s.vm.findClass RX4 = some m.cls := findClass_of_methodNamed B.named
  have hlocks := B.notSynchronized
  have hK := hE.1
  have hD := hD0.self (sz := s.heap.size)
  generalize hAe : va_A (WM ca ad lq mcode mday mown mquot mprom mfiles mowner mlinks mblocks mvals msnaps mranks mkept mshot mwas mholds mheld mends mopen mentr mkinds misop mfilesT mentrT mpromT mlinksT mblocksT mvalsT ++ R) s.heap.size = A at hD ⊢
  have hA : ∀ q : Nat, s.heap.size ≤ q → A q := fun q h => by rw [← hAe]; exact Or.inr h
  have hS : va_S A s.heap s.heap [] := va_S.rf
  have hl := lv_entry ([.ref (ad 0)]) (n := 1) (Nat.le_of_ble_eq_true rfl)
  rw [lg_entry_eq]
  generalize (lg_sl ([.ref (ad 0)]) ++ List.replicate (1 - (lg_sl ([.ref (ad 0)])).length) Slot.unset).toArray = ls at hl ⊢
  have hl : lv_has ls 1 [(0, .ref (ad 0))] := hl
  change W p l e ({ frames := 2, cells := 0, slots := 0, locals := 46 } : Room) s m _ below meth c s.heap [] 0 0 _ _
  generalize hQm : MQ below (QI ro D (WM ca ad lq omcode mday mown mquot mprom mfiles mowner mlinks mblocks mvals msnaps mranks mkept mshot mwas mholds mheld mends mopen mentr mkinds misop mfilesT mentrT mpromT mlinksT mblocksT mvalsT ++ R) (WM ca ad lq mcode mday mown mquot mprom mfiles mowner mlinks mblocks mvals msnaps mranks mkept mshot mwas mholds mheld mends mopen mentr mkinds misop mfilesT mentrT mpromT mlinksT mblocksT mvalsT ++ R) s.heap.size) _ s 0 0 A = Qm
  have hP : va_P D vwCl (WM ca ad lq mcode mday mown mquot mprom mfiles mowner mlinks mblocks mvals msnaps mranks mkept mshot mwas mholds mheld mends mopen mentr mkinds misop mfilesT mentrT mpromT mlinksT mblocksT mvalsT ++ R) s.heap := hP
  generalize hae : ([.ref (ad 0)] : List Value).toArray = args at hts hQm ⊢
  refine lv_aload_n hx hb dX4_free_0 rfl (lv_at hl 0 rfl) ?_
  refine lv_iconst (v := 0) hx hb dX4_free_1 (by decide) ?_
  refine va_put (D := D) (ci := 8) (v := .int 0) (ty := .int) (C := RX4) (T := TX4) (N := 29) hx hb hts inX4 tyX4 tyX4_ok nmX4 hown hK hP hD hS 0 rfl rfl 0 (by decide) (hts _ q1329) (fun _ h9 => h9) rfl (by decide +kernel) rfl rfl (Nat.le_of_ble_eq_true rfl) dX4_free_2 (fun H locs hP hD hS => ?_)
  have hP : va_P D vwCl (WM ca ad lq 0 mday mown mquot mprom mfiles mowner mlinks mblocks mvals msnaps mranks mkept mshot mwas mholds mheld mends mopen mentr mkinds misop mfilesT mentrT mpromT mlinksT mblocksT mvalsT ++ R) H := hP
  have hD : va_D A (WM ca ad lq 0 mday mown mquot mprom mfiles mowner mlinks mblocks mvals msnaps mranks mkept mshot mwas mholds mheld mends mopen mentr mkinds misop mfilesT mentrT mpromT mlinksT mblocksT mvalsT ++ R) := hD
  refine lv_aload_n hx hb dX4_free_5 rfl (lv_at hl 0 rfl) ?_
  obtain ⟨r1, h2, hf⟩ := bnd hf
  refine call_vi (rest := []) (m_M_freeNow l ca ad lq 0 mday mown mquot mprom mfiles mowner mlinks mblocks mvals msnaps mranks mkept mshot mwas mholds mheld mends mopen mentr mkinds misop mfilesT mentrT mpromT mlinksT mblocksT mvalsT R _ r1 h2) ⟨hx, hb, hml, hown, hts⟩ (cwV 0 hts (gV q1491 q1493 q31 q50 q1494) rfl rfl rfl (by decide +kernel) ⟨Nat.le_of_ble_eq_true rfl, Nat.le_of_ble_eq_true rfl⟩) (va_recv hK hP (ci := 8) (q0 := 0) rfl rfl) hE hP hD hS hA rfl hl.1 rfl (lv_room (Nat.le_of_ble_eq_true rfl)) dX4_free_6 ⟨Nat.le_of_ble_eq_true rfl, Nat.le_of_ble_eq_true rfl⟩ (fun H locs hP hD hS => ?_)
  cases hf
  exact end_i hAe hQm hx hb hr hlocks rfl hP hD hS dX4_free_9
def f_M_usersOf (p1 : Int32) (mblocks : Nat → Int32) (msnaps : Int32) (mkept : Nat → Int32) (mshot : Nat → Int32) : Option (Int32 × Int32) :=
  (f_M_in p1 0 63).bind fun r1 =>
  if r1 = 0 then
    (f_M_fails 1).bind fun (r4, mcode_5) =>
    some (r4, mcode_5)
  else
    (f_M_users p1 mblocks msnaps mkept mshot).bind fun r7 =>
    some (r7, 0)
set_option maxHeartbeats 4000000 in
set_option maxRecDepth 100000 in
theorem m_M_usersOf (l : Launch) {D : va_G} {sl : List (String × Nat × String)} (ca : Nat → ClassId) (ad : Nat → Nat) (lq : Nat) (mcode : Int32) (mday : Int32) (mown : Int32) (mquot : Nat → Int32) (mprom : Nat → Int32) (mfiles : Int32) (mowner : Nat → Int32) (mlinks : Nat → Int32) (mblocks : Nat → Int32) (mvals : Nat → Int32) (msnaps : Int32) (mranks : Nat → Int32) (mkept : Nat → Int32) (mshot : Nat → Int32) (mwas : Nat → Int32) (mholds : Int32) (mheld : Nat → Int32) (mends : Nat → Int32) (mopen : Nat → Int32) (mentr : Int32) (mkinds : Nat → Int32) (misop : Int32) (mfilesT : Int32) (mentrT : Int32) (mpromT : Nat → Int32) (mlinksT : Nat → Int32) (mblocksT : Nat → Int32) (mvalsT : Nat → Int32) (R : va_W) (sz : Nat) (p1 : Int32) (ro : Int32) (omcode : Int32) (hf : f_M_usersOf p1 mblocks msnaps mkept mshot = some (ro, omcode)) : Met l yX4_usersOf (wm yX4_usersOf cX4_usersOf 2 (some .int)) ({ frames := 1, cells := 0, slots := 0, locals := 24 } : Room) (PRE [.ref (ad 0), .int p1] D ca sl (WM ca ad lq mcode mday mown mquot mprom mfiles mowner mlinks mblocks mvals msnaps mranks mkept mshot mwas mholds mheld mends mopen mentr mkinds misop mfilesT mentrT mpromT mlinksT mblocksT mvalsT ++ R) sz) (QI ro D (WM ca ad lq omcode mday mown mquot mprom mfiles mowner mlinks mblocks mvals msnaps mranks mkept mshot mwas mholds mheld mends mopen mentr mkinds misop mfilesT mentrT mpromT mlinksT mblocksT mvalsT ++ R) (WM ca ad lq mcode mday mown mquot mprom mfiles mowner mlinks mblocks mvals msnaps mranks mkept mshot mwas mholds mheld mends mopen mentr mkinds misop mfilesT mentrT mpromT mlinksT mblocksT mvalsT ++ R) sz) 0 0 (va_A (WM ca ad lq mcode mday mown mquot mprom mfiles mowner mlinks mblocks mvals msnaps mranks mkept mshot mwas mholds mheld mends mopen mentr mkinds misop mfilesT mentrT mpromT mlinksT mblocksT mvalsT ++ R) sz) := by
  refine Met.ofW (cc := cX4_usersOf) (maxL := 2) (ret := (some .int)) (by decide) rfl ?_
  intro p e s m args below meth c s₁ B hml hv
  obtain ⟨rfl, rfl, hP, hE, hD0⟩ := hv
  have hx := B.exec
  have hb := B.bytes
  have hr := B.returns
  have hts := wm_ww (atoms_spec (ws := wm yX4_usersOf cX4_usersOf 2 (some .int)) B.pre)
  have hown : s.vm.findClass RX4 = some m.cls := findClass_of_methodNamed B.named
  have hlocks := B.notSynchronized
  have hK := hE.1
  have hD := hD0.self (sz := s.heap.size)
  generalize hAe : va_A (WM ca ad lq mcode mday mown mquot mprom mfiles mowner mlinks mblocks mvals msnaps mranks mkept mshot mwas mholds mheld mends mopen mentr mkinds misop mfilesT mentrT mpromT mlinksT mblocksT mvalsT ++ R) s.heap.size = A at hD ⊢
  have hA : ∀ q : Nat, s.heap.size ≤ q → A q := fun q h => by rw [← hAe]; exact Or.inr h
  have hS : va_S A s.heap s.heap [] := va_S.rf
  have hl := lv_entry ([.ref (ad 0), .int p1]) (n := 2) (Nat.le_of_ble_eq_true rfl)
  rw [lg_entry_eq]
  generalize (lg_sl ([.ref (ad 0), .int p1]) ++ List.replicate (2 - (lg_sl ([.ref (ad 0), .int p1])).length) Slot.unset).toArray = ls at hl ⊢
  have hl : lv_has ls 2 [(0, .ref (ad 0)), (1, .int p1)] := hl
  change W p l e ({ frames := 1, cells := 0, slots := 0, locals := 24 } : Room) s m _ below meth c s.heap [] 0 0 _ _
  generalize hQm : MQ below (QI ro D (WM ca ad lq omcode mday mown mquot mprom mfiles mowner mlinks mblocks mvals msnaps mranks mkept mshot mwas mholds mheld mends mopen mentr mkinds misop mfilesT mentrT mpromT mlinksT mblocksT mvalsT ++ R) (WM ca ad lq mcode mday mown mquot mprom mfiles mowner mlinks mblocks mvals msnaps mranks mkept mshot mwas mholds mheld mends mopen mentr mkinds misop mfilesT mentrT mpromT mlinksT mblocksT mvalsT ++ R) s.heap.size) _ s 0 0 A = Qm
  have hP : va_P D vwCl (WM ca ad lq mcode mday mown mquot mprom mfiles mowner mlinks mblocks mvals msnaps mranks mkept mshot mwas mholds mheld mends mopen mentr mkinds misop mfilesT mentrT mpromT mlinksT mblocksT mvalsT ++ R) s.heap := hP
  generalize hae : ([.ref (ad 0), .int p1] : List Value).toArray = args at hts hQm ⊢
  refine lv_aload_n hx hb dX4_usersOf_0 rfl (lv_at hl 0 rfl) ?_
  refine lv_iconst (v := 0) hx hb dX4_usersOf_1 (by decide) ?_
  refine va_put (D := D) (ci := 8) (v := .int 0) (ty := .int) (C := RX4) (T := TX4) (N := 29) hx hb hts inX4 tyX4 tyX4_ok nmX4 hown hK hP hD hS 0 rfl rfl 0 (by decide) (hts _ q1329) (fun _ h9 => h9) rfl (by decide +kernel) rfl rfl (Nat.le_of_ble_eq_true rfl) dX4_usersOf_2 (fun H locs hP hD hS => ?_)
  have hP : va_P D vwCl (WM ca ad lq 0 mday mown mquot mprom mfiles mowner mlinks mblocks mvals msnaps mranks mkept mshot mwas mholds mheld mends mopen mentr mkinds misop mfilesT mentrT mpromT mlinksT mblocksT mvalsT ++ R) H := hP
  have hD : va_D A (WM ca ad lq 0 mday mown mquot mprom mfiles mowner mlinks mblocks mvals msnaps mranks mkept mshot mwas mholds mheld mends mopen mentr mkinds misop mfilesT mentrT mpromT mlinksT mblocksT mvalsT ++ R) := hD
  refine lv_iload_n hx hb dX4_usersOf_5 rfl (lv_at hl 1 rfl) ?_
  refine lv_iconst (v := 0) hx hb dX4_usersOf_6 (by decide) ?_
  refine lv_bipush (v := 63) hx hb dX4_usersOf_7 (by decide) ?_
  obtain ⟨r1, h2, hf⟩ := bnd hf
  refine call_si (rest := []) (m_M_in l ca ad lq 0 mday mown mquot mprom mfiles mowner mlinks mblocks mvals msnaps mranks mkept mshot mwas mholds mheld mends mopen mentr mkinds misop mfilesT mentrT mpromT mlinksT mblocksT mvalsT R _ p1 0 63 r1 h2) ⟨hx, hb, hml, hown, hts⟩ (va_cwS 3 hts (gS q1425 q1426 q50 q1427) rfl rfl rfl (by decide +kernel) ⟨Nat.le_of_ble_eq_true rfl, Nat.le_of_ble_eq_true rfl⟩) hE hP hD hS hA rfl hl.1 rfl (lv_room (Nat.le_of_ble_eq_true rfl)) dX4_usersOf_9 ⟨Nat.le_of_ble_eq_true rfl, Nat.le_of_ble_eq_true rfl⟩ (fun H locs hP hD hS => ?_)
  refine lv_if_eq (tgt := 23) hx hb dX4_usersOf_12 (by decide) (fun c3 => ?_) (fun c3 => ?_)
  · have hf := br_pos c3 hf
    refine lv_aload_n hx hb dX4_usersOf_23 rfl (lv_at hl 0 rfl) ?_
    refine lv_iconst (v := 1) hx hb dX4_usersOf_24 (by decide) ?_
    obtain ⟨⟨r4, mcode_5⟩, h6, hf⟩ := bnd hf
    refine call_vi (rest := []) (m_M_fails l ca ad lq 0 mday mown mquot mprom mfiles mowner mlinks mblocks mvals msnaps mranks mkept mshot mwas mholds mheld mends mopen mentr mkinds misop mfilesT mentrT mpromT mlinksT mblocksT mvalsT R _ 1 r4 mcode_5 h6) ⟨hx, hb, hml, hown, hts⟩ (cwV 1 hts (gV q1428 q1430 q23 q50 q1431) rfl rfl rfl (by decide +kernel) ⟨Nat.le_of_ble_eq_true rfl, Nat.le_of_ble_eq_true rfl⟩) (va_recv hK hP (ci := 8) (q0 := 0) rfl rfl) hE hP hD hS hA rfl hl.1 rfl (lv_room (Nat.le_of_ble_eq_true rfl)) dX4_usersOf_25 ⟨Nat.le_of_ble_eq_true rfl, Nat.le_of_ble_eq_true rfl⟩ (fun H locs hP hD hS => ?_)
    cases hf
    exact end_i hAe hQm hx hb hr hlocks rfl hP hD hS dX4_usersOf_28
  · have hf := br_neg c3 hf
    refine lv_aload_n hx hb dX4_usersOf_15 rfl (lv_at hl 0 rfl) ?_
    refine lv_iload_n hx hb dX4_usersOf_16 rfl (lv_at hl 1 rfl) ?_
    obtain ⟨r7, h8, hf⟩ := bnd hf
    refine call_vi (rest := []) (m_M_users l ca ad lq 0 mday mown mquot mprom mfiles mowner mlinks mblocks mvals msnaps mranks mkept mshot mwas mholds mheld mends mopen mentr mkinds misop mfilesT mentrT mpromT mlinksT mblocksT mvalsT R _ p1 r7 h8) ⟨hx, hb, hml, hown, hts⟩ (cwV 1 hts (gV q1487 q1489 q30 q50 q1490) rfl rfl rfl (by decide +kernel) ⟨Nat.le_of_ble_eq_true rfl, Nat.le_of_ble_eq_true rfl⟩) (va_recv hK hP (ci := 8) (q0 := 0) rfl rfl) hE hP hD hS hA rfl hl.1 rfl (lv_room (Nat.le_of_ble_eq_true rfl)) dX4_usersOf_17 ⟨Nat.le_of_ble_eq_true rfl, Nat.le_of_ble_eq_true rfl⟩ (fun H locs hP hD hS => ?_)
    refine lv_goto (tgt := 28) hx hb dX4_usersOf_20 (by decide) ?_
    cases hf
    exact end_i hAe hQm hx hb hr hlocks rfl hP hD hS dX4_usersOf_28
def f_M_usersByWalk (p1 : Int32) (mblocks : Nat → Int32) (msnaps : Int32) (mkept : Nat → Int32) (mshot : Nat → Int32) : Option (Int32 × Int32) :=
  (f_M_usersOf p1 mblocks msnaps mkept mshot).bind fun (r1, mcode_2) =>
  some (r1, mcode_2)
set_option maxHeartbeats 4000000 in
set_option maxRecDepth 100000 in
theorem m_M_usersByWalk (l : Launch) {D : va_G} {sl : List (String × Nat × String)} (ca : Nat → ClassId) (ad : Nat → Nat) (lq : Nat) (mcode : Int32) (mday : Int32) (mown : Int32) (mquot : Nat → Int32) (mprom : Nat → Int32) (mfiles : Int32) (mowner : Nat → Int32) (mlinks : Nat → Int32) (mblocks : Nat → Int32) (mvals : Nat → Int32) (msnaps : Int32) (mranks : Nat → Int32) (mkept : Nat → Int32) (mshot : Nat → Int32) (mwas : Nat → Int32) (mholds : Int32) (mheld : Nat → Int32) (mends : Nat → Int32) (mopen : Nat → Int32) (mentr : Int32) (mkinds : Nat → Int32) (misop : Int32) (mfilesT : Int32) (mentrT : Int32) (mpromT : Nat → Int32) (mlinksT : Nat → Int32) (mblocksT : Nat → Int32) (mvalsT : Nat → Int32) (R : va_W) (sz : Nat) (p1 : Int32) (ro : Int32) (omcode : Int32) (hf : f_M_usersByWalk p1 mblocks msnaps mkept mshot = some (ro, omcode)) : Met l yX4_usersByWalk (wm yX4_usersByWalk cX4_usersByWalk 2 (some .int)) ({ frames := 2, cells := 0, slots := 0, locals := 45 } : Room) (PRE [.ref (ad 0), .int p1] D ca sl (WM ca ad lq mcode mday mown mquot mprom mfiles mowner mlinks mblocks mvals msnaps mranks mkept mshot mwas mholds mheld mends mopen mentr mkinds misop mfilesT mentrT mpromT mlinksT mblocksT mvalsT ++ R) sz) (QI ro D (WM ca ad lq omcode mday mown mquot mprom mfiles mowner mlinks mblocks mvals msnaps mranks mkept mshot mwas mholds mheld mends mopen mentr mkinds misop mfilesT mentrT mpromT mlinksT mblocksT mvalsT ++ R) (WM ca ad lq mcode mday mown mquot mprom mfiles mowner mlinks mblocks mvals msnaps mranks mkept mshot mwas mholds mheld mends mopen mentr mkinds misop mfilesT mentrT mpromT mlinksT mblocksT mvalsT ++ R) sz) 0 0 (va_A (WM ca ad lq mcode mday mown mquot mprom mfiles mowner mlinks mblocks mvals msnaps mranks mkept mshot mwas mholds mheld mends mopen mentr mkinds misop mfilesT mentrT mpromT mlinksT mblocksT mvalsT ++ R) sz) := by
  refine Met.ofW (cc := cX4_usersByWalk) (maxL := 2) (ret := (some .int)) (by decide) rfl ?_
  intro p e s m args below meth c s₁ B hml hv
  obtain ⟨rfl, rfl, hP, hE, hD0⟩ := hv
  have hx := B.exec
  have hb := B.bytes
  have hr := B.returns
  have hts := wm_ww (atoms_spec (ws := wm yX4_usersByWalk cX4_usersByWalk 2 (some .int)) B.pre)
  have hown : s.vm.findClass RX4 = some m.cls := findClass_of_methodNamed B.named
  have hlocks := B.notSynchronized
  have hK := hE.1
  have hD := hD0.self (sz := s.heap.size)
  generalize hAe : va_A (WM ca ad lq mcode mday mown mquot mprom mfiles mowner mlinks mblocks mvals msnaps mranks mkept mshot mwas mholds mheld mends mopen mentr mkinds misop mfilesT mentrT mpromT mlinksT mblocksT mvalsT ++ R) s.heap.size = A at hD ⊢
  have hA : ∀ q : Nat, s.heap.size ≤ q → A q := fun q h => by rw [← hAe]; exact Or.inr h
  have hS : va_S A s.heap s.heap [] := va_S.rf
  have hl := lv_entry ([.ref (ad 0), .int p1]) (n := 2) (Nat.le_of_ble_eq_true rfl)
  rw [lg_entry_eq]
  generalize (lg_sl ([.ref (ad 0), .int p1]) ++ List.replicate (2 - (lg_sl ([.ref (ad 0), .int p1])).length) Slot.unset).toArray = ls at hl ⊢
  have hl : lv_has ls 2 [(0, .ref (ad 0)), (1, .int p1)] := hl
  change W p l e ({ frames := 2, cells := 0, slots := 0, locals := 45 } : Room) s m _ below meth c s.heap [] 0 0 _ _
  generalize hQm : MQ below (QI ro D (WM ca ad lq omcode mday mown mquot mprom mfiles mowner mlinks mblocks mvals msnaps mranks mkept mshot mwas mholds mheld mends mopen mentr mkinds misop mfilesT mentrT mpromT mlinksT mblocksT mvalsT ++ R) (WM ca ad lq mcode mday mown mquot mprom mfiles mowner mlinks mblocks mvals msnaps mranks mkept mshot mwas mholds mheld mends mopen mentr mkinds misop mfilesT mentrT mpromT mlinksT mblocksT mvalsT ++ R) s.heap.size) _ s 0 0 A = Qm
  have hP : va_P D vwCl (WM ca ad lq mcode mday mown mquot mprom mfiles mowner mlinks mblocks mvals msnaps mranks mkept mshot mwas mholds mheld mends mopen mentr mkinds misop mfilesT mentrT mpromT mlinksT mblocksT mvalsT ++ R) s.heap := hP
  generalize hae : ([.ref (ad 0), .int p1] : List Value).toArray = args at hts hQm ⊢
  refine lv_aload_n hx hb dX4_usersByWalk_0 rfl (lv_at hl 0 rfl) ?_
  refine lv_iload_n hx hb dX4_usersByWalk_1 rfl (lv_at hl 1 rfl) ?_
  obtain ⟨⟨r1, mcode_2⟩, h3, hf⟩ := bnd hf
  refine call_vi (rest := []) (m_M_usersOf l ca ad lq mcode mday mown mquot mprom mfiles mowner mlinks mblocks mvals msnaps mranks mkept mshot mwas mholds mheld mends mopen mentr mkinds misop mfilesT mentrT mpromT mlinksT mblocksT mvalsT R _ p1 r1 mcode_2 h3) ⟨hx, hb, hml, hown, hts⟩ (cwV 1 hts (gV q1543 q1536 q1537 q50 q1538) rfl rfl rfl (by decide +kernel) ⟨Nat.le_of_ble_eq_true rfl, Nat.le_of_ble_eq_true rfl⟩) (va_recv hK hP (ci := 8) (q0 := 0) rfl rfl) hE hP hD hS hA rfl hl.1 rfl (lv_room (Nat.le_of_ble_eq_true rfl)) dX4_usersByWalk_2 ⟨Nat.le_of_ble_eq_true rfl, Nat.le_of_ble_eq_true rfl⟩ (fun H locs hP hD hS => ?_)
  cases hf
  exact end_i hAe hQm hx hb hr hlocks rfl hP hD hS dX4_usersByWalk_5
def f_M_promise (p1 : Int32) (p2 : Int32) (mown : Int32) (mprom : Nat → Int32) (mblocks : Nat → Int32) (msnaps : Int32) (mkept : Nat → Int32) (mshot : Nat → Int32) (mentr : Int32) (mkinds : Nat → Int32) : Option (Int32 × Int32 × (Nat → Int32) × Int32 × (Nat → Int32)) :=
  (f_M_isOwner p1 mown).bind fun r1 =>
  if r1 = 0 then
    (f_M_fails 1).bind fun (r24, mcode_25) =>
    some (r24, mcode_25, mprom, mentr, mkinds)
  else
    (f_M_in p2 1 64).bind fun r4 =>
    if r4 = 0 then
      (f_M_fails 2).bind fun (r21, mcode_22) =>
      some (r21, mcode_22, mprom, mentr, mkinds)
    else
      (f_M_freeNow mblocks msnaps mkept mshot).bind fun r7 =>
      (f_M_promisedNow mprom).bind fun r9 =>
      if p2 ≤ (r7 - r9) then
        if p1 < 0 ∨ 4 ≤ p1.toNatClampNeg then none else
          if p1 < 0 ∨ 4 ≤ p1.toNatClampNeg then none else
          (f_M_enters 112 mentr mkinds).bind fun (mentr_14, mkinds_15) =>
        if p1 < 0 ∨ 4 ≤ p1.toNatClampNeg then none else
          some (((upd mprom p1.toNatClampNeg ((mprom p1.toNatClampNeg) + p2)) p1.toNatClampNeg), 0, (upd mprom p1.toNatClampNeg ((mprom p1.toNatClampNeg) + p2)), mentr_14, mkinds_15)
      else
        (f_M_fails 3).bind fun (r18, mcode_19) =>
        some (r18, mcode_19, mprom, mentr, mkinds)
set_option maxHeartbeats 4000000 in
set_option maxRecDepth 100000 in
theorem m_M_promise (l : Launch) {D : va_G} {sl : List (String × Nat × String)} (ca : Nat → ClassId) (ad : Nat → Nat) (lq : Nat) (mcode : Int32) (mday : Int32) (mown : Int32) (mquot : Nat → Int32) (mprom : Nat → Int32) (mfiles : Int32) (mowner : Nat → Int32) (mlinks : Nat → Int32) (mblocks : Nat → Int32) (mvals : Nat → Int32) (msnaps : Int32) (mranks : Nat → Int32) (mkept : Nat → Int32) (mshot : Nat → Int32) (mwas : Nat → Int32) (mholds : Int32) (mheld : Nat → Int32) (mends : Nat → Int32) (mopen : Nat → Int32) (mentr : Int32) (mkinds : Nat → Int32) (misop : Int32) (mfilesT : Int32) (mentrT : Int32) (mpromT : Nat → Int32) (mlinksT : Nat → Int32) (mblocksT : Nat → Int32) (mvalsT : Nat → Int32) (R : va_W) (sz : Nat) (p1 : Int32) (p2 : Int32) (ro : Int32) (omcode : Int32) (omprom : Nat → Int32) (omentr : Int32) (omkinds : Nat → Int32) (hf : f_M_promise p1 p2 mown mprom mblocks msnaps mkept mshot mentr mkinds = some (ro, omcode, omprom, omentr, omkinds)) : Met l yX4_promise (wm yX4_promise cX4_promise 3 (some .int)) ({ frames := 2, cells := 0, slots := 0, locals := 46 } : Room) (PRE [.ref (ad 0), .int p1, .int p2] D ca sl (WM ca ad lq mcode mday mown mquot mprom mfiles mowner mlinks mblocks mvals msnaps mranks mkept mshot mwas mholds mheld mends mopen mentr mkinds misop mfilesT mentrT mpromT mlinksT mblocksT mvalsT ++ R) sz) (QI ro D (WM ca ad lq omcode mday mown mquot omprom mfiles mowner mlinks mblocks mvals msnaps mranks mkept mshot mwas mholds mheld mends mopen omentr omkinds misop mfilesT mentrT mpromT mlinksT mblocksT mvalsT ++ R) (WM ca ad lq mcode mday mown mquot mprom mfiles mowner mlinks mblocks mvals msnaps mranks mkept mshot mwas mholds mheld mends mopen mentr mkinds misop mfilesT mentrT mpromT mlinksT mblocksT mvalsT ++ R) sz) 0 0 (va_A (WM ca ad lq mcode mday mown mquot mprom mfiles mowner mlinks mblocks mvals msnaps mranks mkept mshot mwas mholds mheld mends mopen mentr mkinds misop mfilesT mentrT mpromT mlinksT mblocksT mvalsT ++ R) sz) := by
  refine Met.ofW (cc := cX4_promise) (maxL := 3) (ret := (some .int)) (by decide) rfl ?_
  intro p e s m args below meth c s₁ B hml hv
  obtain ⟨rfl, rfl, hP, hE, hD0⟩ := hv
  have hx := B.exec
  have hb := B.bytes
  have hr := B.returns
  have hts := wm_ww (atoms_spec (ws := wm yX4_promise cX4_promise 3 (some .int)) B.pre)
  have hown : s.vm.findClass RX4 = some m.cls := findClass_of_methodNamed B.named
  have hlocks := B.notSynchronized
  have hK := hE.1
  have hD := hD0.self (sz := s.heap.size)
  generalize hAe : va_A (WM ca ad lq mcode mday mown mquot mprom mfiles mowner mlinks mblocks mvals msnaps mranks mkept mshot mwas mholds mheld mends mopen mentr mkinds misop mfilesT mentrT mpromT mlinksT mblocksT mvalsT ++ R) s.heap.size = A at hD ⊢
  have hA : ∀ q : Nat, s.heap.size ≤ q → A q := fun q h => by rw [← hAe]; exact Or.inr h
  have hS : va_S A s.heap s.heap [] := va_S.rf
  have hl := lv_entry ([.ref (ad 0), .int p1, .int p2]) (n := 3) (Nat.le_of_ble_eq_true rfl)
  rw [lg_entry_eq]
  generalize (lg_sl ([.ref (ad 0), .int p1, .int p2]) ++ List.replicate (3 - (lg_sl ([.ref (ad 0), .int p1, .int p2])).length) Slot.unset).toArray = ls at hl ⊢
  have hl : lv_has ls 3 [(0, .ref (ad 0)), (1, .int p1), (2, .int p2)] := hl
  change W p l e ({ frames := 2, cells := 0, slots := 0, locals := 46 } : Room) s m _ below meth c s.heap [] 0 0 _ _
  generalize hQm : MQ below (QI ro D (WM ca ad lq omcode mday mown mquot omprom mfiles mowner mlinks mblocks mvals msnaps mranks mkept mshot mwas mholds mheld mends mopen omentr omkinds misop mfilesT mentrT mpromT mlinksT mblocksT mvalsT ++ R) (WM ca ad lq mcode mday mown mquot mprom mfiles mowner mlinks mblocks mvals msnaps mranks mkept mshot mwas mholds mheld mends mopen mentr mkinds misop mfilesT mentrT mpromT mlinksT mblocksT mvalsT ++ R) s.heap.size) _ s 0 0 A = Qm
  have hP : va_P D vwCl (WM ca ad lq mcode mday mown mquot mprom mfiles mowner mlinks mblocks mvals msnaps mranks mkept mshot mwas mholds mheld mends mopen mentr mkinds misop mfilesT mentrT mpromT mlinksT mblocksT mvalsT ++ R) s.heap := hP
  generalize hae : ([.ref (ad 0), .int p1, .int p2] : List Value).toArray = args at hts hQm ⊢
  refine lv_aload_n hx hb dX4_promise_0 rfl (lv_at hl 0 rfl) ?_
  refine lv_iconst (v := 0) hx hb dX4_promise_1 (by decide) ?_
  refine va_put (D := D) (ci := 8) (v := .int 0) (ty := .int) (C := RX4) (T := TX4) (N := 29) hx hb hts inX4 tyX4 tyX4_ok nmX4 hown hK hP hD hS 0 rfl rfl 0 (by decide) (hts _ q1329) (fun _ h9 => h9) rfl (by decide +kernel) rfl rfl (Nat.le_of_ble_eq_true rfl) dX4_promise_2 (fun H locs hP hD hS => ?_)
  have hP : va_P D vwCl (WM ca ad lq 0 mday mown mquot mprom mfiles mowner mlinks mblocks mvals msnaps mranks mkept mshot mwas mholds mheld mends mopen mentr mkinds misop mfilesT mentrT mpromT mlinksT mblocksT mvalsT ++ R) H := hP
  have hD : va_D A (WM ca ad lq 0 mday mown mquot mprom mfiles mowner mlinks mblocks mvals msnaps mranks mkept mshot mwas mholds mheld mends mopen mentr mkinds misop mfilesT mentrT mpromT mlinksT mblocksT mvalsT ++ R) := hD
  refine lv_aload_n hx hb dX4_promise_5 rfl (lv_at hl 0 rfl) ?_
  refine lv_iload_n hx hb dX4_promise_6 rfl (lv_at hl 1 rfl) ?_
  obtain ⟨r1, h2, hf⟩ := bnd hf
  refine call_vi (rest := []) (m_M_isOwner l ca ad lq 0 mday mown mquot mprom mfiles mowner mlinks mblocks mvals msnaps mranks mkept mshot mwas mholds mheld mends mopen mentr mkinds misop mfilesT mentrT mpromT mlinksT mblocksT mvalsT R _ p1 r1 h2) ⟨hx, hb, hml, hown, hts⟩ (cwV 1 hts (gV q1436 q1438 q24 q50 q1439) rfl rfl rfl (by decide +kernel) ⟨Nat.le_of_ble_eq_true rfl, Nat.le_of_ble_eq_true rfl⟩) (va_recv hK hP (ci := 8) (q0 := 0) rfl rfl) hE hP hD hS hA rfl hl.1 rfl (lv_room (Nat.le_of_ble_eq_true rfl)) dX4_promise_7 ⟨Nat.le_of_ble_eq_true rfl, Nat.le_of_ble_eq_true rfl⟩ (fun H locs hP hD hS => ?_)
  refine lv_if_ne (tgt := 19) hx hb dX4_promise_10 (by decide) (fun c3 => ?_) (fun c3 => ?_)
  · have hf := br_neg c3 hf
    refine lv_iload_n hx hb dX4_promise_19 rfl (lv_at hl 2 rfl) ?_
    refine lv_iconst (v := 1) hx hb dX4_promise_20 (by decide) ?_
    refine lv_bipush (v := 64) hx hb dX4_promise_21 (by decide) ?_
    obtain ⟨r4, h5, hf⟩ := bnd hf
    refine call_si (rest := []) (m_M_in l ca ad lq 0 mday mown mquot mprom mfiles mowner mlinks mblocks mvals msnaps mranks mkept mshot mwas mholds mheld mends mopen mentr mkinds misop mfilesT mentrT mpromT mlinksT mblocksT mvalsT R _ p2 1 64 r4 h5) ⟨hx, hb, hml, hown, hts⟩ (va_cwS 3 hts (gS q1425 q1426 q50 q1427) rfl rfl rfl (by decide +kernel) ⟨Nat.le_of_ble_eq_true rfl, Nat.le_of_ble_eq_true rfl⟩) hE hP hD hS hA rfl hl.1 rfl (lv_room (Nat.le_of_ble_eq_true rfl)) dX4_promise_23 ⟨Nat.le_of_ble_eq_true rfl, Nat.le_of_ble_eq_true rfl⟩ (fun H locs hP hD hS => ?_)
    refine lv_if_ne (tgt := 35) hx hb dX4_promise_26 (by decide) (fun c6 => ?_) (fun c6 => ?_)
    · have hf := br_neg c6 hf
      refine lv_iload_n hx hb dX4_promise_35 rfl (lv_at hl 2 rfl) ?_
      refine lv_aload_n hx hb dX4_promise_36 rfl (lv_at hl 0 rfl) ?_
      obtain ⟨r7, h8, hf⟩ := bnd hf
      refine call_vi (rest := [.int p2]) (m_M_freeNow l ca ad lq 0 mday mown mquot mprom mfiles mowner mlinks mblocks mvals msnaps mranks mkept mshot mwas mholds mheld mends mopen mentr mkinds misop mfilesT mentrT mpromT mlinksT mblocksT mvalsT R _ r7 h8) ⟨hx, hb, hml, hown, hts⟩ (cwV 0 hts (gV q1491 q1493 q31 q50 q1494) rfl rfl rfl (by decide +kernel) ⟨Nat.le_of_ble_eq_true rfl, Nat.le_of_ble_eq_true rfl⟩) (va_recv hK hP (ci := 8) (q0 := 0) rfl rfl) hE hP hD hS hA rfl hl.1 rfl (lv_room (Nat.le_of_ble_eq_true rfl)) dX4_promise_37 ⟨Nat.le_of_ble_eq_true rfl, Nat.le_of_ble_eq_true rfl⟩ (fun H locs hP hD hS => ?_)
      refine lv_aload_n hx hb dX4_promise_40 rfl (lv_at hl 0 rfl) ?_
      obtain ⟨r9, h10, hf⟩ := bnd hf
      refine call_vi (rest := [.int r7, .int p2]) (m_M_promisedNow l ca ad lq 0 mday mown mquot mprom mfiles mowner mlinks mblocks mvals msnaps mranks mkept mshot mwas mholds mheld mends mopen mentr mkinds misop mfilesT mentrT mpromT mlinksT mblocksT mvalsT R _ r9 h10) ⟨hx, hb, hml, hown, hts⟩ (cwV 0 hts (gV q1495 q1497 q32 q50 q1498) rfl rfl rfl (by decide +kernel) ⟨Nat.le_of_ble_eq_true rfl, Nat.le_of_ble_eq_true rfl⟩) (va_recv hK hP (ci := 8) (q0 := 0) rfl rfl) hE hP hD hS hA rfl hl.1 rfl (lv_room (Nat.le_of_ble_eq_true rfl)) dX4_promise_41 ⟨Nat.le_of_ble_eq_true rfl, Nat.le_of_ble_eq_true rfl⟩ (fun H locs hP hD hS => ?_)
      refine lv_isub hx hb dX4_promise_44 ?_
      refine lv_icmp_le (tgt := 54) hx hb dX4_promise_45 (by decide) (fun c11 => ?_) (fun c11 => ?_)
      · have hf := br_pos c11 hf
        refine lv_aload_n hx hb dX4_promise_54 rfl (lv_at hl 0 rfl) ?_
        refine va_get (D := D) (ci := 8) (v := .ref (ad 2)) (C := RX4) (T := TX4) (N := 29) hx hb hts inX4 hown hK hP 0 rfl rfl 4 (by decide) (hts _ q1333) (fun _ h9 => h9) rfl dX4_promise_55 ?_
        refine lv_iload_n hx hb dX4_promise_58 rfl (lv_at hl 1 rfl) ?_
        refine lv_dup2_11 hx hb dX4_promise_59 rfl rfl ?_
        obtain ⟨k12, hf⟩ := ck_not hf
        refine va_iald (D := D) hx hb hK hP 2 0 rfl rfl k12 dX4_promise_60 ?_
        refine lv_iload_n hx hb dX4_promise_61 rfl (lv_at hl 2 rfl) ?_
        refine lv_iadd hx hb dX4_promise_62 ?_
        obtain ⟨k13, hf⟩ := ck_not hf
        refine va_iast (D := D) hx hb hK hP hD hS 2 0 rfl rfl k13 dX4_promise_63 (fun H locs hP hD hS => ?_)
        have hP : va_P D vwCl (WM ca ad lq 0 mday mown mquot (upd mprom p1.toNatClampNeg ((mprom p1.toNatClampNeg) + p2)) mfiles mowner mlinks mblocks mvals msnaps mranks mkept mshot mwas mholds mheld mends mopen mentr mkinds misop mfilesT mentrT mpromT mlinksT mblocksT mvalsT ++ R) H := hP
        have hD : va_D A (WM ca ad lq 0 mday mown mquot (upd mprom p1.toNatClampNeg ((mprom p1.toNatClampNeg) + p2)) mfiles mowner mlinks mblocks mvals msnaps mranks mkept mshot mwas mholds mheld mends mopen mentr mkinds misop mfilesT mentrT mpromT mlinksT mblocksT mvalsT ++ R) := hD
        refine lv_aload_n hx hb dX4_promise_64 rfl (lv_at hl 0 rfl) ?_
        refine lv_bipush (v := 112) hx hb dX4_promise_65 (by decide) ?_
        obtain ⟨⟨mentr_14, mkinds_15⟩, h16, hf⟩ := bnd hf
        refine call_vv (rest := []) (m_M_enters l ca ad lq 0 mday mown mquot (upd mprom p1.toNatClampNeg ((mprom p1.toNatClampNeg) + p2)) mfiles mowner mlinks mblocks mvals msnaps mranks mkept mshot mwas mholds mheld mends mopen mentr mkinds misop mfilesT mentrT mpromT mlinksT mblocksT mvalsT R _ 112 mentr_14 mkinds_15 h16) ⟨hx, hb, hml, hown, hts⟩ (cwV 1 hts (gV q1440 q1442 q25 q50 q1443) rfl rfl rfl (by decide +kernel) ⟨Nat.le_of_ble_eq_true rfl, Nat.le_of_ble_eq_true rfl⟩) (va_recv hK hP (ci := 8) (q0 := 0) rfl rfl) hE hP hD hS hA rfl hl.1 rfl (lv_room (Nat.le_of_ble_eq_true rfl)) dX4_promise_67 ⟨Nat.le_of_ble_eq_true rfl, Nat.le_of_ble_eq_true rfl⟩ (fun H locs hP hD hS => ?_)
        refine lv_aload_n hx hb dX4_promise_70 rfl (lv_at hl 0 rfl) ?_
        refine va_get (D := D) (ci := 8) (v := .ref (ad 2)) (C := RX4) (T := TX4) (N := 29) hx hb hts inX4 hown hK hP 0 rfl rfl 4 (by decide) (hts _ q1333) (fun _ h9 => h9) rfl dX4_promise_71 ?_
        refine lv_iload_n hx hb dX4_promise_74 rfl (lv_at hl 1 rfl) ?_
        obtain ⟨k17, hf⟩ := ck_not hf
        refine va_iald (D := D) hx hb hK hP 2 0 rfl rfl k17 dX4_promise_75 ?_
        cases hf
        exact end_i hAe hQm hx hb hr hlocks rfl hP hD hS dX4_promise_76
      · have hf := br_neg c11 hf
        refine lv_aload_n hx hb dX4_promise_48 rfl (lv_at hl 0 rfl) ?_
        refine lv_iconst (v := 3) hx hb dX4_promise_49 (by decide) ?_
        obtain ⟨⟨r18, mcode_19⟩, h20, hf⟩ := bnd hf
        refine call_vi (rest := []) (m_M_fails l ca ad lq 0 mday mown mquot mprom mfiles mowner mlinks mblocks mvals msnaps mranks mkept mshot mwas mholds mheld mends mopen mentr mkinds misop mfilesT mentrT mpromT mlinksT mblocksT mvalsT R _ 3 r18 mcode_19 h20) ⟨hx, hb, hml, hown, hts⟩ (cwV 1 hts (gV q1428 q1430 q23 q50 q1431) rfl rfl rfl (by decide +kernel) ⟨Nat.le_of_ble_eq_true rfl, Nat.le_of_ble_eq_true rfl⟩) (va_recv hK hP (ci := 8) (q0 := 0) rfl rfl) hE hP hD hS hA rfl hl.1 rfl (lv_room (Nat.le_of_ble_eq_true rfl)) dX4_promise_50 ⟨Nat.le_of_ble_eq_true rfl, Nat.le_of_ble_eq_true rfl⟩ (fun H locs hP hD hS => ?_)
        cases hf
        exact end_i hAe hQm hx hb hr hlocks rfl hP hD hS dX4_promise_53
    · have hf := br_pos c6 hf
      refine lv_aload_n hx hb dX4_promise_29 rfl (lv_at hl 0 rfl) ?_
      refine lv_iconst (v := 2) hx hb dX4_promise_30 (by decide) ?_
      obtain ⟨⟨r21, mcode_22⟩, h23, hf⟩ := bnd hf
      refine call_vi (rest := []) (m_M_fails l ca ad lq 0 mday mown mquot mprom mfiles mowner mlinks mblocks mvals msnaps mranks mkept mshot mwas mholds mheld mends mopen mentr mkinds misop mfilesT mentrT mpromT mlinksT mblocksT mvalsT R _ 2 r21 mcode_22 h23) ⟨hx, hb, hml, hown, hts⟩ (cwV 1 hts (gV q1428 q1430 q23 q50 q1431) rfl rfl rfl (by decide +kernel) ⟨Nat.le_of_ble_eq_true rfl, Nat.le_of_ble_eq_true rfl⟩) (va_recv hK hP (ci := 8) (q0 := 0) rfl rfl) hE hP hD hS hA rfl hl.1 rfl (lv_room (Nat.le_of_ble_eq_true rfl)) dX4_promise_31 ⟨Nat.le_of_ble_eq_true rfl, Nat.le_of_ble_eq_true rfl⟩ (fun H locs hP hD hS => ?_)
      cases hf
      exact end_i hAe hQm hx hb hr hlocks rfl hP hD hS dX4_promise_34
  · have hf := br_pos c3 hf
    refine lv_aload_n hx hb dX4_promise_13 rfl (lv_at hl 0 rfl) ?_
    refine lv_iconst (v := 1) hx hb dX4_promise_14 (by decide) ?_
    obtain ⟨⟨r24, mcode_25⟩, h26, hf⟩ := bnd hf
    refine call_vi (rest := []) (m_M_fails l ca ad lq 0 mday mown mquot mprom mfiles mowner mlinks mblocks mvals msnaps mranks mkept mshot mwas mholds mheld mends mopen mentr mkinds misop mfilesT mentrT mpromT mlinksT mblocksT mvalsT R _ 1 r24 mcode_25 h26) ⟨hx, hb, hml, hown, hts⟩ (cwV 1 hts (gV q1428 q1430 q23 q50 q1431) rfl rfl rfl (by decide +kernel) ⟨Nat.le_of_ble_eq_true rfl, Nat.le_of_ble_eq_true rfl⟩) (va_recv hK hP (ci := 8) (q0 := 0) rfl rfl) hE hP hD hS hA rfl hl.1 rfl (lv_room (Nat.le_of_ble_eq_true rfl)) dX4_promise_15 ⟨Nat.le_of_ble_eq_true rfl, Nat.le_of_ble_eq_true rfl⟩ (fun H locs hP hD hS => ?_)
    cases hf
    exact end_i hAe hQm hx hb hr hlocks rfl hP hD hS dX4_promise_18
def f_M_promisedTo (p1 : Int32) (mown : Int32) (mprom : Nat → Int32) : Option (Int32 × Int32) :=
  (f_M_isOwner p1 mown).bind fun r1 =>
  if r1 = 0 then
    (f_M_fails 1).bind fun (r4, mcode_5) =>
    some (r4, mcode_5)
  else
    if p1 < 0 ∨ 4 ≤ p1.toNatClampNeg then none else
      some ((mprom p1.toNatClampNeg), 0)
set_option maxHeartbeats 4000000 in
set_option maxRecDepth 100000 in
theorem m_M_promisedTo (l : Launch) {D : va_G} {sl : List (String × Nat × String)} (ca : Nat → ClassId) (ad : Nat → Nat) (lq : Nat) (mcode : Int32) (mday : Int32) (mown : Int32) (mquot : Nat → Int32) (mprom : Nat → Int32) (mfiles : Int32) (mowner : Nat → Int32) (mlinks : Nat → Int32) (mblocks : Nat → Int32) (mvals : Nat → Int32) (msnaps : Int32) (mranks : Nat → Int32) (mkept : Nat → Int32) (mshot : Nat → Int32) (mwas : Nat → Int32) (mholds : Int32) (mheld : Nat → Int32) (mends : Nat → Int32) (mopen : Nat → Int32) (mentr : Int32) (mkinds : Nat → Int32) (misop : Int32) (mfilesT : Int32) (mentrT : Int32) (mpromT : Nat → Int32) (mlinksT : Nat → Int32) (mblocksT : Nat → Int32) (mvalsT : Nat → Int32) (R : va_W) (sz : Nat) (p1 : Int32) (ro : Int32) (omcode : Int32) (hf : f_M_promisedTo p1 mown mprom = some (ro, omcode)) : Met l yX4_promisedTo (wm yX4_promisedTo cX4_promisedTo 2 (some .int)) ({ frames := 2, cells := 0, slots := 0, locals := 43 } : Room) (PRE [.ref (ad 0), .int p1] D ca sl (WM ca ad lq mcode mday mown mquot mprom mfiles mowner mlinks mblocks mvals msnaps mranks mkept mshot mwas mholds mheld mends mopen mentr mkinds misop mfilesT mentrT mpromT mlinksT mblocksT mvalsT ++ R) sz) (QI ro D (WM ca ad lq omcode mday mown mquot mprom mfiles mowner mlinks mblocks mvals msnaps mranks mkept mshot mwas mholds mheld mends mopen mentr mkinds misop mfilesT mentrT mpromT mlinksT mblocksT mvalsT ++ R) (WM ca ad lq mcode mday mown mquot mprom mfiles mowner mlinks mblocks mvals msnaps mranks mkept mshot mwas mholds mheld mends mopen mentr mkinds misop mfilesT mentrT mpromT mlinksT mblocksT mvalsT ++ R) sz) 0 0 (va_A (WM ca ad lq mcode mday mown mquot mprom mfiles mowner mlinks mblocks mvals msnaps mranks mkept mshot mwas mholds mheld mends mopen mentr mkinds misop mfilesT mentrT mpromT mlinksT mblocksT mvalsT ++ R) sz) := by
  refine Met.ofW (cc := cX4_promisedTo) (maxL := 2) (ret := (some .int)) (by decide) rfl ?_
  intro p e s m args below meth c s₁ B hml hv
  obtain ⟨rfl, rfl, hP, hE, hD0⟩ := hv
  have hx := B.exec
  have hb := B.bytes
  have hr := B.returns
  have hts := wm_ww (atoms_spec (ws := wm yX4_promisedTo cX4_promisedTo 2 (some .int)) B.pre)
  have hown : s.vm.findClass RX4 = some m.cls := findClass_of_methodNamed B.named
  have hlocks := B.notSynchronized
  have hK := hE.1
  have hD := hD0.self (sz := s.heap.size)
  generalize hAe : va_A (WM ca ad lq mcode mday mown mquot mprom mfiles mowner mlinks mblocks mvals msnaps mranks mkept mshot mwas mholds mheld mends mopen mentr mkinds misop mfilesT mentrT mpromT mlinksT mblocksT mvalsT ++ R) s.heap.size = A at hD ⊢
  have hA : ∀ q : Nat, s.heap.size ≤ q → A q := fun q h => by rw [← hAe]; exact Or.inr h
  have hS : va_S A s.heap s.heap [] := va_S.rf
  have hl := lv_entry ([.ref (ad 0), .int p1]) (n := 2) (Nat.le_of_ble_eq_true rfl)
  rw [lg_entry_eq]
  generalize (lg_sl ([.ref (ad 0), .int p1]) ++ List.replicate (2 - (lg_sl ([.ref (ad 0), .int p1])).length) Slot.unset).toArray = ls at hl ⊢
  have hl : lv_has ls 2 [(0, .ref (ad 0)), (1, .int p1)] := hl
  change W p l e ({ frames := 2, cells := 0, slots := 0, locals := 43 } : Room) s m _ below meth c s.heap [] 0 0 _ _
  generalize hQm : MQ below (QI ro D (WM ca ad lq omcode mday mown mquot mprom mfiles mowner mlinks mblocks mvals msnaps mranks mkept mshot mwas mholds mheld mends mopen mentr mkinds misop mfilesT mentrT mpromT mlinksT mblocksT mvalsT ++ R) (WM ca ad lq mcode mday mown mquot mprom mfiles mowner mlinks mblocks mvals msnaps mranks mkept mshot mwas mholds mheld mends mopen mentr mkinds misop mfilesT mentrT mpromT mlinksT mblocksT mvalsT ++ R) s.heap.size) _ s 0 0 A = Qm
  have hP : va_P D vwCl (WM ca ad lq mcode mday mown mquot mprom mfiles mowner mlinks mblocks mvals msnaps mranks mkept mshot mwas mholds mheld mends mopen mentr mkinds misop mfilesT mentrT mpromT mlinksT mblocksT mvalsT ++ R) s.heap := hP
  generalize hae : ([.ref (ad 0), .int p1] : List Value).toArray = args at hts hQm ⊢
  refine lv_aload_n hx hb dX4_promisedTo_0 rfl (lv_at hl 0 rfl) ?_
  refine lv_iconst (v := 0) hx hb dX4_promisedTo_1 (by decide) ?_
  refine va_put (D := D) (ci := 8) (v := .int 0) (ty := .int) (C := RX4) (T := TX4) (N := 29) hx hb hts inX4 tyX4 tyX4_ok nmX4 hown hK hP hD hS 0 rfl rfl 0 (by decide) (hts _ q1329) (fun _ h9 => h9) rfl (by decide +kernel) rfl rfl (Nat.le_of_ble_eq_true rfl) dX4_promisedTo_2 (fun H locs hP hD hS => ?_)
  have hP : va_P D vwCl (WM ca ad lq 0 mday mown mquot mprom mfiles mowner mlinks mblocks mvals msnaps mranks mkept mshot mwas mholds mheld mends mopen mentr mkinds misop mfilesT mentrT mpromT mlinksT mblocksT mvalsT ++ R) H := hP
  have hD : va_D A (WM ca ad lq 0 mday mown mquot mprom mfiles mowner mlinks mblocks mvals msnaps mranks mkept mshot mwas mholds mheld mends mopen mentr mkinds misop mfilesT mentrT mpromT mlinksT mblocksT mvalsT ++ R) := hD
  refine lv_aload_n hx hb dX4_promisedTo_5 rfl (lv_at hl 0 rfl) ?_
  refine lv_iload_n hx hb dX4_promisedTo_6 rfl (lv_at hl 1 rfl) ?_
  obtain ⟨r1, h2, hf⟩ := bnd hf
  refine call_vi (rest := []) (m_M_isOwner l ca ad lq 0 mday mown mquot mprom mfiles mowner mlinks mblocks mvals msnaps mranks mkept mshot mwas mholds mheld mends mopen mentr mkinds misop mfilesT mentrT mpromT mlinksT mblocksT mvalsT R _ p1 r1 h2) ⟨hx, hb, hml, hown, hts⟩ (cwV 1 hts (gV q1436 q1438 q24 q50 q1439) rfl rfl rfl (by decide +kernel) ⟨Nat.le_of_ble_eq_true rfl, Nat.le_of_ble_eq_true rfl⟩) (va_recv hK hP (ci := 8) (q0 := 0) rfl rfl) hE hP hD hS hA rfl hl.1 rfl (lv_room (Nat.le_of_ble_eq_true rfl)) dX4_promisedTo_7 ⟨Nat.le_of_ble_eq_true rfl, Nat.le_of_ble_eq_true rfl⟩ (fun H locs hP hD hS => ?_)
  refine lv_if_eq (tgt := 22) hx hb dX4_promisedTo_10 (by decide) (fun c3 => ?_) (fun c3 => ?_)
  · have hf := br_pos c3 hf
    refine lv_aload_n hx hb dX4_promisedTo_22 rfl (lv_at hl 0 rfl) ?_
    refine lv_iconst (v := 1) hx hb dX4_promisedTo_23 (by decide) ?_
    obtain ⟨⟨r4, mcode_5⟩, h6, hf⟩ := bnd hf
    refine call_vi (rest := []) (m_M_fails l ca ad lq 0 mday mown mquot mprom mfiles mowner mlinks mblocks mvals msnaps mranks mkept mshot mwas mholds mheld mends mopen mentr mkinds misop mfilesT mentrT mpromT mlinksT mblocksT mvalsT R _ 1 r4 mcode_5 h6) ⟨hx, hb, hml, hown, hts⟩ (cwV 1 hts (gV q1428 q1430 q23 q50 q1431) rfl rfl rfl (by decide +kernel) ⟨Nat.le_of_ble_eq_true rfl, Nat.le_of_ble_eq_true rfl⟩) (va_recv hK hP (ci := 8) (q0 := 0) rfl rfl) hE hP hD hS hA rfl hl.1 rfl (lv_room (Nat.le_of_ble_eq_true rfl)) dX4_promisedTo_24 ⟨Nat.le_of_ble_eq_true rfl, Nat.le_of_ble_eq_true rfl⟩ (fun H locs hP hD hS => ?_)
    cases hf
    exact end_i hAe hQm hx hb hr hlocks rfl hP hD hS dX4_promisedTo_27
  · have hf := br_neg c3 hf
    refine lv_aload_n hx hb dX4_promisedTo_13 rfl (lv_at hl 0 rfl) ?_
    refine va_get (D := D) (ci := 8) (v := .ref (ad 2)) (C := RX4) (T := TX4) (N := 29) hx hb hts inX4 hown hK hP 0 rfl rfl 4 (by decide) (hts _ q1333) (fun _ h9 => h9) rfl dX4_promisedTo_14 ?_
    refine lv_iload_n hx hb dX4_promisedTo_17 rfl (lv_at hl 1 rfl) ?_
    obtain ⟨k7, hf⟩ := ck_not hf
    refine va_iald (D := D) hx hb hK hP 2 0 rfl rfl k7 dX4_promisedTo_18 ?_
    refine lv_goto (tgt := 27) hx hb dX4_promisedTo_19 (by decide) ?_
    cases hf
    exact end_i hAe hQm hx hb hr hlocks rfl hP hD hS dX4_promisedTo_27
def f_M_giveBack (p1 : Int32) (mown : Int32) (mprom : Nat → Int32) (mentr : Int32) (mkinds : Nat → Int32) : Option (Int32 × Int32 × (Nat → Int32) × Int32 × (Nat → Int32)) :=
  (f_M_isOwner p1 mown).bind fun r1 =>
  if r1 = 0 then
    (f_M_fails 1).bind fun (r14, mcode_15) =>
    some (r14, mcode_15, mprom, mentr, mkinds)
  else
    if p1 < 0 ∨ 4 ≤ p1.toNatClampNeg then none else
      if (mprom p1.toNatClampNeg) = 0 then
      (f_M_fails 2).bind fun (r11, mcode_12) =>
      some (r11, mcode_12, mprom, mentr, mkinds)
    else
      if p1 < 0 ∨ 4 ≤ p1.toNatClampNeg then none else
        if p1 < 0 ∨ 4 ≤ p1.toNatClampNeg then none else
        (f_M_enters 103 mentr mkinds).bind fun (mentr_8, mkinds_9) =>
      some ((mprom p1.toNatClampNeg), 0, (upd mprom p1.toNatClampNeg 0), mentr_8, mkinds_9)
set_option maxHeartbeats 4000000 in
set_option maxRecDepth 100000 in
theorem m_M_giveBack (l : Launch) {D : va_G} {sl : List (String × Nat × String)} (ca : Nat → ClassId) (ad : Nat → Nat) (lq : Nat) (mcode : Int32) (mday : Int32) (mown : Int32) (mquot : Nat → Int32) (mprom : Nat → Int32) (mfiles : Int32) (mowner : Nat → Int32) (mlinks : Nat → Int32) (mblocks : Nat → Int32) (mvals : Nat → Int32) (msnaps : Int32) (mranks : Nat → Int32) (mkept : Nat → Int32) (mshot : Nat → Int32) (mwas : Nat → Int32) (mholds : Int32) (mheld : Nat → Int32) (mends : Nat → Int32) (mopen : Nat → Int32) (mentr : Int32) (mkinds : Nat → Int32) (misop : Int32) (mfilesT : Int32) (mentrT : Int32) (mpromT : Nat → Int32) (mlinksT : Nat → Int32) (mblocksT : Nat → Int32) (mvalsT : Nat → Int32) (R : va_W) (sz : Nat) (p1 : Int32) (ro : Int32) (omcode : Int32) (omprom : Nat → Int32) (omentr : Int32) (omkinds : Nat → Int32) (hf : f_M_giveBack p1 mown mprom mentr mkinds = some (ro, omcode, omprom, omentr, omkinds)) : Met l yX4_giveBack (wm yX4_giveBack cX4_giveBack 3 (some .int)) ({ frames := 2, cells := 0, slots := 0, locals := 43 } : Room) (PRE [.ref (ad 0), .int p1] D ca sl (WM ca ad lq mcode mday mown mquot mprom mfiles mowner mlinks mblocks mvals msnaps mranks mkept mshot mwas mholds mheld mends mopen mentr mkinds misop mfilesT mentrT mpromT mlinksT mblocksT mvalsT ++ R) sz) (QI ro D (WM ca ad lq omcode mday mown mquot omprom mfiles mowner mlinks mblocks mvals msnaps mranks mkept mshot mwas mholds mheld mends mopen omentr omkinds misop mfilesT mentrT mpromT mlinksT mblocksT mvalsT ++ R) (WM ca ad lq mcode mday mown mquot mprom mfiles mowner mlinks mblocks mvals msnaps mranks mkept mshot mwas mholds mheld mends mopen mentr mkinds misop mfilesT mentrT mpromT mlinksT mblocksT mvalsT ++ R) sz) 0 0 (va_A (WM ca ad lq mcode mday mown mquot mprom mfiles mowner mlinks mblocks mvals msnaps mranks mkept mshot mwas mholds mheld mends mopen mentr mkinds misop mfilesT mentrT mpromT mlinksT mblocksT mvalsT ++ R) sz) := by
  refine Met.ofW (cc := cX4_giveBack) (maxL := 3) (ret := (some .int)) (by decide) rfl ?_
  intro p e s m args below meth c s₁ B hml hv
  obtain ⟨rfl, rfl, hP, hE, hD0⟩ := hv
  have hx := B.exec
  have hb := B.bytes
  have hr := B.returns
  have hts := wm_ww (atoms_spec (ws := wm yX4_giveBack cX4_giveBack 3 (some .int)) B.pre)
  have hown : s.vm.findClass RX4 = some m.cls := findClass_of_methodNamed B.named
  have hlocks := B.notSynchronized
  have hK := hE.1
  have hD := hD0.self (sz := s.heap.size)
  generalize hAe : va_A (WM ca ad lq mcode mday mown mquot mprom mfiles mowner mlinks mblocks mvals msnaps mranks mkept mshot mwas mholds mheld mends mopen mentr mkinds misop mfilesT mentrT mpromT mlinksT mblocksT mvalsT ++ R) s.heap.size = A at hD ⊢
  have hA : ∀ q : Nat, s.heap.size ≤ q → A q := fun q h => by rw [← hAe]; exact Or.inr h
  have hS : va_S A s.heap s.heap [] := va_S.rf
  have hl := lv_entry ([.ref (ad 0), .int p1]) (n := 3) (Nat.le_of_ble_eq_true rfl)
  rw [lg_entry_eq]
  generalize (lg_sl ([.ref (ad 0), .int p1]) ++ List.replicate (3 - (lg_sl ([.ref (ad 0), .int p1])).length) Slot.unset).toArray = ls at hl ⊢
  have hl : lv_has ls 3 [(0, .ref (ad 0)), (1, .int p1)] := hl
  change W p l e ({ frames := 2, cells := 0, slots := 0, locals := 43 } : Room) s m _ below meth c s.heap [] 0 0 _ _
  generalize hQm : MQ below (QI ro D (WM ca ad lq omcode mday mown mquot omprom mfiles mowner mlinks mblocks mvals msnaps mranks mkept mshot mwas mholds mheld mends mopen omentr omkinds misop mfilesT mentrT mpromT mlinksT mblocksT mvalsT ++ R) (WM ca ad lq mcode mday mown mquot mprom mfiles mowner mlinks mblocks mvals msnaps mranks mkept mshot mwas mholds mheld mends mopen mentr mkinds misop mfilesT mentrT mpromT mlinksT mblocksT mvalsT ++ R) s.heap.size) _ s 0 0 A = Qm
  have hP : va_P D vwCl (WM ca ad lq mcode mday mown mquot mprom mfiles mowner mlinks mblocks mvals msnaps mranks mkept mshot mwas mholds mheld mends mopen mentr mkinds misop mfilesT mentrT mpromT mlinksT mblocksT mvalsT ++ R) s.heap := hP
  generalize hae : ([.ref (ad 0), .int p1] : List Value).toArray = args at hts hQm ⊢
  refine lv_aload_n hx hb dX4_giveBack_0 rfl (lv_at hl 0 rfl) ?_
  refine lv_iconst (v := 0) hx hb dX4_giveBack_1 (by decide) ?_
  refine va_put (D := D) (ci := 8) (v := .int 0) (ty := .int) (C := RX4) (T := TX4) (N := 29) hx hb hts inX4 tyX4 tyX4_ok nmX4 hown hK hP hD hS 0 rfl rfl 0 (by decide) (hts _ q1329) (fun _ h9 => h9) rfl (by decide +kernel) rfl rfl (Nat.le_of_ble_eq_true rfl) dX4_giveBack_2 (fun H locs hP hD hS => ?_)
  have hP : va_P D vwCl (WM ca ad lq 0 mday mown mquot mprom mfiles mowner mlinks mblocks mvals msnaps mranks mkept mshot mwas mholds mheld mends mopen mentr mkinds misop mfilesT mentrT mpromT mlinksT mblocksT mvalsT ++ R) H := hP
  have hD : va_D A (WM ca ad lq 0 mday mown mquot mprom mfiles mowner mlinks mblocks mvals msnaps mranks mkept mshot mwas mholds mheld mends mopen mentr mkinds misop mfilesT mentrT mpromT mlinksT mblocksT mvalsT ++ R) := hD
  refine lv_aload_n hx hb dX4_giveBack_5 rfl (lv_at hl 0 rfl) ?_
  refine lv_iload_n hx hb dX4_giveBack_6 rfl (lv_at hl 1 rfl) ?_
  obtain ⟨r1, h2, hf⟩ := bnd hf
  refine call_vi (rest := []) (m_M_isOwner l ca ad lq 0 mday mown mquot mprom mfiles mowner mlinks mblocks mvals msnaps mranks mkept mshot mwas mholds mheld mends mopen mentr mkinds misop mfilesT mentrT mpromT mlinksT mblocksT mvalsT R _ p1 r1 h2) ⟨hx, hb, hml, hown, hts⟩ (cwV 1 hts (gV q1436 q1438 q24 q50 q1439) rfl rfl rfl (by decide +kernel) ⟨Nat.le_of_ble_eq_true rfl, Nat.le_of_ble_eq_true rfl⟩) (va_recv hK hP (ci := 8) (q0 := 0) rfl rfl) hE hP hD hS hA rfl hl.1 rfl (lv_room (Nat.le_of_ble_eq_true rfl)) dX4_giveBack_7 ⟨Nat.le_of_ble_eq_true rfl, Nat.le_of_ble_eq_true rfl⟩ (fun H locs hP hD hS => ?_)
  refine lv_if_ne (tgt := 19) hx hb dX4_giveBack_10 (by decide) (fun c3 => ?_) (fun c3 => ?_)
  · have hf := br_neg c3 hf
    refine lv_aload_n hx hb dX4_giveBack_19 rfl (lv_at hl 0 rfl) ?_
    refine va_get (D := D) (ci := 8) (v := .ref (ad 2)) (C := RX4) (T := TX4) (N := 29) hx hb hts inX4 hown hK hP 0 rfl rfl 4 (by decide) (hts _ q1333) (fun _ h9 => h9) rfl dX4_giveBack_20 ?_
    refine lv_iload_n hx hb dX4_giveBack_23 rfl (lv_at hl 1 rfl) ?_
    obtain ⟨k4, hf⟩ := ck_not hf
    refine va_iald (D := D) hx hb hK hP 2 0 rfl rfl k4 dX4_giveBack_24 ?_
    refine lv_if_ne (tgt := 34) hx hb dX4_giveBack_25 (by decide) (fun c5 => ?_) (fun c5 => ?_)
    · have hf := br_neg c5 hf
      refine lv_aload_n hx hb dX4_giveBack_34 rfl (lv_at hl 0 rfl) ?_
      refine va_get (D := D) (ci := 8) (v := .ref (ad 2)) (C := RX4) (T := TX4) (N := 29) hx hb hts inX4 hown hK hP 0 rfl rfl 4 (by decide) (hts _ q1333) (fun _ h9 => h9) rfl dX4_giveBack_35 ?_
      refine lv_iload_n hx hb dX4_giveBack_38 rfl (lv_at hl 1 rfl) ?_
      obtain ⟨k6, hf⟩ := ck_not hf
      refine va_iald (D := D) hx hb hK hP 2 0 rfl rfl k6 dX4_giveBack_39 ?_
      refine lv_istore_n (lv' := [(2, .int (mprom p1.toNatClampNeg)), (0, .ref (ad 0)), (1, .int p1)]) hx hb dX4_giveBack_40 rfl hl (by decide) rfl (fun ls hl => ?_)
      refine lv_aload_n hx hb dX4_giveBack_41 rfl (lv_at hl 1 rfl) ?_
      refine va_get (D := D) (ci := 8) (v := .ref (ad 2)) (C := RX4) (T := TX4) (N := 29) hx hb hts inX4 hown hK hP 0 rfl rfl 4 (by decide) (hts _ q1333) (fun _ h9 => h9) rfl dX4_giveBack_42 ?_
      refine lv_iload_n hx hb dX4_giveBack_45 rfl (lv_at hl 2 rfl) ?_
      refine lv_iconst (v := 0) hx hb dX4_giveBack_46 (by decide) ?_
      obtain ⟨k7, hf⟩ := ck_not hf
      refine va_iast (D := D) hx hb hK hP hD hS 2 0 rfl rfl k7 dX4_giveBack_47 (fun H locs hP hD hS => ?_)
      have hP : va_P D vwCl (WM ca ad lq 0 mday mown mquot (upd mprom p1.toNatClampNeg 0) mfiles mowner mlinks mblocks mvals msnaps mranks mkept mshot mwas mholds mheld mends mopen mentr mkinds misop mfilesT mentrT mpromT mlinksT mblocksT mvalsT ++ R) H := hP
      have hD : va_D A (WM ca ad lq 0 mday mown mquot (upd mprom p1.toNatClampNeg 0) mfiles mowner mlinks mblocks mvals msnaps mranks mkept mshot mwas mholds mheld mends mopen mentr mkinds misop mfilesT mentrT mpromT mlinksT mblocksT mvalsT ++ R) := hD
      refine lv_aload_n hx hb dX4_giveBack_48 rfl (lv_at hl 1 rfl) ?_
      refine lv_bipush (v := 103) hx hb dX4_giveBack_49 (by decide) ?_
      obtain ⟨⟨mentr_8, mkinds_9⟩, h10, hf⟩ := bnd hf
      refine call_vv (rest := []) (m_M_enters l ca ad lq 0 mday mown mquot (upd mprom p1.toNatClampNeg 0) mfiles mowner mlinks mblocks mvals msnaps mranks mkept mshot mwas mholds mheld mends mopen mentr mkinds misop mfilesT mentrT mpromT mlinksT mblocksT mvalsT R _ 103 mentr_8 mkinds_9 h10) ⟨hx, hb, hml, hown, hts⟩ (cwV 1 hts (gV q1440 q1442 q25 q50 q1443) rfl rfl rfl (by decide +kernel) ⟨Nat.le_of_ble_eq_true rfl, Nat.le_of_ble_eq_true rfl⟩) (va_recv hK hP (ci := 8) (q0 := 0) rfl rfl) hE hP hD hS hA rfl hl.1 rfl (lv_room (Nat.le_of_ble_eq_true rfl)) dX4_giveBack_51 ⟨Nat.le_of_ble_eq_true rfl, Nat.le_of_ble_eq_true rfl⟩ (fun H locs hP hD hS => ?_)
      refine lv_iload_n hx hb dX4_giveBack_54 rfl (lv_at hl 0 rfl) ?_
      cases hf
      exact end_i hAe hQm hx hb hr hlocks rfl hP hD hS dX4_giveBack_55
    · have hf := br_pos c5 hf
      refine lv_aload_n hx hb dX4_giveBack_28 rfl (lv_at hl 0 rfl) ?_
      refine lv_iconst (v := 2) hx hb dX4_giveBack_29 (by decide) ?_
      obtain ⟨⟨r11, mcode_12⟩, h13, hf⟩ := bnd hf
      refine call_vi (rest := []) (m_M_fails l ca ad lq 0 mday mown mquot mprom mfiles mowner mlinks mblocks mvals msnaps mranks mkept mshot mwas mholds mheld mends mopen mentr mkinds misop mfilesT mentrT mpromT mlinksT mblocksT mvalsT R _ 2 r11 mcode_12 h13) ⟨hx, hb, hml, hown, hts⟩ (cwV 1 hts (gV q1428 q1430 q23 q50 q1431) rfl rfl rfl (by decide +kernel) ⟨Nat.le_of_ble_eq_true rfl, Nat.le_of_ble_eq_true rfl⟩) (va_recv hK hP (ci := 8) (q0 := 0) rfl rfl) hE hP hD hS hA rfl hl.1 rfl (lv_room (Nat.le_of_ble_eq_true rfl)) dX4_giveBack_30 ⟨Nat.le_of_ble_eq_true rfl, Nat.le_of_ble_eq_true rfl⟩ (fun H locs hP hD hS => ?_)
      cases hf
      exact end_i hAe hQm hx hb hr hlocks rfl hP hD hS dX4_giveBack_33
  · have hf := br_pos c3 hf
    refine lv_aload_n hx hb dX4_giveBack_13 rfl (lv_at hl 0 rfl) ?_
    refine lv_iconst (v := 1) hx hb dX4_giveBack_14 (by decide) ?_
    obtain ⟨⟨r14, mcode_15⟩, h16, hf⟩ := bnd hf
    refine call_vi (rest := []) (m_M_fails l ca ad lq 0 mday mown mquot mprom mfiles mowner mlinks mblocks mvals msnaps mranks mkept mshot mwas mholds mheld mends mopen mentr mkinds misop mfilesT mentrT mpromT mlinksT mblocksT mvalsT R _ 1 r14 mcode_15 h16) ⟨hx, hb, hml, hown, hts⟩ (cwV 1 hts (gV q1428 q1430 q23 q50 q1431) rfl rfl rfl (by decide +kernel) ⟨Nat.le_of_ble_eq_true rfl, Nat.le_of_ble_eq_true rfl⟩) (va_recv hK hP (ci := 8) (q0 := 0) rfl rfl) hE hP hD hS hA rfl hl.1 rfl (lv_room (Nat.le_of_ble_eq_true rfl)) dX4_giveBack_15 ⟨Nat.le_of_ble_eq_true rfl, Nat.le_of_ble_eq_true rfl⟩ (fun H locs hP hD hS => ?_)
    cases hf
    exact end_i hAe hQm hx hb hr hlocks rfl hP hD hS dX4_giveBack_18
def f_M_keptNow_L4 : Nat → Int32 → Int32 → Int32 → (Nat → Int32) → Option (Int32)
  | 0, _, _, _, _ => none
  | fuel + 1, v1, v2, msnaps, mkept =>
    if msnaps ≤ v2 then
      some v1
    else
      if v2 < 0 ∨ 30 ≤ v2.toNatClampNeg then none else
        if (mkept v2.toNatClampNeg) = 0 then
        f_M_keptNow_L4 fuel (v1 + 0) (v2 + 1) msnaps mkept
      else
        f_M_keptNow_L4 fuel (v1 + 1) (v2 + 1) msnaps mkept
def f_M_keptNow (msnaps : Int32) (mkept : Nat → Int32) : Option (Int32) :=
  (f_M_keptNow_L4 FU 0 0 msnaps mkept).bind fun x8 =>
  some x8
set_option maxHeartbeats 4000000 in
set_option maxRecDepth 100000 in
theorem m_M_keptNow (l : Launch) {D : va_G} {sl : List (String × Nat × String)} (ca : Nat → ClassId) (ad : Nat → Nat) (lq : Nat) (mcode : Int32) (mday : Int32) (mown : Int32) (mquot : Nat → Int32) (mprom : Nat → Int32) (mfiles : Int32) (mowner : Nat → Int32) (mlinks : Nat → Int32) (mblocks : Nat → Int32) (mvals : Nat → Int32) (msnaps : Int32) (mranks : Nat → Int32) (mkept : Nat → Int32) (mshot : Nat → Int32) (mwas : Nat → Int32) (mholds : Int32) (mheld : Nat → Int32) (mends : Nat → Int32) (mopen : Nat → Int32) (mentr : Int32) (mkinds : Nat → Int32) (misop : Int32) (mfilesT : Int32) (mentrT : Int32) (mpromT : Nat → Int32) (mlinksT : Nat → Int32) (mblocksT : Nat → Int32) (mvalsT : Nat → Int32) (R : va_W) (sz : Nat) (ro : Int32) (hf : f_M_keptNow msnaps mkept = some ro) : Met l yX4_keptNow (wm yX4_keptNow cX4_keptNow 3 (some .int)) ({ frames := 0, cells := 0, slots := 0, locals := 0 } : Room) (PRE [.ref (ad 0)] D ca sl (WM ca ad lq mcode mday mown mquot mprom mfiles mowner mlinks mblocks mvals msnaps mranks mkept mshot mwas mholds mheld mends mopen mentr mkinds misop mfilesT mentrT mpromT mlinksT mblocksT mvalsT ++ R) sz) (QI ro D (WM ca ad lq mcode mday mown mquot mprom mfiles mowner mlinks mblocks mvals msnaps mranks mkept mshot mwas mholds mheld mends mopen mentr mkinds misop mfilesT mentrT mpromT mlinksT mblocksT mvalsT ++ R) (WM ca ad lq mcode mday mown mquot mprom mfiles mowner mlinks mblocks mvals msnaps mranks mkept mshot mwas mholds mheld mends mopen mentr mkinds misop mfilesT mentrT mpromT mlinksT mblocksT mvalsT ++ R) sz) 0 0 (va_A (WM ca ad lq mcode mday mown mquot mprom mfiles mowner mlinks mblocks mvals msnaps mranks mkept mshot mwas mholds mheld mends mopen mentr mkinds misop mfilesT mentrT mpromT mlinksT mblocksT mvalsT ++ R) sz) := by
  refine Met.ofW (cc := cX4_keptNow) (maxL := 3) (ret := (some .int)) (by decide) rfl ?_
  intro p e s m args below meth c s₁ B hml hv
  obtain ⟨rfl, rfl, hP, hE, hD0⟩ := hv
  have hx := B.exec
  have hb := B.bytes
  have hr := B.returns
  have hts := wm_ww (atoms_spec (ws := wm yX4_keptNow cX4_keptNow 3 (some .int)) B.pre)
  have hown : s.vm.findClass RX4 = some m.cls := findClass_of_methodNamed B.named
  have hlocks := B.notSynchronized
  have hK := hE.1
  have hD := hD0.self (sz := s.heap.size)
  generalize hAe : va_A (WM ca ad lq mcode mday mown mquot mprom mfiles mowner mlinks mblocks mvals msnaps mranks mkept mshot mwas mholds mheld mends mopen mentr mkinds misop mfilesT mentrT mpromT mlinksT mblocksT mvalsT ++ R) s.heap.size = A at hD ⊢
  have hA : ∀ q : Nat, s.heap.size ≤ q → A q := fun q h => by rw [← hAe]; exact Or.inr h
  have hS : va_S A s.heap s.heap [] := va_S.rf
  have hl := lv_entry ([.ref (ad 0)]) (n := 3) (Nat.le_of_ble_eq_true rfl)
  rw [lg_entry_eq]
  generalize (lg_sl ([.ref (ad 0)]) ++ List.replicate (3 - (lg_sl ([.ref (ad 0)])).length) Slot.unset).toArray = ls at hl ⊢
  have hl : lv_has ls 3 [(0, .ref (ad 0))] := hl
  change W p l e ({ frames := 0, cells := 0, slots := 0, locals := 0 } : Room) s m _ below meth c s.heap [] 0 0 _ _
  generalize hQm : MQ below (QI ro D (WM ca ad lq mcode mday mown mquot mprom mfiles mowner mlinks mblocks mvals msnaps mranks mkept mshot mwas mholds mheld mends mopen mentr mkinds misop mfilesT mentrT mpromT mlinksT mblocksT mvalsT ++ R) (WM ca ad lq mcode mday mown mquot mprom mfiles mowner mlinks mblocks mvals msnaps mranks mkept mshot mwas mholds mheld mends mopen mentr mkinds misop mfilesT mentrT mpromT mlinksT mblocksT mvalsT ++ R) s.heap.size) _ s 0 0 A = Qm
  have hP : va_P D vwCl (WM ca ad lq mcode mday mown mquot mprom mfiles mowner mlinks mblocks mvals msnaps mranks mkept mshot mwas mholds mheld mends mopen mentr mkinds misop mfilesT mentrT mpromT mlinksT mblocksT mvalsT ++ R) s.heap := hP
  generalize hae : ([.ref (ad 0)] : List Value).toArray = args at hts hQm ⊢
  have L4 : ∀ (n : Nat) (v1 : Int32) (v2 : Int32) (y1 : Int32), f_M_keptNow_L4 n v1 v2 msnaps mkept = some y1 → ∀ (H : Heap) (locs : List Loc) (ls : Array Slot), va_P D vwCl (WM ca ad lq mcode mday mown mquot mprom mfiles mowner mlinks mblocks mvals msnaps mranks mkept mshot mwas mholds mheld mends mopen mentr mkinds misop mfilesT mentrT mpromT mlinksT mblocksT mvalsT ++ R) H → va_D A (WM ca ad lq mcode mday mown mquot mprom mfiles mowner mlinks mblocks mvals msnaps mranks mkept mshot mwas mholds mheld mends mopen mentr mkinds misop mfilesT mentrT mpromT mlinksT mblocksT mvalsT ++ R) → va_S A s.heap H locs → lv_has ls 3 [(0, .ref (ad 0)), (1, .int v1), (2, .int v2)] → (∀ (H : Heap) (locs : List Loc) (ls : Array Slot), va_P D vwCl (WM ca ad lq mcode mday mown mquot mprom mfiles mowner mlinks mblocks mvals msnaps mranks mkept mshot mwas mholds mheld mends mopen mentr mkinds misop mfilesT mentrT mpromT mlinksT mblocksT mvalsT ++ R) H → va_D A (WM ca ad lq mcode mday mown mquot mprom mfiles mowner mlinks mblocks mvals msnaps mranks mkept mshot mwas mholds mheld mends mopen mentr mkinds misop mfilesT mentrT mpromT mlinksT mblocksT mvalsT ++ R) → va_S A s.heap H locs → lv_has ls 3 [(1, .int y1)] → W p l e ({ frames := 0, cells := 0, slots := 0, locals := 0 } : Room) s m args below meth c H locs 0 0 Qm (F0 m 35 ls [])) → W p l e ({ frames := 0, cells := 0, slots := 0, locals := 0 } : Room) s m args below meth c H locs 0 0 Qm (F0 m 4 ls []) := by
    intro n
    induction n with
    | zero => intro v1 v2 y1 hf; cases hf
    | succ n ih =>
      intro v1 v2 y1 hf H locs ls hP hD hS hl kk
      unfold f_M_keptNow_L4 at hf
      refine lv_iload_n hx hb dX4_keptNow_4 rfl (lv_at hl 2 rfl) ?_
      refine lv_aload_n hx hb dX4_keptNow_5 rfl (lv_at hl 0 rfl) ?_
      refine va_get (D := D) (ci := 8) (v := .int msnaps) (C := RX4) (T := TX4) (N := 29) hx hb hts inX4 hown hK hP 0 rfl rfl 10 (by decide) (hts _ q1339) (fun _ h9 => h9) rfl dX4_keptNow_6 ?_
      refine lv_icmp_ge (tgt := 35) hx hb dX4_keptNow_9 (by decide) (fun c4 => ?_) (fun c4 => ?_)
      · have hf := br_pos c4 hf
        cases hf
        exact kk _ _ _ hP hD hS (lv_sub hl [1] rfl)
      · have hf := br_neg c4 hf
        refine lv_iload_n hx hb dX4_keptNow_12 rfl (lv_at hl 1 rfl) ?_
        refine lv_aload_n hx hb dX4_keptNow_13 rfl (lv_at hl 0 rfl) ?_
        refine va_get (D := D) (ci := 8) (v := .ref (ad 8)) (C := RX4) (T := TX4) (N := 29) hx hb hts inX4 hown hK hP 0 rfl rfl 12 (by decide) (hts _ q1341) (fun _ h9 => h9) rfl dX4_keptNow_14 ?_
        refine lv_iload_n hx hb dX4_keptNow_17 rfl (lv_at hl 2 rfl) ?_
        obtain ⟨k5, hf⟩ := ck_not hf
        refine va_zald (D := D) hx hb hK hP 8 1 rfl rfl k5 dX4_keptNow_18 ?_
        refine lv_if_eq (tgt := 26) hx hb dX4_keptNow_19 (by decide) (fun c6 => ?_) (fun c6 => ?_)
        · have hf := br_pos c6 hf
          refine lv_iconst (v := 0) hx hb dX4_keptNow_26 (by decide) ?_
          refine lv_iadd hx hb dX4_keptNow_27 ?_
          refine lv_istore_n (lv' := [(1, .int (v1 + 0)), (0, .ref (ad 0)), (2, .int v2)]) hx hb dX4_keptNow_28 rfl hl (by decide) rfl (fun ls hl => ?_)
          refine lv_iinc (v := (v2 + 1)) (lv' := [(2, .int (v2 + 1)), (1, .int (v1 + 0)), (0, .ref (ad 0))]) hx hb dX4_keptNow_29 hl (k := 2) rfl rfl (by decide) rfl (fun ls hl => ?_)
          refine lv_goto (tgt := 4) hx hb dX4_keptNow_32 (by decide) ?_
          exact ih (v1 + 0) (v2 + 1) _ hf _ _ _ hP hD hS (lv_sub hl [2, 1, 0] rfl) kk
        · have hf := br_neg c6 hf
          refine lv_iconst (v := 1) hx hb dX4_keptNow_22 (by decide) ?_
          refine lv_goto (tgt := 27) hx hb dX4_keptNow_23 (by decide) ?_
          refine lv_iadd hx hb dX4_keptNow_27 ?_
          refine lv_istore_n (lv' := [(1, .int (v1 + 1)), (0, .ref (ad 0)), (2, .int v2)]) hx hb dX4_keptNow_28 rfl hl (by decide) rfl (fun ls hl => ?_)
          refine lv_iinc (v := (v2 + 1)) (lv' := [(2, .int (v2 + 1)), (1, .int (v1 + 1)), (0, .ref (ad 0))]) hx hb dX4_keptNow_29 hl (k := 2) rfl rfl (by decide) rfl (fun ls hl => ?_)
          refine lv_goto (tgt := 4) hx hb dX4_keptNow_32 (by decide) ?_
          exact ih (v1 + 1) (v2 + 1) _ hf _ _ _ hP hD hS (lv_sub hl [2, 1, 0] rfl) kk
  refine lv_iconst (v := 0) hx hb dX4_keptNow_0 (by decide) ?_
  refine lv_istore_n (lv' := [(1, .int 0), (0, .ref (ad 0))]) hx hb dX4_keptNow_1 rfl hl (by decide) rfl (fun ls hl => ?_)
  refine lv_iconst (v := 0) hx hb dX4_keptNow_2 (by decide) ?_
  refine lv_istore_n (lv' := [(2, .int 0), (1, .int 0), (0, .ref (ad 0))]) hx hb dX4_keptNow_3 rfl hl (by decide) rfl (fun ls hl => ?_)
  obtain ⟨x8, h7, hf⟩ := bnd hf
  refine L4 FU 0 0 x8 h7 _ _ _ hP hD hS (lv_sub hl [2, 1, 0] rfl) (fun H locs ls hP hD hS hl => ?_)
  refine lv_iload_n hx hb dX4_keptNow_35 rfl (lv_at hl 0 rfl) ?_
  cases hf
  exact end_i hAe hQm hx hb hr hlocks rfl hP hD hS dX4_keptNow_36
def f_M_takeSnapshot_L74 : Nat → Int32 → (Nat → Int32) → Int32 → (Nat → Int32) → Option ((Nat → Int32))
  | 0, _, _, _, _ => none
  | fuel + 1, v2, mblocks, msnaps, mshot =>
    if 640 ≤ v2 then
      some mshot
    else
      if v2 < 0 ∨ 640 ≤ v2.toNatClampNeg then none else
        if ((640 * msnaps) + v2) < 0 ∨ 19200 ≤ ((640 * msnaps) + v2).toNatClampNeg then none else
        f_M_takeSnapshot_L74 fuel (v2 + 1) mblocks msnaps (upd mshot ((640 * msnaps) + v2).toNatClampNeg (mblocks v2.toNatClampNeg))
def f_M_takeSnapshot_L110 : Nat → Int32 → Int32 → (Nat → Int32) → Int32 → (Nat → Int32) → Int32 → (Nat → Int32) → (Nat → Int32) → Option ((Nat → Int32))
  | 0, _, _, _, _, _, _, _, _ => none
  | fuel + 1, v2, mfiles, mlinks, msnaps, mwas, mholds, mheld, mopen =>
    if mfiles ≤ v2 then
      some mwas
    else
      (f_M_exists v2 mlinks mholds mheld mopen).bind fun r33 =>
      if ((40 * msnaps) + v2) < 0 ∨ 1200 ≤ ((40 * msnaps) + v2).toNatClampNeg then none else
        f_M_takeSnapshot_L110 fuel (v2 + 1) mfiles mlinks msnaps (upd mwas ((40 * msnaps) + v2).toNatClampNeg (vp_nar .boolean r33)) mholds mheld mopen
def f_M_takeSnapshot (p1 : Int32) (mfiles : Int32) (mlinks : Nat → Int32) (mblocks : Nat → Int32) (msnaps : Int32) (mranks : Nat → Int32) (mkept : Nat → Int32) (mshot : Nat → Int32) (mwas : Nat → Int32) (mholds : Int32) (mheld : Nat → Int32) (mopen : Nat → Int32) (misop : Int32) : Option (Int32 × Int32 × Int32 × (Nat → Int32) × (Nat → Int32) × (Nat → Int32) × (Nat → Int32)) :=
  (f_M_in p1 0 9).bind fun r1 =>
  if r1 = 0 then
    (f_M_fails 1).bind fun (r41, mcode_42) =>
    some (r41, mcode_42, msnaps, mranks, mkept, mshot, mwas)
  else
    if misop = 0 then
      (f_M_keptNow msnaps mkept).bind fun r8 =>
      if r8 = 8 then
        (f_M_fails 2).bind fun (r11, mcode_12) =>
        some (r11, mcode_12, msnaps, mranks, mkept, mshot, mwas)
      else
        if msnaps = 30 then
          (f_M_fails 2).bind fun (r38, mcode_39) =>
          some (r38, mcode_39, msnaps, mranks, mkept, mshot, mwas)
        else
          if msnaps < 0 ∨ 30 ≤ msnaps.toNatClampNeg then none else
            if msnaps < 0 ∨ 30 ≤ msnaps.toNatClampNeg then none else
            (f_M_takeSnapshot_L74 FU 0 mblocks msnaps mshot).bind fun mshot_27 =>
          (f_M_takeSnapshot_L110 FU 0 mfiles mlinks msnaps mwas mholds mheld mopen).bind fun mwas_37 =>
          some (((msnaps + 1) - 1), 0, (msnaps + 1), (upd mranks msnaps.toNatClampNeg p1), (upd mkept msnaps.toNatClampNeg (vp_nar .boolean 1)), mshot_27, mwas_37)
    else
      (f_M_fails 2).bind fun (r5, mcode_6) =>
      some (r5, mcode_6, msnaps, mranks, mkept, mshot, mwas)
set_option maxHeartbeats 4000000 in
set_option maxRecDepth 100000 in
theorem m_M_takeSnapshot (l : Launch) {D : va_G} {sl : List (String × Nat × String)} (ca : Nat → ClassId) (ad : Nat → Nat) (lq : Nat) (mcode : Int32) (mday : Int32) (mown : Int32) (mquot : Nat → Int32) (mprom : Nat → Int32) (mfiles : Int32) (mowner : Nat → Int32) (mlinks : Nat → Int32) (mblocks : Nat → Int32) (mvals : Nat → Int32) (msnaps : Int32) (mranks : Nat → Int32) (mkept : Nat → Int32) (mshot : Nat → Int32) (mwas : Nat → Int32) (mholds : Int32) (mheld : Nat → Int32) (mends : Nat → Int32) (mopen : Nat → Int32) (mentr : Int32) (mkinds : Nat → Int32) (misop : Int32) (mfilesT : Int32) (mentrT : Int32) (mpromT : Nat → Int32) (mlinksT : Nat → Int32) (mblocksT : Nat → Int32) (mvalsT : Nat → Int32) (R : va_W) (sz : Nat) (p1 : Int32) (ro : Int32) (omcode : Int32) (omsnaps : Int32) (omranks : Nat → Int32) (omkept : Nat → Int32) (omshot : Nat → Int32) (omwas : Nat → Int32) (hf : f_M_takeSnapshot p1 mfiles mlinks mblocks msnaps mranks mkept mshot mwas mholds mheld mopen misop = some (ro, omcode, omsnaps, omranks, omkept, omshot, omwas)) : Met l yX4_takeSnapshot (wm yX4_takeSnapshot cX4_takeSnapshot 3 (some .int)) ({ frames := 2, cells := 0, slots := 0, locals := 44 } : Room) (PRE [.ref (ad 0), .int p1] D ca sl (WM ca ad lq mcode mday mown mquot mprom mfiles mowner mlinks mblocks mvals msnaps mranks mkept mshot mwas mholds mheld mends mopen mentr mkinds misop mfilesT mentrT mpromT mlinksT mblocksT mvalsT ++ R) sz) (QI ro D (WM ca ad lq omcode mday mown mquot mprom mfiles mowner mlinks mblocks mvals omsnaps omranks omkept omshot omwas mholds mheld mends mopen mentr mkinds misop mfilesT mentrT mpromT mlinksT mblocksT mvalsT ++ R) (WM ca ad lq mcode mday mown mquot mprom mfiles mowner mlinks mblocks mvals msnaps mranks mkept mshot mwas mholds mheld mends mopen mentr mkinds misop mfilesT mentrT mpromT mlinksT mblocksT mvalsT ++ R) sz) 0 0 (va_A (WM ca ad lq mcode mday mown mquot mprom mfiles mowner mlinks mblocks mvals msnaps mranks mkept mshot mwas mholds mheld mends mopen mentr mkinds misop mfilesT mentrT mpromT mlinksT mblocksT mvalsT ++ R) sz) := by
  refine Met.ofW (cc := cX4_takeSnapshot) (maxL := 3) (ret := (some .int)) (by decide) rfl ?_
  intro p e s m args below meth c s₁ B hml hv
  obtain ⟨rfl, rfl, hP, hE, hD0⟩ := hv
  have hx := B.exec
  have hb := B.bytes
  have hr := B.returns
  have hts := wm_ww (atoms_spec (ws := wm yX4_takeSnapshot cX4_takeSnapshot 3 (some .int)) B.pre)
  have hown : s.vm.findClass RX4 = some m.cls := findClass_of_methodNamed B.named
  have hlocks := B.notSynchronized
  have hK := hE.1
  have hD := hD0.self (sz := s.heap.size)
  generalize hAe : va_A (WM ca ad lq mcode mday mown mquot mprom mfiles mowner mlinks mblocks mvals msnaps mranks mkept mshot mwas mholds mheld mends mopen mentr mkinds misop mfilesT mentrT mpromT mlinksT mblocksT mvalsT ++ R) s.heap.size = A at hD ⊢
  have hA : ∀ q : Nat, s.heap.size ≤ q → A q := fun q h => by rw [← hAe]; exact Or.inr h
  have hS : va_S A s.heap s.heap [] := va_S.rf
  have hl := lv_entry ([.ref (ad 0), .int p1]) (n := 3) (Nat.le_of_ble_eq_true rfl)
  rw [lg_entry_eq]
  generalize (lg_sl ([.ref (ad 0), .int p1]) ++ List.replicate (3 - (lg_sl ([.ref (ad 0), .int p1])).length) Slot.unset).toArray = ls at hl ⊢
  have hl : lv_has ls 3 [(0, .ref (ad 0)), (1, .int p1)] := hl
  change W p l e ({ frames := 2, cells := 0, slots := 0, locals := 44 } : Room) s m _ below meth c s.heap [] 0 0 _ _
  generalize hQm : MQ below (QI ro D (WM ca ad lq omcode mday mown mquot mprom mfiles mowner mlinks mblocks mvals omsnaps omranks omkept omshot omwas mholds mheld mends mopen mentr mkinds misop mfilesT mentrT mpromT mlinksT mblocksT mvalsT ++ R) (WM ca ad lq mcode mday mown mquot mprom mfiles mowner mlinks mblocks mvals msnaps mranks mkept mshot mwas mholds mheld mends mopen mentr mkinds misop mfilesT mentrT mpromT mlinksT mblocksT mvalsT ++ R) s.heap.size) _ s 0 0 A = Qm
  have hP : va_P D vwCl (WM ca ad lq mcode mday mown mquot mprom mfiles mowner mlinks mblocks mvals msnaps mranks mkept mshot mwas mholds mheld mends mopen mentr mkinds misop mfilesT mentrT mpromT mlinksT mblocksT mvalsT ++ R) s.heap := hP
  generalize hae : ([.ref (ad 0), .int p1] : List Value).toArray = args at hts hQm ⊢
  have L74 : ∀ (n : Nat) (v2 : Int32) (mcode : Int32) (msnaps : Int32) (mranks : Nat → Int32) (mkept : Nat → Int32) (mshot : Nat → Int32) (mwas : Nat → Int32) (zmshot : Nat → Int32), f_M_takeSnapshot_L74 n v2 mblocks msnaps mshot = some zmshot → ∀ (H : Heap) (locs : List Loc) (ls : Array Slot), va_P D vwCl (WM ca ad lq mcode mday mown mquot mprom mfiles mowner mlinks mblocks mvals msnaps mranks mkept mshot mwas mholds mheld mends mopen mentr mkinds misop mfilesT mentrT mpromT mlinksT mblocksT mvalsT ++ R) H → va_D A (WM ca ad lq mcode mday mown mquot mprom mfiles mowner mlinks mblocks mvals msnaps mranks mkept mshot mwas mholds mheld mends mopen mentr mkinds misop mfilesT mentrT mpromT mlinksT mblocksT mvalsT ++ R) → va_S A s.heap H locs → lv_has ls 3 [(0, .ref (ad 0)), (2, .int v2)] → (∀ (H : Heap) (locs : List Loc) (ls : Array Slot), va_P D vwCl (WM ca ad lq mcode mday mown mquot mprom mfiles mowner mlinks mblocks mvals msnaps mranks mkept zmshot mwas mholds mheld mends mopen mentr mkinds misop mfilesT mentrT mpromT mlinksT mblocksT mvalsT ++ R) H → va_D A (WM ca ad lq mcode mday mown mquot mprom mfiles mowner mlinks mblocks mvals msnaps mranks mkept zmshot mwas mholds mheld mends mopen mentr mkinds misop mfilesT mentrT mpromT mlinksT mblocksT mvalsT ++ R) → va_S A s.heap H locs → lv_has ls 3 [(0, .ref (ad 0))] → W p l e ({ frames := 2, cells := 0, slots := 0, locals := 44 } : Room) s m args below meth c H locs 0 0 Qm (F0 m 108 ls [])) → W p l e ({ frames := 2, cells := 0, slots := 0, locals := 44 } : Room) s m args below meth c H locs 0 0 Qm (F0 m 74 ls []) := by
    intro n
    induction n with
    | zero => intro v2 mcode msnaps mranks mkept mshot mwas zmshot hf; cases hf
    | succ n ih =>
      intro v2 mcode msnaps mranks mkept mshot mwas zmshot hf H locs ls hP hD hS hl kk
      unfold f_M_takeSnapshot_L74 at hf
      refine lv_iload_n hx hb dX4_takeSnapshot_74 rfl (lv_at hl 1 rfl) ?_
      refine lv_sipush (v := 640) hx hb dX4_takeSnapshot_75 (by decide) ?_
      refine lv_icmp_ge (tgt := 108) hx hb dX4_takeSnapshot_78 (by decide) (fun c23 => ?_) (fun c23 => ?_)
      · have hf := br_pos c23 hf
        cases hf
        exact kk _ _ _ hP hD hS (lv_sub hl [0] rfl)
      · have hf := br_neg c23 hf
        refine lv_aload_n hx hb dX4_takeSnapshot_81 rfl (lv_at hl 0 rfl) ?_
        refine va_get (D := D) (ci := 8) (v := .ref (ad 9)) (C := RX4) (T := TX4) (N := 29) hx hb hts inX4 hown hK hP 0 rfl rfl 13 (by decide) (hts _ q1342) (fun _ h9 => h9) rfl dX4_takeSnapshot_82 ?_
        refine lv_sipush (v := 640) hx hb dX4_takeSnapshot_85 (by decide) ?_
        refine lv_aload_n hx hb dX4_takeSnapshot_88 rfl (lv_at hl 0 rfl) ?_
        refine va_get (D := D) (ci := 8) (v := .int msnaps) (C := RX4) (T := TX4) (N := 29) hx hb hts inX4 hown hK hP 0 rfl rfl 10 (by decide) (hts _ q1339) (fun _ h9 => h9) rfl dX4_takeSnapshot_89 ?_
        refine lv_imul hx hb dX4_takeSnapshot_92 ?_
        refine lv_iload_n hx hb dX4_takeSnapshot_93 rfl (lv_at hl 1 rfl) ?_
        refine lv_iadd hx hb dX4_takeSnapshot_94 ?_
        refine lv_aload_n hx hb dX4_takeSnapshot_95 rfl (lv_at hl 0 rfl) ?_
        refine va_get (D := D) (ci := 8) (v := .ref (ad 5)) (C := RX4) (T := TX4) (N := 29) hx hb hts inX4 hown hK hP 0 rfl rfl 8 (by decide) (hts _ q1337) (fun _ h9 => h9) rfl dX4_takeSnapshot_96 ?_
        refine lv_iload_n hx hb dX4_takeSnapshot_99 rfl (lv_at hl 1 rfl) ?_
        obtain ⟨k24, hf⟩ := ck_not hf
        refine va_iald (D := D) hx hb hK hP 5 0 rfl rfl k24 dX4_takeSnapshot_100 ?_
        obtain ⟨k25, hf⟩ := ck_not hf
        refine va_iast (D := D) hx hb hK hP hD hS 9 0 rfl rfl k25 dX4_takeSnapshot_101 (fun H locs hP hD hS => ?_)
        have hP : va_P D vwCl (WM ca ad lq mcode mday mown mquot mprom mfiles mowner mlinks mblocks mvals msnaps mranks mkept (upd mshot ((640 * msnaps) + v2).toNatClampNeg (mblocks v2.toNatClampNeg)) mwas mholds mheld mends mopen mentr mkinds misop mfilesT mentrT mpromT mlinksT mblocksT mvalsT ++ R) H := hP
        have hD : va_D A (WM ca ad lq mcode mday mown mquot mprom mfiles mowner mlinks mblocks mvals msnaps mranks mkept (upd mshot ((640 * msnaps) + v2).toNatClampNeg (mblocks v2.toNatClampNeg)) mwas mholds mheld mends mopen mentr mkinds misop mfilesT mentrT mpromT mlinksT mblocksT mvalsT ++ R) := hD
        refine lv_iinc (v := (v2 + 1)) (lv' := [(2, .int (v2 + 1)), (0, .ref (ad 0))]) hx hb dX4_takeSnapshot_102 hl (k := 1) rfl rfl (by decide) rfl (fun ls hl => ?_)
        refine lv_goto (tgt := 74) hx hb dX4_takeSnapshot_105 (by decide) ?_
        exact ih (v2 + 1) mcode msnaps mranks mkept (upd mshot ((640 * msnaps) + v2).toNatClampNeg (mblocks v2.toNatClampNeg)) mwas _ hf _ _ _ hP hD hS (lv_sub hl [1, 0] rfl) kk
  have L110 : ∀ (n : Nat) (v2 : Int32) (mcode : Int32) (msnaps : Int32) (mranks : Nat → Int32) (mkept : Nat → Int32) (mshot : Nat → Int32) (mwas : Nat → Int32) (zmwas : Nat → Int32), f_M_takeSnapshot_L110 n v2 mfiles mlinks msnaps mwas mholds mheld mopen = some zmwas → ∀ (H : Heap) (locs : List Loc) (ls : Array Slot), va_P D vwCl (WM ca ad lq mcode mday mown mquot mprom mfiles mowner mlinks mblocks mvals msnaps mranks mkept mshot mwas mholds mheld mends mopen mentr mkinds misop mfilesT mentrT mpromT mlinksT mblocksT mvalsT ++ R) H → va_D A (WM ca ad lq mcode mday mown mquot mprom mfiles mowner mlinks mblocks mvals msnaps mranks mkept mshot mwas mholds mheld mends mopen mentr mkinds misop mfilesT mentrT mpromT mlinksT mblocksT mvalsT ++ R) → va_S A s.heap H locs → lv_has ls 3 [(0, .ref (ad 0)), (2, .int v2)] → (∀ (H : Heap) (locs : List Loc) (ls : Array Slot), va_P D vwCl (WM ca ad lq mcode mday mown mquot mprom mfiles mowner mlinks mblocks mvals msnaps mranks mkept mshot zmwas mholds mheld mends mopen mentr mkinds misop mfilesT mentrT mpromT mlinksT mblocksT mvalsT ++ R) H → va_D A (WM ca ad lq mcode mday mown mquot mprom mfiles mowner mlinks mblocks mvals msnaps mranks mkept mshot zmwas mholds mheld mends mopen mentr mkinds misop mfilesT mentrT mpromT mlinksT mblocksT mvalsT ++ R) → va_S A s.heap H locs → lv_has ls 3 [(0, .ref (ad 0))] → W p l e ({ frames := 2, cells := 0, slots := 0, locals := 44 } : Room) s m args below meth c H locs 0 0 Qm (F0 m 143 ls [])) → W p l e ({ frames := 2, cells := 0, slots := 0, locals := 44 } : Room) s m args below meth c H locs 0 0 Qm (F0 m 110 ls []) := by
    intro n
    induction n with
    | zero => intro v2 mcode msnaps mranks mkept mshot mwas zmwas hf; cases hf
    | succ n ih =>
      intro v2 mcode msnaps mranks mkept mshot mwas zmwas hf H locs ls hP hD hS hl kk
      unfold f_M_takeSnapshot_L110 at hf
      refine lv_iload_n hx hb dX4_takeSnapshot_110 rfl (lv_at hl 1 rfl) ?_
      refine lv_aload_n hx hb dX4_takeSnapshot_111 rfl (lv_at hl 0 rfl) ?_
      refine va_get (D := D) (ci := 8) (v := .int mfiles) (C := RX4) (T := TX4) (N := 29) hx hb hts inX4 hown hK hP 0 rfl rfl 5 (by decide) (hts _ q1334) (fun _ h9 => h9) rfl dX4_takeSnapshot_112 ?_
      refine lv_icmp_ge (tgt := 143) hx hb dX4_takeSnapshot_115 (by decide) (fun c32 => ?_) (fun c32 => ?_)
      · have hf := br_pos c32 hf
        cases hf
        exact kk _ _ _ hP hD hS (lv_sub hl [0] rfl)
      · have hf := br_neg c32 hf
        refine lv_aload_n hx hb dX4_takeSnapshot_118 rfl (lv_at hl 0 rfl) ?_
        refine va_get (D := D) (ci := 8) (v := .ref (ad 10)) (C := RX4) (T := TX4) (N := 29) hx hb hts inX4 hown hK hP 0 rfl rfl 14 (by decide) (hts _ q1343) (fun _ h9 => h9) rfl dX4_takeSnapshot_119 ?_
        refine lv_bipush (v := 40) hx hb dX4_takeSnapshot_122 (by decide) ?_
        refine lv_aload_n hx hb dX4_takeSnapshot_124 rfl (lv_at hl 0 rfl) ?_
        refine va_get (D := D) (ci := 8) (v := .int msnaps) (C := RX4) (T := TX4) (N := 29) hx hb hts inX4 hown hK hP 0 rfl rfl 10 (by decide) (hts _ q1339) (fun _ h9 => h9) rfl dX4_takeSnapshot_125 ?_
        refine lv_imul hx hb dX4_takeSnapshot_128 ?_
        refine lv_iload_n hx hb dX4_takeSnapshot_129 rfl (lv_at hl 1 rfl) ?_
        refine lv_iadd hx hb dX4_takeSnapshot_130 ?_
        refine lv_aload_n hx hb dX4_takeSnapshot_131 rfl (lv_at hl 0 rfl) ?_
        refine lv_iload_n hx hb dX4_takeSnapshot_132 rfl (lv_at hl 1 rfl) ?_
        obtain ⟨r33, h34, hf⟩ := bnd hf
        refine call_vi (rest := [.int ((40 * msnaps) + v2), .ref (ad 10)]) (m_M_exists l ca ad lq mcode mday mown mquot mprom mfiles mowner mlinks mblocks mvals msnaps mranks mkept mshot mwas mholds mheld mends mopen mentr mkinds misop mfilesT mentrT mpromT mlinksT mblocksT mvalsT R _ v2 r33 h34) ⟨hx, hb, hml, hown, hts⟩ (cwV 1 hts (gV q1456 q1458 q27 q50 q1459) rfl rfl rfl (by decide +kernel) ⟨Nat.le_of_ble_eq_true rfl, Nat.le_of_ble_eq_true rfl⟩) (va_recv hK hP (ci := 8) (q0 := 0) rfl rfl) hE hP hD hS hA rfl hl.1 rfl (lv_room (Nat.le_of_ble_eq_true rfl)) dX4_takeSnapshot_133 ⟨Nat.le_of_ble_eq_true rfl, Nat.le_of_ble_eq_true rfl⟩ (fun H locs hP hD hS => ?_)
        obtain ⟨k35, hf⟩ := ck_not hf
        refine va_zast (D := D) hx hb hK hP hD hS 10 1 rfl rfl k35 dX4_takeSnapshot_136 (fun H locs hP hD hS => ?_)
        have hP : va_P D vwCl (WM ca ad lq mcode mday mown mquot mprom mfiles mowner mlinks mblocks mvals msnaps mranks mkept mshot (upd mwas ((40 * msnaps) + v2).toNatClampNeg (vp_nar .boolean r33)) mholds mheld mends mopen mentr mkinds misop mfilesT mentrT mpromT mlinksT mblocksT mvalsT ++ R) H := hP
        have hD : va_D A (WM ca ad lq mcode mday mown mquot mprom mfiles mowner mlinks mblocks mvals msnaps mranks mkept mshot (upd mwas ((40 * msnaps) + v2).toNatClampNeg (vp_nar .boolean r33)) mholds mheld mends mopen mentr mkinds misop mfilesT mentrT mpromT mlinksT mblocksT mvalsT ++ R) := hD
        refine lv_iinc (v := (v2 + 1)) (lv' := [(2, .int (v2 + 1)), (0, .ref (ad 0))]) hx hb dX4_takeSnapshot_137 hl (k := 1) rfl rfl (by decide) rfl (fun ls hl => ?_)
        refine lv_goto (tgt := 110) hx hb dX4_takeSnapshot_140 (by decide) ?_
        exact ih (v2 + 1) mcode msnaps mranks mkept mshot (upd mwas ((40 * msnaps) + v2).toNatClampNeg (vp_nar .boolean r33)) _ hf _ _ _ hP hD hS (lv_sub hl [1, 0] rfl) kk
  refine lv_aload_n hx hb dX4_takeSnapshot_0 rfl (lv_at hl 0 rfl) ?_
  refine lv_iconst (v := 0) hx hb dX4_takeSnapshot_1 (by decide) ?_
  refine va_put (D := D) (ci := 8) (v := .int 0) (ty := .int) (C := RX4) (T := TX4) (N := 29) hx hb hts inX4 tyX4 tyX4_ok nmX4 hown hK hP hD hS 0 rfl rfl 0 (by decide) (hts _ q1329) (fun _ h9 => h9) rfl (by decide +kernel) rfl rfl (Nat.le_of_ble_eq_true rfl) dX4_takeSnapshot_2 (fun H locs hP hD hS => ?_)
  have hP : va_P D vwCl (WM ca ad lq 0 mday mown mquot mprom mfiles mowner mlinks mblocks mvals msnaps mranks mkept mshot mwas mholds mheld mends mopen mentr mkinds misop mfilesT mentrT mpromT mlinksT mblocksT mvalsT ++ R) H := hP
  have hD : va_D A (WM ca ad lq 0 mday mown mquot mprom mfiles mowner mlinks mblocks mvals msnaps mranks mkept mshot mwas mholds mheld mends mopen mentr mkinds misop mfilesT mentrT mpromT mlinksT mblocksT mvalsT ++ R) := hD
  refine lv_iload_n hx hb dX4_takeSnapshot_5 rfl (lv_at hl 1 rfl) ?_
  refine lv_iconst (v := 0) hx hb dX4_takeSnapshot_6 (by decide) ?_
  refine lv_bipush (v := 9) hx hb dX4_takeSnapshot_7 (by decide) ?_
  obtain ⟨r1, h2, hf⟩ := bnd hf
  refine call_si (rest := []) (m_M_in l ca ad lq 0 mday mown mquot mprom mfiles mowner mlinks mblocks mvals msnaps mranks mkept mshot mwas mholds mheld mends mopen mentr mkinds misop mfilesT mentrT mpromT mlinksT mblocksT mvalsT R _ p1 0 9 r1 h2) ⟨hx, hb, hml, hown, hts⟩ (va_cwS 3 hts (gS q1425 q1426 q50 q1427) rfl rfl rfl (by decide +kernel) ⟨Nat.le_of_ble_eq_true rfl, Nat.le_of_ble_eq_true rfl⟩) hE hP hD hS hA rfl hl.1 rfl (lv_room (Nat.le_of_ble_eq_true rfl)) dX4_takeSnapshot_9 ⟨Nat.le_of_ble_eq_true rfl, Nat.le_of_ble_eq_true rfl⟩ (fun H locs hP hD hS => ?_)
  refine lv_if_ne (tgt := 21) hx hb dX4_takeSnapshot_12 (by decide) (fun c3 => ?_) (fun c3 => ?_)
  · have hf := br_neg c3 hf
    refine lv_aload_n hx hb dX4_takeSnapshot_21 rfl (lv_at hl 0 rfl) ?_
    refine va_get (D := D) (ci := 8) (v := .int misop) (C := RX4) (T := TX4) (N := 29) hx hb hts inX4 hown hK hP 0 rfl rfl 21 (by decide) (hts _ q1350) (fun _ h9 => h9) rfl dX4_takeSnapshot_22 ?_
    refine lv_if_ne (tgt := 46) hx hb dX4_takeSnapshot_25 (by decide) (fun c4 => ?_) (fun c4 => ?_)
    · have hf := br_neg c4 hf
      refine lv_aload_n hx hb dX4_takeSnapshot_46 rfl (lv_at hl 0 rfl) ?_
      refine lv_iconst (v := 2) hx hb dX4_takeSnapshot_47 (by decide) ?_
      obtain ⟨⟨r5, mcode_6⟩, h7, hf⟩ := bnd hf
      refine call_vi (rest := []) (m_M_fails l ca ad lq 0 mday mown mquot mprom mfiles mowner mlinks mblocks mvals msnaps mranks mkept mshot mwas mholds mheld mends mopen mentr mkinds misop mfilesT mentrT mpromT mlinksT mblocksT mvalsT R _ 2 r5 mcode_6 h7) ⟨hx, hb, hml, hown, hts⟩ (cwV 1 hts (gV q1428 q1430 q23 q50 q1431) rfl rfl rfl (by decide +kernel) ⟨Nat.le_of_ble_eq_true rfl, Nat.le_of_ble_eq_true rfl⟩) (va_recv hK hP (ci := 8) (q0 := 0) rfl rfl) hE hP hD hS hA rfl hl.1 rfl (lv_room (Nat.le_of_ble_eq_true rfl)) dX4_takeSnapshot_48 ⟨Nat.le_of_ble_eq_true rfl, Nat.le_of_ble_eq_true rfl⟩ (fun H locs hP hD hS => ?_)
      cases hf
      exact end_i hAe hQm hx hb hr hlocks rfl hP hD hS dX4_takeSnapshot_51
    · have hf := br_pos c4 hf
      refine lv_aload_n hx hb dX4_takeSnapshot_28 rfl (lv_at hl 0 rfl) ?_
      obtain ⟨r8, h9, hf⟩ := bnd hf
      refine call_vi (rest := []) (m_M_keptNow l ca ad lq 0 mday mown mquot mprom mfiles mowner mlinks mblocks mvals msnaps mranks mkept mshot mwas mholds mheld mends mopen mentr mkinds misop mfilesT mentrT mpromT mlinksT mblocksT mvalsT R _ r8 h9) ⟨hx, hb, hml, hown, hts⟩ (cwV 0 hts (gV q1560 q1562 q36 q50 q1563) rfl rfl rfl (by decide +kernel) ⟨Nat.le_of_ble_eq_true rfl, Nat.le_of_ble_eq_true rfl⟩) (va_recv hK hP (ci := 8) (q0 := 0) rfl rfl) hE hP hD hS hA rfl hl.1 rfl (lv_room (Nat.le_of_ble_eq_true rfl)) dX4_takeSnapshot_29 ⟨Nat.le_of_ble_eq_true rfl, Nat.le_of_ble_eq_true rfl⟩ (fun H locs hP hD hS => ?_)
      refine lv_bipush (v := 8) hx hb dX4_takeSnapshot_32 (by decide) ?_
      refine lv_icmp_eq (tgt := 46) hx hb dX4_takeSnapshot_34 (by decide) (fun c10 => ?_) (fun c10 => ?_)
      · have hf := br_pos c10 hf
        refine lv_aload_n hx hb dX4_takeSnapshot_46 rfl (lv_at hl 0 rfl) ?_
        refine lv_iconst (v := 2) hx hb dX4_takeSnapshot_47 (by decide) ?_
        obtain ⟨⟨r11, mcode_12⟩, h13, hf⟩ := bnd hf
        refine call_vi (rest := []) (m_M_fails l ca ad lq 0 mday mown mquot mprom mfiles mowner mlinks mblocks mvals msnaps mranks mkept mshot mwas mholds mheld mends mopen mentr mkinds misop mfilesT mentrT mpromT mlinksT mblocksT mvalsT R _ 2 r11 mcode_12 h13) ⟨hx, hb, hml, hown, hts⟩ (cwV 1 hts (gV q1428 q1430 q23 q50 q1431) rfl rfl rfl (by decide +kernel) ⟨Nat.le_of_ble_eq_true rfl, Nat.le_of_ble_eq_true rfl⟩) (va_recv hK hP (ci := 8) (q0 := 0) rfl rfl) hE hP hD hS hA rfl hl.1 rfl (lv_room (Nat.le_of_ble_eq_true rfl)) dX4_takeSnapshot_48 ⟨Nat.le_of_ble_eq_true rfl, Nat.le_of_ble_eq_true rfl⟩ (fun H locs hP hD hS => ?_)
        cases hf
        exact end_i hAe hQm hx hb hr hlocks rfl hP hD hS dX4_takeSnapshot_51
      · have hf := br_neg c10 hf
        refine lv_aload_n hx hb dX4_takeSnapshot_37 rfl (lv_at hl 0 rfl) ?_
        refine va_get (D := D) (ci := 8) (v := .int msnaps) (C := RX4) (T := TX4) (N := 29) hx hb hts inX4 hown hK hP 0 rfl rfl 10 (by decide) (hts _ q1339) (fun _ h9 => h9) rfl dX4_takeSnapshot_38 ?_
        refine lv_bipush (v := 30) hx hb dX4_takeSnapshot_41 (by decide) ?_
        refine lv_icmp_ne (tgt := 52) hx hb dX4_takeSnapshot_43 (by decide) (fun c14 => ?_) (fun c14 => ?_)
        · have hf := br_neg c14 hf
          refine lv_aload_n hx hb dX4_takeSnapshot_52 rfl (lv_at hl 0 rfl) ?_
          refine va_get (D := D) (ci := 8) (v := .ref (ad 7)) (C := RX4) (T := TX4) (N := 29) hx hb hts inX4 hown hK hP 0 rfl rfl 11 (by decide) (hts _ q1340) (fun _ h9 => h9) rfl dX4_takeSnapshot_53 ?_
          refine lv_aload_n hx hb dX4_takeSnapshot_56 rfl (lv_at hl 0 rfl) ?_
          refine va_get (D := D) (ci := 8) (v := .int msnaps) (C := RX4) (T := TX4) (N := 29) hx hb hts inX4 hown hK hP 0 rfl rfl 10 (by decide) (hts _ q1339) (fun _ h9 => h9) rfl dX4_takeSnapshot_57 ?_
          refine lv_iload_n hx hb dX4_takeSnapshot_60 rfl (lv_at hl 1 rfl) ?_
          obtain ⟨k15, hf⟩ := ck_not hf
          refine va_iast (D := D) hx hb hK hP hD hS 7 0 rfl rfl k15 dX4_takeSnapshot_61 (fun H locs hP hD hS => ?_)
          have hP : va_P D vwCl (WM ca ad lq 0 mday mown mquot mprom mfiles mowner mlinks mblocks mvals msnaps (upd mranks msnaps.toNatClampNeg p1) mkept mshot mwas mholds mheld mends mopen mentr mkinds misop mfilesT mentrT mpromT mlinksT mblocksT mvalsT ++ R) H := hP
          have hD : va_D A (WM ca ad lq 0 mday mown mquot mprom mfiles mowner mlinks mblocks mvals msnaps (upd mranks msnaps.toNatClampNeg p1) mkept mshot mwas mholds mheld mends mopen mentr mkinds misop mfilesT mentrT mpromT mlinksT mblocksT mvalsT ++ R) := hD
          refine lv_aload_n hx hb dX4_takeSnapshot_62 rfl (lv_at hl 0 rfl) ?_
          refine va_get (D := D) (ci := 8) (v := .ref (ad 8)) (C := RX4) (T := TX4) (N := 29) hx hb hts inX4 hown hK hP 0 rfl rfl 12 (by decide) (hts _ q1341) (fun _ h9 => h9) rfl dX4_takeSnapshot_63 ?_
          refine lv_aload_n hx hb dX4_takeSnapshot_66 rfl (lv_at hl 0 rfl) ?_
          refine va_get (D := D) (ci := 8) (v := .int msnaps) (C := RX4) (T := TX4) (N := 29) hx hb hts inX4 hown hK hP 0 rfl rfl 10 (by decide) (hts _ q1339) (fun _ h9 => h9) rfl dX4_takeSnapshot_67 ?_
          refine lv_iconst (v := 1) hx hb dX4_takeSnapshot_70 (by decide) ?_
          obtain ⟨k16, hf⟩ := ck_not hf
          refine va_zast (D := D) hx hb hK hP hD hS 8 1 rfl rfl k16 dX4_takeSnapshot_71 (fun H locs hP hD hS => ?_)
          have hP : va_P D vwCl (WM ca ad lq 0 mday mown mquot mprom mfiles mowner mlinks mblocks mvals msnaps (upd mranks msnaps.toNatClampNeg p1) (upd mkept msnaps.toNatClampNeg (vp_nar .boolean 1)) mshot mwas mholds mheld mends mopen mentr mkinds misop mfilesT mentrT mpromT mlinksT mblocksT mvalsT ++ R) H := hP
          have hD : va_D A (WM ca ad lq 0 mday mown mquot mprom mfiles mowner mlinks mblocks mvals msnaps (upd mranks msnaps.toNatClampNeg p1) (upd mkept msnaps.toNatClampNeg (vp_nar .boolean 1)) mshot mwas mholds mheld mends mopen mentr mkinds misop mfilesT mentrT mpromT mlinksT mblocksT mvalsT ++ R) := hD
          refine lv_iconst (v := 0) hx hb dX4_takeSnapshot_72 (by decide) ?_
          refine lv_istore_n (lv' := [(2, .int 0), (0, .ref (ad 0)), (1, .int p1)]) hx hb dX4_takeSnapshot_73 rfl hl (by decide) rfl (fun ls hl => ?_)
          obtain ⟨mshot_27, h26, hf⟩ := bnd hf
          refine L74 FU 0 0 msnaps (upd mranks msnaps.toNatClampNeg p1) (upd mkept msnaps.toNatClampNeg (vp_nar .boolean 1)) mshot mwas mshot_27 h26 _ _ _ hP hD hS (lv_sub hl [1, 0] rfl) (fun H locs ls hP hD hS hl => ?_)
          refine lv_iconst (v := 0) hx hb dX4_takeSnapshot_108 (by decide) ?_
          refine lv_istore_n (lv' := [(2, .int 0), (0, .ref (ad 0))]) hx hb dX4_takeSnapshot_109 rfl hl (by decide) rfl (fun ls hl => ?_)
          obtain ⟨mwas_37, h36, hf⟩ := bnd hf
          refine L110 FU 0 0 msnaps (upd mranks msnaps.toNatClampNeg p1) (upd mkept msnaps.toNatClampNeg (vp_nar .boolean 1)) mshot_27 mwas mwas_37 h36 _ _ _ hP hD hS (lv_sub hl [1, 0] rfl) (fun H locs ls hP hD hS hl => ?_)
          refine lv_aload_n hx hb dX4_takeSnapshot_143 rfl (lv_at hl 0 rfl) ?_
          refine lv_dup hx hb dX4_takeSnapshot_144 rfl ?_
          refine va_get (D := D) (ci := 8) (v := .int msnaps) (C := RX4) (T := TX4) (N := 29) hx hb hts inX4 hown hK hP 0 rfl rfl 10 (by decide) (hts _ q1339) (fun _ h9 => h9) rfl dX4_takeSnapshot_145 ?_
          refine lv_iconst (v := 1) hx hb dX4_takeSnapshot_148 (by decide) ?_
          refine lv_iadd hx hb dX4_takeSnapshot_149 ?_
          refine va_put (D := D) (ci := 8) (v := .int (msnaps + 1)) (ty := .int) (C := RX4) (T := TX4) (N := 29) hx hb hts inX4 tyX4 tyX4_ok nmX4 hown hK hP hD hS 0 rfl rfl 10 (by decide) (hts _ q1339) (fun _ h9 => h9) rfl (by decide +kernel) rfl rfl (Nat.le_of_ble_eq_true rfl) dX4_takeSnapshot_150 (fun H locs hP hD hS => ?_)
          have hP : va_P D vwCl (WM ca ad lq 0 mday mown mquot mprom mfiles mowner mlinks mblocks mvals (msnaps + 1) (upd mranks msnaps.toNatClampNeg p1) (upd mkept msnaps.toNatClampNeg (vp_nar .boolean 1)) mshot_27 mwas_37 mholds mheld mends mopen mentr mkinds misop mfilesT mentrT mpromT mlinksT mblocksT mvalsT ++ R) H := hP
          have hD : va_D A (WM ca ad lq 0 mday mown mquot mprom mfiles mowner mlinks mblocks mvals (msnaps + 1) (upd mranks msnaps.toNatClampNeg p1) (upd mkept msnaps.toNatClampNeg (vp_nar .boolean 1)) mshot_27 mwas_37 mholds mheld mends mopen mentr mkinds misop mfilesT mentrT mpromT mlinksT mblocksT mvalsT ++ R) := hD
          refine lv_aload_n hx hb dX4_takeSnapshot_153 rfl (lv_at hl 0 rfl) ?_
          refine va_get (D := D) (ci := 8) (v := .int (msnaps + 1)) (C := RX4) (T := TX4) (N := 29) hx hb hts inX4 hown hK hP 0 rfl rfl 10 (by decide) (hts _ q1339) (fun _ h9 => h9) rfl dX4_takeSnapshot_154 ?_
          refine lv_iconst (v := 1) hx hb dX4_takeSnapshot_157 (by decide) ?_
          refine lv_isub hx hb dX4_takeSnapshot_158 ?_
          cases hf
          exact end_i hAe hQm hx hb hr hlocks rfl hP hD hS dX4_takeSnapshot_159
        · have hf := br_pos c14 hf
          refine lv_aload_n hx hb dX4_takeSnapshot_46 rfl (lv_at hl 0 rfl) ?_
          refine lv_iconst (v := 2) hx hb dX4_takeSnapshot_47 (by decide) ?_
          obtain ⟨⟨r38, mcode_39⟩, h40, hf⟩ := bnd hf
          refine call_vi (rest := []) (m_M_fails l ca ad lq 0 mday mown mquot mprom mfiles mowner mlinks mblocks mvals msnaps mranks mkept mshot mwas mholds mheld mends mopen mentr mkinds misop mfilesT mentrT mpromT mlinksT mblocksT mvalsT R _ 2 r38 mcode_39 h40) ⟨hx, hb, hml, hown, hts⟩ (cwV 1 hts (gV q1428 q1430 q23 q50 q1431) rfl rfl rfl (by decide +kernel) ⟨Nat.le_of_ble_eq_true rfl, Nat.le_of_ble_eq_true rfl⟩) (va_recv hK hP (ci := 8) (q0 := 0) rfl rfl) hE hP hD hS hA rfl hl.1 rfl (lv_room (Nat.le_of_ble_eq_true rfl)) dX4_takeSnapshot_48 ⟨Nat.le_of_ble_eq_true rfl, Nat.le_of_ble_eq_true rfl⟩ (fun H locs hP hD hS => ?_)
          cases hf
          exact end_i hAe hQm hx hb hr hlocks rfl hP hD hS dX4_takeSnapshot_51
  · have hf := br_pos c3 hf
    refine lv_aload_n hx hb dX4_takeSnapshot_15 rfl (lv_at hl 0 rfl) ?_
    refine lv_iconst (v := 1) hx hb dX4_takeSnapshot_16 (by decide) ?_
    obtain ⟨⟨r41, mcode_42⟩, h43, hf⟩ := bnd hf
    refine call_vi (rest := []) (m_M_fails l ca ad lq 0 mday mown mquot mprom mfiles mowner mlinks mblocks mvals msnaps mranks mkept mshot mwas mholds mheld mends mopen mentr mkinds misop mfilesT mentrT mpromT mlinksT mblocksT mvalsT R _ 1 r41 mcode_42 h43) ⟨hx, hb, hml, hown, hts⟩ (cwV 1 hts (gV q1428 q1430 q23 q50 q1431) rfl rfl rfl (by decide +kernel) ⟨Nat.le_of_ble_eq_true rfl, Nat.le_of_ble_eq_true rfl⟩) (va_recv hK hP (ci := 8) (q0 := 0) rfl rfl) hE hP hD hS hA rfl hl.1 rfl (lv_room (Nat.le_of_ble_eq_true rfl)) dX4_takeSnapshot_17 ⟨Nat.le_of_ble_eq_true rfl, Nat.le_of_ble_eq_true rfl⟩ (fun H locs hP hD hS => ?_)
    cases hf
    exact end_i hAe hQm hx hb hr hlocks rfl hP hD hS dX4_takeSnapshot_20
def f_M_isKept (p1 : Int32) (msnaps : Int32) (mkept : Nat → Int32) : Option (Int32 × Int32) :=
  (f_M_isSnapshot p1 msnaps).bind fun r1 =>
  if r1 = 0 then
    some (0, 1)
  else
    if p1 < 0 ∨ 30 ≤ p1.toNatClampNeg then none else
      if (mkept p1.toNatClampNeg) = 0 then
      some (0, 0)
    else
      some (1, 0)
set_option maxHeartbeats 4000000 in
set_option maxRecDepth 100000 in
theorem m_M_isKept (l : Launch) {D : va_G} {sl : List (String × Nat × String)} (ca : Nat → ClassId) (ad : Nat → Nat) (lq : Nat) (mcode : Int32) (mday : Int32) (mown : Int32) (mquot : Nat → Int32) (mprom : Nat → Int32) (mfiles : Int32) (mowner : Nat → Int32) (mlinks : Nat → Int32) (mblocks : Nat → Int32) (mvals : Nat → Int32) (msnaps : Int32) (mranks : Nat → Int32) (mkept : Nat → Int32) (mshot : Nat → Int32) (mwas : Nat → Int32) (mholds : Int32) (mheld : Nat → Int32) (mends : Nat → Int32) (mopen : Nat → Int32) (mentr : Int32) (mkinds : Nat → Int32) (misop : Int32) (mfilesT : Int32) (mentrT : Int32) (mpromT : Nat → Int32) (mlinksT : Nat → Int32) (mblocksT : Nat → Int32) (mvalsT : Nat → Int32) (R : va_W) (sz : Nat) (p1 : Int32) (ro : Int32) (omcode : Int32) (hf : f_M_isKept p1 msnaps mkept = some (ro, omcode)) : Met l yX4_isKept (wm yX4_isKept cX4_isKept 2 (some .boolean)) ({ frames := 2, cells := 0, slots := 0, locals := 43 } : Room) (PRE [.ref (ad 0), .int p1] D ca sl (WM ca ad lq mcode mday mown mquot mprom mfiles mowner mlinks mblocks mvals msnaps mranks mkept mshot mwas mholds mheld mends mopen mentr mkinds misop mfilesT mentrT mpromT mlinksT mblocksT mvalsT ++ R) sz) (QI ro D (WM ca ad lq omcode mday mown mquot mprom mfiles mowner mlinks mblocks mvals msnaps mranks mkept mshot mwas mholds mheld mends mopen mentr mkinds misop mfilesT mentrT mpromT mlinksT mblocksT mvalsT ++ R) (WM ca ad lq mcode mday mown mquot mprom mfiles mowner mlinks mblocks mvals msnaps mranks mkept mshot mwas mholds mheld mends mopen mentr mkinds misop mfilesT mentrT mpromT mlinksT mblocksT mvalsT ++ R) sz) 0 0 (va_A (WM ca ad lq mcode mday mown mquot mprom mfiles mowner mlinks mblocks mvals msnaps mranks mkept mshot mwas mholds mheld mends mopen mentr mkinds misop mfilesT mentrT mpromT mlinksT mblocksT mvalsT ++ R) sz) := by
  refine Met.ofW (cc := cX4_isKept) (maxL := 2) (ret := (some .boolean)) (by decide) rfl ?_
  intro p e s m args below meth c s₁ B hml hv
  obtain ⟨rfl, rfl, hP, hE, hD0⟩ := hv
  have hx := B.exec
  have hb := B.bytes
  have hr := B.returns
  have hts := wm_ww (atoms_spec (ws := wm yX4_isKept cX4_isKept 2 (some .boolean)) B.pre)
  have hown : s.vm.findClass RX4 = some m.cls := findClass_of_methodNamed B.named
  have hlocks := B.notSynchronized
  have hK := hE.1
  have hD := hD0.self (sz := s.heap.size)
  generalize hAe : va_A (WM ca ad lq mcode mday mown mquot mprom mfiles mowner mlinks mblocks mvals msnaps mranks mkept mshot mwas mholds mheld mends mopen mentr mkinds misop mfilesT mentrT mpromT mlinksT mblocksT mvalsT ++ R) s.heap.size = A at hD ⊢
  have hA : ∀ q : Nat, s.heap.size ≤ q → A q := fun q h => by rw [← hAe]; exact Or.inr h
  have hS : va_S A s.heap s.heap [] := va_S.rf
  have hl := lv_entry ([.ref (ad 0), .int p1]) (n := 2) (Nat.le_of_ble_eq_true rfl)
  rw [lg_entry_eq]
  generalize (lg_sl ([.ref (ad 0), .int p1]) ++ List.replicate (2 - (lg_sl ([.ref (ad 0), .int p1])).length) Slot.unset).toArray = ls at hl ⊢
  have hl : lv_has ls 2 [(0, .ref (ad 0)), (1, .int p1)] := hl
  change W p l e ({ frames := 2, cells := 0, slots := 0, locals := 43 } : Room) s m _ below meth c s.heap [] 0 0 _ _
  generalize hQm : MQ below (QI ro D (WM ca ad lq omcode mday mown mquot mprom mfiles mowner mlinks mblocks mvals msnaps mranks mkept mshot mwas mholds mheld mends mopen mentr mkinds misop mfilesT mentrT mpromT mlinksT mblocksT mvalsT ++ R) (WM ca ad lq mcode mday mown mquot mprom mfiles mowner mlinks mblocks mvals msnaps mranks mkept mshot mwas mholds mheld mends mopen mentr mkinds misop mfilesT mentrT mpromT mlinksT mblocksT mvalsT ++ R) s.heap.size) _ s 0 0 A = Qm
  have hP : va_P D vwCl (WM ca ad lq mcode mday mown mquot mprom mfiles mowner mlinks mblocks mvals msnaps mranks mkept mshot mwas mholds mheld mends mopen mentr mkinds misop mfilesT mentrT mpromT mlinksT mblocksT mvalsT ++ R) s.heap := hP
  generalize hae : ([.ref (ad 0), .int p1] : List Value).toArray = args at hts hQm ⊢
  refine lv_aload_n hx hb dX4_isKept_0 rfl (lv_at hl 0 rfl) ?_
  refine lv_aload_n hx hb dX4_isKept_1 rfl (lv_at hl 0 rfl) ?_
  refine lv_iload_n hx hb dX4_isKept_2 rfl (lv_at hl 1 rfl) ?_
  obtain ⟨r1, h2, hf⟩ := bnd hf
  refine call_vi (rest := [.ref (ad 0)]) (m_M_isSnapshot l ca ad lq mcode mday mown mquot mprom mfiles mowner mlinks mblocks mvals msnaps mranks mkept mshot mwas mholds mheld mends mopen mentr mkinds misop mfilesT mentrT mpromT mlinksT mblocksT mvalsT R _ p1 r1 h2) ⟨hx, hb, hml, hown, hts⟩ (cwV 1 hts (gV q1568 q1570 q37 q50 q1571) rfl rfl rfl (by decide +kernel) ⟨Nat.le_of_ble_eq_true rfl, Nat.le_of_ble_eq_true rfl⟩) (va_recv hK hP (ci := 8) (q0 := 0) rfl rfl) hE hP hD hS hA rfl hl.1 rfl (lv_room (Nat.le_of_ble_eq_true rfl)) dX4_isKept_3 ⟨Nat.le_of_ble_eq_true rfl, Nat.le_of_ble_eq_true rfl⟩ (fun H locs hP hD hS => ?_)
  refine lv_if_eq (tgt := 13) hx hb dX4_isKept_6 (by decide) (fun c3 => ?_) (fun c3 => ?_)
  · have hf := br_pos c3 hf
    refine lv_iconst (v := 1) hx hb dX4_isKept_13 (by decide) ?_
    refine va_put (D := D) (ci := 8) (v := .int 1) (ty := .int) (C := RX4) (T := TX4) (N := 29) hx hb hts inX4 tyX4 tyX4_ok nmX4 hown hK hP hD hS 0 rfl rfl 0 (by decide) (hts _ q1329) (fun _ h9 => h9) rfl (by decide +kernel) rfl rfl (Nat.le_of_ble_eq_true rfl) dX4_isKept_14 (fun H locs hP hD hS => ?_)
    have hP : va_P D vwCl (WM ca ad lq 1 mday mown mquot mprom mfiles mowner mlinks mblocks mvals msnaps mranks mkept mshot mwas mholds mheld mends mopen mentr mkinds misop mfilesT mentrT mpromT mlinksT mblocksT mvalsT ++ R) H := hP
    have hD : va_D A (WM ca ad lq 1 mday mown mquot mprom mfiles mowner mlinks mblocks mvals msnaps mranks mkept mshot mwas mholds mheld mends mopen mentr mkinds misop mfilesT mentrT mpromT mlinksT mblocksT mvalsT ++ R) := hD
    refine lv_aload_n hx hb dX4_isKept_17 rfl (lv_at hl 0 rfl) ?_
    refine va_get (D := D) (ci := 8) (v := .int 1) (C := RX4) (T := TX4) (N := 29) hx hb hts inX4 hown hK hP 0 rfl rfl 0 (by decide) (hts _ q1329) (fun _ h9 => h9) rfl dX4_isKept_18 ?_
    refine lv_if_ne (tgt := 37) hx hb dX4_isKept_21 (by decide) (fun c4 => ?_) (fun c4 => ?_)
    rotate_left
    · exact absurd c4 (by decide)
    refine lv_iconst (v := 0) hx hb dX4_isKept_37 (by decide) ?_
    cases hf
    exact end_i hAe hQm hx hb hr hlocks rfl hP hD hS dX4_isKept_38
  · have hf := br_neg c3 hf
    refine lv_iconst (v := 0) hx hb dX4_isKept_9 (by decide) ?_
    refine lv_goto (tgt := 14) hx hb dX4_isKept_10 (by decide) ?_
    refine va_put (D := D) (ci := 8) (v := .int 0) (ty := .int) (C := RX4) (T := TX4) (N := 29) hx hb hts inX4 tyX4 tyX4_ok nmX4 hown hK hP hD hS 0 rfl rfl 0 (by decide) (hts _ q1329) (fun _ h9 => h9) rfl (by decide +kernel) rfl rfl (Nat.le_of_ble_eq_true rfl) dX4_isKept_14 (fun H locs hP hD hS => ?_)
    have hP : va_P D vwCl (WM ca ad lq 0 mday mown mquot mprom mfiles mowner mlinks mblocks mvals msnaps mranks mkept mshot mwas mholds mheld mends mopen mentr mkinds misop mfilesT mentrT mpromT mlinksT mblocksT mvalsT ++ R) H := hP
    have hD : va_D A (WM ca ad lq 0 mday mown mquot mprom mfiles mowner mlinks mblocks mvals msnaps mranks mkept mshot mwas mholds mheld mends mopen mentr mkinds misop mfilesT mentrT mpromT mlinksT mblocksT mvalsT ++ R) := hD
    refine lv_aload_n hx hb dX4_isKept_17 rfl (lv_at hl 0 rfl) ?_
    refine va_get (D := D) (ci := 8) (v := .int 0) (C := RX4) (T := TX4) (N := 29) hx hb hts inX4 hown hK hP 0 rfl rfl 0 (by decide) (hts _ q1329) (fun _ h9 => h9) rfl dX4_isKept_18 ?_
    refine lv_if_ne (tgt := 37) hx hb dX4_isKept_21 (by decide) (fun c5 => ?_) (fun c5 => ?_)
    · exact absurd c5 (by decide)
    refine lv_aload_n hx hb dX4_isKept_24 rfl (lv_at hl 0 rfl) ?_
    refine va_get (D := D) (ci := 8) (v := .ref (ad 8)) (C := RX4) (T := TX4) (N := 29) hx hb hts inX4 hown hK hP 0 rfl rfl 12 (by decide) (hts _ q1341) (fun _ h9 => h9) rfl dX4_isKept_25 ?_
    refine lv_iload_n hx hb dX4_isKept_28 rfl (lv_at hl 1 rfl) ?_
    obtain ⟨k6, hf⟩ := ck_not hf
    refine va_zald (D := D) hx hb hK hP 8 1 rfl rfl k6 dX4_isKept_29 ?_
    refine lv_if_eq (tgt := 37) hx hb dX4_isKept_30 (by decide) (fun c7 => ?_) (fun c7 => ?_)
    · have hf := br_pos c7 hf
      refine lv_iconst (v := 0) hx hb dX4_isKept_37 (by decide) ?_
      cases hf
      exact end_i hAe hQm hx hb hr hlocks rfl hP hD hS dX4_isKept_38
    · have hf := br_neg c7 hf
      refine lv_iconst (v := 1) hx hb dX4_isKept_33 (by decide) ?_
      refine lv_goto (tgt := 38) hx hb dX4_isKept_34 (by decide) ?_
      cases hf
      exact end_i hAe hQm hx hb hr hlocks rfl hP hD hS dX4_isKept_38
def f_M_readFrom (p1 : Int32) (p2 : Int32) (p3 : Int32) (mfiles : Int32) (mvals : Nat → Int32) (msnaps : Int32) (mkept : Nat → Int32) (mshot : Nat → Int32) (mwas : Nat → Int32) : Option (Int32 × Int32) :=
  (f_M_isSnapshot p1 msnaps).bind fun r1 =>
  if r1 = 0 then
    (f_M_fails 1).bind fun (r4, mcode_5) =>
    some (r4, mcode_5)
  else
    (f_M_isFile p2 mfiles).bind fun r7 =>
    if r7 = 0 then
      (f_M_fails 1).bind fun (r10, mcode_11) =>
      some (r10, mcode_11)
    else
      (f_M_isPlace p3).bind fun r13 =>
      if r13 = 0 then
        (f_M_fails 1).bind fun (r32, mcode_33) =>
        some (r32, mcode_33)
      else
        if (((640 * p1) + (16 * p2)) + p3) < 0 ∨ 19200 ≤ (((640 * p1) + (16 * p2)) + p3).toNatClampNeg then none else
          if p1 < 0 ∨ 30 ≤ p1.toNatClampNeg then none else
          if (mkept p1.toNatClampNeg) = 0 then
          (f_M_fails 2).bind fun (r19, mcode_20) =>
          some (r19, mcode_20)
        else
          if ((40 * p1) + p2) < 0 ∨ 1200 ≤ ((40 * p1) + p2).toNatClampNeg then none else
            if (mwas ((40 * p1) + p2).toNatClampNeg) = 0 then
            (f_M_fails 2).bind fun (r24, mcode_25) =>
            some (r24, mcode_25)
          else
            if (mshot (((640 * p1) + (16 * p2)) + p3).toNatClampNeg) = 0 then
              (f_M_fails 2).bind fun (r29, mcode_30) =>
              some (r29, mcode_30)
            else
              if ((mshot (((640 * p1) + (16 * p2)) + p3).toNatClampNeg) - 1) < 0 ∨ 64 ≤ ((mshot (((640 * p1) + (16 * p2)) + p3).toNatClampNeg) - 1).toNatClampNeg then none else
                some ((mvals ((mshot (((640 * p1) + (16 * p2)) + p3).toNatClampNeg) - 1).toNatClampNeg), 0)
set_option maxHeartbeats 4000000 in
set_option maxRecDepth 100000 in
theorem m_M_readFrom (l : Launch) {D : va_G} {sl : List (String × Nat × String)} (ca : Nat → ClassId) (ad : Nat → Nat) (lq : Nat) (mcode : Int32) (mday : Int32) (mown : Int32) (mquot : Nat → Int32) (mprom : Nat → Int32) (mfiles : Int32) (mowner : Nat → Int32) (mlinks : Nat → Int32) (mblocks : Nat → Int32) (mvals : Nat → Int32) (msnaps : Int32) (mranks : Nat → Int32) (mkept : Nat → Int32) (mshot : Nat → Int32) (mwas : Nat → Int32) (mholds : Int32) (mheld : Nat → Int32) (mends : Nat → Int32) (mopen : Nat → Int32) (mentr : Int32) (mkinds : Nat → Int32) (misop : Int32) (mfilesT : Int32) (mentrT : Int32) (mpromT : Nat → Int32) (mlinksT : Nat → Int32) (mblocksT : Nat → Int32) (mvalsT : Nat → Int32) (R : va_W) (sz : Nat) (p1 : Int32) (p2 : Int32) (p3 : Int32) (ro : Int32) (omcode : Int32) (hf : f_M_readFrom p1 p2 p3 mfiles mvals msnaps mkept mshot mwas = some (ro, omcode)) : Met l yX4_readFrom (wm yX4_readFrom cX4_readFrom 5 (some .int)) ({ frames := 2, cells := 0, slots := 0, locals := 43 } : Room) (PRE [.ref (ad 0), .int p1, .int p2, .int p3] D ca sl (WM ca ad lq mcode mday mown mquot mprom mfiles mowner mlinks mblocks mvals msnaps mranks mkept mshot mwas mholds mheld mends mopen mentr mkinds misop mfilesT mentrT mpromT mlinksT mblocksT mvalsT ++ R) sz) (QI ro D (WM ca ad lq omcode mday mown mquot mprom mfiles mowner mlinks mblocks mvals msnaps mranks mkept mshot mwas mholds mheld mends mopen mentr mkinds misop mfilesT mentrT mpromT mlinksT mblocksT mvalsT ++ R) (WM ca ad lq mcode mday mown mquot mprom mfiles mowner mlinks mblocks mvals msnaps mranks mkept mshot mwas mholds mheld mends mopen mentr mkinds misop mfilesT mentrT mpromT mlinksT mblocksT mvalsT ++ R) sz) 0 0 (va_A (WM ca ad lq mcode mday mown mquot mprom mfiles mowner mlinks mblocks mvals msnaps mranks mkept mshot mwas mholds mheld mends mopen mentr mkinds misop mfilesT mentrT mpromT mlinksT mblocksT mvalsT ++ R) sz) := by
  refine Met.ofW (cc := cX4_readFrom) (maxL := 5) (ret := (some .int)) (by decide) rfl ?_
  intro p e s m args below meth c s₁ B hml hv
  obtain ⟨rfl, rfl, hP, hE, hD0⟩ := hv
  have hx := B.exec
  have hb := B.bytes
  have hr := B.returns
  have hts := wm_ww (atoms_spec (ws := wm yX4_readFrom cX4_readFrom 5 (some .int)) B.pre)
  have hown : s.vm.findClass RX4 = some m.cls := findClass_of_methodNamed B.named
  have hlocks := B.notSynchronized
  have hK := hE.1
  have hD := hD0.self (sz := s.heap.size)
  generalize hAe : va_A (WM ca ad lq mcode mday mown mquot mprom mfiles mowner mlinks mblocks mvals msnaps mranks mkept mshot mwas mholds mheld mends mopen mentr mkinds misop mfilesT mentrT mpromT mlinksT mblocksT mvalsT ++ R) s.heap.size = A at hD ⊢
  have hA : ∀ q : Nat, s.heap.size ≤ q → A q := fun q h => by rw [← hAe]; exact Or.inr h
  have hS : va_S A s.heap s.heap [] := va_S.rf
  have hl := lv_entry ([.ref (ad 0), .int p1, .int p2, .int p3]) (n := 5) (Nat.le_of_ble_eq_true rfl)
  rw [lg_entry_eq]
  generalize (lg_sl ([.ref (ad 0), .int p1, .int p2, .int p3]) ++ List.replicate (5 - (lg_sl ([.ref (ad 0), .int p1, .int p2, .int p3])).length) Slot.unset).toArray = ls at hl ⊢
  have hl : lv_has ls 5 [(0, .ref (ad 0)), (1, .int p1), (2, .int p2), (3, .int p3)] := hl
  change W p l e ({ frames := 2, cells := 0, slots := 0, locals := 43 } : Room) s m _ below meth c s.heap [] 0 0 _ _
  generalize hQm : MQ below (QI ro D (WM ca ad lq omcode mday mown mquot mprom mfiles mowner mlinks mblocks mvals msnaps mranks mkept mshot mwas mholds mheld mends mopen mentr mkinds misop mfilesT mentrT mpromT mlinksT mblocksT mvalsT ++ R) (WM ca ad lq mcode mday mown mquot mprom mfiles mowner mlinks mblocks mvals msnaps mranks mkept mshot mwas mholds mheld mends mopen mentr mkinds misop mfilesT mentrT mpromT mlinksT mblocksT mvalsT ++ R) s.heap.size) _ s 0 0 A = Qm
  have hP : va_P D vwCl (WM ca ad lq mcode mday mown mquot mprom mfiles mowner mlinks mblocks mvals msnaps mranks mkept mshot mwas mholds mheld mends mopen mentr mkinds misop mfilesT mentrT mpromT mlinksT mblocksT mvalsT ++ R) s.heap := hP
  generalize hae : ([.ref (ad 0), .int p1, .int p2, .int p3] : List Value).toArray = args at hts hQm ⊢
  refine lv_aload_n hx hb dX4_readFrom_0 rfl (lv_at hl 0 rfl) ?_
  refine lv_iconst (v := 0) hx hb dX4_readFrom_1 (by decide) ?_
  refine va_put (D := D) (ci := 8) (v := .int 0) (ty := .int) (C := RX4) (T := TX4) (N := 29) hx hb hts inX4 tyX4 tyX4_ok nmX4 hown hK hP hD hS 0 rfl rfl 0 (by decide) (hts _ q1329) (fun _ h9 => h9) rfl (by decide +kernel) rfl rfl (Nat.le_of_ble_eq_true rfl) dX4_readFrom_2 (fun H locs hP hD hS => ?_)
  have hP : va_P D vwCl (WM ca ad lq 0 mday mown mquot mprom mfiles mowner mlinks mblocks mvals msnaps mranks mkept mshot mwas mholds mheld mends mopen mentr mkinds misop mfilesT mentrT mpromT mlinksT mblocksT mvalsT ++ R) H := hP
  have hD : va_D A (WM ca ad lq 0 mday mown mquot mprom mfiles mowner mlinks mblocks mvals msnaps mranks mkept mshot mwas mholds mheld mends mopen mentr mkinds misop mfilesT mentrT mpromT mlinksT mblocksT mvalsT ++ R) := hD
  refine lv_aload_n hx hb dX4_readFrom_5 rfl (lv_at hl 0 rfl) ?_
  refine lv_iload_n hx hb dX4_readFrom_6 rfl (lv_at hl 1 rfl) ?_
  obtain ⟨r1, h2, hf⟩ := bnd hf
  refine call_vi (rest := []) (m_M_isSnapshot l ca ad lq 0 mday mown mquot mprom mfiles mowner mlinks mblocks mvals msnaps mranks mkept mshot mwas mholds mheld mends mopen mentr mkinds misop mfilesT mentrT mpromT mlinksT mblocksT mvalsT R _ p1 r1 h2) ⟨hx, hb, hml, hown, hts⟩ (cwV 1 hts (gV q1568 q1570 q37 q50 q1571) rfl rfl rfl (by decide +kernel) ⟨Nat.le_of_ble_eq_true rfl, Nat.le_of_ble_eq_true rfl⟩) (va_recv hK hP (ci := 8) (q0 := 0) rfl rfl) hE hP hD hS hA rfl hl.1 rfl (lv_room (Nat.le_of_ble_eq_true rfl)) dX4_readFrom_7 ⟨Nat.le_of_ble_eq_true rfl, Nat.le_of_ble_eq_true rfl⟩ (fun H locs hP hD hS => ?_)
  refine lv_if_eq (tgt := 28) hx hb dX4_readFrom_10 (by decide) (fun c3 => ?_) (fun c3 => ?_)
  · have hf := br_pos c3 hf
    refine lv_aload_n hx hb dX4_readFrom_28 rfl (lv_at hl 0 rfl) ?_
    refine lv_iconst (v := 1) hx hb dX4_readFrom_29 (by decide) ?_
    obtain ⟨⟨r4, mcode_5⟩, h6, hf⟩ := bnd hf
    refine call_vi (rest := []) (m_M_fails l ca ad lq 0 mday mown mquot mprom mfiles mowner mlinks mblocks mvals msnaps mranks mkept mshot mwas mholds mheld mends mopen mentr mkinds misop mfilesT mentrT mpromT mlinksT mblocksT mvalsT R _ 1 r4 mcode_5 h6) ⟨hx, hb, hml, hown, hts⟩ (cwV 1 hts (gV q1428 q1430 q23 q50 q1431) rfl rfl rfl (by decide +kernel) ⟨Nat.le_of_ble_eq_true rfl, Nat.le_of_ble_eq_true rfl⟩) (va_recv hK hP (ci := 8) (q0 := 0) rfl rfl) hE hP hD hS hA rfl hl.1 rfl (lv_room (Nat.le_of_ble_eq_true rfl)) dX4_readFrom_30 ⟨Nat.le_of_ble_eq_true rfl, Nat.le_of_ble_eq_true rfl⟩ (fun H locs hP hD hS => ?_)
    cases hf
    exact end_i hAe hQm hx hb hr hlocks rfl hP hD hS dX4_readFrom_33
  · have hf := br_neg c3 hf
    refine lv_aload_n hx hb dX4_readFrom_13 rfl (lv_at hl 0 rfl) ?_
    refine lv_iload_n hx hb dX4_readFrom_14 rfl (lv_at hl 2 rfl) ?_
    obtain ⟨r7, h8, hf⟩ := bnd hf
    refine call_vi (rest := []) (m_M_isFile l ca ad lq 0 mday mown mquot mprom mfiles mowner mlinks mblocks mvals msnaps mranks mkept mshot mwas mholds mheld mends mopen mentr mkinds misop mfilesT mentrT mpromT mlinksT mblocksT mvalsT R _ p2 r7 h8) ⟨hx, hb, hml, hown, hts⟩ (cwV 1 hts (gV q1452 q1454 q26 q50 q1455) rfl rfl rfl (by decide +kernel) ⟨Nat.le_of_ble_eq_true rfl, Nat.le_of_ble_eq_true rfl⟩) (va_recv hK hP (ci := 8) (q0 := 0) rfl rfl) hE hP hD hS hA rfl hl.1 rfl (lv_room (Nat.le_of_ble_eq_true rfl)) dX4_readFrom_15 ⟨Nat.le_of_ble_eq_true rfl, Nat.le_of_ble_eq_true rfl⟩ (fun H locs hP hD hS => ?_)
    refine lv_if_eq (tgt := 28) hx hb dX4_readFrom_18 (by decide) (fun c9 => ?_) (fun c9 => ?_)
    · have hf := br_pos c9 hf
      refine lv_aload_n hx hb dX4_readFrom_28 rfl (lv_at hl 0 rfl) ?_
      refine lv_iconst (v := 1) hx hb dX4_readFrom_29 (by decide) ?_
      obtain ⟨⟨r10, mcode_11⟩, h12, hf⟩ := bnd hf
      refine call_vi (rest := []) (m_M_fails l ca ad lq 0 mday mown mquot mprom mfiles mowner mlinks mblocks mvals msnaps mranks mkept mshot mwas mholds mheld mends mopen mentr mkinds misop mfilesT mentrT mpromT mlinksT mblocksT mvalsT R _ 1 r10 mcode_11 h12) ⟨hx, hb, hml, hown, hts⟩ (cwV 1 hts (gV q1428 q1430 q23 q50 q1431) rfl rfl rfl (by decide +kernel) ⟨Nat.le_of_ble_eq_true rfl, Nat.le_of_ble_eq_true rfl⟩) (va_recv hK hP (ci := 8) (q0 := 0) rfl rfl) hE hP hD hS hA rfl hl.1 rfl (lv_room (Nat.le_of_ble_eq_true rfl)) dX4_readFrom_30 ⟨Nat.le_of_ble_eq_true rfl, Nat.le_of_ble_eq_true rfl⟩ (fun H locs hP hD hS => ?_)
      cases hf
      exact end_i hAe hQm hx hb hr hlocks rfl hP hD hS dX4_readFrom_33
    · have hf := br_neg c9 hf
      refine lv_iload_n hx hb dX4_readFrom_21 rfl (lv_at hl 3 rfl) ?_
      obtain ⟨r13, h14, hf⟩ := bnd hf
      refine call_si (rest := []) (m_M_isPlace l ca ad lq 0 mday mown mquot mprom mfiles mowner mlinks mblocks mvals msnaps mranks mkept mshot mwas mholds mheld mends mopen mentr mkinds misop mfilesT mentrT mpromT mlinksT mblocksT mvalsT R _ p3 r13 h14) ⟨hx, hb, hml, hown, hts⟩ (va_cwS 1 hts (gS q1484 q1485 q50 q1486) rfl rfl rfl (by decide +kernel) ⟨Nat.le_of_ble_eq_true rfl, Nat.le_of_ble_eq_true rfl⟩) hE hP hD hS hA rfl hl.1 rfl (lv_room (Nat.le_of_ble_eq_true rfl)) dX4_readFrom_22 ⟨Nat.le_of_ble_eq_true rfl, Nat.le_of_ble_eq_true rfl⟩ (fun H locs hP hD hS => ?_)
      refine lv_if_ne (tgt := 34) hx hb dX4_readFrom_25 (by decide) (fun c15 => ?_) (fun c15 => ?_)
      · have hf := br_neg c15 hf
        refine lv_aload_n hx hb dX4_readFrom_34 rfl (lv_at hl 0 rfl) ?_
        refine va_get (D := D) (ci := 8) (v := .ref (ad 9)) (C := RX4) (T := TX4) (N := 29) hx hb hts inX4 hown hK hP 0 rfl rfl 13 (by decide) (hts _ q1342) (fun _ h9 => h9) rfl dX4_readFrom_35 ?_
        refine lv_sipush (v := 640) hx hb dX4_readFrom_38 (by decide) ?_
        refine lv_iload_n hx hb dX4_readFrom_41 rfl (lv_at hl 1 rfl) ?_
        refine lv_imul hx hb dX4_readFrom_42 ?_
        refine lv_bipush (v := 16) hx hb dX4_readFrom_43 (by decide) ?_
        refine lv_iload_n hx hb dX4_readFrom_45 rfl (lv_at hl 2 rfl) ?_
        refine lv_imul hx hb dX4_readFrom_46 ?_
        refine lv_iadd hx hb dX4_readFrom_47 ?_
        refine lv_iload_n hx hb dX4_readFrom_48 rfl (lv_at hl 3 rfl) ?_
        refine lv_iadd hx hb dX4_readFrom_49 ?_
        obtain ⟨k16, hf⟩ := ck_not hf
        refine va_iald (D := D) hx hb hK hP 9 0 rfl rfl k16 dX4_readFrom_50 ?_
        refine lv_istore (lv' := [(4, .int (mshot (((640 * p1) + (16 * p2)) + p3).toNatClampNeg)), (0, .ref (ad 0)), (1, .int p1), (2, .int p2), (3, .int p3)]) hx hb dX4_readFrom_51 hl (by decide) rfl (fun ls hl => ?_)
        refine lv_aload_n hx hb dX4_readFrom_53 rfl (lv_at hl 1 rfl) ?_
        refine va_get (D := D) (ci := 8) (v := .ref (ad 8)) (C := RX4) (T := TX4) (N := 29) hx hb hts inX4 hown hK hP 0 rfl rfl 12 (by decide) (hts _ q1341) (fun _ h9 => h9) rfl dX4_readFrom_54 ?_
        refine lv_iload_n hx hb dX4_readFrom_57 rfl (lv_at hl 2 rfl) ?_
        obtain ⟨k17, hf⟩ := ck_not hf
        refine va_zald (D := D) hx hb hK hP 8 1 rfl rfl k17 dX4_readFrom_58 ?_
        refine lv_if_eq (tgt := 81) hx hb dX4_readFrom_59 (by decide) (fun c18 => ?_) (fun c18 => ?_)
        · have hf := br_pos c18 hf
          refine lv_aload_n hx hb dX4_readFrom_81 rfl (lv_at hl 1 rfl) ?_
          refine lv_iconst (v := 2) hx hb dX4_readFrom_82 (by decide) ?_
          obtain ⟨⟨r19, mcode_20⟩, h21, hf⟩ := bnd hf
          refine call_vi (rest := []) (m_M_fails l ca ad lq 0 mday mown mquot mprom mfiles mowner mlinks mblocks mvals msnaps mranks mkept mshot mwas mholds mheld mends mopen mentr mkinds misop mfilesT mentrT mpromT mlinksT mblocksT mvalsT R _ 2 r19 mcode_20 h21) ⟨hx, hb, hml, hown, hts⟩ (cwV 1 hts (gV q1428 q1430 q23 q50 q1431) rfl rfl rfl (by decide +kernel) ⟨Nat.le_of_ble_eq_true rfl, Nat.le_of_ble_eq_true rfl⟩) (va_recv hK hP (ci := 8) (q0 := 0) rfl rfl) hE hP hD hS hA rfl hl.1 rfl (lv_room (Nat.le_of_ble_eq_true rfl)) dX4_readFrom_83 ⟨Nat.le_of_ble_eq_true rfl, Nat.le_of_ble_eq_true rfl⟩ (fun H locs hP hD hS => ?_)
          refine lv_goto (tgt := 98) hx hb dX4_readFrom_86 (by decide) ?_
          cases hf
          exact end_i hAe hQm hx hb hr hlocks rfl hP hD hS dX4_readFrom_98
        · have hf := br_neg c18 hf
          refine lv_aload_n hx hb dX4_readFrom_62 rfl (lv_at hl 1 rfl) ?_
          refine va_get (D := D) (ci := 8) (v := .ref (ad 10)) (C := RX4) (T := TX4) (N := 29) hx hb hts inX4 hown hK hP 0 rfl rfl 14 (by decide) (hts _ q1343) (fun _ h9 => h9) rfl dX4_readFrom_63 ?_
          refine lv_bipush (v := 40) hx hb dX4_readFrom_66 (by decide) ?_
          refine lv_iload_n hx hb dX4_readFrom_68 rfl (lv_at hl 2 rfl) ?_
          refine lv_imul hx hb dX4_readFrom_69 ?_
          refine lv_iload_n hx hb dX4_readFrom_70 rfl (lv_at hl 3 rfl) ?_
          refine lv_iadd hx hb dX4_readFrom_71 ?_
          obtain ⟨k22, hf⟩ := ck_not hf
          refine va_zald (D := D) hx hb hK hP 10 1 rfl rfl k22 dX4_readFrom_72 ?_
          refine lv_if_eq (tgt := 81) hx hb dX4_readFrom_73 (by decide) (fun c23 => ?_) (fun c23 => ?_)
          · have hf := br_pos c23 hf
            refine lv_aload_n hx hb dX4_readFrom_81 rfl (lv_at hl 1 rfl) ?_
            refine lv_iconst (v := 2) hx hb dX4_readFrom_82 (by decide) ?_
            obtain ⟨⟨r24, mcode_25⟩, h26, hf⟩ := bnd hf
            refine call_vi (rest := []) (m_M_fails l ca ad lq 0 mday mown mquot mprom mfiles mowner mlinks mblocks mvals msnaps mranks mkept mshot mwas mholds mheld mends mopen mentr mkinds misop mfilesT mentrT mpromT mlinksT mblocksT mvalsT R _ 2 r24 mcode_25 h26) ⟨hx, hb, hml, hown, hts⟩ (cwV 1 hts (gV q1428 q1430 q23 q50 q1431) rfl rfl rfl (by decide +kernel) ⟨Nat.le_of_ble_eq_true rfl, Nat.le_of_ble_eq_true rfl⟩) (va_recv hK hP (ci := 8) (q0 := 0) rfl rfl) hE hP hD hS hA rfl hl.1 rfl (lv_room (Nat.le_of_ble_eq_true rfl)) dX4_readFrom_83 ⟨Nat.le_of_ble_eq_true rfl, Nat.le_of_ble_eq_true rfl⟩ (fun H locs hP hD hS => ?_)
            refine lv_goto (tgt := 98) hx hb dX4_readFrom_86 (by decide) ?_
            cases hf
            exact end_i hAe hQm hx hb hr hlocks rfl hP hD hS dX4_readFrom_98
          · have hf := br_neg c23 hf
            refine lv_iload hx hb dX4_readFrom_76 (lv_at hl 0 rfl) ?_
            refine lv_if_ne (tgt := 89) hx hb dX4_readFrom_78 (by decide) (fun c27 => ?_) (fun c27 => ?_)
            · have hf := br_neg c27 hf
              refine lv_aload_n hx hb dX4_readFrom_89 rfl (lv_at hl 1 rfl) ?_
              refine va_get (D := D) (ci := 8) (v := .ref (ad 6)) (C := RX4) (T := TX4) (N := 29) hx hb hts inX4 hown hK hP 0 rfl rfl 9 (by decide) (hts _ q1338) (fun _ h9 => h9) rfl dX4_readFrom_90 ?_
              refine lv_iload hx hb dX4_readFrom_93 (lv_at hl 0 rfl) ?_
              refine lv_iconst (v := 1) hx hb dX4_readFrom_95 (by decide) ?_
              refine lv_isub hx hb dX4_readFrom_96 ?_
              obtain ⟨k28, hf⟩ := ck_not hf
              refine va_iald (D := D) hx hb hK hP 6 0 rfl rfl k28 dX4_readFrom_97 ?_
              cases hf
              exact end_i hAe hQm hx hb hr hlocks rfl hP hD hS dX4_readFrom_98
            · have hf := br_pos c27 hf
              refine lv_aload_n hx hb dX4_readFrom_81 rfl (lv_at hl 1 rfl) ?_
              refine lv_iconst (v := 2) hx hb dX4_readFrom_82 (by decide) ?_
              obtain ⟨⟨r29, mcode_30⟩, h31, hf⟩ := bnd hf
              refine call_vi (rest := []) (m_M_fails l ca ad lq 0 mday mown mquot mprom mfiles mowner mlinks mblocks mvals msnaps mranks mkept mshot mwas mholds mheld mends mopen mentr mkinds misop mfilesT mentrT mpromT mlinksT mblocksT mvalsT R _ 2 r29 mcode_30 h31) ⟨hx, hb, hml, hown, hts⟩ (cwV 1 hts (gV q1428 q1430 q23 q50 q1431) rfl rfl rfl (by decide +kernel) ⟨Nat.le_of_ble_eq_true rfl, Nat.le_of_ble_eq_true rfl⟩) (va_recv hK hP (ci := 8) (q0 := 0) rfl rfl) hE hP hD hS hA rfl hl.1 rfl (lv_room (Nat.le_of_ble_eq_true rfl)) dX4_readFrom_83 ⟨Nat.le_of_ble_eq_true rfl, Nat.le_of_ble_eq_true rfl⟩ (fun H locs hP hD hS => ?_)
              refine lv_goto (tgt := 98) hx hb dX4_readFrom_86 (by decide) ?_
              cases hf
              exact end_i hAe hQm hx hb hr hlocks rfl hP hD hS dX4_readFrom_98
      · have hf := br_pos c15 hf
        refine lv_aload_n hx hb dX4_readFrom_28 rfl (lv_at hl 0 rfl) ?_
        refine lv_iconst (v := 1) hx hb dX4_readFrom_29 (by decide) ?_
        obtain ⟨⟨r32, mcode_33⟩, h34, hf⟩ := bnd hf
        refine call_vi (rest := []) (m_M_fails l ca ad lq 0 mday mown mquot mprom mfiles mowner mlinks mblocks mvals msnaps mranks mkept mshot mwas mholds mheld mends mopen mentr mkinds misop mfilesT mentrT mpromT mlinksT mblocksT mvalsT R _ 1 r32 mcode_33 h34) ⟨hx, hb, hml, hown, hts⟩ (cwV 1 hts (gV q1428 q1430 q23 q50 q1431) rfl rfl rfl (by decide +kernel) ⟨Nat.le_of_ble_eq_true rfl, Nat.le_of_ble_eq_true rfl⟩) (va_recv hK hP (ci := 8) (q0 := 0) rfl rfl) hE hP hD hS hA rfl hl.1 rfl (lv_room (Nat.le_of_ble_eq_true rfl)) dX4_readFrom_30 ⟨Nat.le_of_ble_eq_true rfl, Nat.le_of_ble_eq_true rfl⟩ (fun H locs hP hD hS => ?_)
        cases hf
        exact end_i hAe hQm hx hb hr hlocks rfl hP hD hS dX4_readFrom_33
def f_M_nextDrop_L4 : Nat → Int32 → Int32 → Int32 → (Nat → Int32) → (Nat → Int32) → Option (Int32)
  | 0, _, _, _, _, _ => none
  | fuel + 1, v1, v2, msnaps, mranks, mkept =>
    if msnaps ≤ v2 then
      some v1
    else
      if v2 < 0 ∨ 30 ≤ v2.toNatClampNeg then none else
        if (mkept v2.toNatClampNeg) = 0 then
        f_M_nextDrop_L4 fuel v1 (v2 + 1) msnaps mranks mkept
      else
        if v1 = (-1) then
          f_M_nextDrop_L4 fuel v2 (v2 + 1) msnaps mranks mkept
        else
          if v2 < 0 ∨ 30 ≤ v2.toNatClampNeg then none else
            if v1 < 0 ∨ 30 ≤ v1.toNatClampNeg then none else
            if (mranks v1.toNatClampNeg) ≤ (mranks v2.toNatClampNeg) then
            f_M_nextDrop_L4 fuel v1 (v2 + 1) msnaps mranks mkept
          else
            f_M_nextDrop_L4 fuel v2 (v2 + 1) msnaps mranks mkept
def f_M_nextDrop (msnaps : Int32) (mranks : Nat → Int32) (mkept : Nat → Int32) : Option (Int32) :=
  (f_M_nextDrop_L4 FU (-1) 0 msnaps mranks mkept).bind fun x16 =>
  some x16
set_option maxHeartbeats 4000000 in
set_option maxRecDepth 100000 in
theorem m_M_nextDrop (l : Launch) {D : va_G} {sl : List (String × Nat × String)} (ca : Nat → ClassId) (ad : Nat → Nat) (lq : Nat) (mcode : Int32) (mday : Int32) (mown : Int32) (mquot : Nat → Int32) (mprom : Nat → Int32) (mfiles : Int32) (mowner : Nat → Int32) (mlinks : Nat → Int32) (mblocks : Nat → Int32) (mvals : Nat → Int32) (msnaps : Int32) (mranks : Nat → Int32) (mkept : Nat → Int32) (mshot : Nat → Int32) (mwas : Nat → Int32) (mholds : Int32) (mheld : Nat → Int32) (mends : Nat → Int32) (mopen : Nat → Int32) (mentr : Int32) (mkinds : Nat → Int32) (misop : Int32) (mfilesT : Int32) (mentrT : Int32) (mpromT : Nat → Int32) (mlinksT : Nat → Int32) (mblocksT : Nat → Int32) (mvalsT : Nat → Int32) (R : va_W) (sz : Nat) (ro : Int32) (hf : f_M_nextDrop msnaps mranks mkept = some ro) : Met l yX4_nextDrop (wm yX4_nextDrop cX4_nextDrop 3 (some .int)) ({ frames := 0, cells := 0, slots := 0, locals := 0 } : Room) (PRE [.ref (ad 0)] D ca sl (WM ca ad lq mcode mday mown mquot mprom mfiles mowner mlinks mblocks mvals msnaps mranks mkept mshot mwas mholds mheld mends mopen mentr mkinds misop mfilesT mentrT mpromT mlinksT mblocksT mvalsT ++ R) sz) (QI ro D (WM ca ad lq mcode mday mown mquot mprom mfiles mowner mlinks mblocks mvals msnaps mranks mkept mshot mwas mholds mheld mends mopen mentr mkinds misop mfilesT mentrT mpromT mlinksT mblocksT mvalsT ++ R) (WM ca ad lq mcode mday mown mquot mprom mfiles mowner mlinks mblocks mvals msnaps mranks mkept mshot mwas mholds mheld mends mopen mentr mkinds misop mfilesT mentrT mpromT mlinksT mblocksT mvalsT ++ R) sz) 0 0 (va_A (WM ca ad lq mcode mday mown mquot mprom mfiles mowner mlinks mblocks mvals msnaps mranks mkept mshot mwas mholds mheld mends mopen mentr mkinds misop mfilesT mentrT mpromT mlinksT mblocksT mvalsT ++ R) sz) := by
  refine Met.ofW (cc := cX4_nextDrop) (maxL := 3) (ret := (some .int)) (by decide) rfl ?_
  intro p e s m args below meth c s₁ B hml hv
  obtain ⟨rfl, rfl, hP, hE, hD0⟩ := hv
  have hx := B.exec
  have hb := B.bytes
  have hr := B.returns
  have hts := wm_ww (atoms_spec (ws := wm yX4_nextDrop cX4_nextDrop 3 (some .int)) B.pre)
  have hown : s.vm.findClass RX4 = some m.cls := findClass_of_methodNamed B.named
  have hlocks := B.notSynchronized
  have hK := hE.1
  have hD := hD0.self (sz := s.heap.size)
  generalize hAe : va_A (WM ca ad lq mcode mday mown mquot mprom mfiles mowner mlinks mblocks mvals msnaps mranks mkept mshot mwas mholds mheld mends mopen mentr mkinds misop mfilesT mentrT mpromT mlinksT mblocksT mvalsT ++ R) s.heap.size = A at hD ⊢
  have hA : ∀ q : Nat, s.heap.size ≤ q → A q := fun q h => by rw [← hAe]; exact Or.inr h
  have hS : va_S A s.heap s.heap [] := va_S.rf
  have hl := lv_entry ([.ref (ad 0)]) (n := 3) (Nat.le_of_ble_eq_true rfl)
  rw [lg_entry_eq]
  generalize (lg_sl ([.ref (ad 0)]) ++ List.replicate (3 - (lg_sl ([.ref (ad 0)])).length) Slot.unset).toArray = ls at hl ⊢
  have hl : lv_has ls 3 [(0, .ref (ad 0))] := hl
  change W p l e ({ frames := 0, cells := 0, slots := 0, locals := 0 } : Room) s m _ below meth c s.heap [] 0 0 _ _
  generalize hQm : MQ below (QI ro D (WM ca ad lq mcode mday mown mquot mprom mfiles mowner mlinks mblocks mvals msnaps mranks mkept mshot mwas mholds mheld mends mopen mentr mkinds misop mfilesT mentrT mpromT mlinksT mblocksT mvalsT ++ R) (WM ca ad lq mcode mday mown mquot mprom mfiles mowner mlinks mblocks mvals msnaps mranks mkept mshot mwas mholds mheld mends mopen mentr mkinds misop mfilesT mentrT mpromT mlinksT mblocksT mvalsT ++ R) s.heap.size) _ s 0 0 A = Qm
  have hP : va_P D vwCl (WM ca ad lq mcode mday mown mquot mprom mfiles mowner mlinks mblocks mvals msnaps mranks mkept mshot mwas mholds mheld mends mopen mentr mkinds misop mfilesT mentrT mpromT mlinksT mblocksT mvalsT ++ R) s.heap := hP
  generalize hae : ([.ref (ad 0)] : List Value).toArray = args at hts hQm ⊢
  have L4 : ∀ (n : Nat) (v1 : Int32) (v2 : Int32) (y1 : Int32), f_M_nextDrop_L4 n v1 v2 msnaps mranks mkept = some y1 → ∀ (H : Heap) (locs : List Loc) (ls : Array Slot), va_P D vwCl (WM ca ad lq mcode mday mown mquot mprom mfiles mowner mlinks mblocks mvals msnaps mranks mkept mshot mwas mholds mheld mends mopen mentr mkinds misop mfilesT mentrT mpromT mlinksT mblocksT mvalsT ++ R) H → va_D A (WM ca ad lq mcode mday mown mquot mprom mfiles mowner mlinks mblocks mvals msnaps mranks mkept mshot mwas mholds mheld mends mopen mentr mkinds misop mfilesT mentrT mpromT mlinksT mblocksT mvalsT ++ R) → va_S A s.heap H locs → lv_has ls 3 [(0, .ref (ad 0)), (1, .int v1), (2, .int v2)] → (∀ (H : Heap) (locs : List Loc) (ls : Array Slot), va_P D vwCl (WM ca ad lq mcode mday mown mquot mprom mfiles mowner mlinks mblocks mvals msnaps mranks mkept mshot mwas mholds mheld mends mopen mentr mkinds misop mfilesT mentrT mpromT mlinksT mblocksT mvalsT ++ R) H → va_D A (WM ca ad lq mcode mday mown mquot mprom mfiles mowner mlinks mblocks mvals msnaps mranks mkept mshot mwas mholds mheld mends mopen mentr mkinds misop mfilesT mentrT mpromT mlinksT mblocksT mvalsT ++ R) → va_S A s.heap H locs → lv_has ls 3 [(1, .int y1)] → W p l e ({ frames := 0, cells := 0, slots := 0, locals := 0 } : Room) s m args below meth c H locs 0 0 Qm (F0 m 53 ls [])) → W p l e ({ frames := 0, cells := 0, slots := 0, locals := 0 } : Room) s m args below meth c H locs 0 0 Qm (F0 m 4 ls []) := by
    intro n
    induction n with
    | zero => intro v1 v2 y1 hf; cases hf
    | succ n ih =>
      intro v1 v2 y1 hf H locs ls hP hD hS hl kk
      unfold f_M_nextDrop_L4 at hf
      refine lv_iload_n hx hb dX4_nextDrop_4 rfl (lv_at hl 2 rfl) ?_
      refine lv_aload_n hx hb dX4_nextDrop_5 rfl (lv_at hl 0 rfl) ?_
      refine va_get (D := D) (ci := 8) (v := .int msnaps) (C := RX4) (T := TX4) (N := 29) hx hb hts inX4 hown hK hP 0 rfl rfl 10 (by decide) (hts _ q1339) (fun _ h9 => h9) rfl dX4_nextDrop_6 ?_
      refine lv_icmp_ge (tgt := 53) hx hb dX4_nextDrop_9 (by decide) (fun c8 => ?_) (fun c8 => ?_)
      · have hf := br_pos c8 hf
        cases hf
        exact kk _ _ _ hP hD hS (lv_sub hl [1] rfl)
      · have hf := br_neg c8 hf
        refine lv_aload_n hx hb dX4_nextDrop_12 rfl (lv_at hl 0 rfl) ?_
        refine va_get (D := D) (ci := 8) (v := .ref (ad 8)) (C := RX4) (T := TX4) (N := 29) hx hb hts inX4 hown hK hP 0 rfl rfl 12 (by decide) (hts _ q1341) (fun _ h9 => h9) rfl dX4_nextDrop_13 ?_
        refine lv_iload_n hx hb dX4_nextDrop_16 rfl (lv_at hl 2 rfl) ?_
        obtain ⟨k9, hf⟩ := ck_not hf
        refine va_zald (D := D) hx hb hK hP 8 1 rfl rfl k9 dX4_nextDrop_17 ?_
        refine lv_if_eq (tgt := 45) hx hb dX4_nextDrop_18 (by decide) (fun c10 => ?_) (fun c10 => ?_)
        · have hf := br_pos c10 hf
          refine lv_iload_n hx hb dX4_nextDrop_45 rfl (lv_at hl 1 rfl) ?_
          refine lv_istore_n (lv' := [(1, .int v1), (0, .ref (ad 0)), (2, .int v2)]) hx hb dX4_nextDrop_46 rfl hl (by decide) rfl (fun ls hl => ?_)
          refine lv_iinc (v := (v2 + 1)) (lv' := [(2, .int (v2 + 1)), (1, .int v1), (0, .ref (ad 0))]) hx hb dX4_nextDrop_47 hl (k := 2) rfl rfl (by decide) rfl (fun ls hl => ?_)
          refine lv_goto (tgt := 4) hx hb dX4_nextDrop_50 (by decide) ?_
          exact ih v1 (v2 + 1) _ hf _ _ _ hP hD hS (lv_sub hl [2, 1, 0] rfl) kk
        · have hf := br_neg c10 hf
          refine lv_iload_n hx hb dX4_nextDrop_21 rfl (lv_at hl 1 rfl) ?_
          refine lv_iconst (v := (-1)) hx hb dX4_nextDrop_22 (by decide) ?_
          refine lv_icmp_eq (tgt := 41) hx hb dX4_nextDrop_23 (by decide) (fun c11 => ?_) (fun c11 => ?_)
          · have hf := br_pos c11 hf
            refine lv_iload_n hx hb dX4_nextDrop_41 rfl (lv_at hl 2 rfl) ?_
            refine lv_goto (tgt := 46) hx hb dX4_nextDrop_42 (by decide) ?_
            refine lv_istore_n (lv' := [(1, .int v2), (0, .ref (ad 0)), (2, .int v2)]) hx hb dX4_nextDrop_46 rfl hl (by decide) rfl (fun ls hl => ?_)
            refine lv_iinc (v := (v2 + 1)) (lv' := [(2, .int (v2 + 1)), (1, .int v2), (0, .ref (ad 0))]) hx hb dX4_nextDrop_47 hl (k := 2) rfl rfl (by decide) rfl (fun ls hl => ?_)
            refine lv_goto (tgt := 4) hx hb dX4_nextDrop_50 (by decide) ?_
            exact ih v2 (v2 + 1) _ hf _ _ _ hP hD hS (lv_sub hl [2, 1, 0] rfl) kk
          · have hf := br_neg c11 hf
            refine lv_aload_n hx hb dX4_nextDrop_26 rfl (lv_at hl 0 rfl) ?_
            refine va_get (D := D) (ci := 8) (v := .ref (ad 7)) (C := RX4) (T := TX4) (N := 29) hx hb hts inX4 hown hK hP 0 rfl rfl 11 (by decide) (hts _ q1340) (fun _ h9 => h9) rfl dX4_nextDrop_27 ?_
            refine lv_iload_n hx hb dX4_nextDrop_30 rfl (lv_at hl 2 rfl) ?_
            obtain ⟨k12, hf⟩ := ck_not hf
            refine va_iald (D := D) hx hb hK hP 7 0 rfl rfl k12 dX4_nextDrop_31 ?_
            refine lv_aload_n hx hb dX4_nextDrop_32 rfl (lv_at hl 0 rfl) ?_
            refine va_get (D := D) (ci := 8) (v := .ref (ad 7)) (C := RX4) (T := TX4) (N := 29) hx hb hts inX4 hown hK hP 0 rfl rfl 11 (by decide) (hts _ q1340) (fun _ h9 => h9) rfl dX4_nextDrop_33 ?_
            refine lv_iload_n hx hb dX4_nextDrop_36 rfl (lv_at hl 1 rfl) ?_
            obtain ⟨k13, hf⟩ := ck_not hf
            refine va_iald (D := D) hx hb hK hP 7 0 rfl rfl k13 dX4_nextDrop_37 ?_
            refine lv_icmp_ge (tgt := 45) hx hb dX4_nextDrop_38 (by decide) (fun c14 => ?_) (fun c14 => ?_)
            · have hf := br_pos c14 hf
              refine lv_iload_n hx hb dX4_nextDrop_45 rfl (lv_at hl 1 rfl) ?_
              refine lv_istore_n (lv' := [(1, .int v1), (0, .ref (ad 0)), (2, .int v2)]) hx hb dX4_nextDrop_46 rfl hl (by decide) rfl (fun ls hl => ?_)
              refine lv_iinc (v := (v2 + 1)) (lv' := [(2, .int (v2 + 1)), (1, .int v1), (0, .ref (ad 0))]) hx hb dX4_nextDrop_47 hl (k := 2) rfl rfl (by decide) rfl (fun ls hl => ?_)
              refine lv_goto (tgt := 4) hx hb dX4_nextDrop_50 (by decide) ?_
              exact ih v1 (v2 + 1) _ hf _ _ _ hP hD hS (lv_sub hl [2, 1, 0] rfl) kk
            · have hf := br_neg c14 hf
              refine lv_iload_n hx hb dX4_nextDrop_41 rfl (lv_at hl 2 rfl) ?_
              refine lv_goto (tgt := 46) hx hb dX4_nextDrop_42 (by decide) ?_
              refine lv_istore_n (lv' := [(1, .int v2), (0, .ref (ad 0)), (2, .int v2)]) hx hb dX4_nextDrop_46 rfl hl (by decide) rfl (fun ls hl => ?_)
              refine lv_iinc (v := (v2 + 1)) (lv' := [(2, .int (v2 + 1)), (1, .int v2), (0, .ref (ad 0))]) hx hb dX4_nextDrop_47 hl (k := 2) rfl rfl (by decide) rfl (fun ls hl => ?_)
              refine lv_goto (tgt := 4) hx hb dX4_nextDrop_50 (by decide) ?_
              exact ih v2 (v2 + 1) _ hf _ _ _ hP hD hS (lv_sub hl [2, 1, 0] rfl) kk
  refine lv_iconst (v := (-1)) hx hb dX4_nextDrop_0 (by decide) ?_
  refine lv_istore_n (lv' := [(1, .int (-1)), (0, .ref (ad 0))]) hx hb dX4_nextDrop_1 rfl hl (by decide) rfl (fun ls hl => ?_)
  refine lv_iconst (v := 0) hx hb dX4_nextDrop_2 (by decide) ?_
  refine lv_istore_n (lv' := [(2, .int 0), (1, .int (-1)), (0, .ref (ad 0))]) hx hb dX4_nextDrop_3 rfl hl (by decide) rfl (fun ls hl => ?_)
  obtain ⟨x16, h15, hf⟩ := bnd hf
  refine L4 FU (-1) 0 x16 h15 _ _ _ hP hD hS (lv_sub hl [2, 1, 0] rfl) (fun H locs ls hP hD hS hl => ?_)
  refine lv_iload_n hx hb dX4_nextDrop_53 rfl (lv_at hl 0 rfl) ?_
  cases hf
  exact end_i hAe hQm hx hb hr hlocks rfl hP hD hS dX4_nextDrop_54
def f_M_thin_L36 : Nat → Int32 → Int32 → Int32 → (Nat → Int32) → (Nat → Int32) → Option (Int32 × (Nat → Int32))
  | 0, _, _, _, _, _ => none
  | fuel + 1, v1, v2, msnaps, mranks, mkept =>
    (f_M_keptNow msnaps mkept).bind fun r11 =>
    if r11 ≤ v1 then
      some (v2, mkept)
    else
      (f_M_nextDrop msnaps mranks mkept).bind fun r14 =>
      if r14 < 0 ∨ 30 ≤ r14.toNatClampNeg then none else
        f_M_thin_L36 fuel v1 (v2 + 1) msnaps mranks (upd mkept r14.toNatClampNeg (vp_nar .boolean 0))
def f_M_thin (p1 : Int32) (msnaps : Int32) (mranks : Nat → Int32) (mkept : Nat → Int32) (misop : Int32) : Option (Int32 × Int32 × (Nat → Int32)) :=
  (f_M_in p1 0 8).bind fun r1 =>
  if r1 = 0 then
    (f_M_fails 1).bind fun (r23, mcode_24) =>
    some (r23, mcode_24, mkept)
  else
    if misop = 0 then
      (f_M_thin_L36 FU p1 0 msnaps mranks mkept).bind fun (x18, mkept_19) =>
      some (x18, 0, mkept_19)
    else
      (f_M_fails 2).bind fun (r20, mcode_21) =>
      some (r20, mcode_21, mkept)
set_option maxHeartbeats 4000000 in
set_option maxRecDepth 100000 in
theorem m_M_thin (l : Launch) {D : va_G} {sl : List (String × Nat × String)} (ca : Nat → ClassId) (ad : Nat → Nat) (lq : Nat) (mcode : Int32) (mday : Int32) (mown : Int32) (mquot : Nat → Int32) (mprom : Nat → Int32) (mfiles : Int32) (mowner : Nat → Int32) (mlinks : Nat → Int32) (mblocks : Nat → Int32) (mvals : Nat → Int32) (msnaps : Int32) (mranks : Nat → Int32) (mkept : Nat → Int32) (mshot : Nat → Int32) (mwas : Nat → Int32) (mholds : Int32) (mheld : Nat → Int32) (mends : Nat → Int32) (mopen : Nat → Int32) (mentr : Int32) (mkinds : Nat → Int32) (misop : Int32) (mfilesT : Int32) (mentrT : Int32) (mpromT : Nat → Int32) (mlinksT : Nat → Int32) (mblocksT : Nat → Int32) (mvalsT : Nat → Int32) (R : va_W) (sz : Nat) (p1 : Int32) (ro : Int32) (omcode : Int32) (omkept : Nat → Int32) (hf : f_M_thin p1 msnaps mranks mkept misop = some (ro, omcode, omkept)) : Met l yX4_thin (wm yX4_thin cX4_thin 3 (some .int)) ({ frames := 1, cells := 0, slots := 0, locals := 22 } : Room) (PRE [.ref (ad 0), .int p1] D ca sl (WM ca ad lq mcode mday mown mquot mprom mfiles mowner mlinks mblocks mvals msnaps mranks mkept mshot mwas mholds mheld mends mopen mentr mkinds misop mfilesT mentrT mpromT mlinksT mblocksT mvalsT ++ R) sz) (QI ro D (WM ca ad lq omcode mday mown mquot mprom mfiles mowner mlinks mblocks mvals msnaps mranks omkept mshot mwas mholds mheld mends mopen mentr mkinds misop mfilesT mentrT mpromT mlinksT mblocksT mvalsT ++ R) (WM ca ad lq mcode mday mown mquot mprom mfiles mowner mlinks mblocks mvals msnaps mranks mkept mshot mwas mholds mheld mends mopen mentr mkinds misop mfilesT mentrT mpromT mlinksT mblocksT mvalsT ++ R) sz) 0 0 (va_A (WM ca ad lq mcode mday mown mquot mprom mfiles mowner mlinks mblocks mvals msnaps mranks mkept mshot mwas mholds mheld mends mopen mentr mkinds misop mfilesT mentrT mpromT mlinksT mblocksT mvalsT ++ R) sz) := by
  refine Met.ofW (cc := cX4_thin) (maxL := 3) (ret := (some .int)) (by decide) rfl ?_
  intro p e s m args below meth c s₁ B hml hv
  obtain ⟨rfl, rfl, hP, hE, hD0⟩ := hv
  have hx := B.exec
  have hb := B.bytes
  have hr := B.returns
  have hts := wm_ww (atoms_spec (ws := wm yX4_thin cX4_thin 3 (some .int)) B.pre)
  have hown : s.vm.findClass RX4 = some m.cls := findClass_of_methodNamed B.named
  have hlocks := B.notSynchronized
  have hK := hE.1
  have hD := hD0.self (sz := s.heap.size)
  generalize hAe : va_A (WM ca ad lq mcode mday mown mquot mprom mfiles mowner mlinks mblocks mvals msnaps mranks mkept mshot mwas mholds mheld mends mopen mentr mkinds misop mfilesT mentrT mpromT mlinksT mblocksT mvalsT ++ R) s.heap.size = A at hD ⊢
  have hA : ∀ q : Nat, s.heap.size ≤ q → A q := fun q h => by rw [← hAe]; exact Or.inr h
  have hS : va_S A s.heap s.heap [] := va_S.rf
  have hl := lv_entry ([.ref (ad 0), .int p1]) (n := 3) (Nat.le_of_ble_eq_true rfl)
  rw [lg_entry_eq]
  generalize (lg_sl ([.ref (ad 0), .int p1]) ++ List.replicate (3 - (lg_sl ([.ref (ad 0), .int p1])).length) Slot.unset).toArray = ls at hl ⊢
  have hl : lv_has ls 3 [(0, .ref (ad 0)), (1, .int p1)] := hl
  change W p l e ({ frames := 1, cells := 0, slots := 0, locals := 22 } : Room) s m _ below meth c s.heap [] 0 0 _ _
  generalize hQm : MQ below (QI ro D (WM ca ad lq omcode mday mown mquot mprom mfiles mowner mlinks mblocks mvals msnaps mranks omkept mshot mwas mholds mheld mends mopen mentr mkinds misop mfilesT mentrT mpromT mlinksT mblocksT mvalsT ++ R) (WM ca ad lq mcode mday mown mquot mprom mfiles mowner mlinks mblocks mvals msnaps mranks mkept mshot mwas mholds mheld mends mopen mentr mkinds misop mfilesT mentrT mpromT mlinksT mblocksT mvalsT ++ R) s.heap.size) _ s 0 0 A = Qm
  have hP : va_P D vwCl (WM ca ad lq mcode mday mown mquot mprom mfiles mowner mlinks mblocks mvals msnaps mranks mkept mshot mwas mholds mheld mends mopen mentr mkinds misop mfilesT mentrT mpromT mlinksT mblocksT mvalsT ++ R) s.heap := hP
  generalize hae : ([.ref (ad 0), .int p1] : List Value).toArray = args at hts hQm ⊢
  have L36 : ∀ (n : Nat) (v1 : Int32) (v2 : Int32) (mcode : Int32) (mkept : Nat → Int32) (y2 : Int32) (zmkept : Nat → Int32), f_M_thin_L36 n v1 v2 msnaps mranks mkept = some (y2, zmkept) → ∀ (H : Heap) (locs : List Loc) (ls : Array Slot), va_P D vwCl (WM ca ad lq mcode mday mown mquot mprom mfiles mowner mlinks mblocks mvals msnaps mranks mkept mshot mwas mholds mheld mends mopen mentr mkinds misop mfilesT mentrT mpromT mlinksT mblocksT mvalsT ++ R) H → va_D A (WM ca ad lq mcode mday mown mquot mprom mfiles mowner mlinks mblocks mvals msnaps mranks mkept mshot mwas mholds mheld mends mopen mentr mkinds misop mfilesT mentrT mpromT mlinksT mblocksT mvalsT ++ R) → va_S A s.heap H locs → lv_has ls 3 [(0, .ref (ad 0)), (1, .int v1), (2, .int v2)] → (∀ (H : Heap) (locs : List Loc) (ls : Array Slot), va_P D vwCl (WM ca ad lq mcode mday mown mquot mprom mfiles mowner mlinks mblocks mvals msnaps mranks zmkept mshot mwas mholds mheld mends mopen mentr mkinds misop mfilesT mentrT mpromT mlinksT mblocksT mvalsT ++ R) H → va_D A (WM ca ad lq mcode mday mown mquot mprom mfiles mowner mlinks mblocks mvals msnaps mranks zmkept mshot mwas mholds mheld mends mopen mentr mkinds misop mfilesT mentrT mpromT mlinksT mblocksT mvalsT ++ R) → va_S A s.heap H locs → lv_has ls 3 [(2, .int y2)] → W p l e ({ frames := 1, cells := 0, slots := 0, locals := 22 } : Room) s m args below meth c H locs 0 0 Qm (F0 m 60 ls [])) → W p l e ({ frames := 1, cells := 0, slots := 0, locals := 22 } : Room) s m args below meth c H locs 0 0 Qm (F0 m 36 ls []) := by
    intro n
    induction n with
    | zero => intro v1 v2 mcode mkept y2 zmkept hf; cases hf
    | succ n ih =>
      intro v1 v2 mcode mkept y2 zmkept hf H locs ls hP hD hS hl kk
      unfold f_M_thin_L36 at hf
      refine lv_aload_n hx hb dX4_thin_36 rfl (lv_at hl 0 rfl) ?_
      obtain ⟨r11, h12, hf⟩ := bnd hf
      refine call_vi (rest := []) (m_M_keptNow l ca ad lq mcode mday mown mquot mprom mfiles mowner mlinks mblocks mvals msnaps mranks mkept mshot mwas mholds mheld mends mopen mentr mkinds misop mfilesT mentrT mpromT mlinksT mblocksT mvalsT R _ r11 h12) ⟨hx, hb, hml, hown, hts⟩ (cwV 0 hts (gV q1560 q1562 q36 q50 q1563) rfl rfl rfl (by decide +kernel) ⟨Nat.le_of_ble_eq_true rfl, Nat.le_of_ble_eq_true rfl⟩) (va_recv hK hP (ci := 8) (q0 := 0) rfl rfl) hE hP hD hS hA rfl hl.1 rfl (lv_room (Nat.le_of_ble_eq_true rfl)) dX4_thin_37 ⟨Nat.le_of_ble_eq_true rfl, Nat.le_of_ble_eq_true rfl⟩ (fun H locs hP hD hS => ?_)
      refine lv_iload_n hx hb dX4_thin_40 rfl (lv_at hl 1 rfl) ?_
      refine lv_icmp_le (tgt := 60) hx hb dX4_thin_41 (by decide) (fun c13 => ?_) (fun c13 => ?_)
      · have hf := br_pos c13 hf
        cases hf
        exact kk _ _ _ hP hD hS (lv_sub hl [2] rfl)
      · have hf := br_neg c13 hf
        refine lv_aload_n hx hb dX4_thin_44 rfl (lv_at hl 0 rfl) ?_
        refine va_get (D := D) (ci := 8) (v := .ref (ad 8)) (C := RX4) (T := TX4) (N := 29) hx hb hts inX4 hown hK hP 0 rfl rfl 12 (by decide) (hts _ q1341) (fun _ h9 => h9) rfl dX4_thin_45 ?_
        refine lv_aload_n hx hb dX4_thin_48 rfl (lv_at hl 0 rfl) ?_
        obtain ⟨r14, h15, hf⟩ := bnd hf
        refine call_vi (rest := [.ref (ad 8)]) (m_M_nextDrop l ca ad lq mcode mday mown mquot mprom mfiles mowner mlinks mblocks mvals msnaps mranks mkept mshot mwas mholds mheld mends mopen mentr mkinds misop mfilesT mentrT mpromT mlinksT mblocksT mvalsT R _ r14 h15) ⟨hx, hb, hml, hown, hts⟩ (cwV 0 hts (gV q1580 q1582 q38 q50 q1583) rfl rfl rfl (by decide +kernel) ⟨Nat.le_of_ble_eq_true rfl, Nat.le_of_ble_eq_true rfl⟩) (va_recv hK hP (ci := 8) (q0 := 0) rfl rfl) hE hP hD hS hA rfl hl.1 rfl (lv_room (Nat.le_of_ble_eq_true rfl)) dX4_thin_49 ⟨Nat.le_of_ble_eq_true rfl, Nat.le_of_ble_eq_true rfl⟩ (fun H locs hP hD hS => ?_)
        refine lv_iconst (v := 0) hx hb dX4_thin_52 (by decide) ?_
        obtain ⟨k16, hf⟩ := ck_not hf
        refine va_zast (D := D) hx hb hK hP hD hS 8 1 rfl rfl k16 dX4_thin_53 (fun H locs hP hD hS => ?_)
        have hP : va_P D vwCl (WM ca ad lq mcode mday mown mquot mprom mfiles mowner mlinks mblocks mvals msnaps mranks (upd mkept r14.toNatClampNeg (vp_nar .boolean 0)) mshot mwas mholds mheld mends mopen mentr mkinds misop mfilesT mentrT mpromT mlinksT mblocksT mvalsT ++ R) H := hP
        have hD : va_D A (WM ca ad lq mcode mday mown mquot mprom mfiles mowner mlinks mblocks mvals msnaps mranks (upd mkept r14.toNatClampNeg (vp_nar .boolean 0)) mshot mwas mholds mheld mends mopen mentr mkinds misop mfilesT mentrT mpromT mlinksT mblocksT mvalsT ++ R) := hD
        refine lv_iinc (v := (v2 + 1)) (lv' := [(2, .int (v2 + 1)), (0, .ref (ad 0)), (1, .int v1)]) hx hb dX4_thin_54 hl (k := 2) rfl rfl (by decide) rfl (fun ls hl => ?_)
        refine lv_goto (tgt := 36) hx hb dX4_thin_57 (by decide) ?_
        exact ih v1 (v2 + 1) mcode (upd mkept r14.toNatClampNeg (vp_nar .boolean 0)) _ _ hf _ _ _ hP hD hS (lv_sub hl [1, 2, 0] rfl) kk
  refine lv_aload_n hx hb dX4_thin_0 rfl (lv_at hl 0 rfl) ?_
  refine lv_iconst (v := 0) hx hb dX4_thin_1 (by decide) ?_
  refine va_put (D := D) (ci := 8) (v := .int 0) (ty := .int) (C := RX4) (T := TX4) (N := 29) hx hb hts inX4 tyX4 tyX4_ok nmX4 hown hK hP hD hS 0 rfl rfl 0 (by decide) (hts _ q1329) (fun _ h9 => h9) rfl (by decide +kernel) rfl rfl (Nat.le_of_ble_eq_true rfl) dX4_thin_2 (fun H locs hP hD hS => ?_)
  have hP : va_P D vwCl (WM ca ad lq 0 mday mown mquot mprom mfiles mowner mlinks mblocks mvals msnaps mranks mkept mshot mwas mholds mheld mends mopen mentr mkinds misop mfilesT mentrT mpromT mlinksT mblocksT mvalsT ++ R) H := hP
  have hD : va_D A (WM ca ad lq 0 mday mown mquot mprom mfiles mowner mlinks mblocks mvals msnaps mranks mkept mshot mwas mholds mheld mends mopen mentr mkinds misop mfilesT mentrT mpromT mlinksT mblocksT mvalsT ++ R) := hD
  refine lv_iload_n hx hb dX4_thin_5 rfl (lv_at hl 1 rfl) ?_
  refine lv_iconst (v := 0) hx hb dX4_thin_6 (by decide) ?_
  refine lv_bipush (v := 8) hx hb dX4_thin_7 (by decide) ?_
  obtain ⟨r1, h2, hf⟩ := bnd hf
  refine call_si (rest := []) (m_M_in l ca ad lq 0 mday mown mquot mprom mfiles mowner mlinks mblocks mvals msnaps mranks mkept mshot mwas mholds mheld mends mopen mentr mkinds misop mfilesT mentrT mpromT mlinksT mblocksT mvalsT R _ p1 0 8 r1 h2) ⟨hx, hb, hml, hown, hts⟩ (va_cwS 3 hts (gS q1425 q1426 q50 q1427) rfl rfl rfl (by decide +kernel) ⟨Nat.le_of_ble_eq_true rfl, Nat.le_of_ble_eq_true rfl⟩) hE hP hD hS hA rfl hl.1 rfl (lv_room (Nat.le_of_ble_eq_true rfl)) dX4_thin_9 ⟨Nat.le_of_ble_eq_true rfl, Nat.le_of_ble_eq_true rfl⟩ (fun H locs hP hD hS => ?_)
  refine lv_if_ne (tgt := 21) hx hb dX4_thin_12 (by decide) (fun c3 => ?_) (fun c3 => ?_)
  · have hf := br_neg c3 hf
    refine lv_aload_n hx hb dX4_thin_21 rfl (lv_at hl 0 rfl) ?_
    refine va_get (D := D) (ci := 8) (v := .int misop) (C := RX4) (T := TX4) (N := 29) hx hb hts inX4 hown hK hP 0 rfl rfl 21 (by decide) (hts _ q1350) (fun _ h9 => h9) rfl dX4_thin_22 ?_
    refine lv_if_eq (tgt := 34) hx hb dX4_thin_25 (by decide) (fun c4 => ?_) (fun c4 => ?_)
    · have hf := br_pos c4 hf
      refine lv_iconst (v := 0) hx hb dX4_thin_34 (by decide) ?_
      refine lv_istore_n (lv' := [(2, .int 0), (0, .ref (ad 0)), (1, .int p1)]) hx hb dX4_thin_35 rfl hl (by decide) rfl (fun ls hl => ?_)
      obtain ⟨⟨x18, mkept_19⟩, h17, hf⟩ := bnd hf
      refine L36 FU p1 0 0 mkept x18 mkept_19 h17 _ _ _ hP hD hS (lv_sub hl [1, 2, 0] rfl) (fun H locs ls hP hD hS hl => ?_)
      refine lv_iload_n hx hb dX4_thin_60 rfl (lv_at hl 0 rfl) ?_
      cases hf
      exact end_i hAe hQm hx hb hr hlocks rfl hP hD hS dX4_thin_61
    · have hf := br_neg c4 hf
      refine lv_aload_n hx hb dX4_thin_28 rfl (lv_at hl 0 rfl) ?_
      refine lv_iconst (v := 2) hx hb dX4_thin_29 (by decide) ?_
      obtain ⟨⟨r20, mcode_21⟩, h22, hf⟩ := bnd hf
      refine call_vi (rest := []) (m_M_fails l ca ad lq 0 mday mown mquot mprom mfiles mowner mlinks mblocks mvals msnaps mranks mkept mshot mwas mholds mheld mends mopen mentr mkinds misop mfilesT mentrT mpromT mlinksT mblocksT mvalsT R _ 2 r20 mcode_21 h22) ⟨hx, hb, hml, hown, hts⟩ (cwV 1 hts (gV q1428 q1430 q23 q50 q1431) rfl rfl rfl (by decide +kernel) ⟨Nat.le_of_ble_eq_true rfl, Nat.le_of_ble_eq_true rfl⟩) (va_recv hK hP (ci := 8) (q0 := 0) rfl rfl) hE hP hD hS hA rfl hl.1 rfl (lv_room (Nat.le_of_ble_eq_true rfl)) dX4_thin_30 ⟨Nat.le_of_ble_eq_true rfl, Nat.le_of_ble_eq_true rfl⟩ (fun H locs hP hD hS => ?_)
      cases hf
      exact end_i hAe hQm hx hb hr hlocks rfl hP hD hS dX4_thin_33
  · have hf := br_pos c3 hf
    refine lv_aload_n hx hb dX4_thin_15 rfl (lv_at hl 0 rfl) ?_
    refine lv_iconst (v := 1) hx hb dX4_thin_16 (by decide) ?_
    obtain ⟨⟨r23, mcode_24⟩, h25, hf⟩ := bnd hf
    refine call_vi (rest := []) (m_M_fails l ca ad lq 0 mday mown mquot mprom mfiles mowner mlinks mblocks mvals msnaps mranks mkept mshot mwas mholds mheld mends mopen mentr mkinds misop mfilesT mentrT mpromT mlinksT mblocksT mvalsT R _ 1 r23 mcode_24 h25) ⟨hx, hb, hml, hown, hts⟩ (cwV 1 hts (gV q1428 q1430 q23 q50 q1431) rfl rfl rfl (by decide +kernel) ⟨Nat.le_of_ble_eq_true rfl, Nat.le_of_ble_eq_true rfl⟩) (va_recv hK hP (ci := 8) (q0 := 0) rfl rfl) hE hP hD hS hA rfl hl.1 rfl (lv_room (Nat.le_of_ble_eq_true rfl)) dX4_thin_17 ⟨Nat.le_of_ble_eq_true rfl, Nat.le_of_ble_eq_true rfl⟩ (fun H locs hP hD hS => ?_)
    cases hf
    exact end_i hAe hQm hx hb hr hlocks rfl hP hD hS dX4_thin_20
def f_M_nextToDrop (msnaps : Int32) (mranks : Nat → Int32) (mkept : Nat → Int32) : Option (Int32 × Int32) :=
  (f_M_nextDrop msnaps mranks mkept).bind fun r1 =>
  if r1 = (-1) then
    (f_M_fails 1).bind fun (r4, mcode_5) =>
    some (r4, mcode_5)
  else
    some (r1, 0)
set_option maxHeartbeats 4000000 in
set_option maxRecDepth 100000 in
theorem m_M_nextToDrop (l : Launch) {D : va_G} {sl : List (String × Nat × String)} (ca : Nat → ClassId) (ad : Nat → Nat) (lq : Nat) (mcode : Int32) (mday : Int32) (mown : Int32) (mquot : Nat → Int32) (mprom : Nat → Int32) (mfiles : Int32) (mowner : Nat → Int32) (mlinks : Nat → Int32) (mblocks : Nat → Int32) (mvals : Nat → Int32) (msnaps : Int32) (mranks : Nat → Int32) (mkept : Nat → Int32) (mshot : Nat → Int32) (mwas : Nat → Int32) (mholds : Int32) (mheld : Nat → Int32) (mends : Nat → Int32) (mopen : Nat → Int32) (mentr : Int32) (mkinds : Nat → Int32) (misop : Int32) (mfilesT : Int32) (mentrT : Int32) (mpromT : Nat → Int32) (mlinksT : Nat → Int32) (mblocksT : Nat → Int32) (mvalsT : Nat → Int32) (R : va_W) (sz : Nat) (ro : Int32) (omcode : Int32) (hf : f_M_nextToDrop msnaps mranks mkept = some (ro, omcode)) : Met l yX4_nextToDrop (wm yX4_nextToDrop cX4_nextToDrop 2 (some .int)) ({ frames := 1, cells := 0, slots := 0, locals := 22 } : Room) (PRE [.ref (ad 0)] D ca sl (WM ca ad lq mcode mday mown mquot mprom mfiles mowner mlinks mblocks mvals msnaps mranks mkept mshot mwas mholds mheld mends mopen mentr mkinds misop mfilesT mentrT mpromT mlinksT mblocksT mvalsT ++ R) sz) (QI ro D (WM ca ad lq omcode mday mown mquot mprom mfiles mowner mlinks mblocks mvals msnaps mranks mkept mshot mwas mholds mheld mends mopen mentr mkinds misop mfilesT mentrT mpromT mlinksT mblocksT mvalsT ++ R) (WM ca ad lq mcode mday mown mquot mprom mfiles mowner mlinks mblocks mvals msnaps mranks mkept mshot mwas mholds mheld mends mopen mentr mkinds misop mfilesT mentrT mpromT mlinksT mblocksT mvalsT ++ R) sz) 0 0 (va_A (WM ca ad lq mcode mday mown mquot mprom mfiles mowner mlinks mblocks mvals msnaps mranks mkept mshot mwas mholds mheld mends mopen mentr mkinds misop mfilesT mentrT mpromT mlinksT mblocksT mvalsT ++ R) sz) := by
  refine Met.ofW (cc := cX4_nextToDrop) (maxL := 2) (ret := (some .int)) (by decide) rfl ?_
  intro p e s m args below meth c s₁ B hml hv
  obtain ⟨rfl, rfl, hP, hE, hD0⟩ := hv
  have hx := B.exec
  have hb := B.bytes
  have hr := B.returns
  have hts := wm_ww (atoms_spec (ws := wm yX4_nextToDrop cX4_nextToDrop 2 (some .int)) B.pre)
  have hown : s.vm.findClass RX4 = some m.cls := findClass_of_methodNamed B.named
  have hlocks := B.notSynchronized
  have hK := hE.1
  have hD := hD0.self (sz := s.heap.size)
  generalize hAe : va_A (WM ca ad lq mcode mday mown mquot mprom mfiles mowner mlinks mblocks mvals msnaps mranks mkept mshot mwas mholds mheld mends mopen mentr mkinds misop mfilesT mentrT mpromT mlinksT mblocksT mvalsT ++ R) s.heap.size = A at hD ⊢
  have hA : ∀ q : Nat, s.heap.size ≤ q → A q := fun q h => by rw [← hAe]; exact Or.inr h
  have hS : va_S A s.heap s.heap [] := va_S.rf
  have hl := lv_entry ([.ref (ad 0)]) (n := 2) (Nat.le_of_ble_eq_true rfl)
  rw [lg_entry_eq]
  generalize (lg_sl ([.ref (ad 0)]) ++ List.replicate (2 - (lg_sl ([.ref (ad 0)])).length) Slot.unset).toArray = ls at hl ⊢
  have hl : lv_has ls 2 [(0, .ref (ad 0))] := hl
  change W p l e ({ frames := 1, cells := 0, slots := 0, locals := 22 } : Room) s m _ below meth c s.heap [] 0 0 _ _
  generalize hQm : MQ below (QI ro D (WM ca ad lq omcode mday mown mquot mprom mfiles mowner mlinks mblocks mvals msnaps mranks mkept mshot mwas mholds mheld mends mopen mentr mkinds misop mfilesT mentrT mpromT mlinksT mblocksT mvalsT ++ R) (WM ca ad lq mcode mday mown mquot mprom mfiles mowner mlinks mblocks mvals msnaps mranks mkept mshot mwas mholds mheld mends mopen mentr mkinds misop mfilesT mentrT mpromT mlinksT mblocksT mvalsT ++ R) s.heap.size) _ s 0 0 A = Qm
  have hP : va_P D vwCl (WM ca ad lq mcode mday mown mquot mprom mfiles mowner mlinks mblocks mvals msnaps mranks mkept mshot mwas mholds mheld mends mopen mentr mkinds misop mfilesT mentrT mpromT mlinksT mblocksT mvalsT ++ R) s.heap := hP
  generalize hae : ([.ref (ad 0)] : List Value).toArray = args at hts hQm ⊢
  refine lv_aload_n hx hb dX4_nextToDrop_0 rfl (lv_at hl 0 rfl) ?_
  refine lv_iconst (v := 0) hx hb dX4_nextToDrop_1 (by decide) ?_
  refine va_put (D := D) (ci := 8) (v := .int 0) (ty := .int) (C := RX4) (T := TX4) (N := 29) hx hb hts inX4 tyX4 tyX4_ok nmX4 hown hK hP hD hS 0 rfl rfl 0 (by decide) (hts _ q1329) (fun _ h9 => h9) rfl (by decide +kernel) rfl rfl (Nat.le_of_ble_eq_true rfl) dX4_nextToDrop_2 (fun H locs hP hD hS => ?_)
  have hP : va_P D vwCl (WM ca ad lq 0 mday mown mquot mprom mfiles mowner mlinks mblocks mvals msnaps mranks mkept mshot mwas mholds mheld mends mopen mentr mkinds misop mfilesT mentrT mpromT mlinksT mblocksT mvalsT ++ R) H := hP
  have hD : va_D A (WM ca ad lq 0 mday mown mquot mprom mfiles mowner mlinks mblocks mvals msnaps mranks mkept mshot mwas mholds mheld mends mopen mentr mkinds misop mfilesT mentrT mpromT mlinksT mblocksT mvalsT ++ R) := hD
  refine lv_aload_n hx hb dX4_nextToDrop_5 rfl (lv_at hl 0 rfl) ?_
  obtain ⟨r1, h2, hf⟩ := bnd hf
  refine call_vi (rest := []) (m_M_nextDrop l ca ad lq 0 mday mown mquot mprom mfiles mowner mlinks mblocks mvals msnaps mranks mkept mshot mwas mholds mheld mends mopen mentr mkinds misop mfilesT mentrT mpromT mlinksT mblocksT mvalsT R _ r1 h2) ⟨hx, hb, hml, hown, hts⟩ (cwV 0 hts (gV q1580 q1582 q38 q50 q1583) rfl rfl rfl (by decide +kernel) ⟨Nat.le_of_ble_eq_true rfl, Nat.le_of_ble_eq_true rfl⟩) (va_recv hK hP (ci := 8) (q0 := 0) rfl rfl) hE hP hD hS hA rfl hl.1 rfl (lv_room (Nat.le_of_ble_eq_true rfl)) dX4_nextToDrop_6 ⟨Nat.le_of_ble_eq_true rfl, Nat.le_of_ble_eq_true rfl⟩ (fun H locs hP hD hS => ?_)
  refine lv_istore_n (lv' := [(1, .int r1), (0, .ref (ad 0))]) hx hb dX4_nextToDrop_9 rfl hl (by decide) rfl (fun ls hl => ?_)
  refine lv_iload_n hx hb dX4_nextToDrop_10 rfl (lv_at hl 0 rfl) ?_
  refine lv_iconst (v := (-1)) hx hb dX4_nextToDrop_11 (by decide) ?_
  refine lv_icmp_ne (tgt := 23) hx hb dX4_nextToDrop_12 (by decide) (fun c3 => ?_) (fun c3 => ?_)
  · have hf := br_neg c3 hf
    refine lv_iload_n hx hb dX4_nextToDrop_23 rfl (lv_at hl 0 rfl) ?_
    cases hf
    exact end_i hAe hQm hx hb hr hlocks rfl hP hD hS dX4_nextToDrop_24
  · have hf := br_pos c3 hf
    refine lv_aload_n hx hb dX4_nextToDrop_15 rfl (lv_at hl 1 rfl) ?_
    refine lv_iconst (v := 1) hx hb dX4_nextToDrop_16 (by decide) ?_
    obtain ⟨⟨r4, mcode_5⟩, h6, hf⟩ := bnd hf
    refine call_vi (rest := []) (m_M_fails l ca ad lq 0 mday mown mquot mprom mfiles mowner mlinks mblocks mvals msnaps mranks mkept mshot mwas mholds mheld mends mopen mentr mkinds misop mfilesT mentrT mpromT mlinksT mblocksT mvalsT R _ 1 r4 mcode_5 h6) ⟨hx, hb, hml, hown, hts⟩ (cwV 1 hts (gV q1428 q1430 q23 q50 q1431) rfl rfl rfl (by decide +kernel) ⟨Nat.le_of_ble_eq_true rfl, Nat.le_of_ble_eq_true rfl⟩) (va_recv hK hP (ci := 8) (q0 := 0) rfl rfl) hE hP hD hS hA rfl hl.1 rfl (lv_room (Nat.le_of_ble_eq_true rfl)) dX4_nextToDrop_17 ⟨Nat.le_of_ble_eq_true rfl, Nat.le_of_ble_eq_true rfl⟩ (fun H locs hP hD hS => ?_)
    refine lv_goto (tgt := 24) hx hb dX4_nextToDrop_20 (by decide) ?_
    cases hf
    exact end_i hAe hQm hx hb hr hlocks rfl hP hD hS dX4_nextToDrop_24
def f_M_restore_L83 : Nat → Int32 → Int32 → Int32 → Int32 → (Nat → Int32) → (Nat → Int32) → (Nat → Int32) → Option (Int32 × (Nat → Int32) × (Nat → Int32))
  | 0, _, _, _, _, _, _, _ => none
  | fuel + 1, v1, v2, v3, v4, mblocks, mshot, mblocksT =>
    if 16 ≤ v4 then
      some (v3, mblocks, mblocksT)
    else
      if ((16 * v2) + v4) < 0 ∨ 640 ≤ ((16 * v2) + v4).toNatClampNeg then none else
        if v4 < 0 ∨ 640 ≤ v4.toNatClampNeg then none else
        if (((640 * v1) + (16 * v2)) + v4) < 0 ∨ 19200 ≤ (((640 * v1) + (16 * v2)) + v4).toNatClampNeg then none else
        if ((16 * v2) + v4) < 0 ∨ 640 ≤ ((16 * v2) + v4).toNatClampNeg then none else
        if ((16 * v2) + v4) < 0 ∨ 640 ≤ ((16 * v2) + v4).toNatClampNeg then none else
        if v4 < 0 ∨ 640 ≤ v4.toNatClampNeg then none else
        if ((upd mblocks ((16 * v2) + v4).toNatClampNeg (mshot (((640 * v1) + (16 * v2)) + v4).toNatClampNeg)) ((16 * v2) + v4).toNatClampNeg) = ((upd mblocksT v4.toNatClampNeg (mblocks ((16 * v2) + v4).toNatClampNeg)) v4.toNatClampNeg) then
        f_M_restore_L83 fuel v1 v2 (v3 + 0) (v4 + 1) (upd mblocks ((16 * v2) + v4).toNatClampNeg (mshot (((640 * v1) + (16 * v2)) + v4).toNatClampNeg)) mshot (upd mblocksT v4.toNatClampNeg (mblocks ((16 * v2) + v4).toNatClampNeg))
      else
        f_M_restore_L83 fuel v1 v2 (v3 + 1) (v4 + 1) (upd mblocks ((16 * v2) + v4).toNatClampNeg (mshot (((640 * v1) + (16 * v2)) + v4).toNatClampNeg)) mshot (upd mblocksT v4.toNatClampNeg (mblocks ((16 * v2) + v4).toNatClampNeg))
def f_M_restore_L202 : Nat → Int32 → Int32 → (Nat → Int32) → (Nat → Int32) → Option ((Nat → Int32))
  | 0, _, _, _, _ => none
  | fuel + 1, v2, v4, mblocks, mblocksT =>
    if 16 ≤ v4 then
      some mblocks
    else
      if v4 < 0 ∨ 640 ≤ v4.toNatClampNeg then none else
        if ((16 * v2) + v4) < 0 ∨ 640 ≤ ((16 * v2) + v4).toNatClampNeg then none else
        f_M_restore_L202 fuel v2 (v4 + 1) (upd mblocks ((16 * v2) + v4).toNatClampNeg (mblocksT v4.toNatClampNeg)) mblocksT
def f_M_restore (p1 : Int32) (p2 : Int32) (mquot : Nat → Int32) (mfiles : Int32) (mowner : Nat → Int32) (mlinks : Nat → Int32) (mblocks : Nat → Int32) (msnaps : Int32) (mkept : Nat → Int32) (mshot : Nat → Int32) (mwas : Nat → Int32) (misop : Int32) (mblocksT : Nat → Int32) : Option (Int32 × Int32 × (Nat → Int32) × (Nat → Int32)) :=
  (f_M_isSnapshot p1 msnaps).bind fun r1 =>
  if r1 = 0 then
    (f_M_fails 1).bind fun (r4, mcode_5) =>
    some (r4, mcode_5, mblocks, mblocksT)
  else
    (f_M_isFile p2 mfiles).bind fun r7 =>
    if r7 = 0 then
      (f_M_fails 1).bind fun (r69, mcode_70) =>
      some (r69, mcode_70, mblocks, mblocksT)
    else
      if p1 < 0 ∨ 30 ≤ p1.toNatClampNeg then none else
        if (mkept p1.toNatClampNeg) = 0 then
        (f_M_fails 2).bind fun (r12, mcode_13) =>
        some (r12, mcode_13, mblocks, mblocksT)
      else
        if ((40 * p1) + p2) < 0 ∨ 1200 ≤ ((40 * p1) + p2).toNatClampNeg then none else
          if (mwas ((40 * p1) + p2).toNatClampNeg) = 0 then
          (f_M_fails 2).bind fun (r66, mcode_67) =>
          some (r66, mcode_67, mblocks, mblocksT)
        else
          if misop = 0 then
            if p2 < 0 ∨ 40 ≤ p2.toNatClampNeg then none else
              if (mlinks p2.toNatClampNeg) = 0 then
              (f_M_fails 3).bind fun (r63, mcode_64) =>
              some (r63, mcode_64, mblocks, mblocksT)
            else
              (f_M_restore_L83 FU p1 p2 0 0 mblocks mshot mblocksT).bind fun (x40, mblocks_41, mblocksT_42) =>
              if p2 < 0 ∨ 40 ≤ p2.toNatClampNeg then none else
                (f_M_countsFor (mowner p2.toNatClampNeg) mowner mblocks_41).bind fun r44 =>
              if p2 < 0 ∨ 40 ≤ p2.toNatClampNeg then none else
                if (mowner p2.toNatClampNeg) < 0 ∨ 4 ≤ (mowner p2.toNatClampNeg).toNatClampNeg then none else
                if r44 ≤ (mquot (mowner p2.toNatClampNeg).toNatClampNeg) then
                some (x40, 0, mblocks_41, mblocksT_42)
              else
                (f_M_restore_L202 FU p2 0 mblocks_41 mblocksT_42).bind fun mblocks_59 =>
                (f_M_fails 4).bind fun (r60, mcode_61) =>
                some (r60, mcode_61, mblocks_59, mblocksT_42)
          else
            (f_M_fails 3).bind fun (r18, mcode_19) =>
            some (r18, mcode_19, mblocks, mblocksT)
set_option maxHeartbeats 4000000 in
set_option maxRecDepth 100000 in
theorem m_M_restore (l : Launch) {D : va_G} {sl : List (String × Nat × String)} (ca : Nat → ClassId) (ad : Nat → Nat) (lq : Nat) (mcode : Int32) (mday : Int32) (mown : Int32) (mquot : Nat → Int32) (mprom : Nat → Int32) (mfiles : Int32) (mowner : Nat → Int32) (mlinks : Nat → Int32) (mblocks : Nat → Int32) (mvals : Nat → Int32) (msnaps : Int32) (mranks : Nat → Int32) (mkept : Nat → Int32) (mshot : Nat → Int32) (mwas : Nat → Int32) (mholds : Int32) (mheld : Nat → Int32) (mends : Nat → Int32) (mopen : Nat → Int32) (mentr : Int32) (mkinds : Nat → Int32) (misop : Int32) (mfilesT : Int32) (mentrT : Int32) (mpromT : Nat → Int32) (mlinksT : Nat → Int32) (mblocksT : Nat → Int32) (mvalsT : Nat → Int32) (R : va_W) (sz : Nat) (p1 : Int32) (p2 : Int32) (ro : Int32) (omcode : Int32) (omblocks : Nat → Int32) (omblocksT : Nat → Int32) (hf : f_M_restore p1 p2 mquot mfiles mowner mlinks mblocks msnaps mkept mshot mwas misop mblocksT = some (ro, omcode, omblocks, omblocksT)) : Met l yX4_restore (wm yX4_restore cX4_restore 5 (some .int)) ({ frames := 2, cells := 0, slots := 0, locals := 46 } : Room) (PRE [.ref (ad 0), .int p1, .int p2] D ca sl (WM ca ad lq mcode mday mown mquot mprom mfiles mowner mlinks mblocks mvals msnaps mranks mkept mshot mwas mholds mheld mends mopen mentr mkinds misop mfilesT mentrT mpromT mlinksT mblocksT mvalsT ++ R) sz) (QI ro D (WM ca ad lq omcode mday mown mquot mprom mfiles mowner mlinks omblocks mvals msnaps mranks mkept mshot mwas mholds mheld mends mopen mentr mkinds misop mfilesT mentrT mpromT mlinksT omblocksT mvalsT ++ R) (WM ca ad lq mcode mday mown mquot mprom mfiles mowner mlinks mblocks mvals msnaps mranks mkept mshot mwas mholds mheld mends mopen mentr mkinds misop mfilesT mentrT mpromT mlinksT mblocksT mvalsT ++ R) sz) 0 0 (va_A (WM ca ad lq mcode mday mown mquot mprom mfiles mowner mlinks mblocks mvals msnaps mranks mkept mshot mwas mholds mheld mends mopen mentr mkinds misop mfilesT mentrT mpromT mlinksT mblocksT mvalsT ++ R) sz) := by
  refine Met.ofW (cc := cX4_restore) (maxL := 5) (ret := (some .int)) (by decide) rfl ?_
  intro p e s m args below meth c s₁ B hml hv
  obtain ⟨rfl, rfl, hP, hE, hD0⟩ := hv
  have hx := B.exec
  have hb := B.bytes
  have hr := B.returns
  have hts := wm_ww (atoms_spec (ws := wm yX4_restore cX4_restore 5 (some .int)) B.pre)
  have hown : s.vm.findClass RX4 = some m.cls := findClass_of_methodNamed B.named
  have hlocks := B.notSynchronized
  have hK := hE.1
  have hD := hD0.self (sz := s.heap.size)
  generalize hAe : va_A (WM ca ad lq mcode mday mown mquot mprom mfiles mowner mlinks mblocks mvals msnaps mranks mkept mshot mwas mholds mheld mends mopen mentr mkinds misop mfilesT mentrT mpromT mlinksT mblocksT mvalsT ++ R) s.heap.size = A at hD ⊢
  have hA : ∀ q : Nat, s.heap.size ≤ q → A q := fun q h => by rw [← hAe]; exact Or.inr h
  have hS : va_S A s.heap s.heap [] := va_S.rf
  have hl := lv_entry ([.ref (ad 0), .int p1, .int p2]) (n := 5) (Nat.le_of_ble_eq_true rfl)
  rw [lg_entry_eq]
  generalize (lg_sl ([.ref (ad 0), .int p1, .int p2]) ++ List.replicate (5 - (lg_sl ([.ref (ad 0), .int p1, .int p2])).length) Slot.unset).toArray = ls at hl ⊢
  have hl : lv_has ls 5 [(0, .ref (ad 0)), (1, .int p1), (2, .int p2)] := hl
  change W p l e ({ frames := 2, cells := 0, slots := 0, locals := 46 } : Room) s m _ below meth c s.heap [] 0 0 _ _
  generalize hQm : MQ below (QI ro D (WM ca ad lq omcode mday mown mquot mprom mfiles mowner mlinks omblocks mvals msnaps mranks mkept mshot mwas mholds mheld mends mopen mentr mkinds misop mfilesT mentrT mpromT mlinksT omblocksT mvalsT ++ R) (WM ca ad lq mcode mday mown mquot mprom mfiles mowner mlinks mblocks mvals msnaps mranks mkept mshot mwas mholds mheld mends mopen mentr mkinds misop mfilesT mentrT mpromT mlinksT mblocksT mvalsT ++ R) s.heap.size) _ s 0 0 A = Qm
  have hP : va_P D vwCl (WM ca ad lq mcode mday mown mquot mprom mfiles mowner mlinks mblocks mvals msnaps mranks mkept mshot mwas mholds mheld mends mopen mentr mkinds misop mfilesT mentrT mpromT mlinksT mblocksT mvalsT ++ R) s.heap := hP
  generalize hae : ([.ref (ad 0), .int p1, .int p2] : List Value).toArray = args at hts hQm ⊢
  have L83 : ∀ (n : Nat) (v1 : Int32) (v2 : Int32) (v3 : Int32) (v4 : Int32) (mcode : Int32) (mblocks : Nat → Int32) (mblocksT : Nat → Int32) (y3 : Int32) (zmblocks : Nat → Int32) (zmblocksT : Nat → Int32), f_M_restore_L83 n v1 v2 v3 v4 mblocks mshot mblocksT = some (y3, zmblocks, zmblocksT) → ∀ (H : Heap) (locs : List Loc) (ls : Array Slot), va_P D vwCl (WM ca ad lq mcode mday mown mquot mprom mfiles mowner mlinks mblocks mvals msnaps mranks mkept mshot mwas mholds mheld mends mopen mentr mkinds misop mfilesT mentrT mpromT mlinksT mblocksT mvalsT ++ R) H → va_D A (WM ca ad lq mcode mday mown mquot mprom mfiles mowner mlinks mblocks mvals msnaps mranks mkept mshot mwas mholds mheld mends mopen mentr mkinds misop mfilesT mentrT mpromT mlinksT mblocksT mvalsT ++ R) → va_S A s.heap H locs → lv_has ls 5 [(0, .ref (ad 0)), (1, .int v1), (2, .int v2), (3, .int v3), (4, .int v4)] → (∀ (H : Heap) (locs : List Loc) (ls : Array Slot), va_P D vwCl (WM ca ad lq mcode mday mown mquot mprom mfiles mowner mlinks zmblocks mvals msnaps mranks mkept mshot mwas mholds mheld mends mopen mentr mkinds misop mfilesT mentrT mpromT mlinksT zmblocksT mvalsT ++ R) H → va_D A (WM ca ad lq mcode mday mown mquot mprom mfiles mowner mlinks zmblocks mvals msnaps mranks mkept mshot mwas mholds mheld mends mopen mentr mkinds misop mfilesT mentrT mpromT mlinksT zmblocksT mvalsT ++ R) → va_S A s.heap H locs → lv_has ls 5 [(0, .ref (ad 0)), (2, .int v2), (3, .int y3)] → W p l e ({ frames := 2, cells := 0, slots := 0, locals := 46 } : Room) s m args below meth c H locs 0 0 Qm (F0 m 175 ls [])) → W p l e ({ frames := 2, cells := 0, slots := 0, locals := 46 } : Room) s m args below meth c H locs 0 0 Qm (F0 m 83 ls []) := by
    intro n
    induction n with
    | zero => intro v1 v2 v3 v4 mcode mblocks mblocksT y3 zmblocks zmblocksT hf; cases hf
    | succ n ih =>
      intro v1 v2 v3 v4 mcode mblocks mblocksT y3 zmblocks zmblocksT hf H locs ls hP hD hS hl kk
      unfold f_M_restore_L83 at hf
      refine lv_iload hx hb dX4_restore_83 (lv_at hl 4 rfl) ?_
      refine lv_bipush (v := 16) hx hb dX4_restore_85 (by decide) ?_
      refine lv_icmp_ge (tgt := 175) hx hb dX4_restore_87 (by decide) (fun c31 => ?_) (fun c31 => ?_)
      · have hf := br_pos c31 hf
        cases hf
        exact kk _ _ _ hP hD hS (lv_sub hl [0, 2, 3] rfl)
      · have hf := br_neg c31 hf
        refine lv_aload_n hx hb dX4_restore_90 rfl (lv_at hl 0 rfl) ?_
        refine va_get (D := D) (ci := 8) (v := .ref (ad 17)) (C := RX4) (T := TX4) (N := 29) hx hb hts inX4 hown hK hP 0 rfl rfl 26 (by decide) (hts _ q1355) (fun _ h9 => h9) rfl dX4_restore_91 ?_
        refine lv_iload hx hb dX4_restore_94 (lv_at hl 4 rfl) ?_
        refine lv_aload_n hx hb dX4_restore_96 rfl (lv_at hl 0 rfl) ?_
        refine va_get (D := D) (ci := 8) (v := .ref (ad 5)) (C := RX4) (T := TX4) (N := 29) hx hb hts inX4 hown hK hP 0 rfl rfl 8 (by decide) (hts _ q1337) (fun _ h9 => h9) rfl dX4_restore_97 ?_
        refine lv_bipush (v := 16) hx hb dX4_restore_100 (by decide) ?_
        refine lv_iload_n hx hb dX4_restore_102 rfl (lv_at hl 2 rfl) ?_
        refine lv_imul hx hb dX4_restore_103 ?_
        refine lv_iload hx hb dX4_restore_104 (lv_at hl 4 rfl) ?_
        refine lv_iadd hx hb dX4_restore_106 ?_
        obtain ⟨k32, hf⟩ := ck_not hf
        refine va_iald (D := D) hx hb hK hP 5 0 rfl rfl k32 dX4_restore_107 ?_
        obtain ⟨k33, hf⟩ := ck_not hf
        refine va_iast (D := D) hx hb hK hP hD hS 17 0 rfl rfl k33 dX4_restore_108 (fun H locs hP hD hS => ?_)
        have hP : va_P D vwCl (WM ca ad lq mcode mday mown mquot mprom mfiles mowner mlinks mblocks mvals msnaps mranks mkept mshot mwas mholds mheld mends mopen mentr mkinds misop mfilesT mentrT mpromT mlinksT (upd mblocksT v4.toNatClampNeg (mblocks ((16 * v2) + v4).toNatClampNeg)) mvalsT ++ R) H := hP
        have hD : va_D A (WM ca ad lq mcode mday mown mquot mprom mfiles mowner mlinks mblocks mvals msnaps mranks mkept mshot mwas mholds mheld mends mopen mentr mkinds misop mfilesT mentrT mpromT mlinksT (upd mblocksT v4.toNatClampNeg (mblocks ((16 * v2) + v4).toNatClampNeg)) mvalsT ++ R) := hD
        refine lv_aload_n hx hb dX4_restore_109 rfl (lv_at hl 0 rfl) ?_
        refine va_get (D := D) (ci := 8) (v := .ref (ad 5)) (C := RX4) (T := TX4) (N := 29) hx hb hts inX4 hown hK hP 0 rfl rfl 8 (by decide) (hts _ q1337) (fun _ h9 => h9) rfl dX4_restore_110 ?_
        refine lv_bipush (v := 16) hx hb dX4_restore_113 (by decide) ?_
        refine lv_iload_n hx hb dX4_restore_115 rfl (lv_at hl 2 rfl) ?_
        refine lv_imul hx hb dX4_restore_116 ?_
        refine lv_iload hx hb dX4_restore_117 (lv_at hl 4 rfl) ?_
        refine lv_iadd hx hb dX4_restore_119 ?_
        refine lv_aload_n hx hb dX4_restore_120 rfl (lv_at hl 0 rfl) ?_
        refine va_get (D := D) (ci := 8) (v := .ref (ad 9)) (C := RX4) (T := TX4) (N := 29) hx hb hts inX4 hown hK hP 0 rfl rfl 13 (by decide) (hts _ q1342) (fun _ h9 => h9) rfl dX4_restore_121 ?_
        refine lv_sipush (v := 640) hx hb dX4_restore_124 (by decide) ?_
        refine lv_iload_n hx hb dX4_restore_127 rfl (lv_at hl 1 rfl) ?_
        refine lv_imul hx hb dX4_restore_128 ?_
        refine lv_bipush (v := 16) hx hb dX4_restore_129 (by decide) ?_
        refine lv_iload_n hx hb dX4_restore_131 rfl (lv_at hl 2 rfl) ?_
        refine lv_imul hx hb dX4_restore_132 ?_
        refine lv_iadd hx hb dX4_restore_133 ?_
        refine lv_iload hx hb dX4_restore_134 (lv_at hl 4 rfl) ?_
        refine lv_iadd hx hb dX4_restore_136 ?_
        obtain ⟨k34, hf⟩ := ck_not hf
        refine va_iald (D := D) hx hb hK hP 9 0 rfl rfl k34 dX4_restore_137 ?_
        obtain ⟨k35, hf⟩ := ck_not hf
        refine va_iast (D := D) hx hb hK hP hD hS 5 0 rfl rfl k35 dX4_restore_138 (fun H locs hP hD hS => ?_)
        have hP : va_P D vwCl (WM ca ad lq mcode mday mown mquot mprom mfiles mowner mlinks (upd mblocks ((16 * v2) + v4).toNatClampNeg (mshot (((640 * v1) + (16 * v2)) + v4).toNatClampNeg)) mvals msnaps mranks mkept mshot mwas mholds mheld mends mopen mentr mkinds misop mfilesT mentrT mpromT mlinksT (upd mblocksT v4.toNatClampNeg (mblocks ((16 * v2) + v4).toNatClampNeg)) mvalsT ++ R) H := hP
        have hD : va_D A (WM ca ad lq mcode mday mown mquot mprom mfiles mowner mlinks (upd mblocks ((16 * v2) + v4).toNatClampNeg (mshot (((640 * v1) + (16 * v2)) + v4).toNatClampNeg)) mvals msnaps mranks mkept mshot mwas mholds mheld mends mopen mentr mkinds misop mfilesT mentrT mpromT mlinksT (upd mblocksT v4.toNatClampNeg (mblocks ((16 * v2) + v4).toNatClampNeg)) mvalsT ++ R) := hD
        refine lv_iload_n hx hb dX4_restore_139 rfl (lv_at hl 3 rfl) ?_
        refine lv_aload_n hx hb dX4_restore_140 rfl (lv_at hl 0 rfl) ?_
        refine va_get (D := D) (ci := 8) (v := .ref (ad 5)) (C := RX4) (T := TX4) (N := 29) hx hb hts inX4 hown hK hP 0 rfl rfl 8 (by decide) (hts _ q1337) (fun _ h9 => h9) rfl dX4_restore_141 ?_
        refine lv_bipush (v := 16) hx hb dX4_restore_144 (by decide) ?_
        refine lv_iload_n hx hb dX4_restore_146 rfl (lv_at hl 2 rfl) ?_
        refine lv_imul hx hb dX4_restore_147 ?_
        refine lv_iload hx hb dX4_restore_148 (lv_at hl 4 rfl) ?_
        refine lv_iadd hx hb dX4_restore_150 ?_
        obtain ⟨k36, hf⟩ := ck_not hf
        refine va_iald (D := D) hx hb hK hP 5 0 rfl rfl k36 dX4_restore_151 ?_
        refine lv_aload_n hx hb dX4_restore_152 rfl (lv_at hl 0 rfl) ?_
        refine va_get (D := D) (ci := 8) (v := .ref (ad 17)) (C := RX4) (T := TX4) (N := 29) hx hb hts inX4 hown hK hP 0 rfl rfl 26 (by decide) (hts _ q1355) (fun _ h9 => h9) rfl dX4_restore_153 ?_
        refine lv_iload hx hb dX4_restore_156 (lv_at hl 4 rfl) ?_
        obtain ⟨k37, hf⟩ := ck_not hf
        refine va_iald (D := D) hx hb hK hP 17 0 rfl rfl k37 dX4_restore_158 ?_
        refine lv_icmp_ne (tgt := 166) hx hb dX4_restore_159 (by decide) (fun c38 => ?_) (fun c38 => ?_)
        · have hf := br_neg c38 hf
          refine lv_iconst (v := 1) hx hb dX4_restore_166 (by decide) ?_
          refine lv_iadd hx hb dX4_restore_167 ?_
          refine lv_istore_n (lv' := [(3, .int (v3 + 1)), (0, .ref (ad 0)), (1, .int v1), (2, .int v2), (4, .int v4)]) hx hb dX4_restore_168 rfl hl (by decide) rfl (fun ls hl => ?_)
          refine lv_iinc (v := (v4 + 1)) (lv' := [(4, .int (v4 + 1)), (3, .int (v3 + 1)), (0, .ref (ad 0)), (1, .int v1), (2, .int v2)]) hx hb dX4_restore_169 hl (k := 4) rfl rfl (by decide) rfl (fun ls hl => ?_)
          refine lv_goto (tgt := 83) hx hb dX4_restore_172 (by decide) ?_
          exact ih v1 v2 (v3 + 1) (v4 + 1) mcode (upd mblocks ((16 * v2) + v4).toNatClampNeg (mshot (((640 * v1) + (16 * v2)) + v4).toNatClampNeg)) (upd mblocksT v4.toNatClampNeg (mblocks ((16 * v2) + v4).toNatClampNeg)) _ _ _ hf _ _ _ hP hD hS (lv_sub hl [2, 3, 4, 1, 0] rfl) kk
        · have hf := br_pos c38 hf
          refine lv_iconst (v := 0) hx hb dX4_restore_162 (by decide) ?_
          refine lv_goto (tgt := 167) hx hb dX4_restore_163 (by decide) ?_
          refine lv_iadd hx hb dX4_restore_167 ?_
          refine lv_istore_n (lv' := [(3, .int (v3 + 0)), (0, .ref (ad 0)), (1, .int v1), (2, .int v2), (4, .int v4)]) hx hb dX4_restore_168 rfl hl (by decide) rfl (fun ls hl => ?_)
          refine lv_iinc (v := (v4 + 1)) (lv' := [(4, .int (v4 + 1)), (3, .int (v3 + 0)), (0, .ref (ad 0)), (1, .int v1), (2, .int v2)]) hx hb dX4_restore_169 hl (k := 4) rfl rfl (by decide) rfl (fun ls hl => ?_)
          refine lv_goto (tgt := 83) hx hb dX4_restore_172 (by decide) ?_
          exact ih v1 v2 (v3 + 0) (v4 + 1) mcode (upd mblocks ((16 * v2) + v4).toNatClampNeg (mshot (((640 * v1) + (16 * v2)) + v4).toNatClampNeg)) (upd mblocksT v4.toNatClampNeg (mblocks ((16 * v2) + v4).toNatClampNeg)) _ _ _ hf _ _ _ hP hD hS (lv_sub hl [2, 3, 4, 1, 0] rfl) kk
  have L202 : ∀ (n : Nat) (v2 : Int32) (v4 : Int32) (mcode : Int32) (mblocks : Nat → Int32) (mblocksT : Nat → Int32) (zmblocks : Nat → Int32), f_M_restore_L202 n v2 v4 mblocks mblocksT = some zmblocks → ∀ (H : Heap) (locs : List Loc) (ls : Array Slot), va_P D vwCl (WM ca ad lq mcode mday mown mquot mprom mfiles mowner mlinks mblocks mvals msnaps mranks mkept mshot mwas mholds mheld mends mopen mentr mkinds misop mfilesT mentrT mpromT mlinksT mblocksT mvalsT ++ R) H → va_D A (WM ca ad lq mcode mday mown mquot mprom mfiles mowner mlinks mblocks mvals msnaps mranks mkept mshot mwas mholds mheld mends mopen mentr mkinds misop mfilesT mentrT mpromT mlinksT mblocksT mvalsT ++ R) → va_S A s.heap H locs → lv_has ls 5 [(0, .ref (ad 0)), (2, .int v2), (4, .int v4)] → (∀ (H : Heap) (locs : List Loc) (ls : Array Slot), va_P D vwCl (WM ca ad lq mcode mday mown mquot mprom mfiles mowner mlinks zmblocks mvals msnaps mranks mkept mshot mwas mholds mheld mends mopen mentr mkinds misop mfilesT mentrT mpromT mlinksT mblocksT mvalsT ++ R) H → va_D A (WM ca ad lq mcode mday mown mquot mprom mfiles mowner mlinks zmblocks mvals msnaps mranks mkept mshot mwas mholds mheld mends mopen mentr mkinds misop mfilesT mentrT mpromT mlinksT mblocksT mvalsT ++ R) → va_S A s.heap H locs → lv_has ls 5 [(0, .ref (ad 0))] → W p l e ({ frames := 2, cells := 0, slots := 0, locals := 46 } : Room) s m args below meth c H locs 0 0 Qm (F0 m 234 ls [])) → W p l e ({ frames := 2, cells := 0, slots := 0, locals := 46 } : Room) s m args below meth c H locs 0 0 Qm (F0 m 202 ls []) := by
    intro n
    induction n with
    | zero => intro v2 v4 mcode mblocks mblocksT zmblocks hf; cases hf
    | succ n ih =>
      intro v2 v4 mcode mblocks mblocksT zmblocks hf H locs ls hP hD hS hl kk
      unfold f_M_restore_L202 at hf
      refine lv_iload hx hb dX4_restore_202 (lv_at hl 2 rfl) ?_
      refine lv_bipush (v := 16) hx hb dX4_restore_204 (by decide) ?_
      refine lv_icmp_ge (tgt := 234) hx hb dX4_restore_206 (by decide) (fun c55 => ?_) (fun c55 => ?_)
      · have hf := br_pos c55 hf
        cases hf
        exact kk _ _ _ hP hD hS (lv_sub hl [0] rfl)
      · have hf := br_neg c55 hf
        refine lv_aload_n hx hb dX4_restore_209 rfl (lv_at hl 0 rfl) ?_
        refine va_get (D := D) (ci := 8) (v := .ref (ad 5)) (C := RX4) (T := TX4) (N := 29) hx hb hts inX4 hown hK hP 0 rfl rfl 8 (by decide) (hts _ q1337) (fun _ h9 => h9) rfl dX4_restore_210 ?_
        refine lv_bipush (v := 16) hx hb dX4_restore_213 (by decide) ?_
        refine lv_iload_n hx hb dX4_restore_215 rfl (lv_at hl 1 rfl) ?_
        refine lv_imul hx hb dX4_restore_216 ?_
        refine lv_iload hx hb dX4_restore_217 (lv_at hl 2 rfl) ?_
        refine lv_iadd hx hb dX4_restore_219 ?_
        refine lv_aload_n hx hb dX4_restore_220 rfl (lv_at hl 0 rfl) ?_
        refine va_get (D := D) (ci := 8) (v := .ref (ad 17)) (C := RX4) (T := TX4) (N := 29) hx hb hts inX4 hown hK hP 0 rfl rfl 26 (by decide) (hts _ q1355) (fun _ h9 => h9) rfl dX4_restore_221 ?_
        refine lv_iload hx hb dX4_restore_224 (lv_at hl 2 rfl) ?_
        obtain ⟨k56, hf⟩ := ck_not hf
        refine va_iald (D := D) hx hb hK hP 17 0 rfl rfl k56 dX4_restore_226 ?_
        obtain ⟨k57, hf⟩ := ck_not hf
        refine va_iast (D := D) hx hb hK hP hD hS 5 0 rfl rfl k57 dX4_restore_227 (fun H locs hP hD hS => ?_)
        have hP : va_P D vwCl (WM ca ad lq mcode mday mown mquot mprom mfiles mowner mlinks (upd mblocks ((16 * v2) + v4).toNatClampNeg (mblocksT v4.toNatClampNeg)) mvals msnaps mranks mkept mshot mwas mholds mheld mends mopen mentr mkinds misop mfilesT mentrT mpromT mlinksT mblocksT mvalsT ++ R) H := hP
        have hD : va_D A (WM ca ad lq mcode mday mown mquot mprom mfiles mowner mlinks (upd mblocks ((16 * v2) + v4).toNatClampNeg (mblocksT v4.toNatClampNeg)) mvals msnaps mranks mkept mshot mwas mholds mheld mends mopen mentr mkinds misop mfilesT mentrT mpromT mlinksT mblocksT mvalsT ++ R) := hD
        refine lv_iinc (v := (v4 + 1)) (lv' := [(4, .int (v4 + 1)), (0, .ref (ad 0)), (2, .int v2)]) hx hb dX4_restore_228 hl (k := 2) rfl rfl (by decide) rfl (fun ls hl => ?_)
        refine lv_goto (tgt := 202) hx hb dX4_restore_231 (by decide) ?_
        exact ih v2 (v4 + 1) mcode (upd mblocks ((16 * v2) + v4).toNatClampNeg (mblocksT v4.toNatClampNeg)) mblocksT _ hf _ _ _ hP hD hS (lv_sub hl [1, 2, 0] rfl) kk
  refine lv_aload_n hx hb dX4_restore_0 rfl (lv_at hl 0 rfl) ?_
  refine lv_iconst (v := 0) hx hb dX4_restore_1 (by decide) ?_
  refine va_put (D := D) (ci := 8) (v := .int 0) (ty := .int) (C := RX4) (T := TX4) (N := 29) hx hb hts inX4 tyX4 tyX4_ok nmX4 hown hK hP hD hS 0 rfl rfl 0 (by decide) (hts _ q1329) (fun _ h9 => h9) rfl (by decide +kernel) rfl rfl (Nat.le_of_ble_eq_true rfl) dX4_restore_2 (fun H locs hP hD hS => ?_)
  have hP : va_P D vwCl (WM ca ad lq 0 mday mown mquot mprom mfiles mowner mlinks mblocks mvals msnaps mranks mkept mshot mwas mholds mheld mends mopen mentr mkinds misop mfilesT mentrT mpromT mlinksT mblocksT mvalsT ++ R) H := hP
  have hD : va_D A (WM ca ad lq 0 mday mown mquot mprom mfiles mowner mlinks mblocks mvals msnaps mranks mkept mshot mwas mholds mheld mends mopen mentr mkinds misop mfilesT mentrT mpromT mlinksT mblocksT mvalsT ++ R) := hD
  refine lv_aload_n hx hb dX4_restore_5 rfl (lv_at hl 0 rfl) ?_
  refine lv_iload_n hx hb dX4_restore_6 rfl (lv_at hl 1 rfl) ?_
  obtain ⟨r1, h2, hf⟩ := bnd hf
  refine call_vi (rest := []) (m_M_isSnapshot l ca ad lq 0 mday mown mquot mprom mfiles mowner mlinks mblocks mvals msnaps mranks mkept mshot mwas mholds mheld mends mopen mentr mkinds misop mfilesT mentrT mpromT mlinksT mblocksT mvalsT R _ p1 r1 h2) ⟨hx, hb, hml, hown, hts⟩ (cwV 1 hts (gV q1568 q1570 q37 q50 q1571) rfl rfl rfl (by decide +kernel) ⟨Nat.le_of_ble_eq_true rfl, Nat.le_of_ble_eq_true rfl⟩) (va_recv hK hP (ci := 8) (q0 := 0) rfl rfl) hE hP hD hS hA rfl hl.1 rfl (lv_room (Nat.le_of_ble_eq_true rfl)) dX4_restore_7 ⟨Nat.le_of_ble_eq_true rfl, Nat.le_of_ble_eq_true rfl⟩ (fun H locs hP hD hS => ?_)
  refine lv_if_eq (tgt := 21) hx hb dX4_restore_10 (by decide) (fun c3 => ?_) (fun c3 => ?_)
  · have hf := br_pos c3 hf
    refine lv_aload_n hx hb dX4_restore_21 rfl (lv_at hl 0 rfl) ?_
    refine lv_iconst (v := 1) hx hb dX4_restore_22 (by decide) ?_
    obtain ⟨⟨r4, mcode_5⟩, h6, hf⟩ := bnd hf
    refine call_vi (rest := []) (m_M_fails l ca ad lq 0 mday mown mquot mprom mfiles mowner mlinks mblocks mvals msnaps mranks mkept mshot mwas mholds mheld mends mopen mentr mkinds misop mfilesT mentrT mpromT mlinksT mblocksT mvalsT R _ 1 r4 mcode_5 h6) ⟨hx, hb, hml, hown, hts⟩ (cwV 1 hts (gV q1428 q1430 q23 q50 q1431) rfl rfl rfl (by decide +kernel) ⟨Nat.le_of_ble_eq_true rfl, Nat.le_of_ble_eq_true rfl⟩) (va_recv hK hP (ci := 8) (q0 := 0) rfl rfl) hE hP hD hS hA rfl hl.1 rfl (lv_room (Nat.le_of_ble_eq_true rfl)) dX4_restore_23 ⟨Nat.le_of_ble_eq_true rfl, Nat.le_of_ble_eq_true rfl⟩ (fun H locs hP hD hS => ?_)
    cases hf
    exact end_i hAe hQm hx hb hr hlocks rfl hP hD hS dX4_restore_26
  · have hf := br_neg c3 hf
    refine lv_aload_n hx hb dX4_restore_13 rfl (lv_at hl 0 rfl) ?_
    refine lv_iload_n hx hb dX4_restore_14 rfl (lv_at hl 2 rfl) ?_
    obtain ⟨r7, h8, hf⟩ := bnd hf
    refine call_vi (rest := []) (m_M_isFile l ca ad lq 0 mday mown mquot mprom mfiles mowner mlinks mblocks mvals msnaps mranks mkept mshot mwas mholds mheld mends mopen mentr mkinds misop mfilesT mentrT mpromT mlinksT mblocksT mvalsT R _ p2 r7 h8) ⟨hx, hb, hml, hown, hts⟩ (cwV 1 hts (gV q1452 q1454 q26 q50 q1455) rfl rfl rfl (by decide +kernel) ⟨Nat.le_of_ble_eq_true rfl, Nat.le_of_ble_eq_true rfl⟩) (va_recv hK hP (ci := 8) (q0 := 0) rfl rfl) hE hP hD hS hA rfl hl.1 rfl (lv_room (Nat.le_of_ble_eq_true rfl)) dX4_restore_15 ⟨Nat.le_of_ble_eq_true rfl, Nat.le_of_ble_eq_true rfl⟩ (fun H locs hP hD hS => ?_)
    refine lv_if_ne (tgt := 27) hx hb dX4_restore_18 (by decide) (fun c9 => ?_) (fun c9 => ?_)
    · have hf := br_neg c9 hf
      refine lv_aload_n hx hb dX4_restore_27 rfl (lv_at hl 0 rfl) ?_
      refine va_get (D := D) (ci := 8) (v := .ref (ad 8)) (C := RX4) (T := TX4) (N := 29) hx hb hts inX4 hown hK hP 0 rfl rfl 12 (by decide) (hts _ q1341) (fun _ h9 => h9) rfl dX4_restore_28 ?_
      refine lv_iload_n hx hb dX4_restore_31 rfl (lv_at hl 1 rfl) ?_
      obtain ⟨k10, hf⟩ := ck_not hf
      refine va_zald (D := D) hx hb hK hP 8 1 rfl rfl k10 dX4_restore_32 ?_
      refine lv_if_eq (tgt := 50) hx hb dX4_restore_33 (by decide) (fun c11 => ?_) (fun c11 => ?_)
      · have hf := br_pos c11 hf
        refine lv_aload_n hx hb dX4_restore_50 rfl (lv_at hl 0 rfl) ?_
        refine lv_iconst (v := 2) hx hb dX4_restore_51 (by decide) ?_
        obtain ⟨⟨r12, mcode_13⟩, h14, hf⟩ := bnd hf
        refine call_vi (rest := []) (m_M_fails l ca ad lq 0 mday mown mquot mprom mfiles mowner mlinks mblocks mvals msnaps mranks mkept mshot mwas mholds mheld mends mopen mentr mkinds misop mfilesT mentrT mpromT mlinksT mblocksT mvalsT R _ 2 r12 mcode_13 h14) ⟨hx, hb, hml, hown, hts⟩ (cwV 1 hts (gV q1428 q1430 q23 q50 q1431) rfl rfl rfl (by decide +kernel) ⟨Nat.le_of_ble_eq_true rfl, Nat.le_of_ble_eq_true rfl⟩) (va_recv hK hP (ci := 8) (q0 := 0) rfl rfl) hE hP hD hS hA rfl hl.1 rfl (lv_room (Nat.le_of_ble_eq_true rfl)) dX4_restore_52 ⟨Nat.le_of_ble_eq_true rfl, Nat.le_of_ble_eq_true rfl⟩ (fun H locs hP hD hS => ?_)
        cases hf
        exact end_i hAe hQm hx hb hr hlocks rfl hP hD hS dX4_restore_55
      · have hf := br_neg c11 hf
        refine lv_aload_n hx hb dX4_restore_36 rfl (lv_at hl 0 rfl) ?_
        refine va_get (D := D) (ci := 8) (v := .ref (ad 10)) (C := RX4) (T := TX4) (N := 29) hx hb hts inX4 hown hK hP 0 rfl rfl 14 (by decide) (hts _ q1343) (fun _ h9 => h9) rfl dX4_restore_37 ?_
        refine lv_bipush (v := 40) hx hb dX4_restore_40 (by decide) ?_
        refine lv_iload_n hx hb dX4_restore_42 rfl (lv_at hl 1 rfl) ?_
        refine lv_imul hx hb dX4_restore_43 ?_
        refine lv_iload_n hx hb dX4_restore_44 rfl (lv_at hl 2 rfl) ?_
        refine lv_iadd hx hb dX4_restore_45 ?_
        obtain ⟨k15, hf⟩ := ck_not hf
        refine va_zald (D := D) hx hb hK hP 10 1 rfl rfl k15 dX4_restore_46 ?_
        refine lv_if_ne (tgt := 56) hx hb dX4_restore_47 (by decide) (fun c16 => ?_) (fun c16 => ?_)
        · have hf := br_neg c16 hf
          refine lv_aload_n hx hb dX4_restore_56 rfl (lv_at hl 0 rfl) ?_
          refine va_get (D := D) (ci := 8) (v := .int misop) (C := RX4) (T := TX4) (N := 29) hx hb hts inX4 hown hK hP 0 rfl rfl 21 (by decide) (hts _ q1350) (fun _ h9 => h9) rfl dX4_restore_57 ?_
          refine lv_if_ne (tgt := 72) hx hb dX4_restore_60 (by decide) (fun c17 => ?_) (fun c17 => ?_)
          · have hf := br_neg c17 hf
            refine lv_aload_n hx hb dX4_restore_72 rfl (lv_at hl 0 rfl) ?_
            refine lv_iconst (v := 3) hx hb dX4_restore_73 (by decide) ?_
            obtain ⟨⟨r18, mcode_19⟩, h20, hf⟩ := bnd hf
            refine call_vi (rest := []) (m_M_fails l ca ad lq 0 mday mown mquot mprom mfiles mowner mlinks mblocks mvals msnaps mranks mkept mshot mwas mholds mheld mends mopen mentr mkinds misop mfilesT mentrT mpromT mlinksT mblocksT mvalsT R _ 3 r18 mcode_19 h20) ⟨hx, hb, hml, hown, hts⟩ (cwV 1 hts (gV q1428 q1430 q23 q50 q1431) rfl rfl rfl (by decide +kernel) ⟨Nat.le_of_ble_eq_true rfl, Nat.le_of_ble_eq_true rfl⟩) (va_recv hK hP (ci := 8) (q0 := 0) rfl rfl) hE hP hD hS hA rfl hl.1 rfl (lv_room (Nat.le_of_ble_eq_true rfl)) dX4_restore_74 ⟨Nat.le_of_ble_eq_true rfl, Nat.le_of_ble_eq_true rfl⟩ (fun H locs hP hD hS => ?_)
            cases hf
            exact end_i hAe hQm hx hb hr hlocks rfl hP hD hS dX4_restore_77
          · have hf := br_pos c17 hf
            refine lv_aload_n hx hb dX4_restore_63 rfl (lv_at hl 0 rfl) ?_
            refine va_get (D := D) (ci := 8) (v := .ref (ad 4)) (C := RX4) (T := TX4) (N := 29) hx hb hts inX4 hown hK hP 0 rfl rfl 7 (by decide) (hts _ q1336) (fun _ h9 => h9) rfl dX4_restore_64 ?_
            refine lv_iload_n hx hb dX4_restore_67 rfl (lv_at hl 2 rfl) ?_
            obtain ⟨k21, hf⟩ := ck_not hf
            refine va_iald (D := D) hx hb hK hP 4 0 rfl rfl k21 dX4_restore_68 ?_
            refine lv_if_ne (tgt := 78) hx hb dX4_restore_69 (by decide) (fun c22 => ?_) (fun c22 => ?_)
            · have hf := br_neg c22 hf
              refine lv_iconst (v := 0) hx hb dX4_restore_78 (by decide) ?_
              refine lv_istore_n (lv' := [(3, .int 0), (0, .ref (ad 0)), (1, .int p1), (2, .int p2)]) hx hb dX4_restore_79 rfl hl (by decide) rfl (fun ls hl => ?_)
              refine lv_iconst (v := 0) hx hb dX4_restore_80 (by decide) ?_
              refine lv_istore (lv' := [(4, .int 0), (3, .int 0), (0, .ref (ad 0)), (1, .int p1), (2, .int p2)]) hx hb dX4_restore_81 hl (by decide) rfl (fun ls hl => ?_)
              obtain ⟨⟨x40, mblocks_41, mblocksT_42⟩, h39, hf⟩ := bnd hf
              refine L83 FU p1 p2 0 0 0 mblocks mblocksT x40 mblocks_41 mblocksT_42 h39 _ _ _ hP hD hS (lv_sub hl [2, 3, 4, 1, 0] rfl) (fun H locs ls hP hD hS hl => ?_)
              refine lv_aload_n hx hb dX4_restore_175 rfl (lv_at hl 0 rfl) ?_
              refine lv_aload_n hx hb dX4_restore_176 rfl (lv_at hl 0 rfl) ?_
              refine va_get (D := D) (ci := 8) (v := .ref (ad 3)) (C := RX4) (T := TX4) (N := 29) hx hb hts inX4 hown hK hP 0 rfl rfl 6 (by decide) (hts _ q1335) (fun _ h9 => h9) rfl dX4_restore_177 ?_
              refine lv_iload_n hx hb dX4_restore_180 rfl (lv_at hl 1 rfl) ?_
              obtain ⟨k43, hf⟩ := ck_not hf
              refine va_iald (D := D) hx hb hK hP 3 0 rfl rfl k43 dX4_restore_181 ?_
              obtain ⟨r44, h45, hf⟩ := bnd hf
              refine call_vi (rest := []) (m_M_countsFor l ca ad lq 0 mday mown mquot mprom mfiles mowner mlinks mblocks_41 mvals msnaps mranks mkept mshot mwas mholds mheld mends mopen mentr mkinds misop mfilesT mentrT mpromT mlinksT mblocksT_42 mvalsT R _ (mowner p2.toNatClampNeg) r44 h45) ⟨hx, hb, hml, hown, hts⟩ (cwV 1 hts (gV q1503 q1505 q34 q50 q1506) rfl rfl rfl (by decide +kernel) ⟨Nat.le_of_ble_eq_true rfl, Nat.le_of_ble_eq_true rfl⟩) (va_recv hK hP (ci := 8) (q0 := 0) rfl rfl) hE hP hD hS hA rfl hl.1 rfl (lv_room (Nat.le_of_ble_eq_true rfl)) dX4_restore_182 ⟨Nat.le_of_ble_eq_true rfl, Nat.le_of_ble_eq_true rfl⟩ (fun H locs hP hD hS => ?_)
              refine lv_aload_n hx hb dX4_restore_185 rfl (lv_at hl 0 rfl) ?_
              refine va_get (D := D) (ci := 8) (v := .ref (ad 1)) (C := RX4) (T := TX4) (N := 29) hx hb hts inX4 hown hK hP 0 rfl rfl 3 (by decide) (hts _ q1332) (fun _ h9 => h9) rfl dX4_restore_186 ?_
              refine lv_aload_n hx hb dX4_restore_189 rfl (lv_at hl 0 rfl) ?_
              refine va_get (D := D) (ci := 8) (v := .ref (ad 3)) (C := RX4) (T := TX4) (N := 29) hx hb hts inX4 hown hK hP 0 rfl rfl 6 (by decide) (hts _ q1335) (fun _ h9 => h9) rfl dX4_restore_190 ?_
              refine lv_iload_n hx hb dX4_restore_193 rfl (lv_at hl 1 rfl) ?_
              obtain ⟨k46, hf⟩ := ck_not hf
              refine va_iald (D := D) hx hb hK hP 3 0 rfl rfl k46 dX4_restore_194 ?_
              obtain ⟨k47, hf⟩ := ck_not hf
              refine va_iald (D := D) hx hb hK hP 1 0 rfl rfl k47 dX4_restore_195 ?_
              refine lv_icmp_le (tgt := 240) hx hb dX4_restore_196 (by decide) (fun c48 => ?_) (fun c48 => ?_)
              · have hf := br_pos c48 hf
                refine lv_iload_n hx hb dX4_restore_240 rfl (lv_at hl 2 rfl) ?_
                cases hf
                exact end_i hAe hQm hx hb hr hlocks rfl hP hD hS dX4_restore_241
              · have hf := br_neg c48 hf
                refine lv_iconst (v := 0) hx hb dX4_restore_199 (by decide) ?_
                refine lv_istore (lv' := [(4, .int 0), (0, .ref (ad 0)), (2, .int p2), (3, .int x40)]) hx hb dX4_restore_200 hl (by decide) rfl (fun ls hl => ?_)
                obtain ⟨mblocks_59, h58, hf⟩ := bnd hf
                refine L202 FU p2 0 0 mblocks_41 mblocksT_42 mblocks_59 h58 _ _ _ hP hD hS (lv_sub hl [1, 2, 0] rfl) (fun H locs ls hP hD hS hl => ?_)
                refine lv_aload_n hx hb dX4_restore_234 rfl (lv_at hl 0 rfl) ?_
                refine lv_iconst (v := 4) hx hb dX4_restore_235 (by decide) ?_
                obtain ⟨⟨r60, mcode_61⟩, h62, hf⟩ := bnd hf
                refine call_vi (rest := []) (m_M_fails l ca ad lq 0 mday mown mquot mprom mfiles mowner mlinks mblocks_59 mvals msnaps mranks mkept mshot mwas mholds mheld mends mopen mentr mkinds misop mfilesT mentrT mpromT mlinksT mblocksT_42 mvalsT R _ 4 r60 mcode_61 h62) ⟨hx, hb, hml, hown, hts⟩ (cwV 1 hts (gV q1428 q1430 q23 q50 q1431) rfl rfl rfl (by decide +kernel) ⟨Nat.le_of_ble_eq_true rfl, Nat.le_of_ble_eq_true rfl⟩) (va_recv hK hP (ci := 8) (q0 := 0) rfl rfl) hE hP hD hS hA rfl hl.1 rfl (lv_room (Nat.le_of_ble_eq_true rfl)) dX4_restore_236 ⟨Nat.le_of_ble_eq_true rfl, Nat.le_of_ble_eq_true rfl⟩ (fun H locs hP hD hS => ?_)
                cases hf
                exact end_i hAe hQm hx hb hr hlocks rfl hP hD hS dX4_restore_239
            · have hf := br_pos c22 hf
              refine lv_aload_n hx hb dX4_restore_72 rfl (lv_at hl 0 rfl) ?_
              refine lv_iconst (v := 3) hx hb dX4_restore_73 (by decide) ?_
              obtain ⟨⟨r63, mcode_64⟩, h65, hf⟩ := bnd hf
              refine call_vi (rest := []) (m_M_fails l ca ad lq 0 mday mown mquot mprom mfiles mowner mlinks mblocks mvals msnaps mranks mkept mshot mwas mholds mheld mends mopen mentr mkinds misop mfilesT mentrT mpromT mlinksT mblocksT mvalsT R _ 3 r63 mcode_64 h65) ⟨hx, hb, hml, hown, hts⟩ (cwV 1 hts (gV q1428 q1430 q23 q50 q1431) rfl rfl rfl (by decide +kernel) ⟨Nat.le_of_ble_eq_true rfl, Nat.le_of_ble_eq_true rfl⟩) (va_recv hK hP (ci := 8) (q0 := 0) rfl rfl) hE hP hD hS hA rfl hl.1 rfl (lv_room (Nat.le_of_ble_eq_true rfl)) dX4_restore_74 ⟨Nat.le_of_ble_eq_true rfl, Nat.le_of_ble_eq_true rfl⟩ (fun H locs hP hD hS => ?_)
              cases hf
              exact end_i hAe hQm hx hb hr hlocks rfl hP hD hS dX4_restore_77
        · have hf := br_pos c16 hf
          refine lv_aload_n hx hb dX4_restore_50 rfl (lv_at hl 0 rfl) ?_
          refine lv_iconst (v := 2) hx hb dX4_restore_51 (by decide) ?_
          obtain ⟨⟨r66, mcode_67⟩, h68, hf⟩ := bnd hf
          refine call_vi (rest := []) (m_M_fails l ca ad lq 0 mday mown mquot mprom mfiles mowner mlinks mblocks mvals msnaps mranks mkept mshot mwas mholds mheld mends mopen mentr mkinds misop mfilesT mentrT mpromT mlinksT mblocksT mvalsT R _ 2 r66 mcode_67 h68) ⟨hx, hb, hml, hown, hts⟩ (cwV 1 hts (gV q1428 q1430 q23 q50 q1431) rfl rfl rfl (by decide +kernel) ⟨Nat.le_of_ble_eq_true rfl, Nat.le_of_ble_eq_true rfl⟩) (va_recv hK hP (ci := 8) (q0 := 0) rfl rfl) hE hP hD hS hA rfl hl.1 rfl (lv_room (Nat.le_of_ble_eq_true rfl)) dX4_restore_52 ⟨Nat.le_of_ble_eq_true rfl, Nat.le_of_ble_eq_true rfl⟩ (fun H locs hP hD hS => ?_)
          cases hf
          exact end_i hAe hQm hx hb hr hlocks rfl hP hD hS dX4_restore_55
    · have hf := br_pos c9 hf
      refine lv_aload_n hx hb dX4_restore_21 rfl (lv_at hl 0 rfl) ?_
      refine lv_iconst (v := 1) hx hb dX4_restore_22 (by decide) ?_
      obtain ⟨⟨r69, mcode_70⟩, h71, hf⟩ := bnd hf
      refine call_vi (rest := []) (m_M_fails l ca ad lq 0 mday mown mquot mprom mfiles mowner mlinks mblocks mvals msnaps mranks mkept mshot mwas mholds mheld mends mopen mentr mkinds misop mfilesT mentrT mpromT mlinksT mblocksT mvalsT R _ 1 r69 mcode_70 h71) ⟨hx, hb, hml, hown, hts⟩ (cwV 1 hts (gV q1428 q1430 q23 q50 q1431) rfl rfl rfl (by decide +kernel) ⟨Nat.le_of_ble_eq_true rfl, Nat.le_of_ble_eq_true rfl⟩) (va_recv hK hP (ci := 8) (q0 := 0) rfl rfl) hE hP hD hS hA rfl hl.1 rfl (lv_room (Nat.le_of_ble_eq_true rfl)) dX4_restore_23 ⟨Nat.le_of_ble_eq_true rfl, Nat.le_of_ble_eq_true rfl⟩ (fun H locs hP hD hS => ?_)
      cases hf
      exact end_i hAe hQm hx hb hr hlocks rfl hP hD hS dX4_restore_26
def f_M_openHold (p1 : Int32) (p2 : Int32) (mday : Int32) (mfiles : Int32) (mlinks : Nat → Int32) (mholds : Int32) (mheld : Nat → Int32) (mends : Nat → Int32) (mopen : Nat → Int32) (misop : Int32) : Option (Int32 × Int32 × Int32 × (Nat → Int32) × (Nat → Int32) × (Nat → Int32)) :=
  (f_M_isFile p1 mfiles).bind fun r1 =>
  if r1 = 0 then
    (f_M_fails 1).bind fun (r27, mcode_28) =>
    some (r27, mcode_28, mholds, mheld, mends, mopen)
  else
    (f_M_in p2 1 99).bind fun r4 =>
    if r4 = 0 then
      (f_M_fails 2).bind fun (r24, mcode_25) =>
      some (r24, mcode_25, mholds, mheld, mends, mopen)
    else
      if misop = 0 then
        (f_M_exists p1 mlinks mholds mheld mopen).bind fun r11 =>
        if r11 = 0 then
          (f_M_fails 3).bind fun (r14, mcode_15) =>
          some (r14, mcode_15, mholds, mheld, mends, mopen)
        else
          if mholds = 30 then
            (f_M_fails 3).bind fun (r21, mcode_22) =>
            some (r21, mcode_22, mholds, mheld, mends, mopen)
          else
            if mholds < 0 ∨ 30 ≤ mholds.toNatClampNeg then none else
              if mholds < 0 ∨ 30 ≤ mholds.toNatClampNeg then none else
              if mholds < 0 ∨ 30 ≤ mholds.toNatClampNeg then none else
              some (((mholds + 1) - 1), 0, (mholds + 1), (upd mheld mholds.toNatClampNeg p1), (upd mends mholds.toNatClampNeg (mday + p2)), (upd mopen mholds.toNatClampNeg (vp_nar .boolean 1)))
      else
        (f_M_fails 3).bind fun (r8, mcode_9) =>
        some (r8, mcode_9, mholds, mheld, mends, mopen)
set_option maxHeartbeats 4000000 in
set_option maxRecDepth 100000 in
theorem m_M_openHold (l : Launch) {D : va_G} {sl : List (String × Nat × String)} (ca : Nat → ClassId) (ad : Nat → Nat) (lq : Nat) (mcode : Int32) (mday : Int32) (mown : Int32) (mquot : Nat → Int32) (mprom : Nat → Int32) (mfiles : Int32) (mowner : Nat → Int32) (mlinks : Nat → Int32) (mblocks : Nat → Int32) (mvals : Nat → Int32) (msnaps : Int32) (mranks : Nat → Int32) (mkept : Nat → Int32) (mshot : Nat → Int32) (mwas : Nat → Int32) (mholds : Int32) (mheld : Nat → Int32) (mends : Nat → Int32) (mopen : Nat → Int32) (mentr : Int32) (mkinds : Nat → Int32) (misop : Int32) (mfilesT : Int32) (mentrT : Int32) (mpromT : Nat → Int32) (mlinksT : Nat → Int32) (mblocksT : Nat → Int32) (mvalsT : Nat → Int32) (R : va_W) (sz : Nat) (p1 : Int32) (p2 : Int32) (ro : Int32) (omcode : Int32) (omholds : Int32) (omheld : Nat → Int32) (omends : Nat → Int32) (omopen : Nat → Int32) (hf : f_M_openHold p1 p2 mday mfiles mlinks mholds mheld mends mopen misop = some (ro, omcode, omholds, omheld, omends, omopen)) : Met l yX4_openHold (wm yX4_openHold cX4_openHold 3 (some .int)) ({ frames := 2, cells := 0, slots := 0, locals := 44 } : Room) (PRE [.ref (ad 0), .int p1, .int p2] D ca sl (WM ca ad lq mcode mday mown mquot mprom mfiles mowner mlinks mblocks mvals msnaps mranks mkept mshot mwas mholds mheld mends mopen mentr mkinds misop mfilesT mentrT mpromT mlinksT mblocksT mvalsT ++ R) sz) (QI ro D (WM ca ad lq omcode mday mown mquot mprom mfiles mowner mlinks mblocks mvals msnaps mranks mkept mshot mwas omholds omheld omends omopen mentr mkinds misop mfilesT mentrT mpromT mlinksT mblocksT mvalsT ++ R) (WM ca ad lq mcode mday mown mquot mprom mfiles mowner mlinks mblocks mvals msnaps mranks mkept mshot mwas mholds mheld mends mopen mentr mkinds misop mfilesT mentrT mpromT mlinksT mblocksT mvalsT ++ R) sz) 0 0 (va_A (WM ca ad lq mcode mday mown mquot mprom mfiles mowner mlinks mblocks mvals msnaps mranks mkept mshot mwas mholds mheld mends mopen mentr mkinds misop mfilesT mentrT mpromT mlinksT mblocksT mvalsT ++ R) sz) := by
  refine Met.ofW (cc := cX4_openHold) (maxL := 3) (ret := (some .int)) (by decide) rfl ?_
  intro p e s m args below meth c s₁ B hml hv
  obtain ⟨rfl, rfl, hP, hE, hD0⟩ := hv
  have hx := B.exec
  have hb := B.bytes
  have hr := B.returns
  have hts := wm_ww (atoms_spec (ws := wm yX4_openHold cX4_openHold 3 (some .int)) B.pre)
  have hown : s.vm.findClass RX4 = some m.cls := findClass_of_methodNamed B.named
  have hlocks := B.notSynchronized
  have hK := hE.1
  have hD := hD0.self (sz := s.heap.size)
  generalize hAe : va_A (WM ca ad lq mcode mday mown mquot mprom mfiles mowner mlinks mblocks mvals msnaps mranks mkept mshot mwas mholds mheld mends mopen mentr mkinds misop mfilesT mentrT mpromT mlinksT mblocksT mvalsT ++ R) s.heap.size = A at hD ⊢
  have hA : ∀ q : Nat, s.heap.size ≤ q → A q := fun q h => by rw [← hAe]; exact Or.inr h
  have hS : va_S A s.heap s.heap [] := va_S.rf
  have hl := lv_entry ([.ref (ad 0), .int p1, .int p2]) (n := 3) (Nat.le_of_ble_eq_true rfl)
  rw [lg_entry_eq]
  generalize (lg_sl ([.ref (ad 0), .int p1, .int p2]) ++ List.replicate (3 - (lg_sl ([.ref (ad 0), .int p1, .int p2])).length) Slot.unset).toArray = ls at hl ⊢
  have hl : lv_has ls 3 [(0, .ref (ad 0)), (1, .int p1), (2, .int p2)] := hl
  change W p l e ({ frames := 2, cells := 0, slots := 0, locals := 44 } : Room) s m _ below meth c s.heap [] 0 0 _ _
  generalize hQm : MQ below (QI ro D (WM ca ad lq omcode mday mown mquot mprom mfiles mowner mlinks mblocks mvals msnaps mranks mkept mshot mwas omholds omheld omends omopen mentr mkinds misop mfilesT mentrT mpromT mlinksT mblocksT mvalsT ++ R) (WM ca ad lq mcode mday mown mquot mprom mfiles mowner mlinks mblocks mvals msnaps mranks mkept mshot mwas mholds mheld mends mopen mentr mkinds misop mfilesT mentrT mpromT mlinksT mblocksT mvalsT ++ R) s.heap.size) _ s 0 0 A = Qm
  have hP : va_P D vwCl (WM ca ad lq mcode mday mown mquot mprom mfiles mowner mlinks mblocks mvals msnaps mranks mkept mshot mwas mholds mheld mends mopen mentr mkinds misop mfilesT mentrT mpromT mlinksT mblocksT mvalsT ++ R) s.heap := hP
  generalize hae : ([.ref (ad 0), .int p1, .int p2] : List Value).toArray = args at hts hQm ⊢
  refine lv_aload_n hx hb dX4_openHold_0 rfl (lv_at hl 0 rfl) ?_
  refine lv_iconst (v := 0) hx hb dX4_openHold_1 (by decide) ?_
  refine va_put (D := D) (ci := 8) (v := .int 0) (ty := .int) (C := RX4) (T := TX4) (N := 29) hx hb hts inX4 tyX4 tyX4_ok nmX4 hown hK hP hD hS 0 rfl rfl 0 (by decide) (hts _ q1329) (fun _ h9 => h9) rfl (by decide +kernel) rfl rfl (Nat.le_of_ble_eq_true rfl) dX4_openHold_2 (fun H locs hP hD hS => ?_)
  have hP : va_P D vwCl (WM ca ad lq 0 mday mown mquot mprom mfiles mowner mlinks mblocks mvals msnaps mranks mkept mshot mwas mholds mheld mends mopen mentr mkinds misop mfilesT mentrT mpromT mlinksT mblocksT mvalsT ++ R) H := hP
  have hD : va_D A (WM ca ad lq 0 mday mown mquot mprom mfiles mowner mlinks mblocks mvals msnaps mranks mkept mshot mwas mholds mheld mends mopen mentr mkinds misop mfilesT mentrT mpromT mlinksT mblocksT mvalsT ++ R) := hD
  refine lv_aload_n hx hb dX4_openHold_5 rfl (lv_at hl 0 rfl) ?_
  refine lv_iload_n hx hb dX4_openHold_6 rfl (lv_at hl 1 rfl) ?_
  obtain ⟨r1, h2, hf⟩ := bnd hf
  refine call_vi (rest := []) (m_M_isFile l ca ad lq 0 mday mown mquot mprom mfiles mowner mlinks mblocks mvals msnaps mranks mkept mshot mwas mholds mheld mends mopen mentr mkinds misop mfilesT mentrT mpromT mlinksT mblocksT mvalsT R _ p1 r1 h2) ⟨hx, hb, hml, hown, hts⟩ (cwV 1 hts (gV q1452 q1454 q26 q50 q1455) rfl rfl rfl (by decide +kernel) ⟨Nat.le_of_ble_eq_true rfl, Nat.le_of_ble_eq_true rfl⟩) (va_recv hK hP (ci := 8) (q0 := 0) rfl rfl) hE hP hD hS hA rfl hl.1 rfl (lv_room (Nat.le_of_ble_eq_true rfl)) dX4_openHold_7 ⟨Nat.le_of_ble_eq_true rfl, Nat.le_of_ble_eq_true rfl⟩ (fun H locs hP hD hS => ?_)
  refine lv_if_ne (tgt := 19) hx hb dX4_openHold_10 (by decide) (fun c3 => ?_) (fun c3 => ?_)
  · have hf := br_neg c3 hf
    refine lv_iload_n hx hb dX4_openHold_19 rfl (lv_at hl 2 rfl) ?_
    refine lv_iconst (v := 1) hx hb dX4_openHold_20 (by decide) ?_
    refine lv_bipush (v := 99) hx hb dX4_openHold_21 (by decide) ?_
    obtain ⟨r4, h5, hf⟩ := bnd hf
    refine call_si (rest := []) (m_M_in l ca ad lq 0 mday mown mquot mprom mfiles mowner mlinks mblocks mvals msnaps mranks mkept mshot mwas mholds mheld mends mopen mentr mkinds misop mfilesT mentrT mpromT mlinksT mblocksT mvalsT R _ p2 1 99 r4 h5) ⟨hx, hb, hml, hown, hts⟩ (va_cwS 3 hts (gS q1425 q1426 q50 q1427) rfl rfl rfl (by decide +kernel) ⟨Nat.le_of_ble_eq_true rfl, Nat.le_of_ble_eq_true rfl⟩) hE hP hD hS hA rfl hl.1 rfl (lv_room (Nat.le_of_ble_eq_true rfl)) dX4_openHold_23 ⟨Nat.le_of_ble_eq_true rfl, Nat.le_of_ble_eq_true rfl⟩ (fun H locs hP hD hS => ?_)
    refine lv_if_ne (tgt := 35) hx hb dX4_openHold_26 (by decide) (fun c6 => ?_) (fun c6 => ?_)
    · have hf := br_neg c6 hf
      refine lv_aload_n hx hb dX4_openHold_35 rfl (lv_at hl 0 rfl) ?_
      refine va_get (D := D) (ci := 8) (v := .int misop) (C := RX4) (T := TX4) (N := 29) hx hb hts inX4 hown hK hP 0 rfl rfl 21 (by decide) (hts _ q1350) (fun _ h9 => h9) rfl dX4_openHold_36 ?_
      refine lv_if_ne (tgt := 59) hx hb dX4_openHold_39 (by decide) (fun c7 => ?_) (fun c7 => ?_)
      · have hf := br_neg c7 hf
        refine lv_aload_n hx hb dX4_openHold_59 rfl (lv_at hl 0 rfl) ?_
        refine lv_iconst (v := 3) hx hb dX4_openHold_60 (by decide) ?_
        obtain ⟨⟨r8, mcode_9⟩, h10, hf⟩ := bnd hf
        refine call_vi (rest := []) (m_M_fails l ca ad lq 0 mday mown mquot mprom mfiles mowner mlinks mblocks mvals msnaps mranks mkept mshot mwas mholds mheld mends mopen mentr mkinds misop mfilesT mentrT mpromT mlinksT mblocksT mvalsT R _ 3 r8 mcode_9 h10) ⟨hx, hb, hml, hown, hts⟩ (cwV 1 hts (gV q1428 q1430 q23 q50 q1431) rfl rfl rfl (by decide +kernel) ⟨Nat.le_of_ble_eq_true rfl, Nat.le_of_ble_eq_true rfl⟩) (va_recv hK hP (ci := 8) (q0 := 0) rfl rfl) hE hP hD hS hA rfl hl.1 rfl (lv_room (Nat.le_of_ble_eq_true rfl)) dX4_openHold_61 ⟨Nat.le_of_ble_eq_true rfl, Nat.le_of_ble_eq_true rfl⟩ (fun H locs hP hD hS => ?_)
        cases hf
        exact end_i hAe hQm hx hb hr hlocks rfl hP hD hS dX4_openHold_64
      · have hf := br_pos c7 hf
        refine lv_aload_n hx hb dX4_openHold_42 rfl (lv_at hl 0 rfl) ?_
        refine lv_iload_n hx hb dX4_openHold_43 rfl (lv_at hl 1 rfl) ?_
        obtain ⟨r11, h12, hf⟩ := bnd hf
        refine call_vi (rest := []) (m_M_exists l ca ad lq 0 mday mown mquot mprom mfiles mowner mlinks mblocks mvals msnaps mranks mkept mshot mwas mholds mheld mends mopen mentr mkinds misop mfilesT mentrT mpromT mlinksT mblocksT mvalsT R _ p1 r11 h12) ⟨hx, hb, hml, hown, hts⟩ (cwV 1 hts (gV q1456 q1458 q27 q50 q1459) rfl rfl rfl (by decide +kernel) ⟨Nat.le_of_ble_eq_true rfl, Nat.le_of_ble_eq_true rfl⟩) (va_recv hK hP (ci := 8) (q0 := 0) rfl rfl) hE hP hD hS hA rfl hl.1 rfl (lv_room (Nat.le_of_ble_eq_true rfl)) dX4_openHold_44 ⟨Nat.le_of_ble_eq_true rfl, Nat.le_of_ble_eq_true rfl⟩ (fun H locs hP hD hS => ?_)
        refine lv_if_eq (tgt := 59) hx hb dX4_openHold_47 (by decide) (fun c13 => ?_) (fun c13 => ?_)
        · have hf := br_pos c13 hf
          refine lv_aload_n hx hb dX4_openHold_59 rfl (lv_at hl 0 rfl) ?_
          refine lv_iconst (v := 3) hx hb dX4_openHold_60 (by decide) ?_
          obtain ⟨⟨r14, mcode_15⟩, h16, hf⟩ := bnd hf
          refine call_vi (rest := []) (m_M_fails l ca ad lq 0 mday mown mquot mprom mfiles mowner mlinks mblocks mvals msnaps mranks mkept mshot mwas mholds mheld mends mopen mentr mkinds misop mfilesT mentrT mpromT mlinksT mblocksT mvalsT R _ 3 r14 mcode_15 h16) ⟨hx, hb, hml, hown, hts⟩ (cwV 1 hts (gV q1428 q1430 q23 q50 q1431) rfl rfl rfl (by decide +kernel) ⟨Nat.le_of_ble_eq_true rfl, Nat.le_of_ble_eq_true rfl⟩) (va_recv hK hP (ci := 8) (q0 := 0) rfl rfl) hE hP hD hS hA rfl hl.1 rfl (lv_room (Nat.le_of_ble_eq_true rfl)) dX4_openHold_61 ⟨Nat.le_of_ble_eq_true rfl, Nat.le_of_ble_eq_true rfl⟩ (fun H locs hP hD hS => ?_)
          cases hf
          exact end_i hAe hQm hx hb hr hlocks rfl hP hD hS dX4_openHold_64
        · have hf := br_neg c13 hf
          refine lv_aload_n hx hb dX4_openHold_50 rfl (lv_at hl 0 rfl) ?_
          refine va_get (D := D) (ci := 8) (v := .int mholds) (C := RX4) (T := TX4) (N := 29) hx hb hts inX4 hown hK hP 0 rfl rfl 15 (by decide) (hts _ q1344) (fun _ h9 => h9) rfl dX4_openHold_51 ?_
          refine lv_bipush (v := 30) hx hb dX4_openHold_54 (by decide) ?_
          refine lv_icmp_ne (tgt := 65) hx hb dX4_openHold_56 (by decide) (fun c17 => ?_) (fun c17 => ?_)
          · have hf := br_neg c17 hf
            refine lv_aload_n hx hb dX4_openHold_65 rfl (lv_at hl 0 rfl) ?_
            refine va_get (D := D) (ci := 8) (v := .ref (ad 11)) (C := RX4) (T := TX4) (N := 29) hx hb hts inX4 hown hK hP 0 rfl rfl 16 (by decide) (hts _ q1345) (fun _ h9 => h9) rfl dX4_openHold_66 ?_
            refine lv_aload_n hx hb dX4_openHold_69 rfl (lv_at hl 0 rfl) ?_
            refine va_get (D := D) (ci := 8) (v := .int mholds) (C := RX4) (T := TX4) (N := 29) hx hb hts inX4 hown hK hP 0 rfl rfl 15 (by decide) (hts _ q1344) (fun _ h9 => h9) rfl dX4_openHold_70 ?_
            refine lv_iload_n hx hb dX4_openHold_73 rfl (lv_at hl 1 rfl) ?_
            obtain ⟨k18, hf⟩ := ck_not hf
            refine va_iast (D := D) hx hb hK hP hD hS 11 0 rfl rfl k18 dX4_openHold_74 (fun H locs hP hD hS => ?_)
            have hP : va_P D vwCl (WM ca ad lq 0 mday mown mquot mprom mfiles mowner mlinks mblocks mvals msnaps mranks mkept mshot mwas mholds (upd mheld mholds.toNatClampNeg p1) mends mopen mentr mkinds misop mfilesT mentrT mpromT mlinksT mblocksT mvalsT ++ R) H := hP
            have hD : va_D A (WM ca ad lq 0 mday mown mquot mprom mfiles mowner mlinks mblocks mvals msnaps mranks mkept mshot mwas mholds (upd mheld mholds.toNatClampNeg p1) mends mopen mentr mkinds misop mfilesT mentrT mpromT mlinksT mblocksT mvalsT ++ R) := hD
            refine lv_aload_n hx hb dX4_openHold_75 rfl (lv_at hl 0 rfl) ?_
            refine va_get (D := D) (ci := 8) (v := .ref (ad 12)) (C := RX4) (T := TX4) (N := 29) hx hb hts inX4 hown hK hP 0 rfl rfl 17 (by decide) (hts _ q1346) (fun _ h9 => h9) rfl dX4_openHold_76 ?_
            refine lv_aload_n hx hb dX4_openHold_79 rfl (lv_at hl 0 rfl) ?_
            refine va_get (D := D) (ci := 8) (v := .int mholds) (C := RX4) (T := TX4) (N := 29) hx hb hts inX4 hown hK hP 0 rfl rfl 15 (by decide) (hts _ q1344) (fun _ h9 => h9) rfl dX4_openHold_80 ?_
            refine lv_aload_n hx hb dX4_openHold_83 rfl (lv_at hl 0 rfl) ?_
            refine va_get (D := D) (ci := 8) (v := .int mday) (C := RX4) (T := TX4) (N := 29) hx hb hts inX4 hown hK hP 0 rfl rfl 1 (by decide) (hts _ q1330) (fun _ h9 => h9) rfl dX4_openHold_84 ?_
            refine lv_iload_n hx hb dX4_openHold_87 rfl (lv_at hl 2 rfl) ?_
            refine lv_iadd hx hb dX4_openHold_88 ?_
            obtain ⟨k19, hf⟩ := ck_not hf
            refine va_iast (D := D) hx hb hK hP hD hS 12 0 rfl rfl k19 dX4_openHold_89 (fun H locs hP hD hS => ?_)
            have hP : va_P D vwCl (WM ca ad lq 0 mday mown mquot mprom mfiles mowner mlinks mblocks mvals msnaps mranks mkept mshot mwas mholds (upd mheld mholds.toNatClampNeg p1) (upd mends mholds.toNatClampNeg (mday + p2)) mopen mentr mkinds misop mfilesT mentrT mpromT mlinksT mblocksT mvalsT ++ R) H := hP
            have hD : va_D A (WM ca ad lq 0 mday mown mquot mprom mfiles mowner mlinks mblocks mvals msnaps mranks mkept mshot mwas mholds (upd mheld mholds.toNatClampNeg p1) (upd mends mholds.toNatClampNeg (mday + p2)) mopen mentr mkinds misop mfilesT mentrT mpromT mlinksT mblocksT mvalsT ++ R) := hD
            refine lv_aload_n hx hb dX4_openHold_90 rfl (lv_at hl 0 rfl) ?_
            refine va_get (D := D) (ci := 8) (v := .ref (ad 13)) (C := RX4) (T := TX4) (N := 29) hx hb hts inX4 hown hK hP 0 rfl rfl 18 (by decide) (hts _ q1347) (fun _ h9 => h9) rfl dX4_openHold_91 ?_
            refine lv_aload_n hx hb dX4_openHold_94 rfl (lv_at hl 0 rfl) ?_
            refine va_get (D := D) (ci := 8) (v := .int mholds) (C := RX4) (T := TX4) (N := 29) hx hb hts inX4 hown hK hP 0 rfl rfl 15 (by decide) (hts _ q1344) (fun _ h9 => h9) rfl dX4_openHold_95 ?_
            refine lv_iconst (v := 1) hx hb dX4_openHold_98 (by decide) ?_
            obtain ⟨k20, hf⟩ := ck_not hf
            refine va_zast (D := D) hx hb hK hP hD hS 13 1 rfl rfl k20 dX4_openHold_99 (fun H locs hP hD hS => ?_)
            have hP : va_P D vwCl (WM ca ad lq 0 mday mown mquot mprom mfiles mowner mlinks mblocks mvals msnaps mranks mkept mshot mwas mholds (upd mheld mholds.toNatClampNeg p1) (upd mends mholds.toNatClampNeg (mday + p2)) (upd mopen mholds.toNatClampNeg (vp_nar .boolean 1)) mentr mkinds misop mfilesT mentrT mpromT mlinksT mblocksT mvalsT ++ R) H := hP
            have hD : va_D A (WM ca ad lq 0 mday mown mquot mprom mfiles mowner mlinks mblocks mvals msnaps mranks mkept mshot mwas mholds (upd mheld mholds.toNatClampNeg p1) (upd mends mholds.toNatClampNeg (mday + p2)) (upd mopen mholds.toNatClampNeg (vp_nar .boolean 1)) mentr mkinds misop mfilesT mentrT mpromT mlinksT mblocksT mvalsT ++ R) := hD
            refine lv_aload_n hx hb dX4_openHold_100 rfl (lv_at hl 0 rfl) ?_
            refine lv_dup hx hb dX4_openHold_101 rfl ?_
            refine va_get (D := D) (ci := 8) (v := .int mholds) (C := RX4) (T := TX4) (N := 29) hx hb hts inX4 hown hK hP 0 rfl rfl 15 (by decide) (hts _ q1344) (fun _ h9 => h9) rfl dX4_openHold_102 ?_
            refine lv_iconst (v := 1) hx hb dX4_openHold_105 (by decide) ?_
            refine lv_iadd hx hb dX4_openHold_106 ?_
            refine va_put (D := D) (ci := 8) (v := .int (mholds + 1)) (ty := .int) (C := RX4) (T := TX4) (N := 29) hx hb hts inX4 tyX4 tyX4_ok nmX4 hown hK hP hD hS 0 rfl rfl 15 (by decide) (hts _ q1344) (fun _ h9 => h9) rfl (by decide +kernel) rfl rfl (Nat.le_of_ble_eq_true rfl) dX4_openHold_107 (fun H locs hP hD hS => ?_)
            have hP : va_P D vwCl (WM ca ad lq 0 mday mown mquot mprom mfiles mowner mlinks mblocks mvals msnaps mranks mkept mshot mwas (mholds + 1) (upd mheld mholds.toNatClampNeg p1) (upd mends mholds.toNatClampNeg (mday + p2)) (upd mopen mholds.toNatClampNeg (vp_nar .boolean 1)) mentr mkinds misop mfilesT mentrT mpromT mlinksT mblocksT mvalsT ++ R) H := hP
            have hD : va_D A (WM ca ad lq 0 mday mown mquot mprom mfiles mowner mlinks mblocks mvals msnaps mranks mkept mshot mwas (mholds + 1) (upd mheld mholds.toNatClampNeg p1) (upd mends mholds.toNatClampNeg (mday + p2)) (upd mopen mholds.toNatClampNeg (vp_nar .boolean 1)) mentr mkinds misop mfilesT mentrT mpromT mlinksT mblocksT mvalsT ++ R) := hD
            refine lv_aload_n hx hb dX4_openHold_110 rfl (lv_at hl 0 rfl) ?_
            refine va_get (D := D) (ci := 8) (v := .int (mholds + 1)) (C := RX4) (T := TX4) (N := 29) hx hb hts inX4 hown hK hP 0 rfl rfl 15 (by decide) (hts _ q1344) (fun _ h9 => h9) rfl dX4_openHold_111 ?_
            refine lv_iconst (v := 1) hx hb dX4_openHold_114 (by decide) ?_
            refine lv_isub hx hb dX4_openHold_115 ?_
            cases hf
            exact end_i hAe hQm hx hb hr hlocks rfl hP hD hS dX4_openHold_116
          · have hf := br_pos c17 hf
            refine lv_aload_n hx hb dX4_openHold_59 rfl (lv_at hl 0 rfl) ?_
            refine lv_iconst (v := 3) hx hb dX4_openHold_60 (by decide) ?_
            obtain ⟨⟨r21, mcode_22⟩, h23, hf⟩ := bnd hf
            refine call_vi (rest := []) (m_M_fails l ca ad lq 0 mday mown mquot mprom mfiles mowner mlinks mblocks mvals msnaps mranks mkept mshot mwas mholds mheld mends mopen mentr mkinds misop mfilesT mentrT mpromT mlinksT mblocksT mvalsT R _ 3 r21 mcode_22 h23) ⟨hx, hb, hml, hown, hts⟩ (cwV 1 hts (gV q1428 q1430 q23 q50 q1431) rfl rfl rfl (by decide +kernel) ⟨Nat.le_of_ble_eq_true rfl, Nat.le_of_ble_eq_true rfl⟩) (va_recv hK hP (ci := 8) (q0 := 0) rfl rfl) hE hP hD hS hA rfl hl.1 rfl (lv_room (Nat.le_of_ble_eq_true rfl)) dX4_openHold_61 ⟨Nat.le_of_ble_eq_true rfl, Nat.le_of_ble_eq_true rfl⟩ (fun H locs hP hD hS => ?_)
            cases hf
            exact end_i hAe hQm hx hb hr hlocks rfl hP hD hS dX4_openHold_64
    · have hf := br_pos c6 hf
      refine lv_aload_n hx hb dX4_openHold_29 rfl (lv_at hl 0 rfl) ?_
      refine lv_iconst (v := 2) hx hb dX4_openHold_30 (by decide) ?_
      obtain ⟨⟨r24, mcode_25⟩, h26, hf⟩ := bnd hf
      refine call_vi (rest := []) (m_M_fails l ca ad lq 0 mday mown mquot mprom mfiles mowner mlinks mblocks mvals msnaps mranks mkept mshot mwas mholds mheld mends mopen mentr mkinds misop mfilesT mentrT mpromT mlinksT mblocksT mvalsT R _ 2 r24 mcode_25 h26) ⟨hx, hb, hml, hown, hts⟩ (cwV 1 hts (gV q1428 q1430 q23 q50 q1431) rfl rfl rfl (by decide +kernel) ⟨Nat.le_of_ble_eq_true rfl, Nat.le_of_ble_eq_true rfl⟩) (va_recv hK hP (ci := 8) (q0 := 0) rfl rfl) hE hP hD hS hA rfl hl.1 rfl (lv_room (Nat.le_of_ble_eq_true rfl)) dX4_openHold_31 ⟨Nat.le_of_ble_eq_true rfl, Nat.le_of_ble_eq_true rfl⟩ (fun H locs hP hD hS => ?_)
      cases hf
      exact end_i hAe hQm hx hb hr hlocks rfl hP hD hS dX4_openHold_34
  · have hf := br_pos c3 hf
    refine lv_aload_n hx hb dX4_openHold_13 rfl (lv_at hl 0 rfl) ?_
    refine lv_iconst (v := 1) hx hb dX4_openHold_14 (by decide) ?_
    obtain ⟨⟨r27, mcode_28⟩, h29, hf⟩ := bnd hf
    refine call_vi (rest := []) (m_M_fails l ca ad lq 0 mday mown mquot mprom mfiles mowner mlinks mblocks mvals msnaps mranks mkept mshot mwas mholds mheld mends mopen mentr mkinds misop mfilesT mentrT mpromT mlinksT mblocksT mvalsT R _ 1 r27 mcode_28 h29) ⟨hx, hb, hml, hown, hts⟩ (cwV 1 hts (gV q1428 q1430 q23 q50 q1431) rfl rfl rfl (by decide +kernel) ⟨Nat.le_of_ble_eq_true rfl, Nat.le_of_ble_eq_true rfl⟩) (va_recv hK hP (ci := 8) (q0 := 0) rfl rfl) hE hP hD hS hA rfl hl.1 rfl (lv_room (Nat.le_of_ble_eq_true rfl)) dX4_openHold_15 ⟨Nat.le_of_ble_eq_true rfl, Nat.le_of_ble_eq_true rfl⟩ (fun H locs hP hD hS => ?_)
    cases hf
    exact end_i hAe hQm hx hb hr hlocks rfl hP hD hS dX4_openHold_18
def f_M_release (p1 : Int32) (mlinks : Nat → Int32) (mblocks : Nat → Int32) (mholds : Int32) (mheld : Nat → Int32) (mopen : Nat → Int32) (misop : Int32) : Option (Int32 × Int32 × (Nat → Int32) × (Nat → Int32)) :=
  (f_M_isHold p1 mholds).bind fun r1 =>
  if r1 = 0 then
    (f_M_fails 1).bind fun (r19, mcode_20) =>
    some (r19, mcode_20, mblocks, mopen)
  else
    if misop = 0 then
      if p1 < 0 ∨ 30 ≤ p1.toNatClampNeg then none else
        if (mopen p1.toNatClampNeg) = 0 then
        (f_M_fails 2).bind fun (r16, mcode_17) =>
        some (r16, mcode_17, mblocks, mopen)
      else
        if p1 < 0 ∨ 30 ≤ p1.toNatClampNeg then none else
          if p1 < 0 ∨ 30 ≤ p1.toNatClampNeg then none else
          (f_M_goes (mheld p1.toNatClampNeg) mlinks mblocks mholds mheld (upd mopen p1.toNatClampNeg (vp_nar .boolean 0))).bind fun (r12, mblocks_13) =>
        if r12 = 0 then
          some (0, 0, mblocks_13, (upd mopen p1.toNatClampNeg (vp_nar .boolean 0)))
        else
          some (1, 0, mblocks_13, (upd mopen p1.toNatClampNeg (vp_nar .boolean 0)))
    else
      (f_M_fails 2).bind fun (r5, mcode_6) =>
      some (r5, mcode_6, mblocks, mopen)
set_option maxHeartbeats 4000000 in
set_option maxRecDepth 100000 in
theorem m_M_release (l : Launch) {D : va_G} {sl : List (String × Nat × String)} (ca : Nat → ClassId) (ad : Nat → Nat) (lq : Nat) (mcode : Int32) (mday : Int32) (mown : Int32) (mquot : Nat → Int32) (mprom : Nat → Int32) (mfiles : Int32) (mowner : Nat → Int32) (mlinks : Nat → Int32) (mblocks : Nat → Int32) (mvals : Nat → Int32) (msnaps : Int32) (mranks : Nat → Int32) (mkept : Nat → Int32) (mshot : Nat → Int32) (mwas : Nat → Int32) (mholds : Int32) (mheld : Nat → Int32) (mends : Nat → Int32) (mopen : Nat → Int32) (mentr : Int32) (mkinds : Nat → Int32) (misop : Int32) (mfilesT : Int32) (mentrT : Int32) (mpromT : Nat → Int32) (mlinksT : Nat → Int32) (mblocksT : Nat → Int32) (mvalsT : Nat → Int32) (R : va_W) (sz : Nat) (p1 : Int32) (ro : Int32) (omcode : Int32) (omblocks : Nat → Int32) (omopen : Nat → Int32) (hf : f_M_release p1 mlinks mblocks mholds mheld mopen misop = some (ro, omcode, omblocks, omopen)) : Met l yX4_release (wm yX4_release cX4_release 2 (some .int)) ({ frames := 3, cells := 0, slots := 0, locals := 66 } : Room) (PRE [.ref (ad 0), .int p1] D ca sl (WM ca ad lq mcode mday mown mquot mprom mfiles mowner mlinks mblocks mvals msnaps mranks mkept mshot mwas mholds mheld mends mopen mentr mkinds misop mfilesT mentrT mpromT mlinksT mblocksT mvalsT ++ R) sz) (QI ro D (WM ca ad lq omcode mday mown mquot mprom mfiles mowner mlinks omblocks mvals msnaps mranks mkept mshot mwas mholds mheld mends omopen mentr mkinds misop mfilesT mentrT mpromT mlinksT mblocksT mvalsT ++ R) (WM ca ad lq mcode mday mown mquot mprom mfiles mowner mlinks mblocks mvals msnaps mranks mkept mshot mwas mholds mheld mends mopen mentr mkinds misop mfilesT mentrT mpromT mlinksT mblocksT mvalsT ++ R) sz) 0 0 (va_A (WM ca ad lq mcode mday mown mquot mprom mfiles mowner mlinks mblocks mvals msnaps mranks mkept mshot mwas mholds mheld mends mopen mentr mkinds misop mfilesT mentrT mpromT mlinksT mblocksT mvalsT ++ R) sz) := by
  refine Met.ofW (cc := cX4_release) (maxL := 2) (ret := (some .int)) (by decide) rfl ?_
  intro p e s m args below meth c s₁ B hml hv
  obtain ⟨rfl, rfl, hP, hE, hD0⟩ := hv
  have hx := B.exec
  have hb := B.bytes
  have hr := B.returns
  have hts := wm_ww (atoms_spec (ws := wm yX4_release cX4_release 2 (some .int)) B.pre)
  have hown : s.vm.findClass RX4 = some m.cls := findClass_of_methodNamed B.named
  have hlocks := B.notSynchronized
  have hK := hE.1
  have hD := hD0.self (sz := s.heap.size)
  generalize hAe : va_A (WM ca ad lq mcode mday mown mquot mprom mfiles mowner mlinks mblocks mvals msnaps mranks mkept mshot mwas mholds mheld mends mopen mentr mkinds misop mfilesT mentrT mpromT mlinksT mblocksT mvalsT ++ R) s.heap.size = A at hD ⊢
  have hA : ∀ q : Nat, s.heap.size ≤ q → A q := fun q h => by rw [← hAe]; exact Or.inr h
  have hS : va_S A s.heap s.heap [] := va_S.rf
  have hl := lv_entry ([.ref (ad 0), .int p1]) (n := 2) (Nat.le_of_ble_eq_true rfl)
  rw [lg_entry_eq]
  generalize (lg_sl ([.ref (ad 0), .int p1]) ++ List.replicate (2 - (lg_sl ([.ref (ad 0), .int p1])).length) Slot.unset).toArray = ls at hl ⊢
  have hl : lv_has ls 2 [(0, .ref (ad 0)), (1, .int p1)] := hl
  change W p l e ({ frames := 3, cells := 0, slots := 0, locals := 66 } : Room) s m _ below meth c s.heap [] 0 0 _ _
  generalize hQm : MQ below (QI ro D (WM ca ad lq omcode mday mown mquot mprom mfiles mowner mlinks omblocks mvals msnaps mranks mkept mshot mwas mholds mheld mends omopen mentr mkinds misop mfilesT mentrT mpromT mlinksT mblocksT mvalsT ++ R) (WM ca ad lq mcode mday mown mquot mprom mfiles mowner mlinks mblocks mvals msnaps mranks mkept mshot mwas mholds mheld mends mopen mentr mkinds misop mfilesT mentrT mpromT mlinksT mblocksT mvalsT ++ R) s.heap.size) _ s 0 0 A = Qm
  have hP : va_P D vwCl (WM ca ad lq mcode mday mown mquot mprom mfiles mowner mlinks mblocks mvals msnaps mranks mkept mshot mwas mholds mheld mends mopen mentr mkinds misop mfilesT mentrT mpromT mlinksT mblocksT mvalsT ++ R) s.heap := hP
  generalize hae : ([.ref (ad 0), .int p1] : List Value).toArray = args at hts hQm ⊢
  refine lv_aload_n hx hb dX4_release_0 rfl (lv_at hl 0 rfl) ?_
  refine lv_iconst (v := 0) hx hb dX4_release_1 (by decide) ?_
  refine va_put (D := D) (ci := 8) (v := .int 0) (ty := .int) (C := RX4) (T := TX4) (N := 29) hx hb hts inX4 tyX4 tyX4_ok nmX4 hown hK hP hD hS 0 rfl rfl 0 (by decide) (hts _ q1329) (fun _ h9 => h9) rfl (by decide +kernel) rfl rfl (Nat.le_of_ble_eq_true rfl) dX4_release_2 (fun H locs hP hD hS => ?_)
  have hP : va_P D vwCl (WM ca ad lq 0 mday mown mquot mprom mfiles mowner mlinks mblocks mvals msnaps mranks mkept mshot mwas mholds mheld mends mopen mentr mkinds misop mfilesT mentrT mpromT mlinksT mblocksT mvalsT ++ R) H := hP
  have hD : va_D A (WM ca ad lq 0 mday mown mquot mprom mfiles mowner mlinks mblocks mvals msnaps mranks mkept mshot mwas mholds mheld mends mopen mentr mkinds misop mfilesT mentrT mpromT mlinksT mblocksT mvalsT ++ R) := hD
  refine lv_aload_n hx hb dX4_release_5 rfl (lv_at hl 0 rfl) ?_
  refine lv_iload_n hx hb dX4_release_6 rfl (lv_at hl 1 rfl) ?_
  obtain ⟨r1, h2, hf⟩ := bnd hf
  refine call_vi (rest := []) (m_M_isHold l ca ad lq 0 mday mown mquot mprom mfiles mowner mlinks mblocks mvals msnaps mranks mkept mshot mwas mholds mheld mends mopen mentr mkinds misop mfilesT mentrT mpromT mlinksT mblocksT mvalsT R _ p1 r1 h2) ⟨hx, hb, hml, hown, hts⟩ (cwV 1 hts (gV q1600 q1602 q39 q50 q1603) rfl rfl rfl (by decide +kernel) ⟨Nat.le_of_ble_eq_true rfl, Nat.le_of_ble_eq_true rfl⟩) (va_recv hK hP (ci := 8) (q0 := 0) rfl rfl) hE hP hD hS hA rfl hl.1 rfl (lv_room (Nat.le_of_ble_eq_true rfl)) dX4_release_7 ⟨Nat.le_of_ble_eq_true rfl, Nat.le_of_ble_eq_true rfl⟩ (fun H locs hP hD hS => ?_)
  refine lv_if_ne (tgt := 19) hx hb dX4_release_10 (by decide) (fun c3 => ?_) (fun c3 => ?_)
  · have hf := br_neg c3 hf
    refine lv_aload_n hx hb dX4_release_19 rfl (lv_at hl 0 rfl) ?_
    refine va_get (D := D) (ci := 8) (v := .int misop) (C := RX4) (T := TX4) (N := 29) hx hb hts inX4 hown hK hP 0 rfl rfl 21 (by decide) (hts _ q1350) (fun _ h9 => h9) rfl dX4_release_20 ?_
    refine lv_if_ne (tgt := 35) hx hb dX4_release_23 (by decide) (fun c4 => ?_) (fun c4 => ?_)
    · have hf := br_neg c4 hf
      refine lv_aload_n hx hb dX4_release_35 rfl (lv_at hl 0 rfl) ?_
      refine lv_iconst (v := 2) hx hb dX4_release_36 (by decide) ?_
      obtain ⟨⟨r5, mcode_6⟩, h7, hf⟩ := bnd hf
      refine call_vi (rest := []) (m_M_fails l ca ad lq 0 mday mown mquot mprom mfiles mowner mlinks mblocks mvals msnaps mranks mkept mshot mwas mholds mheld mends mopen mentr mkinds misop mfilesT mentrT mpromT mlinksT mblocksT mvalsT R _ 2 r5 mcode_6 h7) ⟨hx, hb, hml, hown, hts⟩ (cwV 1 hts (gV q1428 q1430 q23 q50 q1431) rfl rfl rfl (by decide +kernel) ⟨Nat.le_of_ble_eq_true rfl, Nat.le_of_ble_eq_true rfl⟩) (va_recv hK hP (ci := 8) (q0 := 0) rfl rfl) hE hP hD hS hA rfl hl.1 rfl (lv_room (Nat.le_of_ble_eq_true rfl)) dX4_release_37 ⟨Nat.le_of_ble_eq_true rfl, Nat.le_of_ble_eq_true rfl⟩ (fun H locs hP hD hS => ?_)
      cases hf
      exact end_i hAe hQm hx hb hr hlocks rfl hP hD hS dX4_release_40
    · have hf := br_pos c4 hf
      refine lv_aload_n hx hb dX4_release_26 rfl (lv_at hl 0 rfl) ?_
      refine va_get (D := D) (ci := 8) (v := .ref (ad 13)) (C := RX4) (T := TX4) (N := 29) hx hb hts inX4 hown hK hP 0 rfl rfl 18 (by decide) (hts _ q1347) (fun _ h9 => h9) rfl dX4_release_27 ?_
      refine lv_iload_n hx hb dX4_release_30 rfl (lv_at hl 1 rfl) ?_
      obtain ⟨k8, hf⟩ := ck_not hf
      refine va_zald (D := D) hx hb hK hP 13 1 rfl rfl k8 dX4_release_31 ?_
      refine lv_if_ne (tgt := 41) hx hb dX4_release_32 (by decide) (fun c9 => ?_) (fun c9 => ?_)
      · have hf := br_neg c9 hf
        refine lv_aload_n hx hb dX4_release_41 rfl (lv_at hl 0 rfl) ?_
        refine va_get (D := D) (ci := 8) (v := .ref (ad 13)) (C := RX4) (T := TX4) (N := 29) hx hb hts inX4 hown hK hP 0 rfl rfl 18 (by decide) (hts _ q1347) (fun _ h9 => h9) rfl dX4_release_42 ?_
        refine lv_iload_n hx hb dX4_release_45 rfl (lv_at hl 1 rfl) ?_
        refine lv_iconst (v := 0) hx hb dX4_release_46 (by decide) ?_
        obtain ⟨k10, hf⟩ := ck_not hf
        refine va_zast (D := D) hx hb hK hP hD hS 13 1 rfl rfl k10 dX4_release_47 (fun H locs hP hD hS => ?_)
        have hP : va_P D vwCl (WM ca ad lq 0 mday mown mquot mprom mfiles mowner mlinks mblocks mvals msnaps mranks mkept mshot mwas mholds mheld mends (upd mopen p1.toNatClampNeg (vp_nar .boolean 0)) mentr mkinds misop mfilesT mentrT mpromT mlinksT mblocksT mvalsT ++ R) H := hP
        have hD : va_D A (WM ca ad lq 0 mday mown mquot mprom mfiles mowner mlinks mblocks mvals msnaps mranks mkept mshot mwas mholds mheld mends (upd mopen p1.toNatClampNeg (vp_nar .boolean 0)) mentr mkinds misop mfilesT mentrT mpromT mlinksT mblocksT mvalsT ++ R) := hD
        refine lv_aload_n hx hb dX4_release_48 rfl (lv_at hl 0 rfl) ?_
        refine lv_aload_n hx hb dX4_release_49 rfl (lv_at hl 0 rfl) ?_
        refine va_get (D := D) (ci := 8) (v := .ref (ad 11)) (C := RX4) (T := TX4) (N := 29) hx hb hts inX4 hown hK hP 0 rfl rfl 16 (by decide) (hts _ q1345) (fun _ h9 => h9) rfl dX4_release_50 ?_
        refine lv_iload_n hx hb dX4_release_53 rfl (lv_at hl 1 rfl) ?_
        obtain ⟨k11, hf⟩ := ck_not hf
        refine va_iald (D := D) hx hb hK hP 11 0 rfl rfl k11 dX4_release_54 ?_
        obtain ⟨⟨r12, mblocks_13⟩, h14, hf⟩ := bnd hf
        refine call_vi (rest := []) (m_M_goes l ca ad lq 0 mday mown mquot mprom mfiles mowner mlinks mblocks mvals msnaps mranks mkept mshot mwas mholds mheld mends (upd mopen p1.toNatClampNeg (vp_nar .boolean 0)) mentr mkinds misop mfilesT mentrT mpromT mlinksT mblocksT mvalsT R _ (mheld p1.toNatClampNeg) r12 mblocks_13 h14) ⟨hx, hb, hml, hown, hts⟩ (cwV 1 hts (gV q1476 q1478 q29 q50 q1479) rfl rfl rfl (by decide +kernel) ⟨Nat.le_of_ble_eq_true rfl, Nat.le_of_ble_eq_true rfl⟩) (va_recv hK hP (ci := 8) (q0 := 0) rfl rfl) hE hP hD hS hA rfl hl.1 rfl (lv_room (Nat.le_of_ble_eq_true rfl)) dX4_release_55 ⟨Nat.le_of_ble_eq_true rfl, Nat.le_of_ble_eq_true rfl⟩ (fun H locs hP hD hS => ?_)
        refine lv_if_eq (tgt := 65) hx hb dX4_release_58 (by decide) (fun c15 => ?_) (fun c15 => ?_)
        · have hf := br_pos c15 hf
          refine lv_iconst (v := 0) hx hb dX4_release_65 (by decide) ?_
          cases hf
          exact end_i hAe hQm hx hb hr hlocks rfl hP hD hS dX4_release_66
        · have hf := br_neg c15 hf
          refine lv_iconst (v := 1) hx hb dX4_release_61 (by decide) ?_
          refine lv_goto (tgt := 66) hx hb dX4_release_62 (by decide) ?_
          cases hf
          exact end_i hAe hQm hx hb hr hlocks rfl hP hD hS dX4_release_66
      · have hf := br_pos c9 hf
        refine lv_aload_n hx hb dX4_release_35 rfl (lv_at hl 0 rfl) ?_
        refine lv_iconst (v := 2) hx hb dX4_release_36 (by decide) ?_
        obtain ⟨⟨r16, mcode_17⟩, h18, hf⟩ := bnd hf
        refine call_vi (rest := []) (m_M_fails l ca ad lq 0 mday mown mquot mprom mfiles mowner mlinks mblocks mvals msnaps mranks mkept mshot mwas mholds mheld mends mopen mentr mkinds misop mfilesT mentrT mpromT mlinksT mblocksT mvalsT R _ 2 r16 mcode_17 h18) ⟨hx, hb, hml, hown, hts⟩ (cwV 1 hts (gV q1428 q1430 q23 q50 q1431) rfl rfl rfl (by decide +kernel) ⟨Nat.le_of_ble_eq_true rfl, Nat.le_of_ble_eq_true rfl⟩) (va_recv hK hP (ci := 8) (q0 := 0) rfl rfl) hE hP hD hS hA rfl hl.1 rfl (lv_room (Nat.le_of_ble_eq_true rfl)) dX4_release_37 ⟨Nat.le_of_ble_eq_true rfl, Nat.le_of_ble_eq_true rfl⟩ (fun H locs hP hD hS => ?_)
        cases hf
        exact end_i hAe hQm hx hb hr hlocks rfl hP hD hS dX4_release_40
  · have hf := br_pos c3 hf
    refine lv_aload_n hx hb dX4_release_13 rfl (lv_at hl 0 rfl) ?_
    refine lv_iconst (v := 1) hx hb dX4_release_14 (by decide) ?_
    obtain ⟨⟨r19, mcode_20⟩, h21, hf⟩ := bnd hf
    refine call_vi (rest := []) (m_M_fails l ca ad lq 0 mday mown mquot mprom mfiles mowner mlinks mblocks mvals msnaps mranks mkept mshot mwas mholds mheld mends mopen mentr mkinds misop mfilesT mentrT mpromT mlinksT mblocksT mvalsT R _ 1 r19 mcode_20 h21) ⟨hx, hb, hml, hown, hts⟩ (cwV 1 hts (gV q1428 q1430 q23 q50 q1431) rfl rfl rfl (by decide +kernel) ⟨Nat.le_of_ble_eq_true rfl, Nat.le_of_ble_eq_true rfl⟩) (va_recv hK hP (ci := 8) (q0 := 0) rfl rfl) hE hP hD hS hA rfl hl.1 rfl (lv_room (Nat.le_of_ble_eq_true rfl)) dX4_release_15 ⟨Nat.le_of_ble_eq_true rfl, Nat.le_of_ble_eq_true rfl⟩ (fun H locs hP hD hS => ?_)
    cases hf
    exact end_i hAe hQm hx hb hr hlocks rfl hP hD hS dX4_release_18
def f_M_isOpen (p1 : Int32) (mholds : Int32) (mopen : Nat → Int32) : Option (Int32 × Int32) :=
  (f_M_isHold p1 mholds).bind fun r1 =>
  if r1 = 0 then
    some (0, 1)
  else
    if p1 < 0 ∨ 30 ≤ p1.toNatClampNeg then none else
      if (mopen p1.toNatClampNeg) = 0 then
      some (0, 0)
    else
      some (1, 0)
set_option maxHeartbeats 4000000 in
set_option maxRecDepth 100000 in
theorem m_M_isOpen (l : Launch) {D : va_G} {sl : List (String × Nat × String)} (ca : Nat → ClassId) (ad : Nat → Nat) (lq : Nat) (mcode : Int32) (mday : Int32) (mown : Int32) (mquot : Nat → Int32) (mprom : Nat → Int32) (mfiles : Int32) (mowner : Nat → Int32) (mlinks : Nat → Int32) (mblocks : Nat → Int32) (mvals : Nat → Int32) (msnaps : Int32) (mranks : Nat → Int32) (mkept : Nat → Int32) (mshot : Nat → Int32) (mwas : Nat → Int32) (mholds : Int32) (mheld : Nat → Int32) (mends : Nat → Int32) (mopen : Nat → Int32) (mentr : Int32) (mkinds : Nat → Int32) (misop : Int32) (mfilesT : Int32) (mentrT : Int32) (mpromT : Nat → Int32) (mlinksT : Nat → Int32) (mblocksT : Nat → Int32) (mvalsT : Nat → Int32) (R : va_W) (sz : Nat) (p1 : Int32) (ro : Int32) (omcode : Int32) (hf : f_M_isOpen p1 mholds mopen = some (ro, omcode)) : Met l yX4_isOpen (wm yX4_isOpen cX4_isOpen 2 (some .boolean)) ({ frames := 2, cells := 0, slots := 0, locals := 43 } : Room) (PRE [.ref (ad 0), .int p1] D ca sl (WM ca ad lq mcode mday mown mquot mprom mfiles mowner mlinks mblocks mvals msnaps mranks mkept mshot mwas mholds mheld mends mopen mentr mkinds misop mfilesT mentrT mpromT mlinksT mblocksT mvalsT ++ R) sz) (QI ro D (WM ca ad lq omcode mday mown mquot mprom mfiles mowner mlinks mblocks mvals msnaps mranks mkept mshot mwas mholds mheld mends mopen mentr mkinds misop mfilesT mentrT mpromT mlinksT mblocksT mvalsT ++ R) (WM ca ad lq mcode mday mown mquot mprom mfiles mowner mlinks mblocks mvals msnaps mranks mkept mshot mwas mholds mheld mends mopen mentr mkinds misop mfilesT mentrT mpromT mlinksT mblocksT mvalsT ++ R) sz) 0 0 (va_A (WM ca ad lq mcode mday mown mquot mprom mfiles mowner mlinks mblocks mvals msnaps mranks mkept mshot mwas mholds mheld mends mopen mentr mkinds misop mfilesT mentrT mpromT mlinksT mblocksT mvalsT ++ R) sz) := by
  refine Met.ofW (cc := cX4_isOpen) (maxL := 2) (ret := (some .boolean)) (by decide) rfl ?_
  intro p e s m args below meth c s₁ B hml hv
  obtain ⟨rfl, rfl, hP, hE, hD0⟩ := hv
  have hx := B.exec
  have hb := B.bytes
  have hr := B.returns
  have hts := wm_ww (atoms_spec (ws := wm yX4_isOpen cX4_isOpen 2 (some .boolean)) B.pre)
  have hown : s.vm.findClass RX4 = some m.cls := findClass_of_methodNamed B.named
  have hlocks := B.notSynchronized
  have hK := hE.1
  have hD := hD0.self (sz := s.heap.size)
  generalize hAe : va_A (WM ca ad lq mcode mday mown mquot mprom mfiles mowner mlinks mblocks mvals msnaps mranks mkept mshot mwas mholds mheld mends mopen mentr mkinds misop mfilesT mentrT mpromT mlinksT mblocksT mvalsT ++ R) s.heap.size = A at hD ⊢
  have hA : ∀ q : Nat, s.heap.size ≤ q → A q := fun q h => by rw [← hAe]; exact Or.inr h
  have hS : va_S A s.heap s.heap [] := va_S.rf
  have hl := lv_entry ([.ref (ad 0), .int p1]) (n := 2) (Nat.le_of_ble_eq_true rfl)
  rw [lg_entry_eq]
  generalize (lg_sl ([.ref (ad 0), .int p1]) ++ List.replicate (2 - (lg_sl ([.ref (ad 0), .int p1])).length) Slot.unset).toArray = ls at hl ⊢
  have hl : lv_has ls 2 [(0, .ref (ad 0)), (1, .int p1)] := hl
  change W p l e ({ frames := 2, cells := 0, slots := 0, locals := 43 } : Room) s m _ below meth c s.heap [] 0 0 _ _
  generalize hQm : MQ below (QI ro D (WM ca ad lq omcode mday mown mquot mprom mfiles mowner mlinks mblocks mvals msnaps mranks mkept mshot mwas mholds mheld mends mopen mentr mkinds misop mfilesT mentrT mpromT mlinksT mblocksT mvalsT ++ R) (WM ca ad lq mcode mday mown mquot mprom mfiles mowner mlinks mblocks mvals msnaps mranks mkept mshot mwas mholds mheld mends mopen mentr mkinds misop mfilesT mentrT mpromT mlinksT mblocksT mvalsT ++ R) s.heap.size) _ s 0 0 A = Qm
  have hP : va_P D vwCl (WM ca ad lq mcode mday mown mquot mprom mfiles mowner mlinks mblocks mvals msnaps mranks mkept mshot mwas mholds mheld mends mopen mentr mkinds misop mfilesT mentrT mpromT mlinksT mblocksT mvalsT ++ R) s.heap := hP
  generalize hae : ([.ref (ad 0), .int p1] : List Value).toArray = args at hts hQm ⊢
  refine lv_aload_n hx hb dX4_isOpen_0 rfl (lv_at hl 0 rfl) ?_
  refine lv_aload_n hx hb dX4_isOpen_1 rfl (lv_at hl 0 rfl) ?_
  refine lv_iload_n hx hb dX4_isOpen_2 rfl (lv_at hl 1 rfl) ?_
  obtain ⟨r1, h2, hf⟩ := bnd hf
  refine call_vi (rest := [.ref (ad 0)]) (m_M_isHold l ca ad lq mcode mday mown mquot mprom mfiles mowner mlinks mblocks mvals msnaps mranks mkept mshot mwas mholds mheld mends mopen mentr mkinds misop mfilesT mentrT mpromT mlinksT mblocksT mvalsT R _ p1 r1 h2) ⟨hx, hb, hml, hown, hts⟩ (cwV 1 hts (gV q1600 q1602 q39 q50 q1603) rfl rfl rfl (by decide +kernel) ⟨Nat.le_of_ble_eq_true rfl, Nat.le_of_ble_eq_true rfl⟩) (va_recv hK hP (ci := 8) (q0 := 0) rfl rfl) hE hP hD hS hA rfl hl.1 rfl (lv_room (Nat.le_of_ble_eq_true rfl)) dX4_isOpen_3 ⟨Nat.le_of_ble_eq_true rfl, Nat.le_of_ble_eq_true rfl⟩ (fun H locs hP hD hS => ?_)
  refine lv_if_eq (tgt := 13) hx hb dX4_isOpen_6 (by decide) (fun c3 => ?_) (fun c3 => ?_)
  · have hf := br_pos c3 hf
    refine lv_iconst (v := 1) hx hb dX4_isOpen_13 (by decide) ?_
    refine va_put (D := D) (ci := 8) (v := .int 1) (ty := .int) (C := RX4) (T := TX4) (N := 29) hx hb hts inX4 tyX4 tyX4_ok nmX4 hown hK hP hD hS 0 rfl rfl 0 (by decide) (hts _ q1329) (fun _ h9 => h9) rfl (by decide +kernel) rfl rfl (Nat.le_of_ble_eq_true rfl) dX4_isOpen_14 (fun H locs hP hD hS => ?_)
    have hP : va_P D vwCl (WM ca ad lq 1 mday mown mquot mprom mfiles mowner mlinks mblocks mvals msnaps mranks mkept mshot mwas mholds mheld mends mopen mentr mkinds misop mfilesT mentrT mpromT mlinksT mblocksT mvalsT ++ R) H := hP
    have hD : va_D A (WM ca ad lq 1 mday mown mquot mprom mfiles mowner mlinks mblocks mvals msnaps mranks mkept mshot mwas mholds mheld mends mopen mentr mkinds misop mfilesT mentrT mpromT mlinksT mblocksT mvalsT ++ R) := hD
    refine lv_aload_n hx hb dX4_isOpen_17 rfl (lv_at hl 0 rfl) ?_
    refine va_get (D := D) (ci := 8) (v := .int 1) (C := RX4) (T := TX4) (N := 29) hx hb hts inX4 hown hK hP 0 rfl rfl 0 (by decide) (hts _ q1329) (fun _ h9 => h9) rfl dX4_isOpen_18 ?_
    refine lv_if_ne (tgt := 37) hx hb dX4_isOpen_21 (by decide) (fun c4 => ?_) (fun c4 => ?_)
    rotate_left
    · exact absurd c4 (by decide)
    refine lv_iconst (v := 0) hx hb dX4_isOpen_37 (by decide) ?_
    cases hf
    exact end_i hAe hQm hx hb hr hlocks rfl hP hD hS dX4_isOpen_38
  · have hf := br_neg c3 hf
    refine lv_iconst (v := 0) hx hb dX4_isOpen_9 (by decide) ?_
    refine lv_goto (tgt := 14) hx hb dX4_isOpen_10 (by decide) ?_
    refine va_put (D := D) (ci := 8) (v := .int 0) (ty := .int) (C := RX4) (T := TX4) (N := 29) hx hb hts inX4 tyX4 tyX4_ok nmX4 hown hK hP hD hS 0 rfl rfl 0 (by decide) (hts _ q1329) (fun _ h9 => h9) rfl (by decide +kernel) rfl rfl (Nat.le_of_ble_eq_true rfl) dX4_isOpen_14 (fun H locs hP hD hS => ?_)
    have hP : va_P D vwCl (WM ca ad lq 0 mday mown mquot mprom mfiles mowner mlinks mblocks mvals msnaps mranks mkept mshot mwas mholds mheld mends mopen mentr mkinds misop mfilesT mentrT mpromT mlinksT mblocksT mvalsT ++ R) H := hP
    have hD : va_D A (WM ca ad lq 0 mday mown mquot mprom mfiles mowner mlinks mblocks mvals msnaps mranks mkept mshot mwas mholds mheld mends mopen mentr mkinds misop mfilesT mentrT mpromT mlinksT mblocksT mvalsT ++ R) := hD
    refine lv_aload_n hx hb dX4_isOpen_17 rfl (lv_at hl 0 rfl) ?_
    refine va_get (D := D) (ci := 8) (v := .int 0) (C := RX4) (T := TX4) (N := 29) hx hb hts inX4 hown hK hP 0 rfl rfl 0 (by decide) (hts _ q1329) (fun _ h9 => h9) rfl dX4_isOpen_18 ?_
    refine lv_if_ne (tgt := 37) hx hb dX4_isOpen_21 (by decide) (fun c5 => ?_) (fun c5 => ?_)
    · exact absurd c5 (by decide)
    refine lv_aload_n hx hb dX4_isOpen_24 rfl (lv_at hl 0 rfl) ?_
    refine va_get (D := D) (ci := 8) (v := .ref (ad 13)) (C := RX4) (T := TX4) (N := 29) hx hb hts inX4 hown hK hP 0 rfl rfl 18 (by decide) (hts _ q1347) (fun _ h9 => h9) rfl dX4_isOpen_25 ?_
    refine lv_iload_n hx hb dX4_isOpen_28 rfl (lv_at hl 1 rfl) ?_
    obtain ⟨k6, hf⟩ := ck_not hf
    refine va_zald (D := D) hx hb hK hP 13 1 rfl rfl k6 dX4_isOpen_29 ?_
    refine lv_if_eq (tgt := 37) hx hb dX4_isOpen_30 (by decide) (fun c7 => ?_) (fun c7 => ?_)
    · have hf := br_pos c7 hf
      refine lv_iconst (v := 0) hx hb dX4_isOpen_37 (by decide) ?_
      cases hf
      exact end_i hAe hQm hx hb hr hlocks rfl hP hD hS dX4_isOpen_38
    · have hf := br_neg c7 hf
      refine lv_iconst (v := 1) hx hb dX4_isOpen_33 (by decide) ?_
      refine lv_goto (tgt := 38) hx hb dX4_isOpen_34 (by decide) ?_
      cases hf
      exact end_i hAe hQm hx hb hr hlocks rfl hP hD hS dX4_isOpen_38
def f_M_holdsOn (p1 : Int32) (mfiles : Int32) (mholds : Int32) (mheld : Nat → Int32) (mopen : Nat → Int32) : Option (Int32 × Int32) :=
  (f_M_isFile p1 mfiles).bind fun r1 =>
  if r1 = 0 then
    (f_M_fails 1).bind fun (r4, mcode_5) =>
    some (r4, mcode_5)
  else
    (f_M_held p1 mholds mheld mopen).bind fun r7 =>
    some (r7, 0)
set_option maxHeartbeats 4000000 in
set_option maxRecDepth 100000 in
theorem m_M_holdsOn (l : Launch) {D : va_G} {sl : List (String × Nat × String)} (ca : Nat → ClassId) (ad : Nat → Nat) (lq : Nat) (mcode : Int32) (mday : Int32) (mown : Int32) (mquot : Nat → Int32) (mprom : Nat → Int32) (mfiles : Int32) (mowner : Nat → Int32) (mlinks : Nat → Int32) (mblocks : Nat → Int32) (mvals : Nat → Int32) (msnaps : Int32) (mranks : Nat → Int32) (mkept : Nat → Int32) (mshot : Nat → Int32) (mwas : Nat → Int32) (mholds : Int32) (mheld : Nat → Int32) (mends : Nat → Int32) (mopen : Nat → Int32) (mentr : Int32) (mkinds : Nat → Int32) (misop : Int32) (mfilesT : Int32) (mentrT : Int32) (mpromT : Nat → Int32) (mlinksT : Nat → Int32) (mblocksT : Nat → Int32) (mvalsT : Nat → Int32) (R : va_W) (sz : Nat) (p1 : Int32) (ro : Int32) (omcode : Int32) (hf : f_M_holdsOn p1 mfiles mholds mheld mopen = some (ro, omcode)) : Met l yX4_holdsOn (wm yX4_holdsOn cX4_holdsOn 2 (some .int)) ({ frames := 2, cells := 0, slots := 0, locals := 43 } : Room) (PRE [.ref (ad 0), .int p1] D ca sl (WM ca ad lq mcode mday mown mquot mprom mfiles mowner mlinks mblocks mvals msnaps mranks mkept mshot mwas mholds mheld mends mopen mentr mkinds misop mfilesT mentrT mpromT mlinksT mblocksT mvalsT ++ R) sz) (QI ro D (WM ca ad lq omcode mday mown mquot mprom mfiles mowner mlinks mblocks mvals msnaps mranks mkept mshot mwas mholds mheld mends mopen mentr mkinds misop mfilesT mentrT mpromT mlinksT mblocksT mvalsT ++ R) (WM ca ad lq mcode mday mown mquot mprom mfiles mowner mlinks mblocks mvals msnaps mranks mkept mshot mwas mholds mheld mends mopen mentr mkinds misop mfilesT mentrT mpromT mlinksT mblocksT mvalsT ++ R) sz) 0 0 (va_A (WM ca ad lq mcode mday mown mquot mprom mfiles mowner mlinks mblocks mvals msnaps mranks mkept mshot mwas mholds mheld mends mopen mentr mkinds misop mfilesT mentrT mpromT mlinksT mblocksT mvalsT ++ R) sz) := by
  refine Met.ofW (cc := cX4_holdsOn) (maxL := 2) (ret := (some .int)) (by decide) rfl ?_
  intro p e s m args below meth c s₁ B hml hv
  obtain ⟨rfl, rfl, hP, hE, hD0⟩ := hv
  have hx := B.exec
  have hb := B.bytes
  have hr := B.returns
  have hts := wm_ww (atoms_spec (ws := wm yX4_holdsOn cX4_holdsOn 2 (some .int)) B.pre)
  have hown : s.vm.findClass RX4 = some m.cls := findClass_of_methodNamed B.named
  have hlocks := B.notSynchronized
  have hK := hE.1
  have hD := hD0.self (sz := s.heap.size)
  generalize hAe : va_A (WM ca ad lq mcode mday mown mquot mprom mfiles mowner mlinks mblocks mvals msnaps mranks mkept mshot mwas mholds mheld mends mopen mentr mkinds misop mfilesT mentrT mpromT mlinksT mblocksT mvalsT ++ R) s.heap.size = A at hD ⊢
  have hA : ∀ q : Nat, s.heap.size ≤ q → A q := fun q h => by rw [← hAe]; exact Or.inr h
  have hS : va_S A s.heap s.heap [] := va_S.rf
  have hl := lv_entry ([.ref (ad 0), .int p1]) (n := 2) (Nat.le_of_ble_eq_true rfl)
  rw [lg_entry_eq]
  generalize (lg_sl ([.ref (ad 0), .int p1]) ++ List.replicate (2 - (lg_sl ([.ref (ad 0), .int p1])).length) Slot.unset).toArray = ls at hl ⊢
  have hl : lv_has ls 2 [(0, .ref (ad 0)), (1, .int p1)] := hl
  change W p l e ({ frames := 2, cells := 0, slots := 0, locals := 43 } : Room) s m _ below meth c s.heap [] 0 0 _ _
  generalize hQm : MQ below (QI ro D (WM ca ad lq omcode mday mown mquot mprom mfiles mowner mlinks mblocks mvals msnaps mranks mkept mshot mwas mholds mheld mends mopen mentr mkinds misop mfilesT mentrT mpromT mlinksT mblocksT mvalsT ++ R) (WM ca ad lq mcode mday mown mquot mprom mfiles mowner mlinks mblocks mvals msnaps mranks mkept mshot mwas mholds mheld mends mopen mentr mkinds misop mfilesT mentrT mpromT mlinksT mblocksT mvalsT ++ R) s.heap.size) _ s 0 0 A = Qm
  have hP : va_P D vwCl (WM ca ad lq mcode mday mown mquot mprom mfiles mowner mlinks mblocks mvals msnaps mranks mkept mshot mwas mholds mheld mends mopen mentr mkinds misop mfilesT mentrT mpromT mlinksT mblocksT mvalsT ++ R) s.heap := hP
  generalize hae : ([.ref (ad 0), .int p1] : List Value).toArray = args at hts hQm ⊢
  refine lv_aload_n hx hb dX4_holdsOn_0 rfl (lv_at hl 0 rfl) ?_
  refine lv_iconst (v := 0) hx hb dX4_holdsOn_1 (by decide) ?_
  refine va_put (D := D) (ci := 8) (v := .int 0) (ty := .int) (C := RX4) (T := TX4) (N := 29) hx hb hts inX4 tyX4 tyX4_ok nmX4 hown hK hP hD hS 0 rfl rfl 0 (by decide) (hts _ q1329) (fun _ h9 => h9) rfl (by decide +kernel) rfl rfl (Nat.le_of_ble_eq_true rfl) dX4_holdsOn_2 (fun H locs hP hD hS => ?_)
  have hP : va_P D vwCl (WM ca ad lq 0 mday mown mquot mprom mfiles mowner mlinks mblocks mvals msnaps mranks mkept mshot mwas mholds mheld mends mopen mentr mkinds misop mfilesT mentrT mpromT mlinksT mblocksT mvalsT ++ R) H := hP
  have hD : va_D A (WM ca ad lq 0 mday mown mquot mprom mfiles mowner mlinks mblocks mvals msnaps mranks mkept mshot mwas mholds mheld mends mopen mentr mkinds misop mfilesT mentrT mpromT mlinksT mblocksT mvalsT ++ R) := hD
  refine lv_aload_n hx hb dX4_holdsOn_5 rfl (lv_at hl 0 rfl) ?_
  refine lv_iload_n hx hb dX4_holdsOn_6 rfl (lv_at hl 1 rfl) ?_
  obtain ⟨r1, h2, hf⟩ := bnd hf
  refine call_vi (rest := []) (m_M_isFile l ca ad lq 0 mday mown mquot mprom mfiles mowner mlinks mblocks mvals msnaps mranks mkept mshot mwas mholds mheld mends mopen mentr mkinds misop mfilesT mentrT mpromT mlinksT mblocksT mvalsT R _ p1 r1 h2) ⟨hx, hb, hml, hown, hts⟩ (cwV 1 hts (gV q1452 q1454 q26 q50 q1455) rfl rfl rfl (by decide +kernel) ⟨Nat.le_of_ble_eq_true rfl, Nat.le_of_ble_eq_true rfl⟩) (va_recv hK hP (ci := 8) (q0 := 0) rfl rfl) hE hP hD hS hA rfl hl.1 rfl (lv_room (Nat.le_of_ble_eq_true rfl)) dX4_holdsOn_7 ⟨Nat.le_of_ble_eq_true rfl, Nat.le_of_ble_eq_true rfl⟩ (fun H locs hP hD hS => ?_)
  refine lv_if_eq (tgt := 21) hx hb dX4_holdsOn_10 (by decide) (fun c3 => ?_) (fun c3 => ?_)
  · have hf := br_pos c3 hf
    refine lv_aload_n hx hb dX4_holdsOn_21 rfl (lv_at hl 0 rfl) ?_
    refine lv_iconst (v := 1) hx hb dX4_holdsOn_22 (by decide) ?_
    obtain ⟨⟨r4, mcode_5⟩, h6, hf⟩ := bnd hf
    refine call_vi (rest := []) (m_M_fails l ca ad lq 0 mday mown mquot mprom mfiles mowner mlinks mblocks mvals msnaps mranks mkept mshot mwas mholds mheld mends mopen mentr mkinds misop mfilesT mentrT mpromT mlinksT mblocksT mvalsT R _ 1 r4 mcode_5 h6) ⟨hx, hb, hml, hown, hts⟩ (cwV 1 hts (gV q1428 q1430 q23 q50 q1431) rfl rfl rfl (by decide +kernel) ⟨Nat.le_of_ble_eq_true rfl, Nat.le_of_ble_eq_true rfl⟩) (va_recv hK hP (ci := 8) (q0 := 0) rfl rfl) hE hP hD hS hA rfl hl.1 rfl (lv_room (Nat.le_of_ble_eq_true rfl)) dX4_holdsOn_23 ⟨Nat.le_of_ble_eq_true rfl, Nat.le_of_ble_eq_true rfl⟩ (fun H locs hP hD hS => ?_)
    cases hf
    exact end_i hAe hQm hx hb hr hlocks rfl hP hD hS dX4_holdsOn_26
  · have hf := br_neg c3 hf
    refine lv_aload_n hx hb dX4_holdsOn_13 rfl (lv_at hl 0 rfl) ?_
    refine lv_iload_n hx hb dX4_holdsOn_14 rfl (lv_at hl 1 rfl) ?_
    obtain ⟨r7, h8, hf⟩ := bnd hf
    refine call_vi (rest := []) (m_M_held l ca ad lq 0 mday mown mquot mprom mfiles mowner mlinks mblocks mvals msnaps mranks mkept mshot mwas mholds mheld mends mopen mentr mkinds misop mfilesT mentrT mpromT mlinksT mblocksT mvalsT R _ p1 r7 h8) ⟨hx, hb, hml, hown, hts⟩ (cwV 1 hts (gV q1460 q1462 q28 q50 q1463) rfl rfl rfl (by decide +kernel) ⟨Nat.le_of_ble_eq_true rfl, Nat.le_of_ble_eq_true rfl⟩) (va_recv hK hP (ci := 8) (q0 := 0) rfl rfl) hE hP hD hS hA rfl hl.1 rfl (lv_room (Nat.le_of_ble_eq_true rfl)) dX4_holdsOn_15 ⟨Nat.le_of_ble_eq_true rfl, Nat.le_of_ble_eq_true rfl⟩ (fun H locs hP hD hS => ?_)
    refine lv_goto (tgt := 26) hx hb dX4_holdsOn_18 (by decide) ?_
    cases hf
    exact end_i hAe hQm hx hb hr hlocks rfl hP hD hS dX4_holdsOn_26
def f_M_nextEnd_L9 : Nat → Int32 → Int32 → Int32 → (Nat → Int32) → (Nat → Int32) → Option (Int32)
  | 0, _, _, _, _, _ => none
  | fuel + 1, v1, v2, mholds, mends, mopen =>
    if mholds ≤ v2 then
      some v1
    else
      if v2 < 0 ∨ 30 ≤ v2.toNatClampNeg then none else
        if (mopen v2.toNatClampNeg) = 0 then
        f_M_nextEnd_L9 fuel v1 (v2 + 1) mholds mends mopen
      else
        if v1 = (-1) then
          f_M_nextEnd_L9 fuel v2 (v2 + 1) mholds mends mopen
        else
          if v2 < 0 ∨ 30 ≤ v2.toNatClampNeg then none else
            if v1 < 0 ∨ 30 ≤ v1.toNatClampNeg then none else
            if (mends v1.toNatClampNeg) ≤ (mends v2.toNatClampNeg) then
            f_M_nextEnd_L9 fuel v1 (v2 + 1) mholds mends mopen
          else
            f_M_nextEnd_L9 fuel v2 (v2 + 1) mholds mends mopen
def f_M_nextEnd (mholds : Int32) (mends : Nat → Int32) (mopen : Nat → Int32) : Option (Int32 × Int32) :=
  (f_M_nextEnd_L9 FU (-1) 0 mholds mends mopen).bind fun x16 =>
  if x16 = (-1) then
    (f_M_fails 1).bind fun (r18, mcode_19) =>
    some (r18, mcode_19)
  else
    some (x16, 0)
set_option maxHeartbeats 4000000 in
set_option maxRecDepth 100000 in
theorem m_M_nextEnd (l : Launch) {D : va_G} {sl : List (String × Nat × String)} (ca : Nat → ClassId) (ad : Nat → Nat) (lq : Nat) (mcode : Int32) (mday : Int32) (mown : Int32) (mquot : Nat → Int32) (mprom : Nat → Int32) (mfiles : Int32) (mowner : Nat → Int32) (mlinks : Nat → Int32) (mblocks : Nat → Int32) (mvals : Nat → Int32) (msnaps : Int32) (mranks : Nat → Int32) (mkept : Nat → Int32) (mshot : Nat → Int32) (mwas : Nat → Int32) (mholds : Int32) (mheld : Nat → Int32) (mends : Nat → Int32) (mopen : Nat → Int32) (mentr : Int32) (mkinds : Nat → Int32) (misop : Int32) (mfilesT : Int32) (mentrT : Int32) (mpromT : Nat → Int32) (mlinksT : Nat → Int32) (mblocksT : Nat → Int32) (mvalsT : Nat → Int32) (R : va_W) (sz : Nat) (ro : Int32) (omcode : Int32) (hf : f_M_nextEnd mholds mends mopen = some (ro, omcode)) : Met l yX4_nextEnd (wm yX4_nextEnd cX4_nextEnd 3 (some .int)) ({ frames := 1, cells := 0, slots := 0, locals := 21 } : Room) (PRE [.ref (ad 0)] D ca sl (WM ca ad lq mcode mday mown mquot mprom mfiles mowner mlinks mblocks mvals msnaps mranks mkept mshot mwas mholds mheld mends mopen mentr mkinds misop mfilesT mentrT mpromT mlinksT mblocksT mvalsT ++ R) sz) (QI ro D (WM ca ad lq omcode mday mown mquot mprom mfiles mowner mlinks mblocks mvals msnaps mranks mkept mshot mwas mholds mheld mends mopen mentr mkinds misop mfilesT mentrT mpromT mlinksT mblocksT mvalsT ++ R) (WM ca ad lq mcode mday mown mquot mprom mfiles mowner mlinks mblocks mvals msnaps mranks mkept mshot mwas mholds mheld mends mopen mentr mkinds misop mfilesT mentrT mpromT mlinksT mblocksT mvalsT ++ R) sz) 0 0 (va_A (WM ca ad lq mcode mday mown mquot mprom mfiles mowner mlinks mblocks mvals msnaps mranks mkept mshot mwas mholds mheld mends mopen mentr mkinds misop mfilesT mentrT mpromT mlinksT mblocksT mvalsT ++ R) sz) := by
  refine Met.ofW (cc := cX4_nextEnd) (maxL := 3) (ret := (some .int)) (by decide) rfl ?_
  intro p e s m args below meth c s₁ B hml hv
  obtain ⟨rfl, rfl, hP, hE, hD0⟩ := hv
  have hx := B.exec
  have hb := B.bytes
  have hr := B.returns
  have hts := wm_ww (atoms_spec (ws := wm yX4_nextEnd cX4_nextEnd 3 (some .int)) B.pre)
  have hown : s.vm.findClass RX4 = some m.cls := findClass_of_methodNamed B.named
  have hlocks := B.notSynchronized
  have hK := hE.1
  have hD := hD0.self (sz := s.heap.size)
  generalize hAe : va_A (WM ca ad lq mcode mday mown mquot mprom mfiles mowner mlinks mblocks mvals msnaps mranks mkept mshot mwas mholds mheld mends mopen mentr mkinds misop mfilesT mentrT mpromT mlinksT mblocksT mvalsT ++ R) s.heap.size = A at hD ⊢
  have hA : ∀ q : Nat, s.heap.size ≤ q → A q := fun q h => by rw [← hAe]; exact Or.inr h
  have hS : va_S A s.heap s.heap [] := va_S.rf
  have hl := lv_entry ([.ref (ad 0)]) (n := 3) (Nat.le_of_ble_eq_true rfl)
  rw [lg_entry_eq]
  generalize (lg_sl ([.ref (ad 0)]) ++ List.replicate (3 - (lg_sl ([.ref (ad 0)])).length) Slot.unset).toArray = ls at hl ⊢
  have hl : lv_has ls 3 [(0, .ref (ad 0))] := hl
  change W p l e ({ frames := 1, cells := 0, slots := 0, locals := 21 } : Room) s m _ below meth c s.heap [] 0 0 _ _
  generalize hQm : MQ below (QI ro D (WM ca ad lq omcode mday mown mquot mprom mfiles mowner mlinks mblocks mvals msnaps mranks mkept mshot mwas mholds mheld mends mopen mentr mkinds misop mfilesT mentrT mpromT mlinksT mblocksT mvalsT ++ R) (WM ca ad lq mcode mday mown mquot mprom mfiles mowner mlinks mblocks mvals msnaps mranks mkept mshot mwas mholds mheld mends mopen mentr mkinds misop mfilesT mentrT mpromT mlinksT mblocksT mvalsT ++ R) s.heap.size) _ s 0 0 A = Qm
  have hP : va_P D vwCl (WM ca ad lq mcode mday mown mquot mprom mfiles mowner mlinks mblocks mvals msnaps mranks mkept mshot mwas mholds mheld mends mopen mentr mkinds misop mfilesT mentrT mpromT mlinksT mblocksT mvalsT ++ R) s.heap := hP
  generalize hae : ([.ref (ad 0)] : List Value).toArray = args at hts hQm ⊢
  have L9 : ∀ (n : Nat) (v1 : Int32) (v2 : Int32) (mcode : Int32) (y1 : Int32), f_M_nextEnd_L9 n v1 v2 mholds mends mopen = some y1 → ∀ (H : Heap) (locs : List Loc) (ls : Array Slot), va_P D vwCl (WM ca ad lq mcode mday mown mquot mprom mfiles mowner mlinks mblocks mvals msnaps mranks mkept mshot mwas mholds mheld mends mopen mentr mkinds misop mfilesT mentrT mpromT mlinksT mblocksT mvalsT ++ R) H → va_D A (WM ca ad lq mcode mday mown mquot mprom mfiles mowner mlinks mblocks mvals msnaps mranks mkept mshot mwas mholds mheld mends mopen mentr mkinds misop mfilesT mentrT mpromT mlinksT mblocksT mvalsT ++ R) → va_S A s.heap H locs → lv_has ls 3 [(0, .ref (ad 0)), (1, .int v1), (2, .int v2)] → (∀ (H : Heap) (locs : List Loc) (ls : Array Slot), va_P D vwCl (WM ca ad lq mcode mday mown mquot mprom mfiles mowner mlinks mblocks mvals msnaps mranks mkept mshot mwas mholds mheld mends mopen mentr mkinds misop mfilesT mentrT mpromT mlinksT mblocksT mvalsT ++ R) H → va_D A (WM ca ad lq mcode mday mown mquot mprom mfiles mowner mlinks mblocks mvals msnaps mranks mkept mshot mwas mholds mheld mends mopen mentr mkinds misop mfilesT mentrT mpromT mlinksT mblocksT mvalsT ++ R) → va_S A s.heap H locs → lv_has ls 3 [(0, .ref (ad 0)), (1, .int y1)] → W p l e ({ frames := 1, cells := 0, slots := 0, locals := 21 } : Room) s m args below meth c H locs 0 0 Qm (F0 m 58 ls [])) → W p l e ({ frames := 1, cells := 0, slots := 0, locals := 21 } : Room) s m args below meth c H locs 0 0 Qm (F0 m 9 ls []) := by
    intro n
    induction n with
    | zero => intro v1 v2 mcode y1 hf; cases hf
    | succ n ih =>
      intro v1 v2 mcode y1 hf H locs ls hP hD hS hl kk
      unfold f_M_nextEnd_L9 at hf
      refine lv_iload_n hx hb dX4_nextEnd_9 rfl (lv_at hl 2 rfl) ?_
      refine lv_aload_n hx hb dX4_nextEnd_10 rfl (lv_at hl 0 rfl) ?_
      refine va_get (D := D) (ci := 8) (v := .int mholds) (C := RX4) (T := TX4) (N := 29) hx hb hts inX4 hown hK hP 0 rfl rfl 15 (by decide) (hts _ q1344) (fun _ h9 => h9) rfl dX4_nextEnd_11 ?_
      refine lv_icmp_ge (tgt := 58) hx hb dX4_nextEnd_14 (by decide) (fun c8 => ?_) (fun c8 => ?_)
      · have hf := br_pos c8 hf
        cases hf
        exact kk _ _ _ hP hD hS (lv_sub hl [0, 1] rfl)
      · have hf := br_neg c8 hf
        refine lv_aload_n hx hb dX4_nextEnd_17 rfl (lv_at hl 0 rfl) ?_
        refine va_get (D := D) (ci := 8) (v := .ref (ad 13)) (C := RX4) (T := TX4) (N := 29) hx hb hts inX4 hown hK hP 0 rfl rfl 18 (by decide) (hts _ q1347) (fun _ h9 => h9) rfl dX4_nextEnd_18 ?_
        refine lv_iload_n hx hb dX4_nextEnd_21 rfl (lv_at hl 2 rfl) ?_
        obtain ⟨k9, hf⟩ := ck_not hf
        refine va_zald (D := D) hx hb hK hP 13 1 rfl rfl k9 dX4_nextEnd_22 ?_
        refine lv_if_eq (tgt := 50) hx hb dX4_nextEnd_23 (by decide) (fun c10 => ?_) (fun c10 => ?_)
        · have hf := br_pos c10 hf
          refine lv_iload_n hx hb dX4_nextEnd_50 rfl (lv_at hl 1 rfl) ?_
          refine lv_istore_n (lv' := [(1, .int v1), (0, .ref (ad 0)), (2, .int v2)]) hx hb dX4_nextEnd_51 rfl hl (by decide) rfl (fun ls hl => ?_)
          refine lv_iinc (v := (v2 + 1)) (lv' := [(2, .int (v2 + 1)), (1, .int v1), (0, .ref (ad 0))]) hx hb dX4_nextEnd_52 hl (k := 2) rfl rfl (by decide) rfl (fun ls hl => ?_)
          refine lv_goto (tgt := 9) hx hb dX4_nextEnd_55 (by decide) ?_
          exact ih v1 (v2 + 1) mcode _ hf _ _ _ hP hD hS (lv_sub hl [2, 1, 0] rfl) kk
        · have hf := br_neg c10 hf
          refine lv_iload_n hx hb dX4_nextEnd_26 rfl (lv_at hl 1 rfl) ?_
          refine lv_iconst (v := (-1)) hx hb dX4_nextEnd_27 (by decide) ?_
          refine lv_icmp_eq (tgt := 46) hx hb dX4_nextEnd_28 (by decide) (fun c11 => ?_) (fun c11 => ?_)
          · have hf := br_pos c11 hf
            refine lv_iload_n hx hb dX4_nextEnd_46 rfl (lv_at hl 2 rfl) ?_
            refine lv_goto (tgt := 51) hx hb dX4_nextEnd_47 (by decide) ?_
            refine lv_istore_n (lv' := [(1, .int v2), (0, .ref (ad 0)), (2, .int v2)]) hx hb dX4_nextEnd_51 rfl hl (by decide) rfl (fun ls hl => ?_)
            refine lv_iinc (v := (v2 + 1)) (lv' := [(2, .int (v2 + 1)), (1, .int v2), (0, .ref (ad 0))]) hx hb dX4_nextEnd_52 hl (k := 2) rfl rfl (by decide) rfl (fun ls hl => ?_)
            refine lv_goto (tgt := 9) hx hb dX4_nextEnd_55 (by decide) ?_
            exact ih v2 (v2 + 1) mcode _ hf _ _ _ hP hD hS (lv_sub hl [2, 1, 0] rfl) kk
          · have hf := br_neg c11 hf
            refine lv_aload_n hx hb dX4_nextEnd_31 rfl (lv_at hl 0 rfl) ?_
            refine va_get (D := D) (ci := 8) (v := .ref (ad 12)) (C := RX4) (T := TX4) (N := 29) hx hb hts inX4 hown hK hP 0 rfl rfl 17 (by decide) (hts _ q1346) (fun _ h9 => h9) rfl dX4_nextEnd_32 ?_
            refine lv_iload_n hx hb dX4_nextEnd_35 rfl (lv_at hl 2 rfl) ?_
            obtain ⟨k12, hf⟩ := ck_not hf
            refine va_iald (D := D) hx hb hK hP 12 0 rfl rfl k12 dX4_nextEnd_36 ?_
            refine lv_aload_n hx hb dX4_nextEnd_37 rfl (lv_at hl 0 rfl) ?_
            refine va_get (D := D) (ci := 8) (v := .ref (ad 12)) (C := RX4) (T := TX4) (N := 29) hx hb hts inX4 hown hK hP 0 rfl rfl 17 (by decide) (hts _ q1346) (fun _ h9 => h9) rfl dX4_nextEnd_38 ?_
            refine lv_iload_n hx hb dX4_nextEnd_41 rfl (lv_at hl 1 rfl) ?_
            obtain ⟨k13, hf⟩ := ck_not hf
            refine va_iald (D := D) hx hb hK hP 12 0 rfl rfl k13 dX4_nextEnd_42 ?_
            refine lv_icmp_ge (tgt := 50) hx hb dX4_nextEnd_43 (by decide) (fun c14 => ?_) (fun c14 => ?_)
            · have hf := br_pos c14 hf
              refine lv_iload_n hx hb dX4_nextEnd_50 rfl (lv_at hl 1 rfl) ?_
              refine lv_istore_n (lv' := [(1, .int v1), (0, .ref (ad 0)), (2, .int v2)]) hx hb dX4_nextEnd_51 rfl hl (by decide) rfl (fun ls hl => ?_)
              refine lv_iinc (v := (v2 + 1)) (lv' := [(2, .int (v2 + 1)), (1, .int v1), (0, .ref (ad 0))]) hx hb dX4_nextEnd_52 hl (k := 2) rfl rfl (by decide) rfl (fun ls hl => ?_)
              refine lv_goto (tgt := 9) hx hb dX4_nextEnd_55 (by decide) ?_
              exact ih v1 (v2 + 1) mcode _ hf _ _ _ hP hD hS (lv_sub hl [2, 1, 0] rfl) kk
            · have hf := br_neg c14 hf
              refine lv_iload_n hx hb dX4_nextEnd_46 rfl (lv_at hl 2 rfl) ?_
              refine lv_goto (tgt := 51) hx hb dX4_nextEnd_47 (by decide) ?_
              refine lv_istore_n (lv' := [(1, .int v2), (0, .ref (ad 0)), (2, .int v2)]) hx hb dX4_nextEnd_51 rfl hl (by decide) rfl (fun ls hl => ?_)
              refine lv_iinc (v := (v2 + 1)) (lv' := [(2, .int (v2 + 1)), (1, .int v2), (0, .ref (ad 0))]) hx hb dX4_nextEnd_52 hl (k := 2) rfl rfl (by decide) rfl (fun ls hl => ?_)
              refine lv_goto (tgt := 9) hx hb dX4_nextEnd_55 (by decide) ?_
              exact ih v2 (v2 + 1) mcode _ hf _ _ _ hP hD hS (lv_sub hl [2, 1, 0] rfl) kk
  refine lv_aload_n hx hb dX4_nextEnd_0 rfl (lv_at hl 0 rfl) ?_
  refine lv_iconst (v := 0) hx hb dX4_nextEnd_1 (by decide) ?_
  refine va_put (D := D) (ci := 8) (v := .int 0) (ty := .int) (C := RX4) (T := TX4) (N := 29) hx hb hts inX4 tyX4 tyX4_ok nmX4 hown hK hP hD hS 0 rfl rfl 0 (by decide) (hts _ q1329) (fun _ h9 => h9) rfl (by decide +kernel) rfl rfl (Nat.le_of_ble_eq_true rfl) dX4_nextEnd_2 (fun H locs hP hD hS => ?_)
  have hP : va_P D vwCl (WM ca ad lq 0 mday mown mquot mprom mfiles mowner mlinks mblocks mvals msnaps mranks mkept mshot mwas mholds mheld mends mopen mentr mkinds misop mfilesT mentrT mpromT mlinksT mblocksT mvalsT ++ R) H := hP
  have hD : va_D A (WM ca ad lq 0 mday mown mquot mprom mfiles mowner mlinks mblocks mvals msnaps mranks mkept mshot mwas mholds mheld mends mopen mentr mkinds misop mfilesT mentrT mpromT mlinksT mblocksT mvalsT ++ R) := hD
  refine lv_iconst (v := (-1)) hx hb dX4_nextEnd_5 (by decide) ?_
  refine lv_istore_n (lv' := [(1, .int (-1)), (0, .ref (ad 0))]) hx hb dX4_nextEnd_6 rfl hl (by decide) rfl (fun ls hl => ?_)
  refine lv_iconst (v := 0) hx hb dX4_nextEnd_7 (by decide) ?_
  refine lv_istore_n (lv' := [(2, .int 0), (1, .int (-1)), (0, .ref (ad 0))]) hx hb dX4_nextEnd_8 rfl hl (by decide) rfl (fun ls hl => ?_)
  obtain ⟨x16, h15, hf⟩ := bnd hf
  refine L9 FU (-1) 0 0 x16 h15 _ _ _ hP hD hS (lv_sub hl [2, 1, 0] rfl) (fun H locs ls hP hD hS hl => ?_)
  refine lv_iload_n hx hb dX4_nextEnd_58 rfl (lv_at hl 1 rfl) ?_
  refine lv_iconst (v := (-1)) hx hb dX4_nextEnd_59 (by decide) ?_
  refine lv_icmp_ne (tgt := 71) hx hb dX4_nextEnd_60 (by decide) (fun c17 => ?_) (fun c17 => ?_)
  · have hf := br_neg c17 hf
    refine lv_iload_n hx hb dX4_nextEnd_71 rfl (lv_at hl 1 rfl) ?_
    cases hf
    exact end_i hAe hQm hx hb hr hlocks rfl hP hD hS dX4_nextEnd_72
  · have hf := br_pos c17 hf
    refine lv_aload_n hx hb dX4_nextEnd_63 rfl (lv_at hl 0 rfl) ?_
    refine lv_iconst (v := 1) hx hb dX4_nextEnd_64 (by decide) ?_
    obtain ⟨⟨r18, mcode_19⟩, h20, hf⟩ := bnd hf
    refine call_vi (rest := []) (m_M_fails l ca ad lq 0 mday mown mquot mprom mfiles mowner mlinks mblocks mvals msnaps mranks mkept mshot mwas mholds mheld mends mopen mentr mkinds misop mfilesT mentrT mpromT mlinksT mblocksT mvalsT R _ 1 r18 mcode_19 h20) ⟨hx, hb, hml, hown, hts⟩ (cwV 1 hts (gV q1428 q1430 q23 q50 q1431) rfl rfl rfl (by decide +kernel) ⟨Nat.le_of_ble_eq_true rfl, Nat.le_of_ble_eq_true rfl⟩) (va_recv hK hP (ci := 8) (q0 := 0) rfl rfl) hE hP hD hS hA rfl hl.1 rfl (lv_room (Nat.le_of_ble_eq_true rfl)) dX4_nextEnd_65 ⟨Nat.le_of_ble_eq_true rfl, Nat.le_of_ble_eq_true rfl⟩ (fun H locs hP hD hS => ?_)
    refine lv_goto (tgt := 72) hx hb dX4_nextEnd_68 (by decide) ?_
    cases hf
    exact end_i hAe hQm hx hb hr hlocks rfl hP hD hS dX4_nextEnd_72
def f_M_pass_L60 : Nat → Int32 → Int32 → Int32 → (Nat → Int32) → (Nat → Int32) → Int32 → (Nat → Int32) → (Nat → Int32) → (Nat → Int32) → Option (Int32 × (Nat → Int32) × (Nat → Int32))
  | 0, _, _, _, _, _, _, _, _, _ => none
  | fuel + 1, v2, v3, mday, mlinks, mblocks, mholds, mheld, mends, mopen =>
    if mholds ≤ v3 then
      some (v2, mblocks, mopen)
    else
      if v3 < 0 ∨ 30 ≤ v3.toNatClampNeg then none else
        if (mopen v3.toNatClampNeg) = 0 then
        f_M_pass_L60 fuel v2 (v3 + 1) mday mlinks mblocks mholds mheld mends mopen
      else
        if v3 < 0 ∨ 30 ≤ v3.toNatClampNeg then none else
          if mday < (mends v3.toNatClampNeg) then
          f_M_pass_L60 fuel v2 (v3 + 1) mday mlinks mblocks mholds mheld mends mopen
        else
          if v3 < 0 ∨ 30 ≤ v3.toNatClampNeg then none else
            if v3 < 0 ∨ 30 ≤ v3.toNatClampNeg then none else
            (f_M_goes (mheld v3.toNatClampNeg) mlinks mblocks mholds mheld (upd mopen v3.toNatClampNeg (vp_nar .boolean 0))).bind fun (r26, mblocks_27) =>
          f_M_pass_L60 fuel (v2 + 1) (v3 + 1) mday mlinks mblocks_27 mholds mheld mends (upd mopen v3.toNatClampNeg (vp_nar .boolean 0))
def f_M_pass (p1 : Int32) (mday : Int32) (mlinks : Nat → Int32) (mblocks : Nat → Int32) (mholds : Int32) (mheld : Nat → Int32) (mends : Nat → Int32) (mopen : Nat → Int32) (misop : Int32) : Option (Int32 × Int32 × Int32 × (Nat → Int32) × (Nat → Int32)) :=
  (f_M_in p1 1 99).bind fun r1 =>
  if r1 = 0 then
    (f_M_fails 1).bind fun (r36, mcode_37) =>
    some (r36, mcode_37, mday, mblocks, mopen)
  else
    if misop = 0 then
      if (mday + p1) ≤ 9999 then
        (f_M_pass_L60 FU 0 0 (mday + p1) mlinks mblocks mholds mheld mends mopen).bind fun (x30, mblocks_31, mopen_32) =>
        some (x30, 0, (mday + p1), mblocks_31, mopen_32)
      else
        (f_M_fails 2).bind fun (r33, mcode_34) =>
        some (r33, mcode_34, mday, mblocks, mopen)
    else
      (f_M_fails 2).bind fun (r5, mcode_6) =>
      some (r5, mcode_6, mday, mblocks, mopen)
set_option maxHeartbeats 4000000 in
set_option maxRecDepth 100000 in
theorem m_M_pass (l : Launch) {D : va_G} {sl : List (String × Nat × String)} (ca : Nat → ClassId) (ad : Nat → Nat) (lq : Nat) (mcode : Int32) (mday : Int32) (mown : Int32) (mquot : Nat → Int32) (mprom : Nat → Int32) (mfiles : Int32) (mowner : Nat → Int32) (mlinks : Nat → Int32) (mblocks : Nat → Int32) (mvals : Nat → Int32) (msnaps : Int32) (mranks : Nat → Int32) (mkept : Nat → Int32) (mshot : Nat → Int32) (mwas : Nat → Int32) (mholds : Int32) (mheld : Nat → Int32) (mends : Nat → Int32) (mopen : Nat → Int32) (mentr : Int32) (mkinds : Nat → Int32) (misop : Int32) (mfilesT : Int32) (mentrT : Int32) (mpromT : Nat → Int32) (mlinksT : Nat → Int32) (mblocksT : Nat → Int32) (mvalsT : Nat → Int32) (R : va_W) (sz : Nat) (p1 : Int32) (ro : Int32) (omcode : Int32) (omday : Int32) (omblocks : Nat → Int32) (omopen : Nat → Int32) (hf : f_M_pass p1 mday mlinks mblocks mholds mheld mends mopen misop = some (ro, omcode, omday, omblocks, omopen)) : Met l yX4_pass (wm yX4_pass cX4_pass 5 (some .int)) ({ frames := 3, cells := 0, slots := 0, locals := 66 } : Room) (PRE [.ref (ad 0), .int p1] D ca sl (WM ca ad lq mcode mday mown mquot mprom mfiles mowner mlinks mblocks mvals msnaps mranks mkept mshot mwas mholds mheld mends mopen mentr mkinds misop mfilesT mentrT mpromT mlinksT mblocksT mvalsT ++ R) sz) (QI ro D (WM ca ad lq omcode omday mown mquot mprom mfiles mowner mlinks omblocks mvals msnaps mranks mkept mshot mwas mholds mheld mends omopen mentr mkinds misop mfilesT mentrT mpromT mlinksT mblocksT mvalsT ++ R) (WM ca ad lq mcode mday mown mquot mprom mfiles mowner mlinks mblocks mvals msnaps mranks mkept mshot mwas mholds mheld mends mopen mentr mkinds misop mfilesT mentrT mpromT mlinksT mblocksT mvalsT ++ R) sz) 0 0 (va_A (WM ca ad lq mcode mday mown mquot mprom mfiles mowner mlinks mblocks mvals msnaps mranks mkept mshot mwas mholds mheld mends mopen mentr mkinds misop mfilesT mentrT mpromT mlinksT mblocksT mvalsT ++ R) sz) := by
  refine Met.ofW (cc := cX4_pass) (maxL := 5) (ret := (some .int)) (by decide) rfl ?_
  intro p e s m args below meth c s₁ B hml hv
  obtain ⟨rfl, rfl, hP, hE, hD0⟩ := hv
  have hx := B.exec
  have hb := B.bytes
  have hr := B.returns
  have hts := wm_ww (atoms_spec (ws := wm yX4_pass cX4_pass 5 (some .int)) B.pre)
  have hown : s.vm.findClass RX4 = some m.cls := findClass_of_methodNamed B.named
  have hlocks := B.notSynchronized
  have hK := hE.1
  have hD := hD0.self (sz := s.heap.size)
  generalize hAe : va_A (WM ca ad lq mcode mday mown mquot mprom mfiles mowner mlinks mblocks mvals msnaps mranks mkept mshot mwas mholds mheld mends mopen mentr mkinds misop mfilesT mentrT mpromT mlinksT mblocksT mvalsT ++ R) s.heap.size = A at hD ⊢
  have hA : ∀ q : Nat, s.heap.size ≤ q → A q := fun q h => by rw [← hAe]; exact Or.inr h
  have hS : va_S A s.heap s.heap [] := va_S.rf
  have hl := lv_entry ([.ref (ad 0), .int p1]) (n := 5) (Nat.le_of_ble_eq_true rfl)
  rw [lg_entry_eq]
  generalize (lg_sl ([.ref (ad 0), .int p1]) ++ List.replicate (5 - (lg_sl ([.ref (ad 0), .int p1])).length) Slot.unset).toArray = ls at hl ⊢
  have hl : lv_has ls 5 [(0, .ref (ad 0)), (1, .int p1)] := hl
  change W p l e ({ frames := 3, cells := 0, slots := 0, locals := 66 } : Room) s m _ below meth c s.heap [] 0 0 _ _
  generalize hQm : MQ below (QI ro D (WM ca ad lq omcode omday mown mquot mprom mfiles mowner mlinks omblocks mvals msnaps mranks mkept mshot mwas mholds mheld mends omopen mentr mkinds misop mfilesT mentrT mpromT mlinksT mblocksT mvalsT ++ R) (WM ca ad lq mcode mday mown mquot mprom mfiles mowner mlinks mblocks mvals msnaps mranks mkept mshot mwas mholds mheld mends mopen mentr mkinds misop mfilesT mentrT mpromT mlinksT mblocksT mvalsT ++ R) s.heap.size) _ s 0 0 A = Qm
  have hP : va_P D vwCl (WM ca ad lq mcode mday mown mquot mprom mfiles mowner mlinks mblocks mvals msnaps mranks mkept mshot mwas mholds mheld mends mopen mentr mkinds misop mfilesT mentrT mpromT mlinksT mblocksT mvalsT ++ R) s.heap := hP
  generalize hae : ([.ref (ad 0), .int p1] : List Value).toArray = args at hts hQm ⊢
  have L60 : ∀ (n : Nat) (v2 : Int32) (v3 : Int32) (mcode : Int32) (mday : Int32) (mblocks : Nat → Int32) (mopen : Nat → Int32) (y2 : Int32) (zmblocks : Nat → Int32) (zmopen : Nat → Int32), f_M_pass_L60 n v2 v3 mday mlinks mblocks mholds mheld mends mopen = some (y2, zmblocks, zmopen) → ∀ (H : Heap) (locs : List Loc) (ls : Array Slot), va_P D vwCl (WM ca ad lq mcode mday mown mquot mprom mfiles mowner mlinks mblocks mvals msnaps mranks mkept mshot mwas mholds mheld mends mopen mentr mkinds misop mfilesT mentrT mpromT mlinksT mblocksT mvalsT ++ R) H → va_D A (WM ca ad lq mcode mday mown mquot mprom mfiles mowner mlinks mblocks mvals msnaps mranks mkept mshot mwas mholds mheld mends mopen mentr mkinds misop mfilesT mentrT mpromT mlinksT mblocksT mvalsT ++ R) → va_S A s.heap H locs → lv_has ls 5 [(0, .ref (ad 0)), (2, .int v2), (3, .int v3)] → (∀ (H : Heap) (locs : List Loc) (ls : Array Slot), va_P D vwCl (WM ca ad lq mcode mday mown mquot mprom mfiles mowner mlinks zmblocks mvals msnaps mranks mkept mshot mwas mholds mheld mends zmopen mentr mkinds misop mfilesT mentrT mpromT mlinksT mblocksT mvalsT ++ R) H → va_D A (WM ca ad lq mcode mday mown mquot mprom mfiles mowner mlinks zmblocks mvals msnaps mranks mkept mshot mwas mholds mheld mends zmopen mentr mkinds misop mfilesT mentrT mpromT mlinksT mblocksT mvalsT ++ R) → va_S A s.heap H locs → lv_has ls 5 [(2, .int y2)] → W p l e ({ frames := 3, cells := 0, slots := 0, locals := 66 } : Room) s m args below meth c H locs 0 0 Qm (F0 m 118 ls [])) → W p l e ({ frames := 3, cells := 0, slots := 0, locals := 66 } : Room) s m args below meth c H locs 0 0 Qm (F0 m 60 ls []) := by
    intro n
    induction n with
    | zero => intro v2 v3 mcode mday mblocks mopen y2 zmblocks zmopen hf; cases hf
    | succ n ih =>
      intro v2 v3 mcode mday mblocks mopen y2 zmblocks zmopen hf H locs ls hP hD hS hl kk
      unfold f_M_pass_L60 at hf
      refine lv_iload_n hx hb dX4_pass_60 rfl (lv_at hl 2 rfl) ?_
      refine lv_aload_n hx hb dX4_pass_61 rfl (lv_at hl 0 rfl) ?_
      refine va_get (D := D) (ci := 8) (v := .int mholds) (C := RX4) (T := TX4) (N := 29) hx hb hts inX4 hown hK hP 0 rfl rfl 15 (by decide) (hts _ q1344) (fun _ h9 => h9) rfl dX4_pass_62 ?_
      refine lv_icmp_ge (tgt := 118) hx hb dX4_pass_65 (by decide) (fun c19 => ?_) (fun c19 => ?_)
      · have hf := br_pos c19 hf
        cases hf
        exact kk _ _ _ hP hD hS (lv_sub hl [1] rfl)
      · have hf := br_neg c19 hf
        refine lv_aload_n hx hb dX4_pass_68 rfl (lv_at hl 0 rfl) ?_
        refine va_get (D := D) (ci := 8) (v := .ref (ad 13)) (C := RX4) (T := TX4) (N := 29) hx hb hts inX4 hown hK hP 0 rfl rfl 18 (by decide) (hts _ q1347) (fun _ h9 => h9) rfl dX4_pass_69 ?_
        refine lv_iload_n hx hb dX4_pass_72 rfl (lv_at hl 2 rfl) ?_
        obtain ⟨k20, hf⟩ := ck_not hf
        refine va_zald (D := D) hx hb hK hP 13 1 rfl rfl k20 dX4_pass_73 ?_
        refine lv_if_eq (tgt := 112) hx hb dX4_pass_74 (by decide) (fun c21 => ?_) (fun c21 => ?_)
        · have hf := br_pos c21 hf
          refine lv_iinc (v := (v3 + 1)) (lv' := [(3, .int (v3 + 1)), (0, .ref (ad 0)), (2, .int v2)]) hx hb dX4_pass_112 hl (k := 2) rfl rfl (by decide) rfl (fun ls hl => ?_)
          refine lv_goto (tgt := 60) hx hb dX4_pass_115 (by decide) ?_
          exact ih v2 (v3 + 1) mcode mday mblocks mopen _ _ _ hf _ _ _ hP hD hS (lv_sub hl [1, 2, 0] rfl) kk
        · have hf := br_neg c21 hf
          refine lv_aload_n hx hb dX4_pass_77 rfl (lv_at hl 0 rfl) ?_
          refine va_get (D := D) (ci := 8) (v := .ref (ad 12)) (C := RX4) (T := TX4) (N := 29) hx hb hts inX4 hown hK hP 0 rfl rfl 17 (by decide) (hts _ q1346) (fun _ h9 => h9) rfl dX4_pass_78 ?_
          refine lv_iload_n hx hb dX4_pass_81 rfl (lv_at hl 2 rfl) ?_
          obtain ⟨k22, hf⟩ := ck_not hf
          refine va_iald (D := D) hx hb hK hP 12 0 rfl rfl k22 dX4_pass_82 ?_
          refine lv_aload_n hx hb dX4_pass_83 rfl (lv_at hl 0 rfl) ?_
          refine va_get (D := D) (ci := 8) (v := .int mday) (C := RX4) (T := TX4) (N := 29) hx hb hts inX4 hown hK hP 0 rfl rfl 1 (by decide) (hts _ q1330) (fun _ h9 => h9) rfl dX4_pass_84 ?_
          refine lv_icmp_gt (tgt := 112) hx hb dX4_pass_87 (by decide) (fun c23 => ?_) (fun c23 => ?_)
          · have hf := br_pos c23 hf
            refine lv_iinc (v := (v3 + 1)) (lv' := [(3, .int (v3 + 1)), (0, .ref (ad 0)), (2, .int v2)]) hx hb dX4_pass_112 hl (k := 2) rfl rfl (by decide) rfl (fun ls hl => ?_)
            refine lv_goto (tgt := 60) hx hb dX4_pass_115 (by decide) ?_
            exact ih v2 (v3 + 1) mcode mday mblocks mopen _ _ _ hf _ _ _ hP hD hS (lv_sub hl [1, 2, 0] rfl) kk
          · have hf := br_neg c23 hf
            refine lv_aload_n hx hb dX4_pass_90 rfl (lv_at hl 0 rfl) ?_
            refine va_get (D := D) (ci := 8) (v := .ref (ad 13)) (C := RX4) (T := TX4) (N := 29) hx hb hts inX4 hown hK hP 0 rfl rfl 18 (by decide) (hts _ q1347) (fun _ h9 => h9) rfl dX4_pass_91 ?_
            refine lv_iload_n hx hb dX4_pass_94 rfl (lv_at hl 2 rfl) ?_
            refine lv_iconst (v := 0) hx hb dX4_pass_95 (by decide) ?_
            obtain ⟨k24, hf⟩ := ck_not hf
            refine va_zast (D := D) hx hb hK hP hD hS 13 1 rfl rfl k24 dX4_pass_96 (fun H locs hP hD hS => ?_)
            have hP : va_P D vwCl (WM ca ad lq mcode mday mown mquot mprom mfiles mowner mlinks mblocks mvals msnaps mranks mkept mshot mwas mholds mheld mends (upd mopen v3.toNatClampNeg (vp_nar .boolean 0)) mentr mkinds misop mfilesT mentrT mpromT mlinksT mblocksT mvalsT ++ R) H := hP
            have hD : va_D A (WM ca ad lq mcode mday mown mquot mprom mfiles mowner mlinks mblocks mvals msnaps mranks mkept mshot mwas mholds mheld mends (upd mopen v3.toNatClampNeg (vp_nar .boolean 0)) mentr mkinds misop mfilesT mentrT mpromT mlinksT mblocksT mvalsT ++ R) := hD
            refine lv_iinc (v := (v2 + 1)) (lv' := [(2, .int (v2 + 1)), (0, .ref (ad 0)), (3, .int v3)]) hx hb dX4_pass_97 hl (k := 1) rfl rfl (by decide) rfl (fun ls hl => ?_)
            refine lv_aload_n hx hb dX4_pass_100 rfl (lv_at hl 1 rfl) ?_
            refine lv_aload_n hx hb dX4_pass_101 rfl (lv_at hl 1 rfl) ?_
            refine va_get (D := D) (ci := 8) (v := .ref (ad 11)) (C := RX4) (T := TX4) (N := 29) hx hb hts inX4 hown hK hP 0 rfl rfl 16 (by decide) (hts _ q1345) (fun _ h9 => h9) rfl dX4_pass_102 ?_
            refine lv_iload_n hx hb dX4_pass_105 rfl (lv_at hl 2 rfl) ?_
            obtain ⟨k25, hf⟩ := ck_not hf
            refine va_iald (D := D) hx hb hK hP 11 0 rfl rfl k25 dX4_pass_106 ?_
            obtain ⟨⟨r26, mblocks_27⟩, h28, hf⟩ := bnd hf
            refine call_vi (rest := []) (m_M_goes l ca ad lq mcode mday mown mquot mprom mfiles mowner mlinks mblocks mvals msnaps mranks mkept mshot mwas mholds mheld mends (upd mopen v3.toNatClampNeg (vp_nar .boolean 0)) mentr mkinds misop mfilesT mentrT mpromT mlinksT mblocksT mvalsT R _ (mheld v3.toNatClampNeg) r26 mblocks_27 h28) ⟨hx, hb, hml, hown, hts⟩ (cwV 1 hts (gV q1476 q1478 q29 q50 q1479) rfl rfl rfl (by decide +kernel) ⟨Nat.le_of_ble_eq_true rfl, Nat.le_of_ble_eq_true rfl⟩) (va_recv hK hP (ci := 8) (q0 := 0) rfl rfl) hE hP hD hS hA rfl hl.1 rfl (lv_room (Nat.le_of_ble_eq_true rfl)) dX4_pass_107 ⟨Nat.le_of_ble_eq_true rfl, Nat.le_of_ble_eq_true rfl⟩ (fun H locs hP hD hS => ?_)
            refine lv_istore (lv' := [(4, .int r26), (2, .int (v2 + 1)), (0, .ref (ad 0)), (3, .int v3)]) hx hb dX4_pass_110 hl (by decide) rfl (fun ls hl => ?_)
            refine lv_iinc (v := (v3 + 1)) (lv' := [(3, .int (v3 + 1)), (4, .int r26), (2, .int (v2 + 1)), (0, .ref (ad 0))]) hx hb dX4_pass_112 hl (k := 3) rfl rfl (by decide) rfl (fun ls hl => ?_)
            refine lv_goto (tgt := 60) hx hb dX4_pass_115 (by decide) ?_
            exact ih (v2 + 1) (v3 + 1) mcode mday mblocks_27 (upd mopen v3.toNatClampNeg (vp_nar .boolean 0)) _ _ _ hf _ _ _ hP hD hS (lv_sub hl [3, 2, 0] rfl) kk
  refine lv_aload_n hx hb dX4_pass_0 rfl (lv_at hl 0 rfl) ?_
  refine lv_iconst (v := 0) hx hb dX4_pass_1 (by decide) ?_
  refine va_put (D := D) (ci := 8) (v := .int 0) (ty := .int) (C := RX4) (T := TX4) (N := 29) hx hb hts inX4 tyX4 tyX4_ok nmX4 hown hK hP hD hS 0 rfl rfl 0 (by decide) (hts _ q1329) (fun _ h9 => h9) rfl (by decide +kernel) rfl rfl (Nat.le_of_ble_eq_true rfl) dX4_pass_2 (fun H locs hP hD hS => ?_)
  have hP : va_P D vwCl (WM ca ad lq 0 mday mown mquot mprom mfiles mowner mlinks mblocks mvals msnaps mranks mkept mshot mwas mholds mheld mends mopen mentr mkinds misop mfilesT mentrT mpromT mlinksT mblocksT mvalsT ++ R) H := hP
  have hD : va_D A (WM ca ad lq 0 mday mown mquot mprom mfiles mowner mlinks mblocks mvals msnaps mranks mkept mshot mwas mholds mheld mends mopen mentr mkinds misop mfilesT mentrT mpromT mlinksT mblocksT mvalsT ++ R) := hD
  refine lv_iload_n hx hb dX4_pass_5 rfl (lv_at hl 1 rfl) ?_
  refine lv_iconst (v := 1) hx hb dX4_pass_6 (by decide) ?_
  refine lv_bipush (v := 99) hx hb dX4_pass_7 (by decide) ?_
  obtain ⟨r1, h2, hf⟩ := bnd hf
  refine call_si (rest := []) (m_M_in l ca ad lq 0 mday mown mquot mprom mfiles mowner mlinks mblocks mvals msnaps mranks mkept mshot mwas mholds mheld mends mopen mentr mkinds misop mfilesT mentrT mpromT mlinksT mblocksT mvalsT R _ p1 1 99 r1 h2) ⟨hx, hb, hml, hown, hts⟩ (va_cwS 3 hts (gS q1425 q1426 q50 q1427) rfl rfl rfl (by decide +kernel) ⟨Nat.le_of_ble_eq_true rfl, Nat.le_of_ble_eq_true rfl⟩) hE hP hD hS hA rfl hl.1 rfl (lv_room (Nat.le_of_ble_eq_true rfl)) dX4_pass_9 ⟨Nat.le_of_ble_eq_true rfl, Nat.le_of_ble_eq_true rfl⟩ (fun H locs hP hD hS => ?_)
  refine lv_if_ne (tgt := 21) hx hb dX4_pass_12 (by decide) (fun c3 => ?_) (fun c3 => ?_)
  · have hf := br_neg c3 hf
    refine lv_aload_n hx hb dX4_pass_21 rfl (lv_at hl 0 rfl) ?_
    refine va_get (D := D) (ci := 8) (v := .int misop) (C := RX4) (T := TX4) (N := 29) hx hb hts inX4 hown hK hP 0 rfl rfl 21 (by decide) (hts _ q1350) (fun _ h9 => h9) rfl dX4_pass_22 ?_
    refine lv_if_ne (tgt := 40) hx hb dX4_pass_25 (by decide) (fun c4 => ?_) (fun c4 => ?_)
    · have hf := br_neg c4 hf
      refine lv_aload_n hx hb dX4_pass_40 rfl (lv_at hl 0 rfl) ?_
      refine lv_iconst (v := 2) hx hb dX4_pass_41 (by decide) ?_
      obtain ⟨⟨r5, mcode_6⟩, h7, hf⟩ := bnd hf
      refine call_vi (rest := []) (m_M_fails l ca ad lq 0 mday mown mquot mprom mfiles mowner mlinks mblocks mvals msnaps mranks mkept mshot mwas mholds mheld mends mopen mentr mkinds misop mfilesT mentrT mpromT mlinksT mblocksT mvalsT R _ 2 r5 mcode_6 h7) ⟨hx, hb, hml, hown, hts⟩ (cwV 1 hts (gV q1428 q1430 q23 q50 q1431) rfl rfl rfl (by decide +kernel) ⟨Nat.le_of_ble_eq_true rfl, Nat.le_of_ble_eq_true rfl⟩) (va_recv hK hP (ci := 8) (q0 := 0) rfl rfl) hE hP hD hS hA rfl hl.1 rfl (lv_room (Nat.le_of_ble_eq_true rfl)) dX4_pass_42 ⟨Nat.le_of_ble_eq_true rfl, Nat.le_of_ble_eq_true rfl⟩ (fun H locs hP hD hS => ?_)
      cases hf
      exact end_i hAe hQm hx hb hr hlocks rfl hP hD hS dX4_pass_45
    · have hf := br_pos c4 hf
      refine lv_aload_n hx hb dX4_pass_28 rfl (lv_at hl 0 rfl) ?_
      refine va_get (D := D) (ci := 8) (v := .int mday) (C := RX4) (T := TX4) (N := 29) hx hb hts inX4 hown hK hP 0 rfl rfl 1 (by decide) (hts _ q1330) (fun _ h9 => h9) rfl dX4_pass_29 ?_
      refine lv_iload_n hx hb dX4_pass_32 rfl (lv_at hl 1 rfl) ?_
      refine lv_iadd hx hb dX4_pass_33 ?_
      refine lv_sipush (v := 9999) hx hb dX4_pass_34 (by decide) ?_
      refine lv_icmp_le (tgt := 46) hx hb dX4_pass_37 (by decide) (fun c8 => ?_) (fun c8 => ?_)
      · have hf := br_pos c8 hf
        refine lv_aload_n hx hb dX4_pass_46 rfl (lv_at hl 0 rfl) ?_
        refine lv_dup hx hb dX4_pass_47 rfl ?_
        refine va_get (D := D) (ci := 8) (v := .int mday) (C := RX4) (T := TX4) (N := 29) hx hb hts inX4 hown hK hP 0 rfl rfl 1 (by decide) (hts _ q1330) (fun _ h9 => h9) rfl dX4_pass_48 ?_
        refine lv_iload_n hx hb dX4_pass_51 rfl (lv_at hl 1 rfl) ?_
        refine lv_iadd hx hb dX4_pass_52 ?_
        refine va_put (D := D) (ci := 8) (v := .int (mday + p1)) (ty := .int) (C := RX4) (T := TX4) (N := 29) hx hb hts inX4 tyX4 tyX4_ok nmX4 hown hK hP hD hS 0 rfl rfl 1 (by decide) (hts _ q1330) (fun _ h9 => h9) rfl (by decide +kernel) rfl rfl (Nat.le_of_ble_eq_true rfl) dX4_pass_53 (fun H locs hP hD hS => ?_)
        have hP : va_P D vwCl (WM ca ad lq 0 (mday + p1) mown mquot mprom mfiles mowner mlinks mblocks mvals msnaps mranks mkept mshot mwas mholds mheld mends mopen mentr mkinds misop mfilesT mentrT mpromT mlinksT mblocksT mvalsT ++ R) H := hP
        have hD : va_D A (WM ca ad lq 0 (mday + p1) mown mquot mprom mfiles mowner mlinks mblocks mvals msnaps mranks mkept mshot mwas mholds mheld mends mopen mentr mkinds misop mfilesT mentrT mpromT mlinksT mblocksT mvalsT ++ R) := hD
        refine lv_iconst (v := 0) hx hb dX4_pass_56 (by decide) ?_
        refine lv_istore_n (lv' := [(2, .int 0), (0, .ref (ad 0)), (1, .int p1)]) hx hb dX4_pass_57 rfl hl (by decide) rfl (fun ls hl => ?_)
        refine lv_iconst (v := 0) hx hb dX4_pass_58 (by decide) ?_
        refine lv_istore_n (lv' := [(3, .int 0), (2, .int 0), (0, .ref (ad 0)), (1, .int p1)]) hx hb dX4_pass_59 rfl hl (by decide) rfl (fun ls hl => ?_)
        obtain ⟨⟨x30, mblocks_31, mopen_32⟩, h29, hf⟩ := bnd hf
        refine L60 FU 0 0 0 (mday + p1) mblocks mopen x30 mblocks_31 mopen_32 h29 _ _ _ hP hD hS (lv_sub hl [2, 1, 0] rfl) (fun H locs ls hP hD hS hl => ?_)
        refine lv_iload_n hx hb dX4_pass_118 rfl (lv_at hl 0 rfl) ?_
        cases hf
        exact end_i hAe hQm hx hb hr hlocks rfl hP hD hS dX4_pass_119
      · have hf := br_neg c8 hf
        refine lv_aload_n hx hb dX4_pass_40 rfl (lv_at hl 0 rfl) ?_
        refine lv_iconst (v := 2) hx hb dX4_pass_41 (by decide) ?_
        obtain ⟨⟨r33, mcode_34⟩, h35, hf⟩ := bnd hf
        refine call_vi (rest := []) (m_M_fails l ca ad lq 0 mday mown mquot mprom mfiles mowner mlinks mblocks mvals msnaps mranks mkept mshot mwas mholds mheld mends mopen mentr mkinds misop mfilesT mentrT mpromT mlinksT mblocksT mvalsT R _ 2 r33 mcode_34 h35) ⟨hx, hb, hml, hown, hts⟩ (cwV 1 hts (gV q1428 q1430 q23 q50 q1431) rfl rfl rfl (by decide +kernel) ⟨Nat.le_of_ble_eq_true rfl, Nat.le_of_ble_eq_true rfl⟩) (va_recv hK hP (ci := 8) (q0 := 0) rfl rfl) hE hP hD hS hA rfl hl.1 rfl (lv_room (Nat.le_of_ble_eq_true rfl)) dX4_pass_42 ⟨Nat.le_of_ble_eq_true rfl, Nat.le_of_ble_eq_true rfl⟩ (fun H locs hP hD hS => ?_)
        cases hf
        exact end_i hAe hQm hx hb hr hlocks rfl hP hD hS dX4_pass_45
  · have hf := br_pos c3 hf
    refine lv_aload_n hx hb dX4_pass_15 rfl (lv_at hl 0 rfl) ?_
    refine lv_iconst (v := 1) hx hb dX4_pass_16 (by decide) ?_
    obtain ⟨⟨r36, mcode_37⟩, h38, hf⟩ := bnd hf
    refine call_vi (rest := []) (m_M_fails l ca ad lq 0 mday mown mquot mprom mfiles mowner mlinks mblocks mvals msnaps mranks mkept mshot mwas mholds mheld mends mopen mentr mkinds misop mfilesT mentrT mpromT mlinksT mblocksT mvalsT R _ 1 r36 mcode_37 h38) ⟨hx, hb, hml, hown, hts⟩ (cwV 1 hts (gV q1428 q1430 q23 q50 q1431) rfl rfl rfl (by decide +kernel) ⟨Nat.le_of_ble_eq_true rfl, Nat.le_of_ble_eq_true rfl⟩) (va_recv hK hP (ci := 8) (q0 := 0) rfl rfl) hE hP hD hS hA rfl hl.1 rfl (lv_room (Nat.le_of_ble_eq_true rfl)) dX4_pass_17 ⟨Nat.le_of_ble_eq_true rfl, Nat.le_of_ble_eq_true rfl⟩ (fun H locs hP hD hS => ?_)
    cases hf
    exact end_i hAe hQm hx hb hr hlocks rfl hP hD hS dX4_pass_20
def f_M_day (mday : Int32) : Option (Int32 × Int32) :=
  some (mday, 0)
set_option maxHeartbeats 4000000 in
set_option maxRecDepth 100000 in
theorem m_M_day (l : Launch) {D : va_G} {sl : List (String × Nat × String)} (ca : Nat → ClassId) (ad : Nat → Nat) (lq : Nat) (mcode : Int32) (mday : Int32) (mown : Int32) (mquot : Nat → Int32) (mprom : Nat → Int32) (mfiles : Int32) (mowner : Nat → Int32) (mlinks : Nat → Int32) (mblocks : Nat → Int32) (mvals : Nat → Int32) (msnaps : Int32) (mranks : Nat → Int32) (mkept : Nat → Int32) (mshot : Nat → Int32) (mwas : Nat → Int32) (mholds : Int32) (mheld : Nat → Int32) (mends : Nat → Int32) (mopen : Nat → Int32) (mentr : Int32) (mkinds : Nat → Int32) (misop : Int32) (mfilesT : Int32) (mentrT : Int32) (mpromT : Nat → Int32) (mlinksT : Nat → Int32) (mblocksT : Nat → Int32) (mvalsT : Nat → Int32) (R : va_W) (sz : Nat) (ro : Int32) (omcode : Int32) (hf : f_M_day mday = some (ro, omcode)) : Met l yX4_day (wm yX4_day cX4_day 1 (some .int)) ({ frames := 0, cells := 0, slots := 0, locals := 0 } : Room) (PRE [.ref (ad 0)] D ca sl (WM ca ad lq mcode mday mown mquot mprom mfiles mowner mlinks mblocks mvals msnaps mranks mkept mshot mwas mholds mheld mends mopen mentr mkinds misop mfilesT mentrT mpromT mlinksT mblocksT mvalsT ++ R) sz) (QI ro D (WM ca ad lq omcode mday mown mquot mprom mfiles mowner mlinks mblocks mvals msnaps mranks mkept mshot mwas mholds mheld mends mopen mentr mkinds misop mfilesT mentrT mpromT mlinksT mblocksT mvalsT ++ R) (WM ca ad lq mcode mday mown mquot mprom mfiles mowner mlinks mblocks mvals msnaps mranks mkept mshot mwas mholds mheld mends mopen mentr mkinds misop mfilesT mentrT mpromT mlinksT mblocksT mvalsT ++ R) sz) 0 0 (va_A (WM ca ad lq mcode mday mown mquot mprom mfiles mowner mlinks mblocks mvals msnaps mranks mkept mshot mwas mholds mheld mends mopen mentr mkinds misop mfilesT mentrT mpromT mlinksT mblocksT mvalsT ++ R) sz) := by
  refine Met.ofW (cc := cX4_day) (maxL := 1) (ret := (some .int)) (by decide) rfl ?_
  intro p e s m args below meth c s₁ B hml hv
  obtain ⟨rfl, rfl, hP, hE, hD0⟩ := hv
  have hx := B.exec
  have hb := B.bytes
  have hr := B.returns
  have hts := wm_ww (atoms_spec (ws := wm yX4_day cX4_day 1 (some .int)) B.pre)
  have hown : s.vm.findClass RX4 = some m.cls := findClass_of_methodNamed B.named
  have hlocks := B.notSynchronized
  have hK := hE.1
  have hD := hD0.self (sz := s.heap.size)
  generalize hAe : va_A (WM ca ad lq mcode mday mown mquot mprom mfiles mowner mlinks mblocks mvals msnaps mranks mkept mshot mwas mholds mheld mends mopen mentr mkinds misop mfilesT mentrT mpromT mlinksT mblocksT mvalsT ++ R) s.heap.size = A at hD ⊢
  have hA : ∀ q : Nat, s.heap.size ≤ q → A q := fun q h => by rw [← hAe]; exact Or.inr h
  have hS : va_S A s.heap s.heap [] := va_S.rf
  have hl := lv_entry ([.ref (ad 0)]) (n := 1) (Nat.le_of_ble_eq_true rfl)
  rw [lg_entry_eq]
  generalize (lg_sl ([.ref (ad 0)]) ++ List.replicate (1 - (lg_sl ([.ref (ad 0)])).length) Slot.unset).toArray = ls at hl ⊢
  have hl : lv_has ls 1 [(0, .ref (ad 0))] := hl
  change W p l e ({ frames := 0, cells := 0, slots := 0, locals := 0 } : Room) s m _ below meth c s.heap [] 0 0 _ _
  generalize hQm : MQ below (QI ro D (WM ca ad lq omcode mday mown mquot mprom mfiles mowner mlinks mblocks mvals msnaps mranks mkept mshot mwas mholds mheld mends mopen mentr mkinds misop mfilesT mentrT mpromT mlinksT mblocksT mvalsT ++ R) (WM ca ad lq mcode mday mown mquot mprom mfiles mowner mlinks mblocks mvals msnaps mranks mkept mshot mwas mholds mheld mends mopen mentr mkinds misop mfilesT mentrT mpromT mlinksT mblocksT mvalsT ++ R) s.heap.size) _ s 0 0 A = Qm
  have hP : va_P D vwCl (WM ca ad lq mcode mday mown mquot mprom mfiles mowner mlinks mblocks mvals msnaps mranks mkept mshot mwas mholds mheld mends mopen mentr mkinds misop mfilesT mentrT mpromT mlinksT mblocksT mvalsT ++ R) s.heap := hP
  generalize hae : ([.ref (ad 0)] : List Value).toArray = args at hts hQm ⊢
  refine lv_aload_n hx hb dX4_day_0 rfl (lv_at hl 0 rfl) ?_
  refine lv_iconst (v := 0) hx hb dX4_day_1 (by decide) ?_
  refine va_put (D := D) (ci := 8) (v := .int 0) (ty := .int) (C := RX4) (T := TX4) (N := 29) hx hb hts inX4 tyX4 tyX4_ok nmX4 hown hK hP hD hS 0 rfl rfl 0 (by decide) (hts _ q1329) (fun _ h9 => h9) rfl (by decide +kernel) rfl rfl (Nat.le_of_ble_eq_true rfl) dX4_day_2 (fun H locs hP hD hS => ?_)
  have hP : va_P D vwCl (WM ca ad lq 0 mday mown mquot mprom mfiles mowner mlinks mblocks mvals msnaps mranks mkept mshot mwas mholds mheld mends mopen mentr mkinds misop mfilesT mentrT mpromT mlinksT mblocksT mvalsT ++ R) H := hP
  have hD : va_D A (WM ca ad lq 0 mday mown mquot mprom mfiles mowner mlinks mblocks mvals msnaps mranks mkept mshot mwas mholds mheld mends mopen mentr mkinds misop mfilesT mentrT mpromT mlinksT mblocksT mvalsT ++ R) := hD
  refine lv_aload_n hx hb dX4_day_5 rfl (lv_at hl 0 rfl) ?_
  refine va_get (D := D) (ci := 8) (v := .int mday) (C := RX4) (T := TX4) (N := 29) hx hb hts inX4 hown hK hP 0 rfl rfl 1 (by decide) (hts _ q1330) (fun _ h9 => h9) rfl dX4_day_6 ?_
  cases hf
  exact end_i hAe hQm hx hb hr hlocks rfl hP hD hS dX4_day_9
def f_M_begin_L41 : Nat → Int32 → (Nat → Int32) → (Nat → Int32) → Option ((Nat → Int32))
  | 0, _, _, _ => none
  | fuel + 1, v1, mprom, mpromT =>
    if 4 ≤ v1 then
      some mpromT
    else
      if v1 < 0 ∨ 4 ≤ v1.toNatClampNeg then none else
        if v1 < 0 ∨ 4 ≤ v1.toNatClampNeg then none else
        f_M_begin_L41 fuel (v1 + 1) mprom (upd mpromT v1.toNatClampNeg (mprom v1.toNatClampNeg))
def f_M_begin_L66 : Nat → Int32 → (Nat → Int32) → (Nat → Int32) → Option ((Nat → Int32))
  | 0, _, _, _ => none
  | fuel + 1, v1, mlinks, mlinksT =>
    if 40 ≤ v1 then
      some mlinksT
    else
      if v1 < 0 ∨ 40 ≤ v1.toNatClampNeg then none else
        if v1 < 0 ∨ 40 ≤ v1.toNatClampNeg then none else
        f_M_begin_L66 fuel (v1 + 1) mlinks (upd mlinksT v1.toNatClampNeg (mlinks v1.toNatClampNeg))
def f_M_begin_L92 : Nat → Int32 → (Nat → Int32) → (Nat → Int32) → Option ((Nat → Int32))
  | 0, _, _, _ => none
  | fuel + 1, v1, mblocks, mblocksT =>
    if 640 ≤ v1 then
      some mblocksT
    else
      if v1 < 0 ∨ 640 ≤ v1.toNatClampNeg then none else
        if v1 < 0 ∨ 640 ≤ v1.toNatClampNeg then none else
        f_M_begin_L92 fuel (v1 + 1) mblocks (upd mblocksT v1.toNatClampNeg (mblocks v1.toNatClampNeg))
def f_M_begin_L119 : Nat → Int32 → (Nat → Int32) → (Nat → Int32) → Option ((Nat → Int32))
  | 0, _, _, _ => none
  | fuel + 1, v1, mvals, mvalsT =>
    if 64 ≤ v1 then
      some mvalsT
    else
      if v1 < 0 ∨ 64 ≤ v1.toNatClampNeg then none else
        if v1 < 0 ∨ 64 ≤ v1.toNatClampNeg then none else
        f_M_begin_L119 fuel (v1 + 1) mvals (upd mvalsT v1.toNatClampNeg (mvals v1.toNatClampNeg))
def f_M_begin (mprom : Nat → Int32) (mfiles : Int32) (mlinks : Nat → Int32) (mblocks : Nat → Int32) (mvals : Nat → Int32) (mentr : Int32) (misop : Int32) (mfilesT : Int32) (mentrT : Int32) (mpromT : Nat → Int32) (mlinksT : Nat → Int32) (mblocksT : Nat → Int32) (mvalsT : Nat → Int32) : Option (Int32 × Int32 × Int32 × Int32 × Int32 × (Nat → Int32) × (Nat → Int32) × (Nat → Int32) × (Nat → Int32)) :=
  if misop = 0 then
    (f_M_begin_L41 FU 0 mprom mpromT).bind fun mpromT_12 =>
    (f_M_begin_L66 FU 0 mlinks mlinksT).bind fun mlinksT_23 =>
    (f_M_begin_L92 FU 0 mblocks mblocksT).bind fun mblocksT_34 =>
    (f_M_begin_L119 FU 0 mvals mvalsT).bind fun mvalsT_45 =>
    some (mentr, 0, 1, mfiles, mentr, mpromT_12, mlinksT_23, mblocksT_34, mvalsT_45)
  else
    (f_M_fails 1).bind fun (r46, mcode_47) =>
    some (r46, mcode_47, misop, mfilesT, mentrT, mpromT, mlinksT, mblocksT, mvalsT)
set_option maxHeartbeats 4000000 in
set_option maxRecDepth 100000 in
theorem m_M_begin (l : Launch) {D : va_G} {sl : List (String × Nat × String)} (ca : Nat → ClassId) (ad : Nat → Nat) (lq : Nat) (mcode : Int32) (mday : Int32) (mown : Int32) (mquot : Nat → Int32) (mprom : Nat → Int32) (mfiles : Int32) (mowner : Nat → Int32) (mlinks : Nat → Int32) (mblocks : Nat → Int32) (mvals : Nat → Int32) (msnaps : Int32) (mranks : Nat → Int32) (mkept : Nat → Int32) (mshot : Nat → Int32) (mwas : Nat → Int32) (mholds : Int32) (mheld : Nat → Int32) (mends : Nat → Int32) (mopen : Nat → Int32) (mentr : Int32) (mkinds : Nat → Int32) (misop : Int32) (mfilesT : Int32) (mentrT : Int32) (mpromT : Nat → Int32) (mlinksT : Nat → Int32) (mblocksT : Nat → Int32) (mvalsT : Nat → Int32) (R : va_W) (sz : Nat) (ro : Int32) (omcode : Int32) (omisop : Int32) (omfilesT : Int32) (omentrT : Int32) (ompromT : Nat → Int32) (omlinksT : Nat → Int32) (omblocksT : Nat → Int32) (omvalsT : Nat → Int32) (hf : f_M_begin mprom mfiles mlinks mblocks mvals mentr misop mfilesT mentrT mpromT mlinksT mblocksT mvalsT = some (ro, omcode, omisop, omfilesT, omentrT, ompromT, omlinksT, omblocksT, omvalsT)) : Met l yX4_begin (wm yX4_begin cX4_begin 2 (some .int)) ({ frames := 1, cells := 0, slots := 0, locals := 21 } : Room) (PRE [.ref (ad 0)] D ca sl (WM ca ad lq mcode mday mown mquot mprom mfiles mowner mlinks mblocks mvals msnaps mranks mkept mshot mwas mholds mheld mends mopen mentr mkinds misop mfilesT mentrT mpromT mlinksT mblocksT mvalsT ++ R) sz) (QI ro D (WM ca ad lq omcode mday mown mquot mprom mfiles mowner mlinks mblocks mvals msnaps mranks mkept mshot mwas mholds mheld mends mopen mentr mkinds omisop omfilesT omentrT ompromT omlinksT omblocksT omvalsT ++ R) (WM ca ad lq mcode mday mown mquot mprom mfiles mowner mlinks mblocks mvals msnaps mranks mkept mshot mwas mholds mheld mends mopen mentr mkinds misop mfilesT mentrT mpromT mlinksT mblocksT mvalsT ++ R) sz) 0 0 (va_A (WM ca ad lq mcode mday mown mquot mprom mfiles mowner mlinks mblocks mvals msnaps mranks mkept mshot mwas mholds mheld mends mopen mentr mkinds misop mfilesT mentrT mpromT mlinksT mblocksT mvalsT ++ R) sz) := by
  refine Met.ofW (cc := cX4_begin) (maxL := 2) (ret := (some .int)) (by decide) rfl ?_
  intro p e s m args below meth c s₁ B hml hv
  obtain ⟨rfl, rfl, hP, hE, hD0⟩ := hv
  have hx := B.exec
  have hb := B.bytes
  have hr := B.returns
  have hts := wm_ww (atoms_spec (ws := wm yX4_begin cX4_begin 2 (some .int)) B.pre)
  have hown : s.vm.findClass RX4 = some m.cls := findClass_of_methodNamed B.named
  have hlocks := B.notSynchronized
  have hK := hE.1
  have hD := hD0.self (sz := s.heap.size)
  generalize hAe : va_A (WM ca ad lq mcode mday mown mquot mprom mfiles mowner mlinks mblocks mvals msnaps mranks mkept mshot mwas mholds mheld mends mopen mentr mkinds misop mfilesT mentrT mpromT mlinksT mblocksT mvalsT ++ R) s.heap.size = A at hD ⊢
  have hA : ∀ q : Nat, s.heap.size ≤ q → A q := fun q h => by rw [← hAe]; exact Or.inr h
  have hS : va_S A s.heap s.heap [] := va_S.rf
  have hl := lv_entry ([.ref (ad 0)]) (n := 2) (Nat.le_of_ble_eq_true rfl)
  rw [lg_entry_eq]
  generalize (lg_sl ([.ref (ad 0)]) ++ List.replicate (2 - (lg_sl ([.ref (ad 0)])).length) Slot.unset).toArray = ls at hl ⊢
  have hl : lv_has ls 2 [(0, .ref (ad 0))] := hl
  change W p l e ({ frames := 1, cells := 0, slots := 0, locals := 21 } : Room) s m _ below meth c s.heap [] 0 0 _ _
  generalize hQm : MQ below (QI ro D (WM ca ad lq omcode mday mown mquot mprom mfiles mowner mlinks mblocks mvals msnaps mranks mkept mshot mwas mholds mheld mends mopen mentr mkinds omisop omfilesT omentrT ompromT omlinksT omblocksT omvalsT ++ R) (WM ca ad lq mcode mday mown mquot mprom mfiles mowner mlinks mblocks mvals msnaps mranks mkept mshot mwas mholds mheld mends mopen mentr mkinds misop mfilesT mentrT mpromT mlinksT mblocksT mvalsT ++ R) s.heap.size) _ s 0 0 A = Qm
  have hP : va_P D vwCl (WM ca ad lq mcode mday mown mquot mprom mfiles mowner mlinks mblocks mvals msnaps mranks mkept mshot mwas mholds mheld mends mopen mentr mkinds misop mfilesT mentrT mpromT mlinksT mblocksT mvalsT ++ R) s.heap := hP
  generalize hae : ([.ref (ad 0)] : List Value).toArray = args at hts hQm ⊢
  have L41 : ∀ (n : Nat) (v1 : Int32) (mcode : Int32) (misop : Int32) (mfilesT : Int32) (mentrT : Int32) (mpromT : Nat → Int32) (mlinksT : Nat → Int32) (mblocksT : Nat → Int32) (mvalsT : Nat → Int32) (zmpromT : Nat → Int32), f_M_begin_L41 n v1 mprom mpromT = some zmpromT → ∀ (H : Heap) (locs : List Loc) (ls : Array Slot), va_P D vwCl (WM ca ad lq mcode mday mown mquot mprom mfiles mowner mlinks mblocks mvals msnaps mranks mkept mshot mwas mholds mheld mends mopen mentr mkinds misop mfilesT mentrT mpromT mlinksT mblocksT mvalsT ++ R) H → va_D A (WM ca ad lq mcode mday mown mquot mprom mfiles mowner mlinks mblocks mvals msnaps mranks mkept mshot mwas mholds mheld mends mopen mentr mkinds misop mfilesT mentrT mpromT mlinksT mblocksT mvalsT ++ R) → va_S A s.heap H locs → lv_has ls 2 [(0, .ref (ad 0)), (1, .int v1)] → (∀ (H : Heap) (locs : List Loc) (ls : Array Slot), va_P D vwCl (WM ca ad lq mcode mday mown mquot mprom mfiles mowner mlinks mblocks mvals msnaps mranks mkept mshot mwas mholds mheld mends mopen mentr mkinds misop mfilesT mentrT zmpromT mlinksT mblocksT mvalsT ++ R) H → va_D A (WM ca ad lq mcode mday mown mquot mprom mfiles mowner mlinks mblocks mvals msnaps mranks mkept mshot mwas mholds mheld mends mopen mentr mkinds misop mfilesT mentrT zmpromT mlinksT mblocksT mvalsT ++ R) → va_S A s.heap H locs → lv_has ls 2 [(0, .ref (ad 0))] → W p l e ({ frames := 1, cells := 0, slots := 0, locals := 21 } : Room) s m args below meth c H locs 0 0 Qm (F0 m 64 ls [])) → W p l e ({ frames := 1, cells := 0, slots := 0, locals := 21 } : Room) s m args below meth c H locs 0 0 Qm (F0 m 41 ls []) := by
    intro n
    induction n with
    | zero => intro v1 mcode misop mfilesT mentrT mpromT mlinksT mblocksT mvalsT zmpromT hf; cases hf
    | succ n ih =>
      intro v1 mcode misop mfilesT mentrT mpromT mlinksT mblocksT mvalsT zmpromT hf H locs ls hP hD hS hl kk
      unfold f_M_begin_L41 at hf
      refine lv_iload_n hx hb dX4_begin_41 rfl (lv_at hl 1 rfl) ?_
      refine lv_iconst (v := 4) hx hb dX4_begin_42 (by decide) ?_
      refine lv_icmp_ge (tgt := 64) hx hb dX4_begin_43 (by decide) (fun c8 => ?_) (fun c8 => ?_)
      · have hf := br_pos c8 hf
        cases hf
        exact kk _ _ _ hP hD hS (lv_sub hl [0] rfl)
      · have hf := br_neg c8 hf
        refine lv_aload_n hx hb dX4_begin_46 rfl (lv_at hl 0 rfl) ?_
        refine va_get (D := D) (ci := 8) (v := .ref (ad 15)) (C := RX4) (T := TX4) (N := 29) hx hb hts inX4 hown hK hP 0 rfl rfl 24 (by decide) (hts _ q1353) (fun _ h9 => h9) rfl dX4_begin_47 ?_
        refine lv_iload_n hx hb dX4_begin_50 rfl (lv_at hl 1 rfl) ?_
        refine lv_aload_n hx hb dX4_begin_51 rfl (lv_at hl 0 rfl) ?_
        refine va_get (D := D) (ci := 8) (v := .ref (ad 2)) (C := RX4) (T := TX4) (N := 29) hx hb hts inX4 hown hK hP 0 rfl rfl 4 (by decide) (hts _ q1333) (fun _ h9 => h9) rfl dX4_begin_52 ?_
        refine lv_iload_n hx hb dX4_begin_55 rfl (lv_at hl 1 rfl) ?_
        obtain ⟨k9, hf⟩ := ck_not hf
        refine va_iald (D := D) hx hb hK hP 2 0 rfl rfl k9 dX4_begin_56 ?_
        obtain ⟨k10, hf⟩ := ck_not hf
        refine va_iast (D := D) hx hb hK hP hD hS 15 0 rfl rfl k10 dX4_begin_57 (fun H locs hP hD hS => ?_)
        have hP : va_P D vwCl (WM ca ad lq mcode mday mown mquot mprom mfiles mowner mlinks mblocks mvals msnaps mranks mkept mshot mwas mholds mheld mends mopen mentr mkinds misop mfilesT mentrT (upd mpromT v1.toNatClampNeg (mprom v1.toNatClampNeg)) mlinksT mblocksT mvalsT ++ R) H := hP
        have hD : va_D A (WM ca ad lq mcode mday mown mquot mprom mfiles mowner mlinks mblocks mvals msnaps mranks mkept mshot mwas mholds mheld mends mopen mentr mkinds misop mfilesT mentrT (upd mpromT v1.toNatClampNeg (mprom v1.toNatClampNeg)) mlinksT mblocksT mvalsT ++ R) := hD
        refine lv_iinc (v := (v1 + 1)) (lv' := [(1, .int (v1 + 1)), (0, .ref (ad 0))]) hx hb dX4_begin_58 hl (k := 1) rfl rfl (by decide) rfl (fun ls hl => ?_)
        refine lv_goto (tgt := 41) hx hb dX4_begin_61 (by decide) ?_
        exact ih (v1 + 1) mcode misop mfilesT mentrT (upd mpromT v1.toNatClampNeg (mprom v1.toNatClampNeg)) mlinksT mblocksT mvalsT _ hf _ _ _ hP hD hS (lv_sub hl [1, 0] rfl) kk
  have L66 : ∀ (n : Nat) (v1 : Int32) (mcode : Int32) (misop : Int32) (mfilesT : Int32) (mentrT : Int32) (mpromT : Nat → Int32) (mlinksT : Nat → Int32) (mblocksT : Nat → Int32) (mvalsT : Nat → Int32) (zmlinksT : Nat → Int32), f_M_begin_L66 n v1 mlinks mlinksT = some zmlinksT → ∀ (H : Heap) (locs : List Loc) (ls : Array Slot), va_P D vwCl (WM ca ad lq mcode mday mown mquot mprom mfiles mowner mlinks mblocks mvals msnaps mranks mkept mshot mwas mholds mheld mends mopen mentr mkinds misop mfilesT mentrT mpromT mlinksT mblocksT mvalsT ++ R) H → va_D A (WM ca ad lq mcode mday mown mquot mprom mfiles mowner mlinks mblocks mvals msnaps mranks mkept mshot mwas mholds mheld mends mopen mentr mkinds misop mfilesT mentrT mpromT mlinksT mblocksT mvalsT ++ R) → va_S A s.heap H locs → lv_has ls 2 [(0, .ref (ad 0)), (1, .int v1)] → (∀ (H : Heap) (locs : List Loc) (ls : Array Slot), va_P D vwCl (WM ca ad lq mcode mday mown mquot mprom mfiles mowner mlinks mblocks mvals msnaps mranks mkept mshot mwas mholds mheld mends mopen mentr mkinds misop mfilesT mentrT mpromT zmlinksT mblocksT mvalsT ++ R) H → va_D A (WM ca ad lq mcode mday mown mquot mprom mfiles mowner mlinks mblocks mvals msnaps mranks mkept mshot mwas mholds mheld mends mopen mentr mkinds misop mfilesT mentrT mpromT zmlinksT mblocksT mvalsT ++ R) → va_S A s.heap H locs → lv_has ls 2 [(0, .ref (ad 0))] → W p l e ({ frames := 1, cells := 0, slots := 0, locals := 21 } : Room) s m args below meth c H locs 0 0 Qm (F0 m 90 ls [])) → W p l e ({ frames := 1, cells := 0, slots := 0, locals := 21 } : Room) s m args below meth c H locs 0 0 Qm (F0 m 66 ls []) := by
    intro n
    induction n with
    | zero => intro v1 mcode misop mfilesT mentrT mpromT mlinksT mblocksT mvalsT zmlinksT hf; cases hf
    | succ n ih =>
      intro v1 mcode misop mfilesT mentrT mpromT mlinksT mblocksT mvalsT zmlinksT hf H locs ls hP hD hS hl kk
      unfold f_M_begin_L66 at hf
      refine lv_iload_n hx hb dX4_begin_66 rfl (lv_at hl 1 rfl) ?_
      refine lv_bipush (v := 40) hx hb dX4_begin_67 (by decide) ?_
      refine lv_icmp_ge (tgt := 90) hx hb dX4_begin_69 (by decide) (fun c19 => ?_) (fun c19 => ?_)
      · have hf := br_pos c19 hf
        cases hf
        exact kk _ _ _ hP hD hS (lv_sub hl [0] rfl)
      · have hf := br_neg c19 hf
        refine lv_aload_n hx hb dX4_begin_72 rfl (lv_at hl 0 rfl) ?_
        refine va_get (D := D) (ci := 8) (v := .ref (ad 16)) (C := RX4) (T := TX4) (N := 29) hx hb hts inX4 hown hK hP 0 rfl rfl 25 (by decide) (hts _ q1354) (fun _ h9 => h9) rfl dX4_begin_73 ?_
        refine lv_iload_n hx hb dX4_begin_76 rfl (lv_at hl 1 rfl) ?_
        refine lv_aload_n hx hb dX4_begin_77 rfl (lv_at hl 0 rfl) ?_
        refine va_get (D := D) (ci := 8) (v := .ref (ad 4)) (C := RX4) (T := TX4) (N := 29) hx hb hts inX4 hown hK hP 0 rfl rfl 7 (by decide) (hts _ q1336) (fun _ h9 => h9) rfl dX4_begin_78 ?_
        refine lv_iload_n hx hb dX4_begin_81 rfl (lv_at hl 1 rfl) ?_
        obtain ⟨k20, hf⟩ := ck_not hf
        refine va_iald (D := D) hx hb hK hP 4 0 rfl rfl k20 dX4_begin_82 ?_
        obtain ⟨k21, hf⟩ := ck_not hf
        refine va_iast (D := D) hx hb hK hP hD hS 16 0 rfl rfl k21 dX4_begin_83 (fun H locs hP hD hS => ?_)
        have hP : va_P D vwCl (WM ca ad lq mcode mday mown mquot mprom mfiles mowner mlinks mblocks mvals msnaps mranks mkept mshot mwas mholds mheld mends mopen mentr mkinds misop mfilesT mentrT mpromT (upd mlinksT v1.toNatClampNeg (mlinks v1.toNatClampNeg)) mblocksT mvalsT ++ R) H := hP
        have hD : va_D A (WM ca ad lq mcode mday mown mquot mprom mfiles mowner mlinks mblocks mvals msnaps mranks mkept mshot mwas mholds mheld mends mopen mentr mkinds misop mfilesT mentrT mpromT (upd mlinksT v1.toNatClampNeg (mlinks v1.toNatClampNeg)) mblocksT mvalsT ++ R) := hD
        refine lv_iinc (v := (v1 + 1)) (lv' := [(1, .int (v1 + 1)), (0, .ref (ad 0))]) hx hb dX4_begin_84 hl (k := 1) rfl rfl (by decide) rfl (fun ls hl => ?_)
        refine lv_goto (tgt := 66) hx hb dX4_begin_87 (by decide) ?_
        exact ih (v1 + 1) mcode misop mfilesT mentrT mpromT (upd mlinksT v1.toNatClampNeg (mlinks v1.toNatClampNeg)) mblocksT mvalsT _ hf _ _ _ hP hD hS (lv_sub hl [1, 0] rfl) kk
  have L92 : ∀ (n : Nat) (v1 : Int32) (mcode : Int32) (misop : Int32) (mfilesT : Int32) (mentrT : Int32) (mpromT : Nat → Int32) (mlinksT : Nat → Int32) (mblocksT : Nat → Int32) (mvalsT : Nat → Int32) (zmblocksT : Nat → Int32), f_M_begin_L92 n v1 mblocks mblocksT = some zmblocksT → ∀ (H : Heap) (locs : List Loc) (ls : Array Slot), va_P D vwCl (WM ca ad lq mcode mday mown mquot mprom mfiles mowner mlinks mblocks mvals msnaps mranks mkept mshot mwas mholds mheld mends mopen mentr mkinds misop mfilesT mentrT mpromT mlinksT mblocksT mvalsT ++ R) H → va_D A (WM ca ad lq mcode mday mown mquot mprom mfiles mowner mlinks mblocks mvals msnaps mranks mkept mshot mwas mholds mheld mends mopen mentr mkinds misop mfilesT mentrT mpromT mlinksT mblocksT mvalsT ++ R) → va_S A s.heap H locs → lv_has ls 2 [(0, .ref (ad 0)), (1, .int v1)] → (∀ (H : Heap) (locs : List Loc) (ls : Array Slot), va_P D vwCl (WM ca ad lq mcode mday mown mquot mprom mfiles mowner mlinks mblocks mvals msnaps mranks mkept mshot mwas mholds mheld mends mopen mentr mkinds misop mfilesT mentrT mpromT mlinksT zmblocksT mvalsT ++ R) H → va_D A (WM ca ad lq mcode mday mown mquot mprom mfiles mowner mlinks mblocks mvals msnaps mranks mkept mshot mwas mholds mheld mends mopen mentr mkinds misop mfilesT mentrT mpromT mlinksT zmblocksT mvalsT ++ R) → va_S A s.heap H locs → lv_has ls 2 [(0, .ref (ad 0))] → W p l e ({ frames := 1, cells := 0, slots := 0, locals := 21 } : Room) s m args below meth c H locs 0 0 Qm (F0 m 117 ls [])) → W p l e ({ frames := 1, cells := 0, slots := 0, locals := 21 } : Room) s m args below meth c H locs 0 0 Qm (F0 m 92 ls []) := by
    intro n
    induction n with
    | zero => intro v1 mcode misop mfilesT mentrT mpromT mlinksT mblocksT mvalsT zmblocksT hf; cases hf
    | succ n ih =>
      intro v1 mcode misop mfilesT mentrT mpromT mlinksT mblocksT mvalsT zmblocksT hf H locs ls hP hD hS hl kk
      unfold f_M_begin_L92 at hf
      refine lv_iload_n hx hb dX4_begin_92 rfl (lv_at hl 1 rfl) ?_
      refine lv_sipush (v := 640) hx hb dX4_begin_93 (by decide) ?_
      refine lv_icmp_ge (tgt := 117) hx hb dX4_begin_96 (by decide) (fun c30 => ?_) (fun c30 => ?_)
      · have hf := br_pos c30 hf
        cases hf
        exact kk _ _ _ hP hD hS (lv_sub hl [0] rfl)
      · have hf := br_neg c30 hf
        refine lv_aload_n hx hb dX4_begin_99 rfl (lv_at hl 0 rfl) ?_
        refine va_get (D := D) (ci := 8) (v := .ref (ad 17)) (C := RX4) (T := TX4) (N := 29) hx hb hts inX4 hown hK hP 0 rfl rfl 26 (by decide) (hts _ q1355) (fun _ h9 => h9) rfl dX4_begin_100 ?_
        refine lv_iload_n hx hb dX4_begin_103 rfl (lv_at hl 1 rfl) ?_
        refine lv_aload_n hx hb dX4_begin_104 rfl (lv_at hl 0 rfl) ?_
        refine va_get (D := D) (ci := 8) (v := .ref (ad 5)) (C := RX4) (T := TX4) (N := 29) hx hb hts inX4 hown hK hP 0 rfl rfl 8 (by decide) (hts _ q1337) (fun _ h9 => h9) rfl dX4_begin_105 ?_
        refine lv_iload_n hx hb dX4_begin_108 rfl (lv_at hl 1 rfl) ?_
        obtain ⟨k31, hf⟩ := ck_not hf
        refine va_iald (D := D) hx hb hK hP 5 0 rfl rfl k31 dX4_begin_109 ?_
        obtain ⟨k32, hf⟩ := ck_not hf
        refine va_iast (D := D) hx hb hK hP hD hS 17 0 rfl rfl k32 dX4_begin_110 (fun H locs hP hD hS => ?_)
        have hP : va_P D vwCl (WM ca ad lq mcode mday mown mquot mprom mfiles mowner mlinks mblocks mvals msnaps mranks mkept mshot mwas mholds mheld mends mopen mentr mkinds misop mfilesT mentrT mpromT mlinksT (upd mblocksT v1.toNatClampNeg (mblocks v1.toNatClampNeg)) mvalsT ++ R) H := hP
        have hD : va_D A (WM ca ad lq mcode mday mown mquot mprom mfiles mowner mlinks mblocks mvals msnaps mranks mkept mshot mwas mholds mheld mends mopen mentr mkinds misop mfilesT mentrT mpromT mlinksT (upd mblocksT v1.toNatClampNeg (mblocks v1.toNatClampNeg)) mvalsT ++ R) := hD
        refine lv_iinc (v := (v1 + 1)) (lv' := [(1, .int (v1 + 1)), (0, .ref (ad 0))]) hx hb dX4_begin_111 hl (k := 1) rfl rfl (by decide) rfl (fun ls hl => ?_)
        refine lv_goto (tgt := 92) hx hb dX4_begin_114 (by decide) ?_
        exact ih (v1 + 1) mcode misop mfilesT mentrT mpromT mlinksT (upd mblocksT v1.toNatClampNeg (mblocks v1.toNatClampNeg)) mvalsT _ hf _ _ _ hP hD hS (lv_sub hl [1, 0] rfl) kk
  have L119 : ∀ (n : Nat) (v1 : Int32) (mcode : Int32) (misop : Int32) (mfilesT : Int32) (mentrT : Int32) (mpromT : Nat → Int32) (mlinksT : Nat → Int32) (mblocksT : Nat → Int32) (mvalsT : Nat → Int32) (zmvalsT : Nat → Int32), f_M_begin_L119 n v1 mvals mvalsT = some zmvalsT → ∀ (H : Heap) (locs : List Loc) (ls : Array Slot), va_P D vwCl (WM ca ad lq mcode mday mown mquot mprom mfiles mowner mlinks mblocks mvals msnaps mranks mkept mshot mwas mholds mheld mends mopen mentr mkinds misop mfilesT mentrT mpromT mlinksT mblocksT mvalsT ++ R) H → va_D A (WM ca ad lq mcode mday mown mquot mprom mfiles mowner mlinks mblocks mvals msnaps mranks mkept mshot mwas mholds mheld mends mopen mentr mkinds misop mfilesT mentrT mpromT mlinksT mblocksT mvalsT ++ R) → va_S A s.heap H locs → lv_has ls 2 [(0, .ref (ad 0)), (1, .int v1)] → (∀ (H : Heap) (locs : List Loc) (ls : Array Slot), va_P D vwCl (WM ca ad lq mcode mday mown mquot mprom mfiles mowner mlinks mblocks mvals msnaps mranks mkept mshot mwas mholds mheld mends mopen mentr mkinds misop mfilesT mentrT mpromT mlinksT mblocksT zmvalsT ++ R) H → va_D A (WM ca ad lq mcode mday mown mquot mprom mfiles mowner mlinks mblocks mvals msnaps mranks mkept mshot mwas mholds mheld mends mopen mentr mkinds misop mfilesT mentrT mpromT mlinksT mblocksT zmvalsT ++ R) → va_S A s.heap H locs → lv_has ls 2 [(0, .ref (ad 0))] → W p l e ({ frames := 1, cells := 0, slots := 0, locals := 21 } : Room) s m args below meth c H locs 0 0 Qm (F0 m 143 ls [])) → W p l e ({ frames := 1, cells := 0, slots := 0, locals := 21 } : Room) s m args below meth c H locs 0 0 Qm (F0 m 119 ls []) := by
    intro n
    induction n with
    | zero => intro v1 mcode misop mfilesT mentrT mpromT mlinksT mblocksT mvalsT zmvalsT hf; cases hf
    | succ n ih =>
      intro v1 mcode misop mfilesT mentrT mpromT mlinksT mblocksT mvalsT zmvalsT hf H locs ls hP hD hS hl kk
      unfold f_M_begin_L119 at hf
      refine lv_iload_n hx hb dX4_begin_119 rfl (lv_at hl 1 rfl) ?_
      refine lv_bipush (v := 64) hx hb dX4_begin_120 (by decide) ?_
      refine lv_icmp_ge (tgt := 143) hx hb dX4_begin_122 (by decide) (fun c41 => ?_) (fun c41 => ?_)
      · have hf := br_pos c41 hf
        cases hf
        exact kk _ _ _ hP hD hS (lv_sub hl [0] rfl)
      · have hf := br_neg c41 hf
        refine lv_aload_n hx hb dX4_begin_125 rfl (lv_at hl 0 rfl) ?_
        refine va_get (D := D) (ci := 8) (v := .ref (ad 18)) (C := RX4) (T := TX4) (N := 29) hx hb hts inX4 hown hK hP 0 rfl rfl 27 (by decide) (hts _ q1356) (fun _ h9 => h9) rfl dX4_begin_126 ?_
        refine lv_iload_n hx hb dX4_begin_129 rfl (lv_at hl 1 rfl) ?_
        refine lv_aload_n hx hb dX4_begin_130 rfl (lv_at hl 0 rfl) ?_
        refine va_get (D := D) (ci := 8) (v := .ref (ad 6)) (C := RX4) (T := TX4) (N := 29) hx hb hts inX4 hown hK hP 0 rfl rfl 9 (by decide) (hts _ q1338) (fun _ h9 => h9) rfl dX4_begin_131 ?_
        refine lv_iload_n hx hb dX4_begin_134 rfl (lv_at hl 1 rfl) ?_
        obtain ⟨k42, hf⟩ := ck_not hf
        refine va_iald (D := D) hx hb hK hP 6 0 rfl rfl k42 dX4_begin_135 ?_
        obtain ⟨k43, hf⟩ := ck_not hf
        refine va_iast (D := D) hx hb hK hP hD hS 18 0 rfl rfl k43 dX4_begin_136 (fun H locs hP hD hS => ?_)
        have hP : va_P D vwCl (WM ca ad lq mcode mday mown mquot mprom mfiles mowner mlinks mblocks mvals msnaps mranks mkept mshot mwas mholds mheld mends mopen mentr mkinds misop mfilesT mentrT mpromT mlinksT mblocksT (upd mvalsT v1.toNatClampNeg (mvals v1.toNatClampNeg)) ++ R) H := hP
        have hD : va_D A (WM ca ad lq mcode mday mown mquot mprom mfiles mowner mlinks mblocks mvals msnaps mranks mkept mshot mwas mholds mheld mends mopen mentr mkinds misop mfilesT mentrT mpromT mlinksT mblocksT (upd mvalsT v1.toNatClampNeg (mvals v1.toNatClampNeg)) ++ R) := hD
        refine lv_iinc (v := (v1 + 1)) (lv' := [(1, .int (v1 + 1)), (0, .ref (ad 0))]) hx hb dX4_begin_137 hl (k := 1) rfl rfl (by decide) rfl (fun ls hl => ?_)
        refine lv_goto (tgt := 119) hx hb dX4_begin_140 (by decide) ?_
        exact ih (v1 + 1) mcode misop mfilesT mentrT mpromT mlinksT mblocksT (upd mvalsT v1.toNatClampNeg (mvals v1.toNatClampNeg)) _ hf _ _ _ hP hD hS (lv_sub hl [1, 0] rfl) kk
  refine lv_aload_n hx hb dX4_begin_0 rfl (lv_at hl 0 rfl) ?_
  refine lv_iconst (v := 0) hx hb dX4_begin_1 (by decide) ?_
  refine va_put (D := D) (ci := 8) (v := .int 0) (ty := .int) (C := RX4) (T := TX4) (N := 29) hx hb hts inX4 tyX4 tyX4_ok nmX4 hown hK hP hD hS 0 rfl rfl 0 (by decide) (hts _ q1329) (fun _ h9 => h9) rfl (by decide +kernel) rfl rfl (Nat.le_of_ble_eq_true rfl) dX4_begin_2 (fun H locs hP hD hS => ?_)
  have hP : va_P D vwCl (WM ca ad lq 0 mday mown mquot mprom mfiles mowner mlinks mblocks mvals msnaps mranks mkept mshot mwas mholds mheld mends mopen mentr mkinds misop mfilesT mentrT mpromT mlinksT mblocksT mvalsT ++ R) H := hP
  have hD : va_D A (WM ca ad lq 0 mday mown mquot mprom mfiles mowner mlinks mblocks mvals msnaps mranks mkept mshot mwas mholds mheld mends mopen mentr mkinds misop mfilesT mentrT mpromT mlinksT mblocksT mvalsT ++ R) := hD
  refine lv_aload_n hx hb dX4_begin_5 rfl (lv_at hl 0 rfl) ?_
  refine va_get (D := D) (ci := 8) (v := .int misop) (C := RX4) (T := TX4) (N := 29) hx hb hts inX4 hown hK hP 0 rfl rfl 21 (by decide) (hts _ q1350) (fun _ h9 => h9) rfl dX4_begin_6 ?_
  refine lv_if_eq (tgt := 18) hx hb dX4_begin_9 (by decide) (fun c1 => ?_) (fun c1 => ?_)
  · have hf := br_pos c1 hf
    refine lv_aload_n hx hb dX4_begin_18 rfl (lv_at hl 0 rfl) ?_
    refine lv_iconst (v := 1) hx hb dX4_begin_19 (by decide) ?_
    refine va_put (D := D) (ci := 8) (v := .int 1) (ty := .boolean) (C := RX4) (T := TX4) (N := 29) hx hb hts inX4 tyX4 tyX4_ok nmX4 hown hK hP hD hS 0 rfl rfl 21 (by decide) (hts _ q1350) (fun _ h9 => h9) rfl (by decide +kernel) rfl rfl (Nat.le_of_ble_eq_true rfl) dX4_begin_20 (fun H locs hP hD hS => ?_)
    have hP : va_P D vwCl (WM ca ad lq 0 mday mown mquot mprom mfiles mowner mlinks mblocks mvals msnaps mranks mkept mshot mwas mholds mheld mends mopen mentr mkinds 1 mfilesT mentrT mpromT mlinksT mblocksT mvalsT ++ R) H := hP
    have hD : va_D A (WM ca ad lq 0 mday mown mquot mprom mfiles mowner mlinks mblocks mvals msnaps mranks mkept mshot mwas mholds mheld mends mopen mentr mkinds 1 mfilesT mentrT mpromT mlinksT mblocksT mvalsT ++ R) := hD
    refine lv_aload_n hx hb dX4_begin_23 rfl (lv_at hl 0 rfl) ?_
    refine lv_aload_n hx hb dX4_begin_24 rfl (lv_at hl 0 rfl) ?_
    refine va_get (D := D) (ci := 8) (v := .int mfiles) (C := RX4) (T := TX4) (N := 29) hx hb hts inX4 hown hK hP 0 rfl rfl 5 (by decide) (hts _ q1334) (fun _ h9 => h9) rfl dX4_begin_25 ?_
    refine va_put (D := D) (ci := 8) (v := .int mfiles) (ty := .int) (C := RX4) (T := TX4) (N := 29) hx hb hts inX4 tyX4 tyX4_ok nmX4 hown hK hP hD hS 0 rfl rfl 22 (by decide) (hts _ q1351) (fun _ h9 => h9) rfl (by decide +kernel) rfl rfl (Nat.le_of_ble_eq_true rfl) dX4_begin_28 (fun H locs hP hD hS => ?_)
    have hP : va_P D vwCl (WM ca ad lq 0 mday mown mquot mprom mfiles mowner mlinks mblocks mvals msnaps mranks mkept mshot mwas mholds mheld mends mopen mentr mkinds 1 mfiles mentrT mpromT mlinksT mblocksT mvalsT ++ R) H := hP
    have hD : va_D A (WM ca ad lq 0 mday mown mquot mprom mfiles mowner mlinks mblocks mvals msnaps mranks mkept mshot mwas mholds mheld mends mopen mentr mkinds 1 mfiles mentrT mpromT mlinksT mblocksT mvalsT ++ R) := hD
    refine lv_aload_n hx hb dX4_begin_31 rfl (lv_at hl 0 rfl) ?_
    refine lv_aload_n hx hb dX4_begin_32 rfl (lv_at hl 0 rfl) ?_
    refine va_get (D := D) (ci := 8) (v := .int mentr) (C := RX4) (T := TX4) (N := 29) hx hb hts inX4 hown hK hP 0 rfl rfl 19 (by decide) (hts _ q1348) (fun _ h9 => h9) rfl dX4_begin_33 ?_
    refine va_put (D := D) (ci := 8) (v := .int mentr) (ty := .int) (C := RX4) (T := TX4) (N := 29) hx hb hts inX4 tyX4 tyX4_ok nmX4 hown hK hP hD hS 0 rfl rfl 23 (by decide) (hts _ q1352) (fun _ h9 => h9) rfl (by decide +kernel) rfl rfl (Nat.le_of_ble_eq_true rfl) dX4_begin_36 (fun H locs hP hD hS => ?_)
    have hP : va_P D vwCl (WM ca ad lq 0 mday mown mquot mprom mfiles mowner mlinks mblocks mvals msnaps mranks mkept mshot mwas mholds mheld mends mopen mentr mkinds 1 mfiles mentr mpromT mlinksT mblocksT mvalsT ++ R) H := hP
    have hD : va_D A (WM ca ad lq 0 mday mown mquot mprom mfiles mowner mlinks mblocks mvals msnaps mranks mkept mshot mwas mholds mheld mends mopen mentr mkinds 1 mfiles mentr mpromT mlinksT mblocksT mvalsT ++ R) := hD
    refine lv_iconst (v := 0) hx hb dX4_begin_39 (by decide) ?_
    refine lv_istore_n (lv' := [(1, .int 0), (0, .ref (ad 0))]) hx hb dX4_begin_40 rfl hl (by decide) rfl (fun ls hl => ?_)
    obtain ⟨mpromT_12, h11, hf⟩ := bnd hf
    refine L41 FU 0 0 1 mfiles mentr mpromT mlinksT mblocksT mvalsT mpromT_12 h11 _ _ _ hP hD hS (lv_sub hl [1, 0] rfl) (fun H locs ls hP hD hS hl => ?_)
    refine lv_iconst (v := 0) hx hb dX4_begin_64 (by decide) ?_
    refine lv_istore_n (lv' := [(1, .int 0), (0, .ref (ad 0))]) hx hb dX4_begin_65 rfl hl (by decide) rfl (fun ls hl => ?_)
    obtain ⟨mlinksT_23, h22, hf⟩ := bnd hf
    refine L66 FU 0 0 1 mfiles mentr mpromT_12 mlinksT mblocksT mvalsT mlinksT_23 h22 _ _ _ hP hD hS (lv_sub hl [1, 0] rfl) (fun H locs ls hP hD hS hl => ?_)
    refine lv_iconst (v := 0) hx hb dX4_begin_90 (by decide) ?_
    refine lv_istore_n (lv' := [(1, .int 0), (0, .ref (ad 0))]) hx hb dX4_begin_91 rfl hl (by decide) rfl (fun ls hl => ?_)
    obtain ⟨mblocksT_34, h33, hf⟩ := bnd hf
    refine L92 FU 0 0 1 mfiles mentr mpromT_12 mlinksT_23 mblocksT mvalsT mblocksT_34 h33 _ _ _ hP hD hS (lv_sub hl [1, 0] rfl) (fun H locs ls hP hD hS hl => ?_)
    refine lv_iconst (v := 0) hx hb dX4_begin_117 (by decide) ?_
    refine lv_istore_n (lv' := [(1, .int 0), (0, .ref (ad 0))]) hx hb dX4_begin_118 rfl hl (by decide) rfl (fun ls hl => ?_)
    obtain ⟨mvalsT_45, h44, hf⟩ := bnd hf
    refine L119 FU 0 0 1 mfiles mentr mpromT_12 mlinksT_23 mblocksT_34 mvalsT mvalsT_45 h44 _ _ _ hP hD hS (lv_sub hl [1, 0] rfl) (fun H locs ls hP hD hS hl => ?_)
    refine lv_aload_n hx hb dX4_begin_143 rfl (lv_at hl 0 rfl) ?_
    refine va_get (D := D) (ci := 8) (v := .int mentr) (C := RX4) (T := TX4) (N := 29) hx hb hts inX4 hown hK hP 0 rfl rfl 19 (by decide) (hts _ q1348) (fun _ h9 => h9) rfl dX4_begin_144 ?_
    cases hf
    exact end_i hAe hQm hx hb hr hlocks rfl hP hD hS dX4_begin_147
  · have hf := br_neg c1 hf
    refine lv_aload_n hx hb dX4_begin_12 rfl (lv_at hl 0 rfl) ?_
    refine lv_iconst (v := 1) hx hb dX4_begin_13 (by decide) ?_
    obtain ⟨⟨r46, mcode_47⟩, h48, hf⟩ := bnd hf
    refine call_vi (rest := []) (m_M_fails l ca ad lq 0 mday mown mquot mprom mfiles mowner mlinks mblocks mvals msnaps mranks mkept mshot mwas mholds mheld mends mopen mentr mkinds misop mfilesT mentrT mpromT mlinksT mblocksT mvalsT R _ 1 r46 mcode_47 h48) ⟨hx, hb, hml, hown, hts⟩ (cwV 1 hts (gV q1428 q1430 q23 q50 q1431) rfl rfl rfl (by decide +kernel) ⟨Nat.le_of_ble_eq_true rfl, Nat.le_of_ble_eq_true rfl⟩) (va_recv hK hP (ci := 8) (q0 := 0) rfl rfl) hE hP hD hS hA rfl hl.1 rfl (lv_room (Nat.le_of_ble_eq_true rfl)) dX4_begin_14 ⟨Nat.le_of_ble_eq_true rfl, Nat.le_of_ble_eq_true rfl⟩ (fun H locs hP hD hS => ?_)
    cases hf
    exact end_i hAe hQm hx hb hr hlocks rfl hP hD hS dX4_begin_17
def f_M_commit (mentr : Int32) (misop : Int32) (mentrT : Int32) : Option (Int32 × Int32 × Int32) :=
  if misop = 0 then
    (f_M_fails 1).bind fun (r2, mcode_3) =>
    some (r2, mcode_3, misop)
  else
    some ((mentr - mentrT), 0, 0)
set_option maxHeartbeats 4000000 in
set_option maxRecDepth 100000 in
theorem m_M_commit (l : Launch) {D : va_G} {sl : List (String × Nat × String)} (ca : Nat → ClassId) (ad : Nat → Nat) (lq : Nat) (mcode : Int32) (mday : Int32) (mown : Int32) (mquot : Nat → Int32) (mprom : Nat → Int32) (mfiles : Int32) (mowner : Nat → Int32) (mlinks : Nat → Int32) (mblocks : Nat → Int32) (mvals : Nat → Int32) (msnaps : Int32) (mranks : Nat → Int32) (mkept : Nat → Int32) (mshot : Nat → Int32) (mwas : Nat → Int32) (mholds : Int32) (mheld : Nat → Int32) (mends : Nat → Int32) (mopen : Nat → Int32) (mentr : Int32) (mkinds : Nat → Int32) (misop : Int32) (mfilesT : Int32) (mentrT : Int32) (mpromT : Nat → Int32) (mlinksT : Nat → Int32) (mblocksT : Nat → Int32) (mvalsT : Nat → Int32) (R : va_W) (sz : Nat) (ro : Int32) (omcode : Int32) (omisop : Int32) (hf : f_M_commit mentr misop mentrT = some (ro, omcode, omisop)) : Met l yX4_commit (wm yX4_commit cX4_commit 1 (some .int)) ({ frames := 1, cells := 0, slots := 0, locals := 21 } : Room) (PRE [.ref (ad 0)] D ca sl (WM ca ad lq mcode mday mown mquot mprom mfiles mowner mlinks mblocks mvals msnaps mranks mkept mshot mwas mholds mheld mends mopen mentr mkinds misop mfilesT mentrT mpromT mlinksT mblocksT mvalsT ++ R) sz) (QI ro D (WM ca ad lq omcode mday mown mquot mprom mfiles mowner mlinks mblocks mvals msnaps mranks mkept mshot mwas mholds mheld mends mopen mentr mkinds omisop mfilesT mentrT mpromT mlinksT mblocksT mvalsT ++ R) (WM ca ad lq mcode mday mown mquot mprom mfiles mowner mlinks mblocks mvals msnaps mranks mkept mshot mwas mholds mheld mends mopen mentr mkinds misop mfilesT mentrT mpromT mlinksT mblocksT mvalsT ++ R) sz) 0 0 (va_A (WM ca ad lq mcode mday mown mquot mprom mfiles mowner mlinks mblocks mvals msnaps mranks mkept mshot mwas mholds mheld mends mopen mentr mkinds misop mfilesT mentrT mpromT mlinksT mblocksT mvalsT ++ R) sz) := by
  refine Met.ofW (cc := cX4_commit) (maxL := 1) (ret := (some .int)) (by decide) rfl ?_
  intro p e s m args below meth c s₁ B hml hv
  obtain ⟨rfl, rfl, hP, hE, hD0⟩ := hv
  have hx := B.exec
  have hb := B.bytes
  have hr := B.returns
  have hts := wm_ww (atoms_spec (ws := wm yX4_commit cX4_commit 1 (some .int)) B.pre)
  have hown : s.vm.findClass RX4 = some m.cls := findClass_of_methodNamed B.named
  have hlocks := B.notSynchronized
  have hK := hE.1
  have hD := hD0.self (sz := s.heap.size)
  generalize hAe : va_A (WM ca ad lq mcode mday mown mquot mprom mfiles mowner mlinks mblocks mvals msnaps mranks mkept mshot mwas mholds mheld mends mopen mentr mkinds misop mfilesT mentrT mpromT mlinksT mblocksT mvalsT ++ R) s.heap.size = A at hD ⊢
  have hA : ∀ q : Nat, s.heap.size ≤ q → A q := fun q h => by rw [← hAe]; exact Or.inr h
  have hS : va_S A s.heap s.heap [] := va_S.rf
  have hl := lv_entry ([.ref (ad 0)]) (n := 1) (Nat.le_of_ble_eq_true rfl)
  rw [lg_entry_eq]
  generalize (lg_sl ([.ref (ad 0)]) ++ List.replicate (1 - (lg_sl ([.ref (ad 0)])).length) Slot.unset).toArray = ls at hl ⊢
  have hl : lv_has ls 1 [(0, .ref (ad 0))] := hl
  change W p l e ({ frames := 1, cells := 0, slots := 0, locals := 21 } : Room) s m _ below meth c s.heap [] 0 0 _ _
  generalize hQm : MQ below (QI ro D (WM ca ad lq omcode mday mown mquot mprom mfiles mowner mlinks mblocks mvals msnaps mranks mkept mshot mwas mholds mheld mends mopen mentr mkinds omisop mfilesT mentrT mpromT mlinksT mblocksT mvalsT ++ R) (WM ca ad lq mcode mday mown mquot mprom mfiles mowner mlinks mblocks mvals msnaps mranks mkept mshot mwas mholds mheld mends mopen mentr mkinds misop mfilesT mentrT mpromT mlinksT mblocksT mvalsT ++ R) s.heap.size) _ s 0 0 A = Qm
  have hP : va_P D vwCl (WM ca ad lq mcode mday mown mquot mprom mfiles mowner mlinks mblocks mvals msnaps mranks mkept mshot mwas mholds mheld mends mopen mentr mkinds misop mfilesT mentrT mpromT mlinksT mblocksT mvalsT ++ R) s.heap := hP
  generalize hae : ([.ref (ad 0)] : List Value).toArray = args at hts hQm ⊢
  refine lv_aload_n hx hb dX4_commit_0 rfl (lv_at hl 0 rfl) ?_
  refine lv_iconst (v := 0) hx hb dX4_commit_1 (by decide) ?_
  refine va_put (D := D) (ci := 8) (v := .int 0) (ty := .int) (C := RX4) (T := TX4) (N := 29) hx hb hts inX4 tyX4 tyX4_ok nmX4 hown hK hP hD hS 0 rfl rfl 0 (by decide) (hts _ q1329) (fun _ h9 => h9) rfl (by decide +kernel) rfl rfl (Nat.le_of_ble_eq_true rfl) dX4_commit_2 (fun H locs hP hD hS => ?_)
  have hP : va_P D vwCl (WM ca ad lq 0 mday mown mquot mprom mfiles mowner mlinks mblocks mvals msnaps mranks mkept mshot mwas mholds mheld mends mopen mentr mkinds misop mfilesT mentrT mpromT mlinksT mblocksT mvalsT ++ R) H := hP
  have hD : va_D A (WM ca ad lq 0 mday mown mquot mprom mfiles mowner mlinks mblocks mvals msnaps mranks mkept mshot mwas mholds mheld mends mopen mentr mkinds misop mfilesT mentrT mpromT mlinksT mblocksT mvalsT ++ R) := hD
  refine lv_aload_n hx hb dX4_commit_5 rfl (lv_at hl 0 rfl) ?_
  refine va_get (D := D) (ci := 8) (v := .int misop) (C := RX4) (T := TX4) (N := 29) hx hb hts inX4 hown hK hP 0 rfl rfl 21 (by decide) (hts _ q1350) (fun _ h9 => h9) rfl dX4_commit_6 ?_
  refine lv_if_ne (tgt := 18) hx hb dX4_commit_9 (by decide) (fun c1 => ?_) (fun c1 => ?_)
  · have hf := br_neg c1 hf
    refine lv_aload_n hx hb dX4_commit_18 rfl (lv_at hl 0 rfl) ?_
    refine lv_iconst (v := 0) hx hb dX4_commit_19 (by decide) ?_
    refine va_put (D := D) (ci := 8) (v := .int 0) (ty := .boolean) (C := RX4) (T := TX4) (N := 29) hx hb hts inX4 tyX4 tyX4_ok nmX4 hown hK hP hD hS 0 rfl rfl 21 (by decide) (hts _ q1350) (fun _ h9 => h9) rfl (by decide +kernel) rfl rfl (Nat.le_of_ble_eq_true rfl) dX4_commit_20 (fun H locs hP hD hS => ?_)
    have hP : va_P D vwCl (WM ca ad lq 0 mday mown mquot mprom mfiles mowner mlinks mblocks mvals msnaps mranks mkept mshot mwas mholds mheld mends mopen mentr mkinds 0 mfilesT mentrT mpromT mlinksT mblocksT mvalsT ++ R) H := hP
    have hD : va_D A (WM ca ad lq 0 mday mown mquot mprom mfiles mowner mlinks mblocks mvals msnaps mranks mkept mshot mwas mholds mheld mends mopen mentr mkinds 0 mfilesT mentrT mpromT mlinksT mblocksT mvalsT ++ R) := hD
    refine lv_aload_n hx hb dX4_commit_23 rfl (lv_at hl 0 rfl) ?_
    refine va_get (D := D) (ci := 8) (v := .int mentr) (C := RX4) (T := TX4) (N := 29) hx hb hts inX4 hown hK hP 0 rfl rfl 19 (by decide) (hts _ q1348) (fun _ h9 => h9) rfl dX4_commit_24 ?_
    refine lv_aload_n hx hb dX4_commit_27 rfl (lv_at hl 0 rfl) ?_
    refine va_get (D := D) (ci := 8) (v := .int mentrT) (C := RX4) (T := TX4) (N := 29) hx hb hts inX4 hown hK hP 0 rfl rfl 23 (by decide) (hts _ q1352) (fun _ h9 => h9) rfl dX4_commit_28 ?_
    refine lv_isub hx hb dX4_commit_31 ?_
    cases hf
    exact end_i hAe hQm hx hb hr hlocks rfl hP hD hS dX4_commit_32
  · have hf := br_pos c1 hf
    refine lv_aload_n hx hb dX4_commit_12 rfl (lv_at hl 0 rfl) ?_
    refine lv_iconst (v := 1) hx hb dX4_commit_13 (by decide) ?_
    obtain ⟨⟨r2, mcode_3⟩, h4, hf⟩ := bnd hf
    refine call_vi (rest := []) (m_M_fails l ca ad lq 0 mday mown mquot mprom mfiles mowner mlinks mblocks mvals msnaps mranks mkept mshot mwas mholds mheld mends mopen mentr mkinds misop mfilesT mentrT mpromT mlinksT mblocksT mvalsT R _ 1 r2 mcode_3 h4) ⟨hx, hb, hml, hown, hts⟩ (cwV 1 hts (gV q1428 q1430 q23 q50 q1431) rfl rfl rfl (by decide +kernel) ⟨Nat.le_of_ble_eq_true rfl, Nat.le_of_ble_eq_true rfl⟩) (va_recv hK hP (ci := 8) (q0 := 0) rfl rfl) hE hP hD hS hA rfl hl.1 rfl (lv_room (Nat.le_of_ble_eq_true rfl)) dX4_commit_14 ⟨Nat.le_of_ble_eq_true rfl, Nat.le_of_ble_eq_true rfl⟩ (fun H locs hP hD hS => ?_)
    cases hf
    exact end_i hAe hQm hx hb hr hlocks rfl hP hD hS dX4_commit_17
def f_M_crash_L47 : Nat → Int32 → Int32 → (Nat → Int32) → (Nat → Int32) → Option ((Nat → Int32))
  | 0, _, _, _, _ => none
  | fuel + 1, v1, v2, mprom, mpromT =>
    if 4 ≤ v2 then
      some mprom
    else
      if v2 < 0 ∨ 4 ≤ v2.toNatClampNeg then none else
        if v2 < 0 ∨ 4 ≤ v2.toNatClampNeg then none else
        f_M_crash_L47 fuel v1 (v2 + 1) (upd mprom v2.toNatClampNeg (mpromT v2.toNatClampNeg)) mpromT
def f_M_crash_L72 : Nat → Int32 → Int32 → (Nat → Int32) → (Nat → Int32) → Option ((Nat → Int32))
  | 0, _, _, _, _ => none
  | fuel + 1, v1, v2, mlinks, mlinksT =>
    if 40 ≤ v2 then
      some mlinks
    else
      if v2 < 0 ∨ 40 ≤ v2.toNatClampNeg then none else
        if v2 < 0 ∨ 40 ≤ v2.toNatClampNeg then none else
        f_M_crash_L72 fuel v1 (v2 + 1) (upd mlinks v2.toNatClampNeg (mlinksT v2.toNatClampNeg)) mlinksT
def f_M_crash_L98 : Nat → Int32 → Int32 → (Nat → Int32) → (Nat → Int32) → Option ((Nat → Int32))
  | 0, _, _, _, _ => none
  | fuel + 1, v1, v2, mblocks, mblocksT =>
    if 640 ≤ v2 then
      some mblocks
    else
      if v2 < 0 ∨ 640 ≤ v2.toNatClampNeg then none else
        if v2 < 0 ∨ 640 ≤ v2.toNatClampNeg then none else
        f_M_crash_L98 fuel v1 (v2 + 1) (upd mblocks v2.toNatClampNeg (mblocksT v2.toNatClampNeg)) mblocksT
def f_M_crash_L125 : Nat → Int32 → Int32 → (Nat → Int32) → (Nat → Int32) → Option ((Nat → Int32))
  | 0, _, _, _, _ => none
  | fuel + 1, v1, v2, mvals, mvalsT =>
    if 64 ≤ v2 then
      some mvals
    else
      if v2 < 0 ∨ 64 ≤ v2.toNatClampNeg then none else
        if v2 < 0 ∨ 64 ≤ v2.toNatClampNeg then none else
        f_M_crash_L125 fuel v1 (v2 + 1) (upd mvals v2.toNatClampNeg (mvalsT v2.toNatClampNeg)) mvalsT
def f_M_crash (mprom : Nat → Int32) (mfiles : Int32) (mlinks : Nat → Int32) (mblocks : Nat → Int32) (mvals : Nat → Int32) (mentr : Int32) (misop : Int32) (mfilesT : Int32) (mentrT : Int32) (mpromT : Nat → Int32) (mlinksT : Nat → Int32) (mblocksT : Nat → Int32) (mvalsT : Nat → Int32) : Option (Int32 × Int32 × (Nat → Int32) × Int32 × (Nat → Int32) × (Nat → Int32) × (Nat → Int32) × Int32 × Int32) :=
  if misop = 0 then
    some (0, 0, mprom, mfiles, mlinks, mblocks, mvals, mentr, misop)
  else
    (f_M_crash_L47 FU (mentr - mentrT) 0 mprom mpromT).bind fun mprom_12 =>
    (f_M_crash_L72 FU (mentr - mentrT) 0 mlinks mlinksT).bind fun mlinks_23 =>
    (f_M_crash_L98 FU (mentr - mentrT) 0 mblocks mblocksT).bind fun mblocks_34 =>
    (f_M_crash_L125 FU (mentr - mentrT) 0 mvals mvalsT).bind fun mvals_45 =>
    some ((mentr - mentrT), 0, mprom_12, mfilesT, mlinks_23, mblocks_34, mvals_45, mentrT, 0)
set_option maxHeartbeats 4000000 in
set_option maxRecDepth 100000 in
theorem m_M_crash (l : Launch) {D : va_G} {sl : List (String × Nat × String)} (ca : Nat → ClassId) (ad : Nat → Nat) (lq : Nat) (mcode : Int32) (mday : Int32) (mown : Int32) (mquot : Nat → Int32) (mprom : Nat → Int32) (mfiles : Int32) (mowner : Nat → Int32) (mlinks : Nat → Int32) (mblocks : Nat → Int32) (mvals : Nat → Int32) (msnaps : Int32) (mranks : Nat → Int32) (mkept : Nat → Int32) (mshot : Nat → Int32) (mwas : Nat → Int32) (mholds : Int32) (mheld : Nat → Int32) (mends : Nat → Int32) (mopen : Nat → Int32) (mentr : Int32) (mkinds : Nat → Int32) (misop : Int32) (mfilesT : Int32) (mentrT : Int32) (mpromT : Nat → Int32) (mlinksT : Nat → Int32) (mblocksT : Nat → Int32) (mvalsT : Nat → Int32) (R : va_W) (sz : Nat) (ro : Int32) (omcode : Int32) (omprom : Nat → Int32) (omfiles : Int32) (omlinks : Nat → Int32) (omblocks : Nat → Int32) (omvals : Nat → Int32) (omentr : Int32) (omisop : Int32) (hf : f_M_crash mprom mfiles mlinks mblocks mvals mentr misop mfilesT mentrT mpromT mlinksT mblocksT mvalsT = some (ro, omcode, omprom, omfiles, omlinks, omblocks, omvals, omentr, omisop)) : Met l yX4_crash (wm yX4_crash cX4_crash 3 (some .int)) ({ frames := 0, cells := 0, slots := 0, locals := 0 } : Room) (PRE [.ref (ad 0)] D ca sl (WM ca ad lq mcode mday mown mquot mprom mfiles mowner mlinks mblocks mvals msnaps mranks mkept mshot mwas mholds mheld mends mopen mentr mkinds misop mfilesT mentrT mpromT mlinksT mblocksT mvalsT ++ R) sz) (QI ro D (WM ca ad lq omcode mday mown mquot omprom omfiles mowner omlinks omblocks omvals msnaps mranks mkept mshot mwas mholds mheld mends mopen omentr mkinds omisop mfilesT mentrT mpromT mlinksT mblocksT mvalsT ++ R) (WM ca ad lq mcode mday mown mquot mprom mfiles mowner mlinks mblocks mvals msnaps mranks mkept mshot mwas mholds mheld mends mopen mentr mkinds misop mfilesT mentrT mpromT mlinksT mblocksT mvalsT ++ R) sz) 0 0 (va_A (WM ca ad lq mcode mday mown mquot mprom mfiles mowner mlinks mblocks mvals msnaps mranks mkept mshot mwas mholds mheld mends mopen mentr mkinds misop mfilesT mentrT mpromT mlinksT mblocksT mvalsT ++ R) sz) := by
  refine Met.ofW (cc := cX4_crash) (maxL := 3) (ret := (some .int)) (by decide) rfl ?_
  intro p e s m args below meth c s₁ B hml hv
  obtain ⟨rfl, rfl, hP, hE, hD0⟩ := hv
  have hx := B.exec
  have hb := B.bytes
  have hr := B.returns
  have hts := wm_ww (atoms_spec (ws := wm yX4_crash cX4_crash 3 (some .int)) B.pre)
  have hown : s.vm.findClass RX4 = some m.cls := findClass_of_methodNamed B.named
  have hlocks := B.notSynchronized
  have hK := hE.1
  have hD := hD0.self (sz := s.heap.size)
  generalize hAe : va_A (WM ca ad lq mcode mday mown mquot mprom mfiles mowner mlinks mblocks mvals msnaps mranks mkept mshot mwas mholds mheld mends mopen mentr mkinds misop mfilesT mentrT mpromT mlinksT mblocksT mvalsT ++ R) s.heap.size = A at hD ⊢
  have hA : ∀ q : Nat, s.heap.size ≤ q → A q := fun q h => by rw [← hAe]; exact Or.inr h
  have hS : va_S A s.heap s.heap [] := va_S.rf
  have hl := lv_entry ([.ref (ad 0)]) (n := 3) (Nat.le_of_ble_eq_true rfl)
  rw [lg_entry_eq]
  generalize (lg_sl ([.ref (ad 0)]) ++ List.replicate (3 - (lg_sl ([.ref (ad 0)])).length) Slot.unset).toArray = ls at hl ⊢
  have hl : lv_has ls 3 [(0, .ref (ad 0))] := hl
  change W p l e ({ frames := 0, cells := 0, slots := 0, locals := 0 } : Room) s m _ below meth c s.heap [] 0 0 _ _
  generalize hQm : MQ below (QI ro D (WM ca ad lq omcode mday mown mquot omprom omfiles mowner omlinks omblocks omvals msnaps mranks mkept mshot mwas mholds mheld mends mopen omentr mkinds omisop mfilesT mentrT mpromT mlinksT mblocksT mvalsT ++ R) (WM ca ad lq mcode mday mown mquot mprom mfiles mowner mlinks mblocks mvals msnaps mranks mkept mshot mwas mholds mheld mends mopen mentr mkinds misop mfilesT mentrT mpromT mlinksT mblocksT mvalsT ++ R) s.heap.size) _ s 0 0 A = Qm
  have hP : va_P D vwCl (WM ca ad lq mcode mday mown mquot mprom mfiles mowner mlinks mblocks mvals msnaps mranks mkept mshot mwas mholds mheld mends mopen mentr mkinds misop mfilesT mentrT mpromT mlinksT mblocksT mvalsT ++ R) s.heap := hP
  generalize hae : ([.ref (ad 0)] : List Value).toArray = args at hts hQm ⊢
  have L47 : ∀ (n : Nat) (v1 : Int32) (v2 : Int32) (mcode : Int32) (mprom : Nat → Int32) (mfiles : Int32) (mlinks : Nat → Int32) (mblocks : Nat → Int32) (mvals : Nat → Int32) (mentr : Int32) (misop : Int32) (zmprom : Nat → Int32), f_M_crash_L47 n v1 v2 mprom mpromT = some zmprom → ∀ (H : Heap) (locs : List Loc) (ls : Array Slot), va_P D vwCl (WM ca ad lq mcode mday mown mquot mprom mfiles mowner mlinks mblocks mvals msnaps mranks mkept mshot mwas mholds mheld mends mopen mentr mkinds misop mfilesT mentrT mpromT mlinksT mblocksT mvalsT ++ R) H → va_D A (WM ca ad lq mcode mday mown mquot mprom mfiles mowner mlinks mblocks mvals msnaps mranks mkept mshot mwas mholds mheld mends mopen mentr mkinds misop mfilesT mentrT mpromT mlinksT mblocksT mvalsT ++ R) → va_S A s.heap H locs → lv_has ls 3 [(0, .ref (ad 0)), (1, .int v1), (2, .int v2)] → (∀ (H : Heap) (locs : List Loc) (ls : Array Slot), va_P D vwCl (WM ca ad lq mcode mday mown mquot zmprom mfiles mowner mlinks mblocks mvals msnaps mranks mkept mshot mwas mholds mheld mends mopen mentr mkinds misop mfilesT mentrT mpromT mlinksT mblocksT mvalsT ++ R) H → va_D A (WM ca ad lq mcode mday mown mquot zmprom mfiles mowner mlinks mblocks mvals msnaps mranks mkept mshot mwas mholds mheld mends mopen mentr mkinds misop mfilesT mentrT mpromT mlinksT mblocksT mvalsT ++ R) → va_S A s.heap H locs → lv_has ls 3 [(0, .ref (ad 0)), (1, .int v1)] → W p l e ({ frames := 0, cells := 0, slots := 0, locals := 0 } : Room) s m args below meth c H locs 0 0 Qm (F0 m 70 ls [])) → W p l e ({ frames := 0, cells := 0, slots := 0, locals := 0 } : Room) s m args below meth c H locs 0 0 Qm (F0 m 47 ls []) := by
    intro n
    induction n with
    | zero => intro v1 v2 mcode mprom mfiles mlinks mblocks mvals mentr misop zmprom hf; cases hf
    | succ n ih =>
      intro v1 v2 mcode mprom mfiles mlinks mblocks mvals mentr misop zmprom hf H locs ls hP hD hS hl kk
      unfold f_M_crash_L47 at hf
      refine lv_iload_n hx hb dX4_crash_47 rfl (lv_at hl 2 rfl) ?_
      refine lv_iconst (v := 4) hx hb dX4_crash_48 (by decide) ?_
      refine lv_icmp_ge (tgt := 70) hx hb dX4_crash_49 (by decide) (fun c8 => ?_) (fun c8 => ?_)
      · have hf := br_pos c8 hf
        cases hf
        exact kk _ _ _ hP hD hS (lv_sub hl [0, 1] rfl)
      · have hf := br_neg c8 hf
        refine lv_aload_n hx hb dX4_crash_52 rfl (lv_at hl 0 rfl) ?_
        refine va_get (D := D) (ci := 8) (v := .ref (ad 2)) (C := RX4) (T := TX4) (N := 29) hx hb hts inX4 hown hK hP 0 rfl rfl 4 (by decide) (hts _ q1333) (fun _ h9 => h9) rfl dX4_crash_53 ?_
        refine lv_iload_n hx hb dX4_crash_56 rfl (lv_at hl 2 rfl) ?_
        refine lv_aload_n hx hb dX4_crash_57 rfl (lv_at hl 0 rfl) ?_
        refine va_get (D := D) (ci := 8) (v := .ref (ad 15)) (C := RX4) (T := TX4) (N := 29) hx hb hts inX4 hown hK hP 0 rfl rfl 24 (by decide) (hts _ q1353) (fun _ h9 => h9) rfl dX4_crash_58 ?_
        refine lv_iload_n hx hb dX4_crash_61 rfl (lv_at hl 2 rfl) ?_
        obtain ⟨k9, hf⟩ := ck_not hf
        refine va_iald (D := D) hx hb hK hP 15 0 rfl rfl k9 dX4_crash_62 ?_
        obtain ⟨k10, hf⟩ := ck_not hf
        refine va_iast (D := D) hx hb hK hP hD hS 2 0 rfl rfl k10 dX4_crash_63 (fun H locs hP hD hS => ?_)
        have hP : va_P D vwCl (WM ca ad lq mcode mday mown mquot (upd mprom v2.toNatClampNeg (mpromT v2.toNatClampNeg)) mfiles mowner mlinks mblocks mvals msnaps mranks mkept mshot mwas mholds mheld mends mopen mentr mkinds misop mfilesT mentrT mpromT mlinksT mblocksT mvalsT ++ R) H := hP
        have hD : va_D A (WM ca ad lq mcode mday mown mquot (upd mprom v2.toNatClampNeg (mpromT v2.toNatClampNeg)) mfiles mowner mlinks mblocks mvals msnaps mranks mkept mshot mwas mholds mheld mends mopen mentr mkinds misop mfilesT mentrT mpromT mlinksT mblocksT mvalsT ++ R) := hD
        refine lv_iinc (v := (v2 + 1)) (lv' := [(2, .int (v2 + 1)), (0, .ref (ad 0)), (1, .int v1)]) hx hb dX4_crash_64 hl (k := 2) rfl rfl (by decide) rfl (fun ls hl => ?_)
        refine lv_goto (tgt := 47) hx hb dX4_crash_67 (by decide) ?_
        exact ih v1 (v2 + 1) mcode (upd mprom v2.toNatClampNeg (mpromT v2.toNatClampNeg)) mfiles mlinks mblocks mvals mentr misop _ hf _ _ _ hP hD hS (lv_sub hl [1, 2, 0] rfl) kk
  have L72 : ∀ (n : Nat) (v1 : Int32) (v2 : Int32) (mcode : Int32) (mprom : Nat → Int32) (mfiles : Int32) (mlinks : Nat → Int32) (mblocks : Nat → Int32) (mvals : Nat → Int32) (mentr : Int32) (misop : Int32) (zmlinks : Nat → Int32), f_M_crash_L72 n v1 v2 mlinks mlinksT = some zmlinks → ∀ (H : Heap) (locs : List Loc) (ls : Array Slot), va_P D vwCl (WM ca ad lq mcode mday mown mquot mprom mfiles mowner mlinks mblocks mvals msnaps mranks mkept mshot mwas mholds mheld mends mopen mentr mkinds misop mfilesT mentrT mpromT mlinksT mblocksT mvalsT ++ R) H → va_D A (WM ca ad lq mcode mday mown mquot mprom mfiles mowner mlinks mblocks mvals msnaps mranks mkept mshot mwas mholds mheld mends mopen mentr mkinds misop mfilesT mentrT mpromT mlinksT mblocksT mvalsT ++ R) → va_S A s.heap H locs → lv_has ls 3 [(0, .ref (ad 0)), (1, .int v1), (2, .int v2)] → (∀ (H : Heap) (locs : List Loc) (ls : Array Slot), va_P D vwCl (WM ca ad lq mcode mday mown mquot mprom mfiles mowner zmlinks mblocks mvals msnaps mranks mkept mshot mwas mholds mheld mends mopen mentr mkinds misop mfilesT mentrT mpromT mlinksT mblocksT mvalsT ++ R) H → va_D A (WM ca ad lq mcode mday mown mquot mprom mfiles mowner zmlinks mblocks mvals msnaps mranks mkept mshot mwas mholds mheld mends mopen mentr mkinds misop mfilesT mentrT mpromT mlinksT mblocksT mvalsT ++ R) → va_S A s.heap H locs → lv_has ls 3 [(0, .ref (ad 0)), (1, .int v1)] → W p l e ({ frames := 0, cells := 0, slots := 0, locals := 0 } : Room) s m args below meth c H locs 0 0 Qm (F0 m 96 ls [])) → W p l e ({ frames := 0, cells := 0, slots := 0, locals := 0 } : Room) s m args below meth c H locs 0 0 Qm (F0 m 72 ls []) := by
    intro n
    induction n with
    | zero => intro v1 v2 mcode mprom mfiles mlinks mblocks mvals mentr misop zmlinks hf; cases hf
    | succ n ih =>
      intro v1 v2 mcode mprom mfiles mlinks mblocks mvals mentr misop zmlinks hf H locs ls hP hD hS hl kk
      unfold f_M_crash_L72 at hf
      refine lv_iload_n hx hb dX4_crash_72 rfl (lv_at hl 2 rfl) ?_
      refine lv_bipush (v := 40) hx hb dX4_crash_73 (by decide) ?_
      refine lv_icmp_ge (tgt := 96) hx hb dX4_crash_75 (by decide) (fun c19 => ?_) (fun c19 => ?_)
      · have hf := br_pos c19 hf
        cases hf
        exact kk _ _ _ hP hD hS (lv_sub hl [0, 1] rfl)
      · have hf := br_neg c19 hf
        refine lv_aload_n hx hb dX4_crash_78 rfl (lv_at hl 0 rfl) ?_
        refine va_get (D := D) (ci := 8) (v := .ref (ad 4)) (C := RX4) (T := TX4) (N := 29) hx hb hts inX4 hown hK hP 0 rfl rfl 7 (by decide) (hts _ q1336) (fun _ h9 => h9) rfl dX4_crash_79 ?_
        refine lv_iload_n hx hb dX4_crash_82 rfl (lv_at hl 2 rfl) ?_
        refine lv_aload_n hx hb dX4_crash_83 rfl (lv_at hl 0 rfl) ?_
        refine va_get (D := D) (ci := 8) (v := .ref (ad 16)) (C := RX4) (T := TX4) (N := 29) hx hb hts inX4 hown hK hP 0 rfl rfl 25 (by decide) (hts _ q1354) (fun _ h9 => h9) rfl dX4_crash_84 ?_
        refine lv_iload_n hx hb dX4_crash_87 rfl (lv_at hl 2 rfl) ?_
        obtain ⟨k20, hf⟩ := ck_not hf
        refine va_iald (D := D) hx hb hK hP 16 0 rfl rfl k20 dX4_crash_88 ?_
        obtain ⟨k21, hf⟩ := ck_not hf
        refine va_iast (D := D) hx hb hK hP hD hS 4 0 rfl rfl k21 dX4_crash_89 (fun H locs hP hD hS => ?_)
        have hP : va_P D vwCl (WM ca ad lq mcode mday mown mquot mprom mfiles mowner (upd mlinks v2.toNatClampNeg (mlinksT v2.toNatClampNeg)) mblocks mvals msnaps mranks mkept mshot mwas mholds mheld mends mopen mentr mkinds misop mfilesT mentrT mpromT mlinksT mblocksT mvalsT ++ R) H := hP
        have hD : va_D A (WM ca ad lq mcode mday mown mquot mprom mfiles mowner (upd mlinks v2.toNatClampNeg (mlinksT v2.toNatClampNeg)) mblocks mvals msnaps mranks mkept mshot mwas mholds mheld mends mopen mentr mkinds misop mfilesT mentrT mpromT mlinksT mblocksT mvalsT ++ R) := hD
        refine lv_iinc (v := (v2 + 1)) (lv' := [(2, .int (v2 + 1)), (0, .ref (ad 0)), (1, .int v1)]) hx hb dX4_crash_90 hl (k := 2) rfl rfl (by decide) rfl (fun ls hl => ?_)
        refine lv_goto (tgt := 72) hx hb dX4_crash_93 (by decide) ?_
        exact ih v1 (v2 + 1) mcode mprom mfiles (upd mlinks v2.toNatClampNeg (mlinksT v2.toNatClampNeg)) mblocks mvals mentr misop _ hf _ _ _ hP hD hS (lv_sub hl [1, 2, 0] rfl) kk
  have L98 : ∀ (n : Nat) (v1 : Int32) (v2 : Int32) (mcode : Int32) (mprom : Nat → Int32) (mfiles : Int32) (mlinks : Nat → Int32) (mblocks : Nat → Int32) (mvals : Nat → Int32) (mentr : Int32) (misop : Int32) (zmblocks : Nat → Int32), f_M_crash_L98 n v1 v2 mblocks mblocksT = some zmblocks → ∀ (H : Heap) (locs : List Loc) (ls : Array Slot), va_P D vwCl (WM ca ad lq mcode mday mown mquot mprom mfiles mowner mlinks mblocks mvals msnaps mranks mkept mshot mwas mholds mheld mends mopen mentr mkinds misop mfilesT mentrT mpromT mlinksT mblocksT mvalsT ++ R) H → va_D A (WM ca ad lq mcode mday mown mquot mprom mfiles mowner mlinks mblocks mvals msnaps mranks mkept mshot mwas mholds mheld mends mopen mentr mkinds misop mfilesT mentrT mpromT mlinksT mblocksT mvalsT ++ R) → va_S A s.heap H locs → lv_has ls 3 [(0, .ref (ad 0)), (1, .int v1), (2, .int v2)] → (∀ (H : Heap) (locs : List Loc) (ls : Array Slot), va_P D vwCl (WM ca ad lq mcode mday mown mquot mprom mfiles mowner mlinks zmblocks mvals msnaps mranks mkept mshot mwas mholds mheld mends mopen mentr mkinds misop mfilesT mentrT mpromT mlinksT mblocksT mvalsT ++ R) H → va_D A (WM ca ad lq mcode mday mown mquot mprom mfiles mowner mlinks zmblocks mvals msnaps mranks mkept mshot mwas mholds mheld mends mopen mentr mkinds misop mfilesT mentrT mpromT mlinksT mblocksT mvalsT ++ R) → va_S A s.heap H locs → lv_has ls 3 [(0, .ref (ad 0)), (1, .int v1)] → W p l e ({ frames := 0, cells := 0, slots := 0, locals := 0 } : Room) s m args below meth c H locs 0 0 Qm (F0 m 123 ls [])) → W p l e ({ frames := 0, cells := 0, slots := 0, locals := 0 } : Room) s m args below meth c H locs 0 0 Qm (F0 m 98 ls []) := by
    intro n
    induction n with
    | zero => intro v1 v2 mcode mprom mfiles mlinks mblocks mvals mentr misop zmblocks hf; cases hf
    | succ n ih =>
      intro v1 v2 mcode mprom mfiles mlinks mblocks mvals mentr misop zmblocks hf H locs ls hP hD hS hl kk
      unfold f_M_crash_L98 at hf
      refine lv_iload_n hx hb dX4_crash_98 rfl (lv_at hl 2 rfl) ?_
      refine lv_sipush (v := 640) hx hb dX4_crash_99 (by decide) ?_
      refine lv_icmp_ge (tgt := 123) hx hb dX4_crash_102 (by decide) (fun c30 => ?_) (fun c30 => ?_)
      · have hf := br_pos c30 hf
        cases hf
        exact kk _ _ _ hP hD hS (lv_sub hl [0, 1] rfl)
      · have hf := br_neg c30 hf
        refine lv_aload_n hx hb dX4_crash_105 rfl (lv_at hl 0 rfl) ?_
        refine va_get (D := D) (ci := 8) (v := .ref (ad 5)) (C := RX4) (T := TX4) (N := 29) hx hb hts inX4 hown hK hP 0 rfl rfl 8 (by decide) (hts _ q1337) (fun _ h9 => h9) rfl dX4_crash_106 ?_
        refine lv_iload_n hx hb dX4_crash_109 rfl (lv_at hl 2 rfl) ?_
        refine lv_aload_n hx hb dX4_crash_110 rfl (lv_at hl 0 rfl) ?_
        refine va_get (D := D) (ci := 8) (v := .ref (ad 17)) (C := RX4) (T := TX4) (N := 29) hx hb hts inX4 hown hK hP 0 rfl rfl 26 (by decide) (hts _ q1355) (fun _ h9 => h9) rfl dX4_crash_111 ?_
        refine lv_iload_n hx hb dX4_crash_114 rfl (lv_at hl 2 rfl) ?_
        obtain ⟨k31, hf⟩ := ck_not hf
        refine va_iald (D := D) hx hb hK hP 17 0 rfl rfl k31 dX4_crash_115 ?_
        obtain ⟨k32, hf⟩ := ck_not hf
        refine va_iast (D := D) hx hb hK hP hD hS 5 0 rfl rfl k32 dX4_crash_116 (fun H locs hP hD hS => ?_)
        have hP : va_P D vwCl (WM ca ad lq mcode mday mown mquot mprom mfiles mowner mlinks (upd mblocks v2.toNatClampNeg (mblocksT v2.toNatClampNeg)) mvals msnaps mranks mkept mshot mwas mholds mheld mends mopen mentr mkinds misop mfilesT mentrT mpromT mlinksT mblocksT mvalsT ++ R) H := hP
        have hD : va_D A (WM ca ad lq mcode mday mown mquot mprom mfiles mowner mlinks (upd mblocks v2.toNatClampNeg (mblocksT v2.toNatClampNeg)) mvals msnaps mranks mkept mshot mwas mholds mheld mends mopen mentr mkinds misop mfilesT mentrT mpromT mlinksT mblocksT mvalsT ++ R) := hD
        refine lv_iinc (v := (v2 + 1)) (lv' := [(2, .int (v2 + 1)), (0, .ref (ad 0)), (1, .int v1)]) hx hb dX4_crash_117 hl (k := 2) rfl rfl (by decide) rfl (fun ls hl => ?_)
        refine lv_goto (tgt := 98) hx hb dX4_crash_120 (by decide) ?_
        exact ih v1 (v2 + 1) mcode mprom mfiles mlinks (upd mblocks v2.toNatClampNeg (mblocksT v2.toNatClampNeg)) mvals mentr misop _ hf _ _ _ hP hD hS (lv_sub hl [1, 2, 0] rfl) kk
  have L125 : ∀ (n : Nat) (v1 : Int32) (v2 : Int32) (mcode : Int32) (mprom : Nat → Int32) (mfiles : Int32) (mlinks : Nat → Int32) (mblocks : Nat → Int32) (mvals : Nat → Int32) (mentr : Int32) (misop : Int32) (zmvals : Nat → Int32), f_M_crash_L125 n v1 v2 mvals mvalsT = some zmvals → ∀ (H : Heap) (locs : List Loc) (ls : Array Slot), va_P D vwCl (WM ca ad lq mcode mday mown mquot mprom mfiles mowner mlinks mblocks mvals msnaps mranks mkept mshot mwas mholds mheld mends mopen mentr mkinds misop mfilesT mentrT mpromT mlinksT mblocksT mvalsT ++ R) H → va_D A (WM ca ad lq mcode mday mown mquot mprom mfiles mowner mlinks mblocks mvals msnaps mranks mkept mshot mwas mholds mheld mends mopen mentr mkinds misop mfilesT mentrT mpromT mlinksT mblocksT mvalsT ++ R) → va_S A s.heap H locs → lv_has ls 3 [(0, .ref (ad 0)), (1, .int v1), (2, .int v2)] → (∀ (H : Heap) (locs : List Loc) (ls : Array Slot), va_P D vwCl (WM ca ad lq mcode mday mown mquot mprom mfiles mowner mlinks mblocks zmvals msnaps mranks mkept mshot mwas mholds mheld mends mopen mentr mkinds misop mfilesT mentrT mpromT mlinksT mblocksT mvalsT ++ R) H → va_D A (WM ca ad lq mcode mday mown mquot mprom mfiles mowner mlinks mblocks zmvals msnaps mranks mkept mshot mwas mholds mheld mends mopen mentr mkinds misop mfilesT mentrT mpromT mlinksT mblocksT mvalsT ++ R) → va_S A s.heap H locs → lv_has ls 3 [(1, .int v1)] → W p l e ({ frames := 0, cells := 0, slots := 0, locals := 0 } : Room) s m args below meth c H locs 0 0 Qm (F0 m 149 ls [])) → W p l e ({ frames := 0, cells := 0, slots := 0, locals := 0 } : Room) s m args below meth c H locs 0 0 Qm (F0 m 125 ls []) := by
    intro n
    induction n with
    | zero => intro v1 v2 mcode mprom mfiles mlinks mblocks mvals mentr misop zmvals hf; cases hf
    | succ n ih =>
      intro v1 v2 mcode mprom mfiles mlinks mblocks mvals mentr misop zmvals hf H locs ls hP hD hS hl kk
      unfold f_M_crash_L125 at hf
      refine lv_iload_n hx hb dX4_crash_125 rfl (lv_at hl 2 rfl) ?_
      refine lv_bipush (v := 64) hx hb dX4_crash_126 (by decide) ?_
      refine lv_icmp_ge (tgt := 149) hx hb dX4_crash_128 (by decide) (fun c41 => ?_) (fun c41 => ?_)
      · have hf := br_pos c41 hf
        cases hf
        exact kk _ _ _ hP hD hS (lv_sub hl [1] rfl)
      · have hf := br_neg c41 hf
        refine lv_aload_n hx hb dX4_crash_131 rfl (lv_at hl 0 rfl) ?_
        refine va_get (D := D) (ci := 8) (v := .ref (ad 6)) (C := RX4) (T := TX4) (N := 29) hx hb hts inX4 hown hK hP 0 rfl rfl 9 (by decide) (hts _ q1338) (fun _ h9 => h9) rfl dX4_crash_132 ?_
        refine lv_iload_n hx hb dX4_crash_135 rfl (lv_at hl 2 rfl) ?_
        refine lv_aload_n hx hb dX4_crash_136 rfl (lv_at hl 0 rfl) ?_
        refine va_get (D := D) (ci := 8) (v := .ref (ad 18)) (C := RX4) (T := TX4) (N := 29) hx hb hts inX4 hown hK hP 0 rfl rfl 27 (by decide) (hts _ q1356) (fun _ h9 => h9) rfl dX4_crash_137 ?_
        refine lv_iload_n hx hb dX4_crash_140 rfl (lv_at hl 2 rfl) ?_
        obtain ⟨k42, hf⟩ := ck_not hf
        refine va_iald (D := D) hx hb hK hP 18 0 rfl rfl k42 dX4_crash_141 ?_
        obtain ⟨k43, hf⟩ := ck_not hf
        refine va_iast (D := D) hx hb hK hP hD hS 6 0 rfl rfl k43 dX4_crash_142 (fun H locs hP hD hS => ?_)
        have hP : va_P D vwCl (WM ca ad lq mcode mday mown mquot mprom mfiles mowner mlinks mblocks (upd mvals v2.toNatClampNeg (mvalsT v2.toNatClampNeg)) msnaps mranks mkept mshot mwas mholds mheld mends mopen mentr mkinds misop mfilesT mentrT mpromT mlinksT mblocksT mvalsT ++ R) H := hP
        have hD : va_D A (WM ca ad lq mcode mday mown mquot mprom mfiles mowner mlinks mblocks (upd mvals v2.toNatClampNeg (mvalsT v2.toNatClampNeg)) msnaps mranks mkept mshot mwas mholds mheld mends mopen mentr mkinds misop mfilesT mentrT mpromT mlinksT mblocksT mvalsT ++ R) := hD
        refine lv_iinc (v := (v2 + 1)) (lv' := [(2, .int (v2 + 1)), (0, .ref (ad 0)), (1, .int v1)]) hx hb dX4_crash_143 hl (k := 2) rfl rfl (by decide) rfl (fun ls hl => ?_)
        refine lv_goto (tgt := 125) hx hb dX4_crash_146 (by decide) ?_
        exact ih v1 (v2 + 1) mcode mprom mfiles mlinks mblocks (upd mvals v2.toNatClampNeg (mvalsT v2.toNatClampNeg)) mentr misop _ hf _ _ _ hP hD hS (lv_sub hl [1, 2, 0] rfl) kk
  refine lv_aload_n hx hb dX4_crash_0 rfl (lv_at hl 0 rfl) ?_
  refine lv_iconst (v := 0) hx hb dX4_crash_1 (by decide) ?_
  refine va_put (D := D) (ci := 8) (v := .int 0) (ty := .int) (C := RX4) (T := TX4) (N := 29) hx hb hts inX4 tyX4 tyX4_ok nmX4 hown hK hP hD hS 0 rfl rfl 0 (by decide) (hts _ q1329) (fun _ h9 => h9) rfl (by decide +kernel) rfl rfl (Nat.le_of_ble_eq_true rfl) dX4_crash_2 (fun H locs hP hD hS => ?_)
  have hP : va_P D vwCl (WM ca ad lq 0 mday mown mquot mprom mfiles mowner mlinks mblocks mvals msnaps mranks mkept mshot mwas mholds mheld mends mopen mentr mkinds misop mfilesT mentrT mpromT mlinksT mblocksT mvalsT ++ R) H := hP
  have hD : va_D A (WM ca ad lq 0 mday mown mquot mprom mfiles mowner mlinks mblocks mvals msnaps mranks mkept mshot mwas mholds mheld mends mopen mentr mkinds misop mfilesT mentrT mpromT mlinksT mblocksT mvalsT ++ R) := hD
  refine lv_aload_n hx hb dX4_crash_5 rfl (lv_at hl 0 rfl) ?_
  refine va_get (D := D) (ci := 8) (v := .int misop) (C := RX4) (T := TX4) (N := 29) hx hb hts inX4 hown hK hP 0 rfl rfl 21 (by decide) (hts _ q1350) (fun _ h9 => h9) rfl dX4_crash_6 ?_
  refine lv_if_ne (tgt := 14) hx hb dX4_crash_9 (by decide) (fun c1 => ?_) (fun c1 => ?_)
  · have hf := br_neg c1 hf
    refine lv_aload_n hx hb dX4_crash_14 rfl (lv_at hl 0 rfl) ?_
    refine lv_iconst (v := 0) hx hb dX4_crash_15 (by decide) ?_
    refine va_put (D := D) (ci := 8) (v := .int 0) (ty := .boolean) (C := RX4) (T := TX4) (N := 29) hx hb hts inX4 tyX4 tyX4_ok nmX4 hown hK hP hD hS 0 rfl rfl 21 (by decide) (hts _ q1350) (fun _ h9 => h9) rfl (by decide +kernel) rfl rfl (Nat.le_of_ble_eq_true rfl) dX4_crash_16 (fun H locs hP hD hS => ?_)
    have hP : va_P D vwCl (WM ca ad lq 0 mday mown mquot mprom mfiles mowner mlinks mblocks mvals msnaps mranks mkept mshot mwas mholds mheld mends mopen mentr mkinds 0 mfilesT mentrT mpromT mlinksT mblocksT mvalsT ++ R) H := hP
    have hD : va_D A (WM ca ad lq 0 mday mown mquot mprom mfiles mowner mlinks mblocks mvals msnaps mranks mkept mshot mwas mholds mheld mends mopen mentr mkinds 0 mfilesT mentrT mpromT mlinksT mblocksT mvalsT ++ R) := hD
    refine lv_aload_n hx hb dX4_crash_19 rfl (lv_at hl 0 rfl) ?_
    refine va_get (D := D) (ci := 8) (v := .int mentr) (C := RX4) (T := TX4) (N := 29) hx hb hts inX4 hown hK hP 0 rfl rfl 19 (by decide) (hts _ q1348) (fun _ h9 => h9) rfl dX4_crash_20 ?_
    refine lv_aload_n hx hb dX4_crash_23 rfl (lv_at hl 0 rfl) ?_
    refine va_get (D := D) (ci := 8) (v := .int mentrT) (C := RX4) (T := TX4) (N := 29) hx hb hts inX4 hown hK hP 0 rfl rfl 23 (by decide) (hts _ q1352) (fun _ h9 => h9) rfl dX4_crash_24 ?_
    refine lv_isub hx hb dX4_crash_27 ?_
    refine lv_istore_n (lv' := [(1, .int (mentr - mentrT)), (0, .ref (ad 0))]) hx hb dX4_crash_28 rfl hl (by decide) rfl (fun ls hl => ?_)
    refine lv_aload_n hx hb dX4_crash_29 rfl (lv_at hl 1 rfl) ?_
    refine lv_aload_n hx hb dX4_crash_30 rfl (lv_at hl 1 rfl) ?_
    refine va_get (D := D) (ci := 8) (v := .int mfilesT) (C := RX4) (T := TX4) (N := 29) hx hb hts inX4 hown hK hP 0 rfl rfl 22 (by decide) (hts _ q1351) (fun _ h9 => h9) rfl dX4_crash_31 ?_
    refine va_put (D := D) (ci := 8) (v := .int mfilesT) (ty := .int) (C := RX4) (T := TX4) (N := 29) hx hb hts inX4 tyX4 tyX4_ok nmX4 hown hK hP hD hS 0 rfl rfl 5 (by decide) (hts _ q1334) (fun _ h9 => h9) rfl (by decide +kernel) rfl rfl (Nat.le_of_ble_eq_true rfl) dX4_crash_34 (fun H locs hP hD hS => ?_)
    have hP : va_P D vwCl (WM ca ad lq 0 mday mown mquot mprom mfilesT mowner mlinks mblocks mvals msnaps mranks mkept mshot mwas mholds mheld mends mopen mentr mkinds 0 mfilesT mentrT mpromT mlinksT mblocksT mvalsT ++ R) H := hP
    have hD : va_D A (WM ca ad lq 0 mday mown mquot mprom mfilesT mowner mlinks mblocks mvals msnaps mranks mkept mshot mwas mholds mheld mends mopen mentr mkinds 0 mfilesT mentrT mpromT mlinksT mblocksT mvalsT ++ R) := hD
    refine lv_aload_n hx hb dX4_crash_37 rfl (lv_at hl 1 rfl) ?_
    refine lv_aload_n hx hb dX4_crash_38 rfl (lv_at hl 1 rfl) ?_
    refine va_get (D := D) (ci := 8) (v := .int mentrT) (C := RX4) (T := TX4) (N := 29) hx hb hts inX4 hown hK hP 0 rfl rfl 23 (by decide) (hts _ q1352) (fun _ h9 => h9) rfl dX4_crash_39 ?_
    refine va_put (D := D) (ci := 8) (v := .int mentrT) (ty := .int) (C := RX4) (T := TX4) (N := 29) hx hb hts inX4 tyX4 tyX4_ok nmX4 hown hK hP hD hS 0 rfl rfl 19 (by decide) (hts _ q1348) (fun _ h9 => h9) rfl (by decide +kernel) rfl rfl (Nat.le_of_ble_eq_true rfl) dX4_crash_42 (fun H locs hP hD hS => ?_)
    have hP : va_P D vwCl (WM ca ad lq 0 mday mown mquot mprom mfilesT mowner mlinks mblocks mvals msnaps mranks mkept mshot mwas mholds mheld mends mopen mentrT mkinds 0 mfilesT mentrT mpromT mlinksT mblocksT mvalsT ++ R) H := hP
    have hD : va_D A (WM ca ad lq 0 mday mown mquot mprom mfilesT mowner mlinks mblocks mvals msnaps mranks mkept mshot mwas mholds mheld mends mopen mentrT mkinds 0 mfilesT mentrT mpromT mlinksT mblocksT mvalsT ++ R) := hD
    refine lv_iconst (v := 0) hx hb dX4_crash_45 (by decide) ?_
    refine lv_istore_n (lv' := [(2, .int 0), (1, .int (mentr - mentrT)), (0, .ref (ad 0))]) hx hb dX4_crash_46 rfl hl (by decide) rfl (fun ls hl => ?_)
    obtain ⟨mprom_12, h11, hf⟩ := bnd hf
    refine L47 FU (mentr - mentrT) 0 0 mprom mfilesT mlinks mblocks mvals mentrT 0 mprom_12 h11 _ _ _ hP hD hS (lv_sub hl [2, 1, 0] rfl) (fun H locs ls hP hD hS hl => ?_)
    refine lv_iconst (v := 0) hx hb dX4_crash_70 (by decide) ?_
    refine lv_istore_n (lv' := [(2, .int 0), (0, .ref (ad 0)), (1, .int (mentr - mentrT))]) hx hb dX4_crash_71 rfl hl (by decide) rfl (fun ls hl => ?_)
    obtain ⟨mlinks_23, h22, hf⟩ := bnd hf
    refine L72 FU (mentr - mentrT) 0 0 mprom_12 mfilesT mlinks mblocks mvals mentrT 0 mlinks_23 h22 _ _ _ hP hD hS (lv_sub hl [1, 2, 0] rfl) (fun H locs ls hP hD hS hl => ?_)
    refine lv_iconst (v := 0) hx hb dX4_crash_96 (by decide) ?_
    refine lv_istore_n (lv' := [(2, .int 0), (0, .ref (ad 0)), (1, .int (mentr - mentrT))]) hx hb dX4_crash_97 rfl hl (by decide) rfl (fun ls hl => ?_)
    obtain ⟨mblocks_34, h33, hf⟩ := bnd hf
    refine L98 FU (mentr - mentrT) 0 0 mprom_12 mfilesT mlinks_23 mblocks mvals mentrT 0 mblocks_34 h33 _ _ _ hP hD hS (lv_sub hl [1, 2, 0] rfl) (fun H locs ls hP hD hS hl => ?_)
    refine lv_iconst (v := 0) hx hb dX4_crash_123 (by decide) ?_
    refine lv_istore_n (lv' := [(2, .int 0), (0, .ref (ad 0)), (1, .int (mentr - mentrT))]) hx hb dX4_crash_124 rfl hl (by decide) rfl (fun ls hl => ?_)
    obtain ⟨mvals_45, h44, hf⟩ := bnd hf
    refine L125 FU (mentr - mentrT) 0 0 mprom_12 mfilesT mlinks_23 mblocks_34 mvals mentrT 0 mvals_45 h44 _ _ _ hP hD hS (lv_sub hl [1, 2, 0] rfl) (fun H locs ls hP hD hS hl => ?_)
    refine lv_iload_n hx hb dX4_crash_149 rfl (lv_at hl 0 rfl) ?_
    cases hf
    exact end_i hAe hQm hx hb hr hlocks rfl hP hD hS dX4_crash_150
  · have hf := br_pos c1 hf
    refine lv_iconst (v := 0) hx hb dX4_crash_12 (by decide) ?_
    cases hf
    exact end_i hAe hQm hx hb hr hlocks rfl hP hD hS dX4_crash_13
def f_M_journalSize (mentr : Int32) : Option (Int32 × Int32) :=
  some (mentr, 0)
set_option maxHeartbeats 4000000 in
set_option maxRecDepth 100000 in
theorem m_M_journalSize (l : Launch) {D : va_G} {sl : List (String × Nat × String)} (ca : Nat → ClassId) (ad : Nat → Nat) (lq : Nat) (mcode : Int32) (mday : Int32) (mown : Int32) (mquot : Nat → Int32) (mprom : Nat → Int32) (mfiles : Int32) (mowner : Nat → Int32) (mlinks : Nat → Int32) (mblocks : Nat → Int32) (mvals : Nat → Int32) (msnaps : Int32) (mranks : Nat → Int32) (mkept : Nat → Int32) (mshot : Nat → Int32) (mwas : Nat → Int32) (mholds : Int32) (mheld : Nat → Int32) (mends : Nat → Int32) (mopen : Nat → Int32) (mentr : Int32) (mkinds : Nat → Int32) (misop : Int32) (mfilesT : Int32) (mentrT : Int32) (mpromT : Nat → Int32) (mlinksT : Nat → Int32) (mblocksT : Nat → Int32) (mvalsT : Nat → Int32) (R : va_W) (sz : Nat) (ro : Int32) (omcode : Int32) (hf : f_M_journalSize mentr = some (ro, omcode)) : Met l yX4_journalSize (wm yX4_journalSize cX4_journalSize 1 (some .int)) ({ frames := 0, cells := 0, slots := 0, locals := 0 } : Room) (PRE [.ref (ad 0)] D ca sl (WM ca ad lq mcode mday mown mquot mprom mfiles mowner mlinks mblocks mvals msnaps mranks mkept mshot mwas mholds mheld mends mopen mentr mkinds misop mfilesT mentrT mpromT mlinksT mblocksT mvalsT ++ R) sz) (QI ro D (WM ca ad lq omcode mday mown mquot mprom mfiles mowner mlinks mblocks mvals msnaps mranks mkept mshot mwas mholds mheld mends mopen mentr mkinds misop mfilesT mentrT mpromT mlinksT mblocksT mvalsT ++ R) (WM ca ad lq mcode mday mown mquot mprom mfiles mowner mlinks mblocks mvals msnaps mranks mkept mshot mwas mholds mheld mends mopen mentr mkinds misop mfilesT mentrT mpromT mlinksT mblocksT mvalsT ++ R) sz) 0 0 (va_A (WM ca ad lq mcode mday mown mquot mprom mfiles mowner mlinks mblocks mvals msnaps mranks mkept mshot mwas mholds mheld mends mopen mentr mkinds misop mfilesT mentrT mpromT mlinksT mblocksT mvalsT ++ R) sz) := by
  refine Met.ofW (cc := cX4_journalSize) (maxL := 1) (ret := (some .int)) (by decide) rfl ?_
  intro p e s m args below meth c s₁ B hml hv
  obtain ⟨rfl, rfl, hP, hE, hD0⟩ := hv
  have hx := B.exec
  have hb := B.bytes
  have hr := B.returns
  have hts := wm_ww (atoms_spec (ws := wm yX4_journalSize cX4_journalSize 1 (some .int)) B.pre)
  have hown : s.vm.findClass RX4 = some m.cls := findClass_of_methodNamed B.named
  have hlocks := B.notSynchronized
  have hK := hE.1
  have hD := hD0.self (sz := s.heap.size)
  generalize hAe : va_A (WM ca ad lq mcode mday mown mquot mprom mfiles mowner mlinks mblocks mvals msnaps mranks mkept mshot mwas mholds mheld mends mopen mentr mkinds misop mfilesT mentrT mpromT mlinksT mblocksT mvalsT ++ R) s.heap.size = A at hD ⊢
  have hA : ∀ q : Nat, s.heap.size ≤ q → A q := fun q h => by rw [← hAe]; exact Or.inr h
  have hS : va_S A s.heap s.heap [] := va_S.rf
  have hl := lv_entry ([.ref (ad 0)]) (n := 1) (Nat.le_of_ble_eq_true rfl)
  rw [lg_entry_eq]
  generalize (lg_sl ([.ref (ad 0)]) ++ List.replicate (1 - (lg_sl ([.ref (ad 0)])).length) Slot.unset).toArray = ls at hl ⊢
  have hl : lv_has ls 1 [(0, .ref (ad 0))] := hl
  change W p l e ({ frames := 0, cells := 0, slots := 0, locals := 0 } : Room) s m _ below meth c s.heap [] 0 0 _ _
  generalize hQm : MQ below (QI ro D (WM ca ad lq omcode mday mown mquot mprom mfiles mowner mlinks mblocks mvals msnaps mranks mkept mshot mwas mholds mheld mends mopen mentr mkinds misop mfilesT mentrT mpromT mlinksT mblocksT mvalsT ++ R) (WM ca ad lq mcode mday mown mquot mprom mfiles mowner mlinks mblocks mvals msnaps mranks mkept mshot mwas mholds mheld mends mopen mentr mkinds misop mfilesT mentrT mpromT mlinksT mblocksT mvalsT ++ R) s.heap.size) _ s 0 0 A = Qm
  have hP : va_P D vwCl (WM ca ad lq mcode mday mown mquot mprom mfiles mowner mlinks mblocks mvals msnaps mranks mkept mshot mwas mholds mheld mends mopen mentr mkinds misop mfilesT mentrT mpromT mlinksT mblocksT mvalsT ++ R) s.heap := hP
  generalize hae : ([.ref (ad 0)] : List Value).toArray = args at hts hQm ⊢
  refine lv_aload_n hx hb dX4_journalSize_0 rfl (lv_at hl 0 rfl) ?_
  refine lv_iconst (v := 0) hx hb dX4_journalSize_1 (by decide) ?_
  refine va_put (D := D) (ci := 8) (v := .int 0) (ty := .int) (C := RX4) (T := TX4) (N := 29) hx hb hts inX4 tyX4 tyX4_ok nmX4 hown hK hP hD hS 0 rfl rfl 0 (by decide) (hts _ q1329) (fun _ h9 => h9) rfl (by decide +kernel) rfl rfl (Nat.le_of_ble_eq_true rfl) dX4_journalSize_2 (fun H locs hP hD hS => ?_)
  have hP : va_P D vwCl (WM ca ad lq 0 mday mown mquot mprom mfiles mowner mlinks mblocks mvals msnaps mranks mkept mshot mwas mholds mheld mends mopen mentr mkinds misop mfilesT mentrT mpromT mlinksT mblocksT mvalsT ++ R) H := hP
  have hD : va_D A (WM ca ad lq 0 mday mown mquot mprom mfiles mowner mlinks mblocks mvals msnaps mranks mkept mshot mwas mholds mheld mends mopen mentr mkinds misop mfilesT mentrT mpromT mlinksT mblocksT mvalsT ++ R) := hD
  refine lv_aload_n hx hb dX4_journalSize_5 rfl (lv_at hl 0 rfl) ?_
  refine va_get (D := D) (ci := 8) (v := .int mentr) (C := RX4) (T := TX4) (N := 29) hx hb hts inX4 hown hK hP 0 rfl rfl 19 (by decide) (hts _ q1348) (fun _ h9 => h9) rfl dX4_journalSize_6 ?_
  cases hf
  exact end_i hAe hQm hx hb hr hlocks rfl hP hD hS dX4_journalSize_9
def f_M_entryKind (p1 : Int32) (mentr : Int32) (mkinds : Nat → Int32) : Option (Int32 × Int32) :=
  (f_M_in p1 0 (mentr - 1)).bind fun r1 =>
  if r1 = 0 then
    some (0, 1)
  else
    if p1 < 0 ∨ 4000 ≤ p1.toNatClampNeg then none else
      if vp_nar .char (mkinds p1.toNatClampNeg) = (mkinds p1.toNatClampNeg) then some ((mkinds p1.toNatClampNeg), 0) else none
set_option maxHeartbeats 4000000 in
set_option maxRecDepth 100000 in
theorem m_M_entryKind (l : Launch) {D : va_G} {sl : List (String × Nat × String)} (ca : Nat → ClassId) (ad : Nat → Nat) (lq : Nat) (mcode : Int32) (mday : Int32) (mown : Int32) (mquot : Nat → Int32) (mprom : Nat → Int32) (mfiles : Int32) (mowner : Nat → Int32) (mlinks : Nat → Int32) (mblocks : Nat → Int32) (mvals : Nat → Int32) (msnaps : Int32) (mranks : Nat → Int32) (mkept : Nat → Int32) (mshot : Nat → Int32) (mwas : Nat → Int32) (mholds : Int32) (mheld : Nat → Int32) (mends : Nat → Int32) (mopen : Nat → Int32) (mentr : Int32) (mkinds : Nat → Int32) (misop : Int32) (mfilesT : Int32) (mentrT : Int32) (mpromT : Nat → Int32) (mlinksT : Nat → Int32) (mblocksT : Nat → Int32) (mvalsT : Nat → Int32) (R : va_W) (sz : Nat) (p1 : Int32) (ro : Int32) (omcode : Int32) (hf : f_M_entryKind p1 mentr mkinds = some (ro, omcode)) : Met l yX4_entryKind (wm yX4_entryKind cX4_entryKind 2 (some .char)) ({ frames := 1, cells := 0, slots := 0, locals := 22 } : Room) (PRE [.ref (ad 0), .int p1] D ca sl (WM ca ad lq mcode mday mown mquot mprom mfiles mowner mlinks mblocks mvals msnaps mranks mkept mshot mwas mholds mheld mends mopen mentr mkinds misop mfilesT mentrT mpromT mlinksT mblocksT mvalsT ++ R) sz) (QI ro D (WM ca ad lq omcode mday mown mquot mprom mfiles mowner mlinks mblocks mvals msnaps mranks mkept mshot mwas mholds mheld mends mopen mentr mkinds misop mfilesT mentrT mpromT mlinksT mblocksT mvalsT ++ R) (WM ca ad lq mcode mday mown mquot mprom mfiles mowner mlinks mblocks mvals msnaps mranks mkept mshot mwas mholds mheld mends mopen mentr mkinds misop mfilesT mentrT mpromT mlinksT mblocksT mvalsT ++ R) sz) 0 0 (va_A (WM ca ad lq mcode mday mown mquot mprom mfiles mowner mlinks mblocks mvals msnaps mranks mkept mshot mwas mholds mheld mends mopen mentr mkinds misop mfilesT mentrT mpromT mlinksT mblocksT mvalsT ++ R) sz) := by
  refine Met.ofW (cc := cX4_entryKind) (maxL := 2) (ret := (some .char)) (by decide) rfl ?_
  intro p e s m args below meth c s₁ B hml hv
  obtain ⟨rfl, rfl, hP, hE, hD0⟩ := hv
  have hx := B.exec
  have hb := B.bytes
  have hr := B.returns
  have hts := wm_ww (atoms_spec (ws := wm yX4_entryKind cX4_entryKind 2 (some .char)) B.pre)
  have hown : s.vm.findClass RX4 = some m.cls := findClass_of_methodNamed B.named
  have hlocks := B.notSynchronized
  have hK := hE.1
  have hD := hD0.self (sz := s.heap.size)
  generalize hAe : va_A (WM ca ad lq mcode mday mown mquot mprom mfiles mowner mlinks mblocks mvals msnaps mranks mkept mshot mwas mholds mheld mends mopen mentr mkinds misop mfilesT mentrT mpromT mlinksT mblocksT mvalsT ++ R) s.heap.size = A at hD ⊢
  have hA : ∀ q : Nat, s.heap.size ≤ q → A q := fun q h => by rw [← hAe]; exact Or.inr h
  have hS : va_S A s.heap s.heap [] := va_S.rf
  have hl := lv_entry ([.ref (ad 0), .int p1]) (n := 2) (Nat.le_of_ble_eq_true rfl)
  rw [lg_entry_eq]
  generalize (lg_sl ([.ref (ad 0), .int p1]) ++ List.replicate (2 - (lg_sl ([.ref (ad 0), .int p1])).length) Slot.unset).toArray = ls at hl ⊢
  have hl : lv_has ls 2 [(0, .ref (ad 0)), (1, .int p1)] := hl
  change W p l e ({ frames := 1, cells := 0, slots := 0, locals := 22 } : Room) s m _ below meth c s.heap [] 0 0 _ _
  generalize hQm : MQ below (QI ro D (WM ca ad lq omcode mday mown mquot mprom mfiles mowner mlinks mblocks mvals msnaps mranks mkept mshot mwas mholds mheld mends mopen mentr mkinds misop mfilesT mentrT mpromT mlinksT mblocksT mvalsT ++ R) (WM ca ad lq mcode mday mown mquot mprom mfiles mowner mlinks mblocks mvals msnaps mranks mkept mshot mwas mholds mheld mends mopen mentr mkinds misop mfilesT mentrT mpromT mlinksT mblocksT mvalsT ++ R) s.heap.size) _ s 0 0 A = Qm
  have hP : va_P D vwCl (WM ca ad lq mcode mday mown mquot mprom mfiles mowner mlinks mblocks mvals msnaps mranks mkept mshot mwas mholds mheld mends mopen mentr mkinds misop mfilesT mentrT mpromT mlinksT mblocksT mvalsT ++ R) s.heap := hP
  generalize hae : ([.ref (ad 0), .int p1] : List Value).toArray = args at hts hQm ⊢
  refine lv_aload_n hx hb dX4_entryKind_0 rfl (lv_at hl 0 rfl) ?_
  refine lv_iload_n hx hb dX4_entryKind_1 rfl (lv_at hl 1 rfl) ?_
  refine lv_iconst (v := 0) hx hb dX4_entryKind_2 (by decide) ?_
  refine lv_aload_n hx hb dX4_entryKind_3 rfl (lv_at hl 0 rfl) ?_
  refine va_get (D := D) (ci := 8) (v := .int mentr) (C := RX4) (T := TX4) (N := 29) hx hb hts inX4 hown hK hP 0 rfl rfl 19 (by decide) (hts _ q1348) (fun _ h9 => h9) rfl dX4_entryKind_4 ?_
  refine lv_iconst (v := 1) hx hb dX4_entryKind_7 (by decide) ?_
  refine lv_isub hx hb dX4_entryKind_8 ?_
  obtain ⟨r1, h2, hf⟩ := bnd hf
  refine call_si (rest := [.ref (ad 0)]) (m_M_in l ca ad lq mcode mday mown mquot mprom mfiles mowner mlinks mblocks mvals msnaps mranks mkept mshot mwas mholds mheld mends mopen mentr mkinds misop mfilesT mentrT mpromT mlinksT mblocksT mvalsT R _ p1 0 (mentr - 1) r1 h2) ⟨hx, hb, hml, hown, hts⟩ (va_cwS 3 hts (gS q1425 q1426 q50 q1427) rfl rfl rfl (by decide +kernel) ⟨Nat.le_of_ble_eq_true rfl, Nat.le_of_ble_eq_true rfl⟩) hE hP hD hS hA rfl hl.1 rfl (lv_room (Nat.le_of_ble_eq_true rfl)) dX4_entryKind_9 ⟨Nat.le_of_ble_eq_true rfl, Nat.le_of_ble_eq_true rfl⟩ (fun H locs hP hD hS => ?_)
  refine lv_if_eq (tgt := 19) hx hb dX4_entryKind_12 (by decide) (fun c3 => ?_) (fun c3 => ?_)
  · have hf := br_pos c3 hf
    refine lv_iconst (v := 1) hx hb dX4_entryKind_19 (by decide) ?_
    refine va_put (D := D) (ci := 8) (v := .int 1) (ty := .int) (C := RX4) (T := TX4) (N := 29) hx hb hts inX4 tyX4 tyX4_ok nmX4 hown hK hP hD hS 0 rfl rfl 0 (by decide) (hts _ q1329) (fun _ h9 => h9) rfl (by decide +kernel) rfl rfl (Nat.le_of_ble_eq_true rfl) dX4_entryKind_20 (fun H locs hP hD hS => ?_)
    have hP : va_P D vwCl (WM ca ad lq 1 mday mown mquot mprom mfiles mowner mlinks mblocks mvals msnaps mranks mkept mshot mwas mholds mheld mends mopen mentr mkinds misop mfilesT mentrT mpromT mlinksT mblocksT mvalsT ++ R) H := hP
    have hD : va_D A (WM ca ad lq 1 mday mown mquot mprom mfiles mowner mlinks mblocks mvals msnaps mranks mkept mshot mwas mholds mheld mends mopen mentr mkinds misop mfilesT mentrT mpromT mlinksT mblocksT mvalsT ++ R) := hD
    refine lv_aload_n hx hb dX4_entryKind_23 rfl (lv_at hl 0 rfl) ?_
    refine va_get (D := D) (ci := 8) (v := .int 1) (C := RX4) (T := TX4) (N := 29) hx hb hts inX4 hown hK hP 0 rfl rfl 0 (by decide) (hts _ q1329) (fun _ h9 => h9) rfl dX4_entryKind_24 ?_
    refine lv_if_le (tgt := 34) hx hb dX4_entryKind_27 (by decide) (fun c4 => ?_) (fun c4 => ?_)
    · exact absurd c4 (by decide)
    refine lv_iconst (v := 0) hx hb dX4_entryKind_30 (by decide) ?_
    refine lv_goto (tgt := 40) hx hb dX4_entryKind_31 (by decide) ?_
    cases hf
    exact end_i hAe hQm hx hb hr hlocks rfl hP hD hS dX4_entryKind_40
  · have hf := br_neg c3 hf
    refine lv_iconst (v := 0) hx hb dX4_entryKind_15 (by decide) ?_
    refine lv_goto (tgt := 20) hx hb dX4_entryKind_16 (by decide) ?_
    refine va_put (D := D) (ci := 8) (v := .int 0) (ty := .int) (C := RX4) (T := TX4) (N := 29) hx hb hts inX4 tyX4 tyX4_ok nmX4 hown hK hP hD hS 0 rfl rfl 0 (by decide) (hts _ q1329) (fun _ h9 => h9) rfl (by decide +kernel) rfl rfl (Nat.le_of_ble_eq_true rfl) dX4_entryKind_20 (fun H locs hP hD hS => ?_)
    have hP : va_P D vwCl (WM ca ad lq 0 mday mown mquot mprom mfiles mowner mlinks mblocks mvals msnaps mranks mkept mshot mwas mholds mheld mends mopen mentr mkinds misop mfilesT mentrT mpromT mlinksT mblocksT mvalsT ++ R) H := hP
    have hD : va_D A (WM ca ad lq 0 mday mown mquot mprom mfiles mowner mlinks mblocks mvals msnaps mranks mkept mshot mwas mholds mheld mends mopen mentr mkinds misop mfilesT mentrT mpromT mlinksT mblocksT mvalsT ++ R) := hD
    refine lv_aload_n hx hb dX4_entryKind_23 rfl (lv_at hl 0 rfl) ?_
    refine va_get (D := D) (ci := 8) (v := .int 0) (C := RX4) (T := TX4) (N := 29) hx hb hts inX4 hown hK hP 0 rfl rfl 0 (by decide) (hts _ q1329) (fun _ h9 => h9) rfl dX4_entryKind_24 ?_
    refine lv_if_le (tgt := 34) hx hb dX4_entryKind_27 (by decide) (fun c5 => ?_) (fun c5 => ?_)
    rotate_left
    · exact absurd c5 (by decide)
    refine lv_aload_n hx hb dX4_entryKind_34 rfl (lv_at hl 0 rfl) ?_
    refine va_get (D := D) (ci := 8) (v := .ref (ad 14)) (C := RX4) (T := TX4) (N := 29) hx hb hts inX4 hown hK hP 0 rfl rfl 20 (by decide) (hts _ q1349) (fun _ h9 => h9) rfl dX4_entryKind_35 ?_
    refine lv_iload_n hx hb dX4_entryKind_38 rfl (lv_at hl 1 rfl) ?_
    obtain ⟨k6, hf⟩ := ck_not hf
    refine va_cald (D := D) hx hb hK hP 14 2 rfl rfl k6 dX4_entryKind_39 ?_
    obtain ⟨k7, hf⟩ := ck_yes hf
    cases hf
    exact end_i hAe hQm hx hb hr hlocks (nar_c k7) hP hD hS dX4_entryKind_40
def f_M_meanUsers_L6 : Nat → Int32 → Int32 → Int32 → (Nat → Int32) → Int32 → (Nat → Int32) → (Nat → Int32) → Option (Int32 × Int32)
  | 0, _, _, _, _, _, _, _ => none
  | fuel + 1, v1, v2, v3, mblocks, msnaps, mkept, mshot =>
    if 64 ≤ v3 then
      some (v1, v2)
    else
      (f_M_users v3 mblocks msnaps mkept mshot).bind fun r8 =>
      (f_M_users v3 mblocks msnaps mkept mshot).bind fun r10 =>
      if r10 ≤ 0 then
        f_M_meanUsers_L6 fuel (v1 + r8) (v2 + 0) (v3 + 1) mblocks msnaps mkept mshot
      else
        f_M_meanUsers_L6 fuel (v1 + r8) (v2 + 1) (v3 + 1) mblocks msnaps mkept mshot
def f_M_meanUsers (mblocks : Nat → Int32) (msnaps : Int32) (mkept : Nat → Int32) (mshot : Nat → Int32) : Option (UInt64 × Int32) :=
  (f_M_meanUsers_L6 FU 0 0 0 mblocks msnaps mkept mshot).bind fun (x14, x15) =>
  if x15 = 0 then
    some (0, 1)
  else
    if ((FP.ddiv (FP.i2d x14) (FP.i2d x15)) &&& 0x7fffffffffffffff ≤ 0x7ff0000000000000) then some ((FP.ddiv (FP.i2d x14) (FP.i2d x15)), 0) else none
set_option maxHeartbeats 4000000 in
set_option maxRecDepth 100000 in
theorem m_M_meanUsers (l : Launch) {D : va_G} {sl : List (String × Nat × String)} (ca : Nat → ClassId) (ad : Nat → Nat) (lq : Nat) (mcode : Int32) (mday : Int32) (mown : Int32) (mquot : Nat → Int32) (mprom : Nat → Int32) (mfiles : Int32) (mowner : Nat → Int32) (mlinks : Nat → Int32) (mblocks : Nat → Int32) (mvals : Nat → Int32) (msnaps : Int32) (mranks : Nat → Int32) (mkept : Nat → Int32) (mshot : Nat → Int32) (mwas : Nat → Int32) (mholds : Int32) (mheld : Nat → Int32) (mends : Nat → Int32) (mopen : Nat → Int32) (mentr : Int32) (mkinds : Nat → Int32) (misop : Int32) (mfilesT : Int32) (mentrT : Int32) (mpromT : Nat → Int32) (mlinksT : Nat → Int32) (mblocksT : Nat → Int32) (mvalsT : Nat → Int32) (R : va_W) (sz : Nat) (ro : UInt64) (omcode : Int32) (hf : f_M_meanUsers mblocks msnaps mkept mshot = some (ro, omcode)) : Met l yX4_meanUsers (wm yX4_meanUsers cX4_meanUsers 4 (some .double)) ({ frames := 1, cells := 0, slots := 0, locals := 24 } : Room) (PRE [.ref (ad 0)] D ca sl (WM ca ad lq mcode mday mown mquot mprom mfiles mowner mlinks mblocks mvals msnaps mranks mkept mshot mwas mholds mheld mends mopen mentr mkinds misop mfilesT mentrT mpromT mlinksT mblocksT mvalsT ++ R) sz) (QD ro D (WM ca ad lq omcode mday mown mquot mprom mfiles mowner mlinks mblocks mvals msnaps mranks mkept mshot mwas mholds mheld mends mopen mentr mkinds misop mfilesT mentrT mpromT mlinksT mblocksT mvalsT ++ R) (WM ca ad lq mcode mday mown mquot mprom mfiles mowner mlinks mblocks mvals msnaps mranks mkept mshot mwas mholds mheld mends mopen mentr mkinds misop mfilesT mentrT mpromT mlinksT mblocksT mvalsT ++ R) sz) 0 0 (va_A (WM ca ad lq mcode mday mown mquot mprom mfiles mowner mlinks mblocks mvals msnaps mranks mkept mshot mwas mholds mheld mends mopen mentr mkinds misop mfilesT mentrT mpromT mlinksT mblocksT mvalsT ++ R) sz) := by
  refine Met.ofW (cc := cX4_meanUsers) (maxL := 4) (ret := (some .double)) (by decide) rfl ?_
  intro p e s m args below meth c s₁ B hml hv
  obtain ⟨rfl, rfl, hP, hE, hD0⟩ := hv
  have hx := B.exec
  have hb := B.bytes
  have hr := B.returns
  have hts := wm_ww (atoms_spec (ws := wm yX4_meanUsers cX4_meanUsers 4 (some .double)) B.pre)
  have hown : s.vm.findClass RX4 = some m.cls := findClass_of_methodNamed B.named
  have hlocks := B.notSynchronized
  have hK := hE.1
  have hD := hD0.self (sz := s.heap.size)
  generalize hAe : va_A (WM ca ad lq mcode mday mown mquot mprom mfiles mowner mlinks mblocks mvals msnaps mranks mkept mshot mwas mholds mheld mends mopen mentr mkinds misop mfilesT mentrT mpromT mlinksT mblocksT mvalsT ++ R) s.heap.size = A at hD ⊢
  have hA : ∀ q : Nat, s.heap.size ≤ q → A q := fun q h => by rw [← hAe]; exact Or.inr h
  have hS : va_S A s.heap s.heap [] := va_S.rf
  have hl := lv_entry ([.ref (ad 0)]) (n := 4) (Nat.le_of_ble_eq_true rfl)
  rw [lg_entry_eq]
  generalize (lg_sl ([.ref (ad 0)]) ++ List.replicate (4 - (lg_sl ([.ref (ad 0)])).length) Slot.unset).toArray = ls at hl ⊢
  have hl : lv_has ls 4 [(0, .ref (ad 0))] := hl
  change W p l e ({ frames := 1, cells := 0, slots := 0, locals := 24 } : Room) s m _ below meth c s.heap [] 0 0 _ _
  generalize hQm : MQ below (QD ro D (WM ca ad lq omcode mday mown mquot mprom mfiles mowner mlinks mblocks mvals msnaps mranks mkept mshot mwas mholds mheld mends mopen mentr mkinds misop mfilesT mentrT mpromT mlinksT mblocksT mvalsT ++ R) (WM ca ad lq mcode mday mown mquot mprom mfiles mowner mlinks mblocks mvals msnaps mranks mkept mshot mwas mholds mheld mends mopen mentr mkinds misop mfilesT mentrT mpromT mlinksT mblocksT mvalsT ++ R) s.heap.size) _ s 0 0 A = Qm
  have hP : va_P D vwCl (WM ca ad lq mcode mday mown mquot mprom mfiles mowner mlinks mblocks mvals msnaps mranks mkept mshot mwas mholds mheld mends mopen mentr mkinds misop mfilesT mentrT mpromT mlinksT mblocksT mvalsT ++ R) s.heap := hP
  generalize hae : ([.ref (ad 0)] : List Value).toArray = args at hts hQm ⊢
  have L6 : ∀ (n : Nat) (v1 : Int32) (v2 : Int32) (v3 : Int32) (mcode : Int32) (y1 : Int32) (y2 : Int32), f_M_meanUsers_L6 n v1 v2 v3 mblocks msnaps mkept mshot = some (y1, y2) → ∀ (H : Heap) (locs : List Loc) (ls : Array Slot), va_P D vwCl (WM ca ad lq mcode mday mown mquot mprom mfiles mowner mlinks mblocks mvals msnaps mranks mkept mshot mwas mholds mheld mends mopen mentr mkinds misop mfilesT mentrT mpromT mlinksT mblocksT mvalsT ++ R) H → va_D A (WM ca ad lq mcode mday mown mquot mprom mfiles mowner mlinks mblocks mvals msnaps mranks mkept mshot mwas mholds mheld mends mopen mentr mkinds misop mfilesT mentrT mpromT mlinksT mblocksT mvalsT ++ R) → va_S A s.heap H locs → lv_has ls 4 [(0, .ref (ad 0)), (1, .int v1), (2, .int v2), (3, .int v3)] → (∀ (H : Heap) (locs : List Loc) (ls : Array Slot), va_P D vwCl (WM ca ad lq mcode mday mown mquot mprom mfiles mowner mlinks mblocks mvals msnaps mranks mkept mshot mwas mholds mheld mends mopen mentr mkinds misop mfilesT mentrT mpromT mlinksT mblocksT mvalsT ++ R) H → va_D A (WM ca ad lq mcode mday mown mquot mprom mfiles mowner mlinks mblocks mvals msnaps mranks mkept mshot mwas mholds mheld mends mopen mentr mkinds misop mfilesT mentrT mpromT mlinksT mblocksT mvalsT ++ R) → va_S A s.heap H locs → lv_has ls 4 [(0, .ref (ad 0)), (1, .int y1), (2, .int y2)] → W p l e ({ frames := 1, cells := 0, slots := 0, locals := 24 } : Room) s m args below meth c H locs 0 0 Qm (F0 m 42 ls [])) → W p l e ({ frames := 1, cells := 0, slots := 0, locals := 24 } : Room) s m args below meth c H locs 0 0 Qm (F0 m 6 ls []) := by
    intro n
    induction n with
    | zero => intro v1 v2 v3 mcode y1 y2 hf; cases hf
    | succ n ih =>
      intro v1 v2 v3 mcode y1 y2 hf H locs ls hP hD hS hl kk
      unfold f_M_meanUsers_L6 at hf
      refine lv_iload_n hx hb dX4_meanUsers_6 rfl (lv_at hl 3 rfl) ?_
      refine lv_bipush (v := 64) hx hb dX4_meanUsers_7 (by decide) ?_
      refine lv_icmp_ge (tgt := 42) hx hb dX4_meanUsers_9 (by decide) (fun c7 => ?_) (fun c7 => ?_)
      · have hf := br_pos c7 hf
        cases hf
        exact kk _ _ _ hP hD hS (lv_sub hl [0, 1, 2] rfl)
      · have hf := br_neg c7 hf
        refine lv_iload_n hx hb dX4_meanUsers_12 rfl (lv_at hl 1 rfl) ?_
        refine lv_aload_n hx hb dX4_meanUsers_13 rfl (lv_at hl 0 rfl) ?_
        refine lv_iload_n hx hb dX4_meanUsers_14 rfl (lv_at hl 3 rfl) ?_
        obtain ⟨r8, h9, hf⟩ := bnd hf
        refine call_vi (rest := [.int v1]) (m_M_users l ca ad lq mcode mday mown mquot mprom mfiles mowner mlinks mblocks mvals msnaps mranks mkept mshot mwas mholds mheld mends mopen mentr mkinds misop mfilesT mentrT mpromT mlinksT mblocksT mvalsT R _ v3 r8 h9) ⟨hx, hb, hml, hown, hts⟩ (cwV 1 hts (gV q1487 q1489 q30 q50 q1490) rfl rfl rfl (by decide +kernel) ⟨Nat.le_of_ble_eq_true rfl, Nat.le_of_ble_eq_true rfl⟩) (va_recv hK hP (ci := 8) (q0 := 0) rfl rfl) hE hP hD hS hA rfl hl.1 rfl (lv_room (Nat.le_of_ble_eq_true rfl)) dX4_meanUsers_15 ⟨Nat.le_of_ble_eq_true rfl, Nat.le_of_ble_eq_true rfl⟩ (fun H locs hP hD hS => ?_)
        refine lv_iadd hx hb dX4_meanUsers_18 ?_
        refine lv_istore_n (lv' := [(1, .int (v1 + r8)), (0, .ref (ad 0)), (2, .int v2), (3, .int v3)]) hx hb dX4_meanUsers_19 rfl hl (by decide) rfl (fun ls hl => ?_)
        refine lv_iload_n hx hb dX4_meanUsers_20 rfl (lv_at hl 2 rfl) ?_
        refine lv_aload_n hx hb dX4_meanUsers_21 rfl (lv_at hl 1 rfl) ?_
        refine lv_iload_n hx hb dX4_meanUsers_22 rfl (lv_at hl 3 rfl) ?_
        obtain ⟨r10, h11, hf⟩ := bnd hf
        refine call_vi (rest := [.int v2]) (m_M_users l ca ad lq mcode mday mown mquot mprom mfiles mowner mlinks mblocks mvals msnaps mranks mkept mshot mwas mholds mheld mends mopen mentr mkinds misop mfilesT mentrT mpromT mlinksT mblocksT mvalsT R _ v3 r10 h11) ⟨hx, hb, hml, hown, hts⟩ (cwV 1 hts (gV q1487 q1489 q30 q50 q1490) rfl rfl rfl (by decide +kernel) ⟨Nat.le_of_ble_eq_true rfl, Nat.le_of_ble_eq_true rfl⟩) (va_recv hK hP (ci := 8) (q0 := 0) rfl rfl) hE hP hD hS hA rfl hl.1 rfl (lv_room (Nat.le_of_ble_eq_true rfl)) dX4_meanUsers_23 ⟨Nat.le_of_ble_eq_true rfl, Nat.le_of_ble_eq_true rfl⟩ (fun H locs hP hD hS => ?_)
        refine lv_if_le (tgt := 33) hx hb dX4_meanUsers_26 (by decide) (fun c12 => ?_) (fun c12 => ?_)
        · have hf := br_pos c12 hf
          refine lv_iconst (v := 0) hx hb dX4_meanUsers_33 (by decide) ?_
          refine lv_iadd hx hb dX4_meanUsers_34 ?_
          refine lv_istore_n (lv' := [(2, .int (v2 + 0)), (1, .int (v1 + r8)), (0, .ref (ad 0)), (3, .int v3)]) hx hb dX4_meanUsers_35 rfl hl (by decide) rfl (fun ls hl => ?_)
          refine lv_iinc (v := (v3 + 1)) (lv' := [(3, .int (v3 + 1)), (2, .int (v2 + 0)), (1, .int (v1 + r8)), (0, .ref (ad 0))]) hx hb dX4_meanUsers_36 hl (k := 3) rfl rfl (by decide) rfl (fun ls hl => ?_)
          refine lv_goto (tgt := 6) hx hb dX4_meanUsers_39 (by decide) ?_
          exact ih (v1 + r8) (v2 + 0) (v3 + 1) mcode _ _ hf _ _ _ hP hD hS (lv_sub hl [3, 2, 1, 0] rfl) kk
        · have hf := br_neg c12 hf
          refine lv_iconst (v := 1) hx hb dX4_meanUsers_29 (by decide) ?_
          refine lv_goto (tgt := 34) hx hb dX4_meanUsers_30 (by decide) ?_
          refine lv_iadd hx hb dX4_meanUsers_34 ?_
          refine lv_istore_n (lv' := [(2, .int (v2 + 1)), (1, .int (v1 + r8)), (0, .ref (ad 0)), (3, .int v3)]) hx hb dX4_meanUsers_35 rfl hl (by decide) rfl (fun ls hl => ?_)
          refine lv_iinc (v := (v3 + 1)) (lv' := [(3, .int (v3 + 1)), (2, .int (v2 + 1)), (1, .int (v1 + r8)), (0, .ref (ad 0))]) hx hb dX4_meanUsers_36 hl (k := 3) rfl rfl (by decide) rfl (fun ls hl => ?_)
          refine lv_goto (tgt := 6) hx hb dX4_meanUsers_39 (by decide) ?_
          exact ih (v1 + r8) (v2 + 1) (v3 + 1) mcode _ _ hf _ _ _ hP hD hS (lv_sub hl [3, 2, 1, 0] rfl) kk
  refine lv_iconst (v := 0) hx hb dX4_meanUsers_0 (by decide) ?_
  refine lv_istore_n (lv' := [(1, .int 0), (0, .ref (ad 0))]) hx hb dX4_meanUsers_1 rfl hl (by decide) rfl (fun ls hl => ?_)
  refine lv_iconst (v := 0) hx hb dX4_meanUsers_2 (by decide) ?_
  refine lv_istore_n (lv' := [(2, .int 0), (1, .int 0), (0, .ref (ad 0))]) hx hb dX4_meanUsers_3 rfl hl (by decide) rfl (fun ls hl => ?_)
  refine lv_iconst (v := 0) hx hb dX4_meanUsers_4 (by decide) ?_
  refine lv_istore_n (lv' := [(3, .int 0), (2, .int 0), (1, .int 0), (0, .ref (ad 0))]) hx hb dX4_meanUsers_5 rfl hl (by decide) rfl (fun ls hl => ?_)
  obtain ⟨⟨x14, x15⟩, h13, hf⟩ := bnd hf
  refine L6 FU 0 0 0 mcode x14 x15 h13 _ _ _ hP hD hS (lv_sub hl [3, 2, 1, 0] rfl) (fun H locs ls hP hD hS hl => ?_)
  refine lv_aload_n hx hb dX4_meanUsers_42 rfl (lv_at hl 0 rfl) ?_
  refine lv_iload_n hx hb dX4_meanUsers_43 rfl (lv_at hl 2 rfl) ?_
  refine lv_if_ne (tgt := 51) hx hb dX4_meanUsers_44 (by decide) (fun c16 => ?_) (fun c16 => ?_)
  · have hf := br_neg c16 hf
    refine lv_iconst (v := 0) hx hb dX4_meanUsers_51 (by decide) ?_
    refine va_put (D := D) (ci := 8) (v := .int 0) (ty := .int) (C := RX4) (T := TX4) (N := 29) hx hb hts inX4 tyX4 tyX4_ok nmX4 hown hK hP hD hS 0 rfl rfl 0 (by decide) (hts _ q1329) (fun _ h9 => h9) rfl (by decide +kernel) rfl rfl (Nat.le_of_ble_eq_true rfl) dX4_meanUsers_52 (fun H locs hP hD hS => ?_)
    have hP : va_P D vwCl (WM ca ad lq 0 mday mown mquot mprom mfiles mowner mlinks mblocks mvals msnaps mranks mkept mshot mwas mholds mheld mends mopen mentr mkinds misop mfilesT mentrT mpromT mlinksT mblocksT mvalsT ++ R) H := hP
    have hD : va_D A (WM ca ad lq 0 mday mown mquot mprom mfiles mowner mlinks mblocks mvals msnaps mranks mkept mshot mwas mholds mheld mends mopen mentr mkinds misop mfilesT mentrT mpromT mlinksT mblocksT mvalsT ++ R) := hD
    refine lv_aload_n hx hb dX4_meanUsers_55 rfl (lv_at hl 0 rfl) ?_
    refine va_get (D := D) (ci := 8) (v := .int 0) (C := RX4) (T := TX4) (N := 29) hx hb hts inX4 hown hK hP 0 rfl rfl 0 (by decide) (hts _ q1329) (fun _ h9 => h9) rfl dX4_meanUsers_56 ?_
    refine lv_if_le (tgt := 66) hx hb dX4_meanUsers_59 (by decide) (fun c17 => ?_) (fun c17 => ?_)
    rotate_left
    · exact absurd c17 (by decide)
    refine lv_iload_n hx hb dX4_meanUsers_66 rfl (lv_at hl 1 rfl) ?_
    refine lv_i2d hx hb dX4_meanUsers_67 ?_
    refine lv_iload_n hx hb dX4_meanUsers_68 rfl (lv_at hl 2 rfl) ?_
    refine lv_i2d hx hb dX4_meanUsers_69 ?_
    obtain ⟨k18, hf⟩ := ck_yes hf
    refine lv_ddiv hx hb dX4_meanUsers_70 k18 ?_
    cases hf
    exact end_d hAe hQm hx hb hr hlocks hP hD hS dX4_meanUsers_71
  · have hf := br_pos c16 hf
    refine lv_iconst (v := 1) hx hb dX4_meanUsers_47 (by decide) ?_
    refine lv_goto (tgt := 52) hx hb dX4_meanUsers_48 (by decide) ?_
    refine va_put (D := D) (ci := 8) (v := .int 1) (ty := .int) (C := RX4) (T := TX4) (N := 29) hx hb hts inX4 tyX4 tyX4_ok nmX4 hown hK hP hD hS 0 rfl rfl 0 (by decide) (hts _ q1329) (fun _ h9 => h9) rfl (by decide +kernel) rfl rfl (Nat.le_of_ble_eq_true rfl) dX4_meanUsers_52 (fun H locs hP hD hS => ?_)
    have hP : va_P D vwCl (WM ca ad lq 1 mday mown mquot mprom mfiles mowner mlinks mblocks mvals msnaps mranks mkept mshot mwas mholds mheld mends mopen mentr mkinds misop mfilesT mentrT mpromT mlinksT mblocksT mvalsT ++ R) H := hP
    have hD : va_D A (WM ca ad lq 1 mday mown mquot mprom mfiles mowner mlinks mblocks mvals msnaps mranks mkept mshot mwas mholds mheld mends mopen mentr mkinds misop mfilesT mentrT mpromT mlinksT mblocksT mvalsT ++ R) := hD
    refine lv_aload_n hx hb dX4_meanUsers_55 rfl (lv_at hl 0 rfl) ?_
    refine va_get (D := D) (ci := 8) (v := .int 1) (C := RX4) (T := TX4) (N := 29) hx hb hts inX4 hown hK hP 0 rfl rfl 0 (by decide) (hts _ q1329) (fun _ h9 => h9) rfl dX4_meanUsers_56 ?_
    refine lv_if_le (tgt := 66) hx hb dX4_meanUsers_59 (by decide) (fun c19 => ?_) (fun c19 => ?_)
    · exact absurd c19 (by decide)
    refine lv_dconst0 hx hb dX4_meanUsers_62 ?_
    refine lv_goto (tgt := 71) hx hb dX4_meanUsers_63 (by decide) ?_
    cases hf
    exact end_d hAe hQm hx hb hr hlocks hP hD hS dX4_meanUsers_71
def f_M_heldShare_L6 : Nat → Int32 → Int32 → Int32 → Int32 → (Nat → Int32) → Int32 → (Nat → Int32) → (Nat → Int32) → Option (Int32 × Int32)
  | 0, _, _, _, _, _, _, _, _ => none
  | fuel + 1, v1, v2, v3, mfiles, mlinks, mholds, mheld, mopen =>
    if mfiles ≤ v3 then
      some (v1, v2)
    else
      (f_M_exists v3 mlinks mholds mheld mopen).bind fun r12 =>
      if r12 = 0 then
        (f_M_held v3 mholds mheld mopen).bind fun r15 =>
        if r15 ≤ 0 then
          f_M_heldShare_L6 fuel (v1 + 0) (v2 + 0) (v3 + 1) mfiles mlinks mholds mheld mopen
        else
          f_M_heldShare_L6 fuel (v1 + 0) (v2 + 1) (v3 + 1) mfiles mlinks mholds mheld mopen
      else
        (f_M_held v3 mholds mheld mopen).bind fun r18 =>
        if r18 ≤ 0 then
          f_M_heldShare_L6 fuel (v1 + 1) (v2 + 0) (v3 + 1) mfiles mlinks mholds mheld mopen
        else
          f_M_heldShare_L6 fuel (v1 + 1) (v2 + 1) (v3 + 1) mfiles mlinks mholds mheld mopen
def f_M_heldShare (mfiles : Int32) (mlinks : Nat → Int32) (mholds : Int32) (mheld : Nat → Int32) (mopen : Nat → Int32) : Option (UInt32 × Int32) :=
  (f_M_heldShare_L6 FU 0 0 0 mfiles mlinks mholds mheld mopen).bind fun (x22, x23) =>
  if x22 = 0 then
    some (0, 1)
  else
    if ((FP.fdiv (FP.i2f x23) (FP.i2f x22)) &&& 0x7fffffff ≤ 0x7f800000) then some ((FP.fdiv (FP.i2f x23) (FP.i2f x22)), 0) else none
set_option maxHeartbeats 4000000 in
set_option maxRecDepth 100000 in
theorem m_M_heldShare (l : Launch) {D : va_G} {sl : List (String × Nat × String)} (ca : Nat → ClassId) (ad : Nat → Nat) (lq : Nat) (mcode : Int32) (mday : Int32) (mown : Int32) (mquot : Nat → Int32) (mprom : Nat → Int32) (mfiles : Int32) (mowner : Nat → Int32) (mlinks : Nat → Int32) (mblocks : Nat → Int32) (mvals : Nat → Int32) (msnaps : Int32) (mranks : Nat → Int32) (mkept : Nat → Int32) (mshot : Nat → Int32) (mwas : Nat → Int32) (mholds : Int32) (mheld : Nat → Int32) (mends : Nat → Int32) (mopen : Nat → Int32) (mentr : Int32) (mkinds : Nat → Int32) (misop : Int32) (mfilesT : Int32) (mentrT : Int32) (mpromT : Nat → Int32) (mlinksT : Nat → Int32) (mblocksT : Nat → Int32) (mvalsT : Nat → Int32) (R : va_W) (sz : Nat) (ro : UInt32) (omcode : Int32) (hf : f_M_heldShare mfiles mlinks mholds mheld mopen = some (ro, omcode)) : Met l yX4_heldShare (wm yX4_heldShare cX4_heldShare 4 (some .float)) ({ frames := 2, cells := 0, slots := 0, locals := 44 } : Room) (PRE [.ref (ad 0)] D ca sl (WM ca ad lq mcode mday mown mquot mprom mfiles mowner mlinks mblocks mvals msnaps mranks mkept mshot mwas mholds mheld mends mopen mentr mkinds misop mfilesT mentrT mpromT mlinksT mblocksT mvalsT ++ R) sz) (QF ro D (WM ca ad lq omcode mday mown mquot mprom mfiles mowner mlinks mblocks mvals msnaps mranks mkept mshot mwas mholds mheld mends mopen mentr mkinds misop mfilesT mentrT mpromT mlinksT mblocksT mvalsT ++ R) (WM ca ad lq mcode mday mown mquot mprom mfiles mowner mlinks mblocks mvals msnaps mranks mkept mshot mwas mholds mheld mends mopen mentr mkinds misop mfilesT mentrT mpromT mlinksT mblocksT mvalsT ++ R) sz) 0 0 (va_A (WM ca ad lq mcode mday mown mquot mprom mfiles mowner mlinks mblocks mvals msnaps mranks mkept mshot mwas mholds mheld mends mopen mentr mkinds misop mfilesT mentrT mpromT mlinksT mblocksT mvalsT ++ R) sz) := by
  refine Met.ofW (cc := cX4_heldShare) (maxL := 4) (ret := (some .float)) (by decide) rfl ?_
  intro p e s m args below meth c s₁ B hml hv
  obtain ⟨rfl, rfl, hP, hE, hD0⟩ := hv
  have hx := B.exec
  have hb := B.bytes
  have hr := B.returns
  have hts := wm_ww (atoms_spec (ws := wm yX4_heldShare cX4_heldShare 4 (some .float)) B.pre)
  have hown : s.vm.findClass RX4 = some m.cls := findClass_of_methodNamed B.named
  have hlocks := B.notSynchronized
  have hK := hE.1
  have hD := hD0.self (sz := s.heap.size)
  generalize hAe : va_A (WM ca ad lq mcode mday mown mquot mprom mfiles mowner mlinks mblocks mvals msnaps mranks mkept mshot mwas mholds mheld mends mopen mentr mkinds misop mfilesT mentrT mpromT mlinksT mblocksT mvalsT ++ R) s.heap.size = A at hD ⊢
  have hA : ∀ q : Nat, s.heap.size ≤ q → A q := fun q h => by rw [← hAe]; exact Or.inr h
  have hS : va_S A s.heap s.heap [] := va_S.rf
  have hl := lv_entry ([.ref (ad 0)]) (n := 4) (Nat.le_of_ble_eq_true rfl)
  rw [lg_entry_eq]
  generalize (lg_sl ([.ref (ad 0)]) ++ List.replicate (4 - (lg_sl ([.ref (ad 0)])).length) Slot.unset).toArray = ls at hl ⊢
  have hl : lv_has ls 4 [(0, .ref (ad 0))] := hl
  change W p l e ({ frames := 2, cells := 0, slots := 0, locals := 44 } : Room) s m _ below meth c s.heap [] 0 0 _ _
  generalize hQm : MQ below (QF ro D (WM ca ad lq omcode mday mown mquot mprom mfiles mowner mlinks mblocks mvals msnaps mranks mkept mshot mwas mholds mheld mends mopen mentr mkinds misop mfilesT mentrT mpromT mlinksT mblocksT mvalsT ++ R) (WM ca ad lq mcode mday mown mquot mprom mfiles mowner mlinks mblocks mvals msnaps mranks mkept mshot mwas mholds mheld mends mopen mentr mkinds misop mfilesT mentrT mpromT mlinksT mblocksT mvalsT ++ R) s.heap.size) _ s 0 0 A = Qm
  have hP : va_P D vwCl (WM ca ad lq mcode mday mown mquot mprom mfiles mowner mlinks mblocks mvals msnaps mranks mkept mshot mwas mholds mheld mends mopen mentr mkinds misop mfilesT mentrT mpromT mlinksT mblocksT mvalsT ++ R) s.heap := hP
  generalize hae : ([.ref (ad 0)] : List Value).toArray = args at hts hQm ⊢
  have L6 : ∀ (n : Nat) (v1 : Int32) (v2 : Int32) (v3 : Int32) (mcode : Int32) (y1 : Int32) (y2 : Int32), f_M_heldShare_L6 n v1 v2 v3 mfiles mlinks mholds mheld mopen = some (y1, y2) → ∀ (H : Heap) (locs : List Loc) (ls : Array Slot), va_P D vwCl (WM ca ad lq mcode mday mown mquot mprom mfiles mowner mlinks mblocks mvals msnaps mranks mkept mshot mwas mholds mheld mends mopen mentr mkinds misop mfilesT mentrT mpromT mlinksT mblocksT mvalsT ++ R) H → va_D A (WM ca ad lq mcode mday mown mquot mprom mfiles mowner mlinks mblocks mvals msnaps mranks mkept mshot mwas mholds mheld mends mopen mentr mkinds misop mfilesT mentrT mpromT mlinksT mblocksT mvalsT ++ R) → va_S A s.heap H locs → lv_has ls 4 [(0, .ref (ad 0)), (1, .int v1), (2, .int v2), (3, .int v3)] → (∀ (H : Heap) (locs : List Loc) (ls : Array Slot), va_P D vwCl (WM ca ad lq mcode mday mown mquot mprom mfiles mowner mlinks mblocks mvals msnaps mranks mkept mshot mwas mholds mheld mends mopen mentr mkinds misop mfilesT mentrT mpromT mlinksT mblocksT mvalsT ++ R) H → va_D A (WM ca ad lq mcode mday mown mquot mprom mfiles mowner mlinks mblocks mvals msnaps mranks mkept mshot mwas mholds mheld mends mopen mentr mkinds misop mfilesT mentrT mpromT mlinksT mblocksT mvalsT ++ R) → va_S A s.heap H locs → lv_has ls 4 [(0, .ref (ad 0)), (1, .int y1), (2, .int y2)] → W p l e ({ frames := 2, cells := 0, slots := 0, locals := 44 } : Room) s m args below meth c H locs 0 0 Qm (F0 m 52 ls [])) → W p l e ({ frames := 2, cells := 0, slots := 0, locals := 44 } : Room) s m args below meth c H locs 0 0 Qm (F0 m 6 ls []) := by
    intro n
    induction n with
    | zero => intro v1 v2 v3 mcode y1 y2 hf; cases hf
    | succ n ih =>
      intro v1 v2 v3 mcode y1 y2 hf H locs ls hP hD hS hl kk
      unfold f_M_heldShare_L6 at hf
      refine lv_iload_n hx hb dX4_heldShare_6 rfl (lv_at hl 3 rfl) ?_
      refine lv_aload_n hx hb dX4_heldShare_7 rfl (lv_at hl 0 rfl) ?_
      refine va_get (D := D) (ci := 8) (v := .int mfiles) (C := RX4) (T := TX4) (N := 29) hx hb hts inX4 hown hK hP 0 rfl rfl 5 (by decide) (hts _ q1334) (fun _ h9 => h9) rfl dX4_heldShare_8 ?_
      refine lv_icmp_ge (tgt := 52) hx hb dX4_heldShare_11 (by decide) (fun c11 => ?_) (fun c11 => ?_)
      · have hf := br_pos c11 hf
        cases hf
        exact kk _ _ _ hP hD hS (lv_sub hl [0, 1, 2] rfl)
      · have hf := br_neg c11 hf
        refine lv_iload_n hx hb dX4_heldShare_14 rfl (lv_at hl 1 rfl) ?_
        refine lv_aload_n hx hb dX4_heldShare_15 rfl (lv_at hl 0 rfl) ?_
        refine lv_iload_n hx hb dX4_heldShare_16 rfl (lv_at hl 3 rfl) ?_
        obtain ⟨r12, h13, hf⟩ := bnd hf
        refine call_vi (rest := [.int v1]) (m_M_exists l ca ad lq mcode mday mown mquot mprom mfiles mowner mlinks mblocks mvals msnaps mranks mkept mshot mwas mholds mheld mends mopen mentr mkinds misop mfilesT mentrT mpromT mlinksT mblocksT mvalsT R _ v3 r12 h13) ⟨hx, hb, hml, hown, hts⟩ (cwV 1 hts (gV q1456 q1458 q27 q50 q1459) rfl rfl rfl (by decide +kernel) ⟨Nat.le_of_ble_eq_true rfl, Nat.le_of_ble_eq_true rfl⟩) (va_recv hK hP (ci := 8) (q0 := 0) rfl rfl) hE hP hD hS hA rfl hl.1 rfl (lv_room (Nat.le_of_ble_eq_true rfl)) dX4_heldShare_17 ⟨Nat.le_of_ble_eq_true rfl, Nat.le_of_ble_eq_true rfl⟩ (fun H locs hP hD hS => ?_)
        refine lv_if_eq (tgt := 27) hx hb dX4_heldShare_20 (by decide) (fun c14 => ?_) (fun c14 => ?_)
        · have hf := br_pos c14 hf
          refine lv_iconst (v := 0) hx hb dX4_heldShare_27 (by decide) ?_
          refine lv_iadd hx hb dX4_heldShare_28 ?_
          refine lv_istore_n (lv' := [(1, .int (v1 + 0)), (0, .ref (ad 0)), (2, .int v2), (3, .int v3)]) hx hb dX4_heldShare_29 rfl hl (by decide) rfl (fun ls hl => ?_)
          refine lv_iload_n hx hb dX4_heldShare_30 rfl (lv_at hl 2 rfl) ?_
          refine lv_aload_n hx hb dX4_heldShare_31 rfl (lv_at hl 1 rfl) ?_
          refine lv_iload_n hx hb dX4_heldShare_32 rfl (lv_at hl 3 rfl) ?_
          obtain ⟨r15, h16, hf⟩ := bnd hf
          refine call_vi (rest := [.int v2]) (m_M_held l ca ad lq mcode mday mown mquot mprom mfiles mowner mlinks mblocks mvals msnaps mranks mkept mshot mwas mholds mheld mends mopen mentr mkinds misop mfilesT mentrT mpromT mlinksT mblocksT mvalsT R _ v3 r15 h16) ⟨hx, hb, hml, hown, hts⟩ (cwV 1 hts (gV q1460 q1462 q28 q50 q1463) rfl rfl rfl (by decide +kernel) ⟨Nat.le_of_ble_eq_true rfl, Nat.le_of_ble_eq_true rfl⟩) (va_recv hK hP (ci := 8) (q0 := 0) rfl rfl) hE hP hD hS hA rfl hl.1 rfl (lv_room (Nat.le_of_ble_eq_true rfl)) dX4_heldShare_33 ⟨Nat.le_of_ble_eq_true rfl, Nat.le_of_ble_eq_true rfl⟩ (fun H locs hP hD hS => ?_)
          refine lv_if_le (tgt := 43) hx hb dX4_heldShare_36 (by decide) (fun c17 => ?_) (fun c17 => ?_)
          · have hf := br_pos c17 hf
            refine lv_iconst (v := 0) hx hb dX4_heldShare_43 (by decide) ?_
            refine lv_iadd hx hb dX4_heldShare_44 ?_
            refine lv_istore_n (lv' := [(2, .int (v2 + 0)), (1, .int (v1 + 0)), (0, .ref (ad 0)), (3, .int v3)]) hx hb dX4_heldShare_45 rfl hl (by decide) rfl (fun ls hl => ?_)
            refine lv_iinc (v := (v3 + 1)) (lv' := [(3, .int (v3 + 1)), (2, .int (v2 + 0)), (1, .int (v1 + 0)), (0, .ref (ad 0))]) hx hb dX4_heldShare_46 hl (k := 3) rfl rfl (by decide) rfl (fun ls hl => ?_)
            refine lv_goto (tgt := 6) hx hb dX4_heldShare_49 (by decide) ?_
            exact ih (v1 + 0) (v2 + 0) (v3 + 1) mcode _ _ hf _ _ _ hP hD hS (lv_sub hl [3, 2, 1, 0] rfl) kk
          · have hf := br_neg c17 hf
            refine lv_iconst (v := 1) hx hb dX4_heldShare_39 (by decide) ?_
            refine lv_goto (tgt := 44) hx hb dX4_heldShare_40 (by decide) ?_
            refine lv_iadd hx hb dX4_heldShare_44 ?_
            refine lv_istore_n (lv' := [(2, .int (v2 + 1)), (1, .int (v1 + 0)), (0, .ref (ad 0)), (3, .int v3)]) hx hb dX4_heldShare_45 rfl hl (by decide) rfl (fun ls hl => ?_)
            refine lv_iinc (v := (v3 + 1)) (lv' := [(3, .int (v3 + 1)), (2, .int (v2 + 1)), (1, .int (v1 + 0)), (0, .ref (ad 0))]) hx hb dX4_heldShare_46 hl (k := 3) rfl rfl (by decide) rfl (fun ls hl => ?_)
            refine lv_goto (tgt := 6) hx hb dX4_heldShare_49 (by decide) ?_
            exact ih (v1 + 0) (v2 + 1) (v3 + 1) mcode _ _ hf _ _ _ hP hD hS (lv_sub hl [3, 2, 1, 0] rfl) kk
        · have hf := br_neg c14 hf
          refine lv_iconst (v := 1) hx hb dX4_heldShare_23 (by decide) ?_
          refine lv_goto (tgt := 28) hx hb dX4_heldShare_24 (by decide) ?_
          refine lv_iadd hx hb dX4_heldShare_28 ?_
          refine lv_istore_n (lv' := [(1, .int (v1 + 1)), (0, .ref (ad 0)), (2, .int v2), (3, .int v3)]) hx hb dX4_heldShare_29 rfl hl (by decide) rfl (fun ls hl => ?_)
          refine lv_iload_n hx hb dX4_heldShare_30 rfl (lv_at hl 2 rfl) ?_
          refine lv_aload_n hx hb dX4_heldShare_31 rfl (lv_at hl 1 rfl) ?_
          refine lv_iload_n hx hb dX4_heldShare_32 rfl (lv_at hl 3 rfl) ?_
          obtain ⟨r18, h19, hf⟩ := bnd hf
          refine call_vi (rest := [.int v2]) (m_M_held l ca ad lq mcode mday mown mquot mprom mfiles mowner mlinks mblocks mvals msnaps mranks mkept mshot mwas mholds mheld mends mopen mentr mkinds misop mfilesT mentrT mpromT mlinksT mblocksT mvalsT R _ v3 r18 h19) ⟨hx, hb, hml, hown, hts⟩ (cwV 1 hts (gV q1460 q1462 q28 q50 q1463) rfl rfl rfl (by decide +kernel) ⟨Nat.le_of_ble_eq_true rfl, Nat.le_of_ble_eq_true rfl⟩) (va_recv hK hP (ci := 8) (q0 := 0) rfl rfl) hE hP hD hS hA rfl hl.1 rfl (lv_room (Nat.le_of_ble_eq_true rfl)) dX4_heldShare_33 ⟨Nat.le_of_ble_eq_true rfl, Nat.le_of_ble_eq_true rfl⟩ (fun H locs hP hD hS => ?_)
          refine lv_if_le (tgt := 43) hx hb dX4_heldShare_36 (by decide) (fun c20 => ?_) (fun c20 => ?_)
          · have hf := br_pos c20 hf
            refine lv_iconst (v := 0) hx hb dX4_heldShare_43 (by decide) ?_
            refine lv_iadd hx hb dX4_heldShare_44 ?_
            refine lv_istore_n (lv' := [(2, .int (v2 + 0)), (1, .int (v1 + 1)), (0, .ref (ad 0)), (3, .int v3)]) hx hb dX4_heldShare_45 rfl hl (by decide) rfl (fun ls hl => ?_)
            refine lv_iinc (v := (v3 + 1)) (lv' := [(3, .int (v3 + 1)), (2, .int (v2 + 0)), (1, .int (v1 + 1)), (0, .ref (ad 0))]) hx hb dX4_heldShare_46 hl (k := 3) rfl rfl (by decide) rfl (fun ls hl => ?_)
            refine lv_goto (tgt := 6) hx hb dX4_heldShare_49 (by decide) ?_
            exact ih (v1 + 1) (v2 + 0) (v3 + 1) mcode _ _ hf _ _ _ hP hD hS (lv_sub hl [3, 2, 1, 0] rfl) kk
          · have hf := br_neg c20 hf
            refine lv_iconst (v := 1) hx hb dX4_heldShare_39 (by decide) ?_
            refine lv_goto (tgt := 44) hx hb dX4_heldShare_40 (by decide) ?_
            refine lv_iadd hx hb dX4_heldShare_44 ?_
            refine lv_istore_n (lv' := [(2, .int (v2 + 1)), (1, .int (v1 + 1)), (0, .ref (ad 0)), (3, .int v3)]) hx hb dX4_heldShare_45 rfl hl (by decide) rfl (fun ls hl => ?_)
            refine lv_iinc (v := (v3 + 1)) (lv' := [(3, .int (v3 + 1)), (2, .int (v2 + 1)), (1, .int (v1 + 1)), (0, .ref (ad 0))]) hx hb dX4_heldShare_46 hl (k := 3) rfl rfl (by decide) rfl (fun ls hl => ?_)
            refine lv_goto (tgt := 6) hx hb dX4_heldShare_49 (by decide) ?_
            exact ih (v1 + 1) (v2 + 1) (v3 + 1) mcode _ _ hf _ _ _ hP hD hS (lv_sub hl [3, 2, 1, 0] rfl) kk
  refine lv_iconst (v := 0) hx hb dX4_heldShare_0 (by decide) ?_
  refine lv_istore_n (lv' := [(1, .int 0), (0, .ref (ad 0))]) hx hb dX4_heldShare_1 rfl hl (by decide) rfl (fun ls hl => ?_)
  refine lv_iconst (v := 0) hx hb dX4_heldShare_2 (by decide) ?_
  refine lv_istore_n (lv' := [(2, .int 0), (1, .int 0), (0, .ref (ad 0))]) hx hb dX4_heldShare_3 rfl hl (by decide) rfl (fun ls hl => ?_)
  refine lv_iconst (v := 0) hx hb dX4_heldShare_4 (by decide) ?_
  refine lv_istore_n (lv' := [(3, .int 0), (2, .int 0), (1, .int 0), (0, .ref (ad 0))]) hx hb dX4_heldShare_5 rfl hl (by decide) rfl (fun ls hl => ?_)
  obtain ⟨⟨x22, x23⟩, h21, hf⟩ := bnd hf
  refine L6 FU 0 0 0 mcode x22 x23 h21 _ _ _ hP hD hS (lv_sub hl [3, 2, 1, 0] rfl) (fun H locs ls hP hD hS hl => ?_)
  refine lv_aload_n hx hb dX4_heldShare_52 rfl (lv_at hl 0 rfl) ?_
  refine lv_iload_n hx hb dX4_heldShare_53 rfl (lv_at hl 1 rfl) ?_
  refine lv_if_ne (tgt := 61) hx hb dX4_heldShare_54 (by decide) (fun c24 => ?_) (fun c24 => ?_)
  · have hf := br_neg c24 hf
    refine lv_iconst (v := 0) hx hb dX4_heldShare_61 (by decide) ?_
    refine va_put (D := D) (ci := 8) (v := .int 0) (ty := .int) (C := RX4) (T := TX4) (N := 29) hx hb hts inX4 tyX4 tyX4_ok nmX4 hown hK hP hD hS 0 rfl rfl 0 (by decide) (hts _ q1329) (fun _ h9 => h9) rfl (by decide +kernel) rfl rfl (Nat.le_of_ble_eq_true rfl) dX4_heldShare_62 (fun H locs hP hD hS => ?_)
    have hP : va_P D vwCl (WM ca ad lq 0 mday mown mquot mprom mfiles mowner mlinks mblocks mvals msnaps mranks mkept mshot mwas mholds mheld mends mopen mentr mkinds misop mfilesT mentrT mpromT mlinksT mblocksT mvalsT ++ R) H := hP
    have hD : va_D A (WM ca ad lq 0 mday mown mquot mprom mfiles mowner mlinks mblocks mvals msnaps mranks mkept mshot mwas mholds mheld mends mopen mentr mkinds misop mfilesT mentrT mpromT mlinksT mblocksT mvalsT ++ R) := hD
    refine lv_aload_n hx hb dX4_heldShare_65 rfl (lv_at hl 0 rfl) ?_
    refine va_get (D := D) (ci := 8) (v := .int 0) (C := RX4) (T := TX4) (N := 29) hx hb hts inX4 hown hK hP 0 rfl rfl 0 (by decide) (hts _ q1329) (fun _ h9 => h9) rfl dX4_heldShare_66 ?_
    refine lv_if_le (tgt := 76) hx hb dX4_heldShare_69 (by decide) (fun c25 => ?_) (fun c25 => ?_)
    rotate_left
    · exact absurd c25 (by decide)
    refine lv_iload_n hx hb dX4_heldShare_76 rfl (lv_at hl 2 rfl) ?_
    refine lv_i2f hx hb dX4_heldShare_77 ?_
    refine lv_iload_n hx hb dX4_heldShare_78 rfl (lv_at hl 1 rfl) ?_
    refine lv_i2f hx hb dX4_heldShare_79 ?_
    obtain ⟨k26, hf⟩ := ck_yes hf
    refine lv_fdiv hx hb dX4_heldShare_80 k26 ?_
    cases hf
    exact end_f hAe hQm hx hb hr hlocks hP hD hS dX4_heldShare_81
  · have hf := br_pos c24 hf
    refine lv_iconst (v := 1) hx hb dX4_heldShare_57 (by decide) ?_
    refine lv_goto (tgt := 62) hx hb dX4_heldShare_58 (by decide) ?_
    refine va_put (D := D) (ci := 8) (v := .int 1) (ty := .int) (C := RX4) (T := TX4) (N := 29) hx hb hts inX4 tyX4 tyX4_ok nmX4 hown hK hP hD hS 0 rfl rfl 0 (by decide) (hts _ q1329) (fun _ h9 => h9) rfl (by decide +kernel) rfl rfl (Nat.le_of_ble_eq_true rfl) dX4_heldShare_62 (fun H locs hP hD hS => ?_)
    have hP : va_P D vwCl (WM ca ad lq 1 mday mown mquot mprom mfiles mowner mlinks mblocks mvals msnaps mranks mkept mshot mwas mholds mheld mends mopen mentr mkinds misop mfilesT mentrT mpromT mlinksT mblocksT mvalsT ++ R) H := hP
    have hD : va_D A (WM ca ad lq 1 mday mown mquot mprom mfiles mowner mlinks mblocks mvals msnaps mranks mkept mshot mwas mholds mheld mends mopen mentr mkinds misop mfilesT mentrT mpromT mlinksT mblocksT mvalsT ++ R) := hD
    refine lv_aload_n hx hb dX4_heldShare_65 rfl (lv_at hl 0 rfl) ?_
    refine va_get (D := D) (ci := 8) (v := .int 1) (C := RX4) (T := TX4) (N := 29) hx hb hts inX4 hown hK hP 0 rfl rfl 0 (by decide) (hts _ q1329) (fun _ h9 => h9) rfl dX4_heldShare_66 ?_
    refine lv_if_le (tgt := 76) hx hb dX4_heldShare_69 (by decide) (fun c27 => ?_) (fun c27 => ?_)
    · exact absurd c27 (by decide)
    refine lv_fconst0 hx hb dX4_heldShare_72 ?_
    refine lv_goto (tgt := 81) hx hb dX4_heldShare_73 (by decide) ?_
    cases hf
    exact end_f hAe hQm hx hb hr hlocks hP hD hS dX4_heldShare_81
def f_M_isConsistent (mprom : Nat → Int32) (mblocks : Nat → Int32) (msnaps : Int32) (mkept : Nat → Int32) (mshot : Nat → Int32) : Option (Int32 × Int32) :=
  (f_M_promisedNow mprom).bind fun r1 =>
  (f_M_freeNow mblocks msnaps mkept mshot).bind fun r3 =>
  if r3 < r1 then
    some (0, 0)
  else
    some (1, 0)
set_option maxHeartbeats 4000000 in
set_option maxRecDepth 100000 in
theorem m_M_isConsistent (l : Launch) {D : va_G} {sl : List (String × Nat × String)} (ca : Nat → ClassId) (ad : Nat → Nat) (lq : Nat) (mcode : Int32) (mday : Int32) (mown : Int32) (mquot : Nat → Int32) (mprom : Nat → Int32) (mfiles : Int32) (mowner : Nat → Int32) (mlinks : Nat → Int32) (mblocks : Nat → Int32) (mvals : Nat → Int32) (msnaps : Int32) (mranks : Nat → Int32) (mkept : Nat → Int32) (mshot : Nat → Int32) (mwas : Nat → Int32) (mholds : Int32) (mheld : Nat → Int32) (mends : Nat → Int32) (mopen : Nat → Int32) (mentr : Int32) (mkinds : Nat → Int32) (misop : Int32) (mfilesT : Int32) (mentrT : Int32) (mpromT : Nat → Int32) (mlinksT : Nat → Int32) (mblocksT : Nat → Int32) (mvalsT : Nat → Int32) (R : va_W) (sz : Nat) (ro : Int32) (omcode : Int32) (hf : f_M_isConsistent mprom mblocks msnaps mkept mshot = some (ro, omcode)) : Met l yX4_isConsistent (wm yX4_isConsistent cX4_isConsistent 1 (some .boolean)) ({ frames := 2, cells := 0, slots := 0, locals := 46 } : Room) (PRE [.ref (ad 0)] D ca sl (WM ca ad lq mcode mday mown mquot mprom mfiles mowner mlinks mblocks mvals msnaps mranks mkept mshot mwas mholds mheld mends mopen mentr mkinds misop mfilesT mentrT mpromT mlinksT mblocksT mvalsT ++ R) sz) (QI ro D (WM ca ad lq omcode mday mown mquot mprom mfiles mowner mlinks mblocks mvals msnaps mranks mkept mshot mwas mholds mheld mends mopen mentr mkinds misop mfilesT mentrT mpromT mlinksT mblocksT mvalsT ++ R) (WM ca ad lq mcode mday mown mquot mprom mfiles mowner mlinks mblocks mvals msnaps mranks mkept mshot mwas mholds mheld mends mopen mentr mkinds misop mfilesT mentrT mpromT mlinksT mblocksT mvalsT ++ R) sz) 0 0 (va_A (WM ca ad lq mcode mday mown mquot mprom mfiles mowner mlinks mblocks mvals msnaps mranks mkept mshot mwas mholds mheld mends mopen mentr mkinds misop mfilesT mentrT mpromT mlinksT mblocksT mvalsT ++ R) sz) := by
  refine Met.ofW (cc := cX4_isConsistent) (maxL := 1) (ret := (some .boolean)) (by decide) rfl ?_
  intro p e s m args below meth c s₁ B hml hv
  obtain ⟨rfl, rfl, hP, hE, hD0⟩ := hv
  have hx := B.exec
  have hb := B.bytes
  have hr := B.returns
  have hts := wm_ww (atoms_spec (ws := wm yX4_isConsistent cX4_isConsistent 1 (some .boolean)) B.pre)
  have hown : s.vm.findClass RX4 = some m.cls := findClass_of_methodNamed B.named
  have hlocks := B.notSynchronized
  have hK := hE.1
  have hD := hD0.self (sz := s.heap.size)
  generalize hAe : va_A (WM ca ad lq mcode mday mown mquot mprom mfiles mowner mlinks mblocks mvals msnaps mranks mkept mshot mwas mholds mheld mends mopen mentr mkinds misop mfilesT mentrT mpromT mlinksT mblocksT mvalsT ++ R) s.heap.size = A at hD ⊢
  have hA : ∀ q : Nat, s.heap.size ≤ q → A q := fun q h => by rw [← hAe]; exact Or.inr h
  have hS : va_S A s.heap s.heap [] := va_S.rf
  have hl := lv_entry ([.ref (ad 0)]) (n := 1) (Nat.le_of_ble_eq_true rfl)
  rw [lg_entry_eq]
  generalize (lg_sl ([.ref (ad 0)]) ++ List.replicate (1 - (lg_sl ([.ref (ad 0)])).length) Slot.unset).toArray = ls at hl ⊢
  have hl : lv_has ls 1 [(0, .ref (ad 0))] := hl
  change W p l e ({ frames := 2, cells := 0, slots := 0, locals := 46 } : Room) s m _ below meth c s.heap [] 0 0 _ _
  generalize hQm : MQ below (QI ro D (WM ca ad lq omcode mday mown mquot mprom mfiles mowner mlinks mblocks mvals msnaps mranks mkept mshot mwas mholds mheld mends mopen mentr mkinds misop mfilesT mentrT mpromT mlinksT mblocksT mvalsT ++ R) (WM ca ad lq mcode mday mown mquot mprom mfiles mowner mlinks mblocks mvals msnaps mranks mkept mshot mwas mholds mheld mends mopen mentr mkinds misop mfilesT mentrT mpromT mlinksT mblocksT mvalsT ++ R) s.heap.size) _ s 0 0 A = Qm
  have hP : va_P D vwCl (WM ca ad lq mcode mday mown mquot mprom mfiles mowner mlinks mblocks mvals msnaps mranks mkept mshot mwas mholds mheld mends mopen mentr mkinds misop mfilesT mentrT mpromT mlinksT mblocksT mvalsT ++ R) s.heap := hP
  generalize hae : ([.ref (ad 0)] : List Value).toArray = args at hts hQm ⊢
  refine lv_aload_n hx hb dX4_isConsistent_0 rfl (lv_at hl 0 rfl) ?_
  refine lv_iconst (v := 0) hx hb dX4_isConsistent_1 (by decide) ?_
  refine va_put (D := D) (ci := 8) (v := .int 0) (ty := .int) (C := RX4) (T := TX4) (N := 29) hx hb hts inX4 tyX4 tyX4_ok nmX4 hown hK hP hD hS 0 rfl rfl 0 (by decide) (hts _ q1329) (fun _ h9 => h9) rfl (by decide +kernel) rfl rfl (Nat.le_of_ble_eq_true rfl) dX4_isConsistent_2 (fun H locs hP hD hS => ?_)
  have hP : va_P D vwCl (WM ca ad lq 0 mday mown mquot mprom mfiles mowner mlinks mblocks mvals msnaps mranks mkept mshot mwas mholds mheld mends mopen mentr mkinds misop mfilesT mentrT mpromT mlinksT mblocksT mvalsT ++ R) H := hP
  have hD : va_D A (WM ca ad lq 0 mday mown mquot mprom mfiles mowner mlinks mblocks mvals msnaps mranks mkept mshot mwas mholds mheld mends mopen mentr mkinds misop mfilesT mentrT mpromT mlinksT mblocksT mvalsT ++ R) := hD
  refine lv_aload_n hx hb dX4_isConsistent_5 rfl (lv_at hl 0 rfl) ?_
  obtain ⟨r1, h2, hf⟩ := bnd hf
  refine call_vi (rest := []) (m_M_promisedNow l ca ad lq 0 mday mown mquot mprom mfiles mowner mlinks mblocks mvals msnaps mranks mkept mshot mwas mholds mheld mends mopen mentr mkinds misop mfilesT mentrT mpromT mlinksT mblocksT mvalsT R _ r1 h2) ⟨hx, hb, hml, hown, hts⟩ (cwV 0 hts (gV q1495 q1497 q32 q50 q1498) rfl rfl rfl (by decide +kernel) ⟨Nat.le_of_ble_eq_true rfl, Nat.le_of_ble_eq_true rfl⟩) (va_recv hK hP (ci := 8) (q0 := 0) rfl rfl) hE hP hD hS hA rfl hl.1 rfl (lv_room (Nat.le_of_ble_eq_true rfl)) dX4_isConsistent_6 ⟨Nat.le_of_ble_eq_true rfl, Nat.le_of_ble_eq_true rfl⟩ (fun H locs hP hD hS => ?_)
  refine lv_aload_n hx hb dX4_isConsistent_9 rfl (lv_at hl 0 rfl) ?_
  obtain ⟨r3, h4, hf⟩ := bnd hf
  refine call_vi (rest := [.int r1]) (m_M_freeNow l ca ad lq 0 mday mown mquot mprom mfiles mowner mlinks mblocks mvals msnaps mranks mkept mshot mwas mholds mheld mends mopen mentr mkinds misop mfilesT mentrT mpromT mlinksT mblocksT mvalsT R _ r3 h4) ⟨hx, hb, hml, hown, hts⟩ (cwV 0 hts (gV q1491 q1493 q31 q50 q1494) rfl rfl rfl (by decide +kernel) ⟨Nat.le_of_ble_eq_true rfl, Nat.le_of_ble_eq_true rfl⟩) (va_recv hK hP (ci := 8) (q0 := 0) rfl rfl) hE hP hD hS hA rfl hl.1 rfl (lv_room (Nat.le_of_ble_eq_true rfl)) dX4_isConsistent_10 ⟨Nat.le_of_ble_eq_true rfl, Nat.le_of_ble_eq_true rfl⟩ (fun H locs hP hD hS => ?_)
  refine lv_icmp_gt (tgt := 20) hx hb dX4_isConsistent_13 (by decide) (fun c5 => ?_) (fun c5 => ?_)
  · have hf := br_pos c5 hf
    refine lv_iconst (v := 0) hx hb dX4_isConsistent_20 (by decide) ?_
    cases hf
    exact end_i hAe hQm hx hb hr hlocks rfl hP hD hS dX4_isConsistent_21
  · have hf := br_neg c5 hf
    refine lv_iconst (v := 1) hx hb dX4_isConsistent_16 (by decide) ?_
    refine lv_goto (tgt := 21) hx hb dX4_isConsistent_17 (by decide) ?_
    cases hf
    exact end_i hAe hQm hx hb hr hlocks rfl hP hD hS dX4_isConsistent_21
