/-! STRINGS, READ -/
abbrev WS (ca : Nat → ClassId) (hq : Nat) (vq : Nat) (sZ : Nat) (sB : Nat → Int32) : va_W :=
  [(hq, .inr (0, [.ref vq, .int 0, .int 0, .int 0])),
   (vq, .inl (ca 3, sZ, .inl sB))]
def f_B_J0_coder_7d493  : Option (Int32) :=
  some 0
set_option maxHeartbeats 4000000 in
set_option maxRecDepth 100000 in
theorem m_B_J0_coder_7d493 (l : Launch) {D : va_G} {sl : List (String × Nat × String)} (ca : Nat → ClassId) (hq : Nat) (vq : Nat) (sZ : Nat) (sB : Nat → Int32) (R : va_W) (sz : Nat) (ro : Int32) (hf : f_B_J0_coder_7d493 = some ro) : Met l yJ0_coder_7d493 (wm yJ0_coder_7d493 cJ0_coder_7d493 1 (some .byte)) ({ frames := 0, cells := 0, slots := 0, locals := 0 } : Room) (PREX [.ref hq] D ca sl (WS ca hq vq sZ sB ++ R) sz) (QI ro D (WS ca hq vq sZ sB ++ R) (WS ca hq vq sZ sB ++ R) sz) 0 0 (va_A (WS ca hq vq sZ sB ++ R) sz) := by
  refine Met.ofW (cc := cJ0_coder_7d493) (maxL := 1) (ret := (some .byte)) (by decide) rfl ?_
  intro p e s m args below meth c s₁ B hml hv
  obtain ⟨rfl, rfl, hP, hE, hD0, hZ⟩ := hv
  have hx := B.exec
  have hb := B.bytes
  have hr := B.returns
  have hts := wm_ww (atoms_spec (ws := wm yJ0_coder_7d493 cJ0_coder_7d493 1 (some .byte)) B.pre)
  have hown : s.vm.findClass RJ0 = some m.cls := findClass_of_methodNamed B.named
  have hlocks := B.notSynchronized
  have hK := hE.1
  have hD := hD0.self (sz := s.heap.size)
  generalize hAe : va_A (WS ca hq vq sZ sB ++ R) s.heap.size = A at hD hZ ⊢
  have hA : ∀ q : Nat, s.heap.size ≤ q → A q := fun q h => by rw [← hAe]; exact Or.inr h
  have hS : va_S A s.heap s.heap [] := va_S.rf
  have hl := lv_entry ([.ref hq]) (n := 1) (Nat.le_of_ble_eq_true rfl)
  rw [lg_entry_eq]
  generalize (lg_sl ([.ref hq]) ++ List.replicate (1 - (lg_sl ([.ref hq])).length) Slot.unset).toArray = ls at hl ⊢
  have hl : lv_has ls 1 [(0, .ref hq)] := hl
  change W p l e ({ frames := 0, cells := 0, slots := 0, locals := 0 } : Room) s m _ below meth c s.heap [] 0 0 _ _
  generalize hQm : MQ below (QI ro D (WS ca hq vq sZ sB ++ R) (WS ca hq vq sZ sB ++ R) s.heap.size) _ s 0 0 A = Qm
  have hP : va_P D vwCl (WS ca hq vq sZ sB ++ R) s.heap := hP
  generalize hae : ([.ref hq] : List Value).toArray = args at hts hQm ⊢
  refine va_gets (v := .int 1) hx hb hZ.2.2.1 hS hown (hts _ q1123) (fun _ h9 => h9) dJ0_coder_7d493_0 ?_
  refine lv_if_eq (tgt := 13) hx hb dJ0_coder_7d493_3 (by decide) (fun c1 => ?_) (fun c1 => ?_)
  · exact absurd c1 (by decide)
  refine lv_aload_n hx hb dJ0_coder_7d493_6 rfl (lv_at hl 0 rfl) ?_
  refine va_get (D := D) (ci := 0) (v := .int 0) (C := RJ0) (T := TJ0) (N := 4) hx hb hts inJ0 hown hK hP 0 rfl rfl 1 (by decide) (hts _ q1240) (fun _ h9 => h9) rfl dJ0_coder_7d493_7 ?_
  refine lv_goto (tgt := 14) hx hb dJ0_coder_7d493_10 (by decide) ?_
  cases hf
  exact end_i hAe hQm hx hb hr hlocks rfl hP hD hS dJ0_coder_7d493_14
def f_B_J0_length_8abf5 (sZ : Nat) : Option (Int32) :=
  (f_B_J0_coder_7d493).bind fun r1 =>
  some ((nI sZ) >>> (r1 &&& 31))
set_option maxHeartbeats 4000000 in
set_option maxRecDepth 100000 in
theorem m_B_J0_length_8abf5 (l : Launch) {D : va_G} {sl : List (String × Nat × String)} (ca : Nat → ClassId) (hq : Nat) (vq : Nat) (sZ : Nat) (sB : Nat → Int32) (R : va_W) (sz : Nat) (ro : Int32) (hf : f_B_J0_length_8abf5 sZ = some ro) : Met l yJ0_length_8abf5 (wm yJ0_length_8abf5 cJ0_length_8abf5 1 (some .int)) ({ frames := 1, cells := 0, slots := 0, locals := 20 } : Room) (PREX [.ref hq] D ca sl (WS ca hq vq sZ sB ++ R) sz) (QI ro D (WS ca hq vq sZ sB ++ R) (WS ca hq vq sZ sB ++ R) sz) 0 0 (va_A (WS ca hq vq sZ sB ++ R) sz) := by
  refine Met.ofW (cc := cJ0_length_8abf5) (maxL := 1) (ret := (some .int)) (by decide) rfl ?_
  intro p e s m args below meth c s₁ B hml hv
  obtain ⟨rfl, rfl, hP, hE, hD0, hZ⟩ := hv
  have hx := B.exec
  have hb := B.bytes
  have hr := B.returns
  have hts := wm_ww (atoms_spec (ws := wm yJ0_length_8abf5 cJ0_length_8abf5 1 (some .int)) B.pre)
  have hown : s.vm.findClass RJ0 = some m.cls := findClass_of_methodNamed B.named
  have hlocks := B.notSynchronized
  have hK := hE.1
  have hD := hD0.self (sz := s.heap.size)
  generalize hAe : va_A (WS ca hq vq sZ sB ++ R) s.heap.size = A at hD hZ ⊢
  have hA : ∀ q : Nat, s.heap.size ≤ q → A q := fun q h => by rw [← hAe]; exact Or.inr h
  have hS : va_S A s.heap s.heap [] := va_S.rf
  have hl := lv_entry ([.ref hq]) (n := 1) (Nat.le_of_ble_eq_true rfl)
  rw [lg_entry_eq]
  generalize (lg_sl ([.ref hq]) ++ List.replicate (1 - (lg_sl ([.ref hq])).length) Slot.unset).toArray = ls at hl ⊢
  have hl : lv_has ls 1 [(0, .ref hq)] := hl
  change W p l e ({ frames := 1, cells := 0, slots := 0, locals := 20 } : Room) s m _ below meth c s.heap [] 0 0 _ _
  generalize hQm : MQ below (QI ro D (WS ca hq vq sZ sB ++ R) (WS ca hq vq sZ sB ++ R) s.heap.size) _ s 0 0 A = Qm
  have hP : va_P D vwCl (WS ca hq vq sZ sB ++ R) s.heap := hP
  generalize hae : ([.ref hq] : List Value).toArray = args at hts hQm ⊢
  refine lv_aload_n hx hb dJ0_length_8abf5_0 rfl (lv_at hl 0 rfl) ?_
  refine va_get (D := D) (ci := 0) (v := .ref vq) (C := RJ0) (T := TJ0) (N := 4) hx hb hts inJ0 hown hK hP 0 rfl rfl 0 (by decide) (hts _ q1239) (fun _ h9 => h9) rfl dJ0_length_8abf5_1 ?_
  refine va_alen (D := D) (v := (nI sZ)) hx hb hK hP 1 3 rfl rfl rfl dJ0_length_8abf5_4 ?_
  refine lv_aload_n hx hb dJ0_length_8abf5_5 rfl (lv_at hl 0 rfl) ?_
  obtain ⟨r1, h2, hf⟩ := bnd hf
  refine zv_i (rest := [.int (nI sZ)]) (m_B_J0_coder_7d493 l ca hq vq sZ sB R _ r1 h2) ⟨hx, hb, hml, hown, hts⟩ (cwV 0 hts (gV q1119 q1120 q1121 q48 q1122) rfl rfl rfl (by decide +kernel) ⟨Nat.le_of_ble_eq_true rfl, Nat.le_of_ble_eq_true rfl⟩) (va_recv hK hP (ci := 0) (q0 := 0) rfl rfl) hE hP hD hS hA hZ rfl hl.1 rfl (lv_room (Nat.le_of_ble_eq_true rfl)) dJ0_length_8abf5_6 ⟨Nat.le_of_ble_eq_true rfl, Nat.le_of_ble_eq_true rfl⟩ (fun H locs hP hD hS => ?_)
  refine lv_ishr hx hb dJ0_length_8abf5_9 ?_
  cases hf
  exact end_i hAe hQm hx hb hr hlocks rfl hP hD hS dJ0_length_8abf5_10
def f_B_J0_isLatin1_aae02  : Option (Int32) :=
  some 1
set_option maxHeartbeats 4000000 in
set_option maxRecDepth 100000 in
theorem m_B_J0_isLatin1_aae02 (l : Launch) {D : va_G} {sl : List (String × Nat × String)} (ca : Nat → ClassId) (hq : Nat) (vq : Nat) (sZ : Nat) (sB : Nat → Int32) (R : va_W) (sz : Nat) (ro : Int32) (hf : f_B_J0_isLatin1_aae02 = some ro) : Met l yJ0_isLatin1_aae02 (wm yJ0_isLatin1_aae02 cJ0_isLatin1_aae02 1 (some .boolean)) ({ frames := 0, cells := 0, slots := 0, locals := 0 } : Room) (PREX [.ref hq] D ca sl (WS ca hq vq sZ sB ++ R) sz) (QI ro D (WS ca hq vq sZ sB ++ R) (WS ca hq vq sZ sB ++ R) sz) 0 0 (va_A (WS ca hq vq sZ sB ++ R) sz) := by
  refine Met.ofW (cc := cJ0_isLatin1_aae02) (maxL := 1) (ret := (some .boolean)) (by decide) rfl ?_
  intro p e s m args below meth c s₁ B hml hv
  obtain ⟨rfl, rfl, hP, hE, hD0, hZ⟩ := hv
  have hx := B.exec
  have hb := B.bytes
  have hr := B.returns
  have hts := wm_ww (atoms_spec (ws := wm yJ0_isLatin1_aae02 cJ0_isLatin1_aae02 1 (some .boolean)) B.pre)
  have hown : s.vm.findClass RJ0 = some m.cls := findClass_of_methodNamed B.named
  have hlocks := B.notSynchronized
  have hK := hE.1
  have hD := hD0.self (sz := s.heap.size)
  generalize hAe : va_A (WS ca hq vq sZ sB ++ R) s.heap.size = A at hD hZ ⊢
  have hA : ∀ q : Nat, s.heap.size ≤ q → A q := fun q h => by rw [← hAe]; exact Or.inr h
  have hS : va_S A s.heap s.heap [] := va_S.rf
  have hl := lv_entry ([.ref hq]) (n := 1) (Nat.le_of_ble_eq_true rfl)
  rw [lg_entry_eq]
  generalize (lg_sl ([.ref hq]) ++ List.replicate (1 - (lg_sl ([.ref hq])).length) Slot.unset).toArray = ls at hl ⊢
  have hl : lv_has ls 1 [(0, .ref hq)] := hl
  change W p l e ({ frames := 0, cells := 0, slots := 0, locals := 0 } : Room) s m _ below meth c s.heap [] 0 0 _ _
  generalize hQm : MQ below (QI ro D (WS ca hq vq sZ sB ++ R) (WS ca hq vq sZ sB ++ R) s.heap.size) _ s 0 0 A = Qm
  have hP : va_P D vwCl (WS ca hq vq sZ sB ++ R) s.heap := hP
  generalize hae : ([.ref hq] : List Value).toArray = args at hts hQm ⊢
  refine va_gets (v := .int 1) hx hb hZ.2.2.1 hS hown (hts _ q1123) (fun _ h9 => h9) dJ0_isLatin1_aae02_0 ?_
  refine lv_if_eq (tgt := 17) hx hb dJ0_isLatin1_aae02_3 (by decide) (fun c1 => ?_) (fun c1 => ?_)
  · exact absurd c1 (by decide)
  refine lv_aload_n hx hb dJ0_isLatin1_aae02_6 rfl (lv_at hl 0 rfl) ?_
  refine va_get (D := D) (ci := 0) (v := .int 0) (C := RJ0) (T := TJ0) (N := 4) hx hb hts inJ0 hown hK hP 0 rfl rfl 1 (by decide) (hts _ q1240) (fun _ h9 => h9) rfl dJ0_isLatin1_aae02_7 ?_
  refine lv_if_ne (tgt := 17) hx hb dJ0_isLatin1_aae02_10 (by decide) (fun c2 => ?_) (fun c2 => ?_)
  · exact absurd c2 (by decide)
  refine lv_iconst (v := 1) hx hb dJ0_isLatin1_aae02_13 (by decide) ?_
  refine lv_goto (tgt := 18) hx hb dJ0_isLatin1_aae02_14 (by decide) ?_
  cases hf
  exact end_i hAe hQm hx hb hr hlocks rfl hP hD hS dJ0_isLatin1_aae02_18
def f_B_J1_charAt_3b067 (p1 : Int32) (sZ : Nat) (sB : Nat → Int32) : Option (Int32) :=
  (f_B_J0_checkIndex_df160 p1 (nI sZ)).bind fun _ =>
  if p1 < 0 ∨ sZ ≤ p1.toNatClampNeg then none else
    if vp_nar .char (((((sB p1.toNatClampNeg) &&& 255)).toUInt32 % 65536).toInt32) = ((((sB p1.toNatClampNeg) &&& 255)).toUInt32 % 65536).toInt32 then some (((((sB p1.toNatClampNeg) &&& 255)).toUInt32 % 65536).toInt32) else none
set_option maxHeartbeats 4000000 in
set_option maxRecDepth 100000 in
theorem m_B_J1_charAt_3b067 (l : Launch) {D : va_G} {sl : List (String × Nat × String)} (ca : Nat → ClassId) (hq : Nat) (vq : Nat) (sZ : Nat) (sB : Nat → Int32) (R : va_W) (sz : Nat) (p1 : Int32) (ro : Int32) (hf : f_B_J1_charAt_3b067 p1 sZ sB = some ro) : Met l yJ1_charAt_3b067 (wm yJ1_charAt_3b067 cJ1_charAt_3b067 2 (some .char)) ({ frames := 2, cells := 0, slots := 0, locals := 43 } : Room) (PREX [.ref vq, .int p1] D ca sl (WS ca hq vq sZ sB ++ R) sz) (QI ro D (WS ca hq vq sZ sB ++ R) (WS ca hq vq sZ sB ++ R) sz) 0 0 (va_A (WS ca hq vq sZ sB ++ R) sz) := by
  refine Met.ofW (cc := cJ1_charAt_3b067) (maxL := 2) (ret := (some .char)) (by decide) rfl ?_
  intro p e s m args below meth c s₁ B hml hv
  obtain ⟨rfl, rfl, hP, hE, hD0, hZ⟩ := hv
  have hx := B.exec
  have hb := B.bytes
  have hr := B.returns
  have hts := wm_ww (atoms_spec (ws := wm yJ1_charAt_3b067 cJ1_charAt_3b067 2 (some .char)) B.pre)
  have hown : s.vm.findClass RJ1 = some m.cls := findClass_of_methodNamed B.named
  have hlocks := B.notSynchronized
  have hK := hE.1
  have hD := hD0.self (sz := s.heap.size)
  generalize hAe : va_A (WS ca hq vq sZ sB ++ R) s.heap.size = A at hD hZ ⊢
  have hA : ∀ q : Nat, s.heap.size ≤ q → A q := fun q h => by rw [← hAe]; exact Or.inr h
  have hS : va_S A s.heap s.heap [] := va_S.rf
  have hl := lv_entry ([.ref vq, .int p1]) (n := 2) (Nat.le_of_ble_eq_true rfl)
  rw [lg_entry_eq]
  generalize (lg_sl ([.ref vq, .int p1]) ++ List.replicate (2 - (lg_sl ([.ref vq, .int p1])).length) Slot.unset).toArray = ls at hl ⊢
  have hl : lv_has ls 2 [(0, .ref vq), (1, .int p1)] := hl
  change W p l e ({ frames := 2, cells := 0, slots := 0, locals := 43 } : Room) s m _ below meth c s.heap [] 0 0 _ _
  generalize hQm : MQ below (QI ro D (WS ca hq vq sZ sB ++ R) (WS ca hq vq sZ sB ++ R) s.heap.size) _ s 0 0 A = Qm
  have hP : va_P D vwCl (WS ca hq vq sZ sB ++ R) s.heap := hP
  generalize hae : ([.ref vq, .int p1] : List Value).toArray = args at hts hQm ⊢
  refine lv_iload_n hx hb dJ1_charAt_3b067_0 rfl (lv_at hl 1 rfl) ?_
  refine lv_aload_n hx hb dJ1_charAt_3b067_1 rfl (lv_at hl 0 rfl) ?_
  refine va_alen (D := D) (v := (nI sZ)) hx hb hK hP 1 3 rfl rfl rfl dJ1_charAt_3b067_2 ?_
  obtain ⟨_, h1, hf⟩ := bnd hf
  refine zs_v (rest := []) (m_B_J0_checkIndex_df160 l ca (WS ca hq vq sZ sB ++ R) _ p1 (nI sZ) h1) ⟨hx, hb, hml, hown, hts⟩ (va_cwS 2 hts (gS q1681 q1298 q48 q1299) rfl rfl rfl (by decide +kernel) ⟨Nat.le_of_ble_eq_true rfl, Nat.le_of_ble_eq_true rfl⟩) hE hP hD hS hA hZ rfl hl.1 rfl (lv_room (Nat.le_of_ble_eq_true rfl)) dJ1_charAt_3b067_3 ⟨Nat.le_of_ble_eq_true rfl, Nat.le_of_ble_eq_true rfl⟩ (fun H locs hP hD hS => ?_)
  refine lv_aload_n hx hb dJ1_charAt_3b067_6 rfl (lv_at hl 0 rfl) ?_
  refine lv_iload_n hx hb dJ1_charAt_3b067_7 rfl (lv_at hl 1 rfl) ?_
  obtain ⟨k2, hf⟩ := ck_not hf
  refine va_bald (D := D) hx hb hK hP 1 3 rfl rfl k2 dJ1_charAt_3b067_8 ?_
  refine lv_sipush (v := 255) hx hb dJ1_charAt_3b067_9 (by decide) ?_
  refine lv_iand hx hb dJ1_charAt_3b067_12 ?_
  refine lv_i2c hx hb dJ1_charAt_3b067_13 rfl ?_
  obtain ⟨k3, hf⟩ := ck_yes hf
  cases hf
  exact end_i hAe hQm hx hb hr hlocks (nar_c k3) hP hD hS dJ1_charAt_3b067_14
def f_B_J0_charAt_5068e (p1 : Int32) (sZ : Nat) (sB : Nat → Int32) : Option (Int32) :=
  (f_B_J0_isLatin1_aae02).bind fun r1 =>
  if r1 = 0 then
    none
  else
    (f_B_J1_charAt_3b067 p1 sZ sB).bind fun r4 =>
    if vp_nar .char r4 = r4 then some r4 else none
set_option maxHeartbeats 4000000 in
set_option maxRecDepth 100000 in
theorem m_B_J0_charAt_5068e (l : Launch) {D : va_G} {sl : List (String × Nat × String)} (ca : Nat → ClassId) (hq : Nat) (vq : Nat) (sZ : Nat) (sB : Nat → Int32) (R : va_W) (sz : Nat) (p1 : Int32) (ro : Int32) (hf : f_B_J0_charAt_5068e p1 sZ sB = some ro) : Met l yJ0_charAt_5068e (wm yJ0_charAt_5068e cJ0_charAt_5068e 2 (some .char)) ({ frames := 3, cells := 0, slots := 0, locals := 64 } : Room) (PREX [.ref hq, .int p1] D ca sl (WS ca hq vq sZ sB ++ R) sz) (QI ro D (WS ca hq vq sZ sB ++ R) (WS ca hq vq sZ sB ++ R) sz) 0 0 (va_A (WS ca hq vq sZ sB ++ R) sz) := by
  refine Met.ofW (cc := cJ0_charAt_5068e) (maxL := 2) (ret := (some .char)) (by decide) rfl ?_
  intro p e s m args below meth c s₁ B hml hv
  obtain ⟨rfl, rfl, hP, hE, hD0, hZ⟩ := hv
  have hx := B.exec
  have hb := B.bytes
  have hr := B.returns
  have hts := wm_ww (atoms_spec (ws := wm yJ0_charAt_5068e cJ0_charAt_5068e 2 (some .char)) B.pre)
  have hown : s.vm.findClass RJ0 = some m.cls := findClass_of_methodNamed B.named
  have hlocks := B.notSynchronized
  have hK := hE.1
  have hD := hD0.self (sz := s.heap.size)
  generalize hAe : va_A (WS ca hq vq sZ sB ++ R) s.heap.size = A at hD hZ ⊢
  have hA : ∀ q : Nat, s.heap.size ≤ q → A q := fun q h => by rw [← hAe]; exact Or.inr h
  have hS : va_S A s.heap s.heap [] := va_S.rf
  have hl := lv_entry ([.ref hq, .int p1]) (n := 2) (Nat.le_of_ble_eq_true rfl)
  rw [lg_entry_eq]
  generalize (lg_sl ([.ref hq, .int p1]) ++ List.replicate (2 - (lg_sl ([.ref hq, .int p1])).length) Slot.unset).toArray = ls at hl ⊢
  have hl : lv_has ls 2 [(0, .ref hq), (1, .int p1)] := hl
  change W p l e ({ frames := 3, cells := 0, slots := 0, locals := 64 } : Room) s m _ below meth c s.heap [] 0 0 _ _
  generalize hQm : MQ below (QI ro D (WS ca hq vq sZ sB ++ R) (WS ca hq vq sZ sB ++ R) s.heap.size) _ s 0 0 A = Qm
  have hP : va_P D vwCl (WS ca hq vq sZ sB ++ R) s.heap := hP
  generalize hae : ([.ref hq, .int p1] : List Value).toArray = args at hts hQm ⊢
  refine lv_aload_n hx hb dJ0_charAt_5068e_0 rfl (lv_at hl 0 rfl) ?_
  obtain ⟨r1, h2, hf⟩ := bnd hf
  refine zv_i (rest := []) (m_B_J0_isLatin1_aae02 l ca hq vq sZ sB R _ r1 h2) ⟨hx, hb, hml, hown, hts⟩ (cwV 0 hts (gV q1674 q1675 q1676 q48 q1677) rfl rfl rfl (by decide +kernel) ⟨Nat.le_of_ble_eq_true rfl, Nat.le_of_ble_eq_true rfl⟩) (va_recv hK hP (ci := 0) (q0 := 0) rfl rfl) hE hP hD hS hA hZ rfl hl.1 rfl (lv_room (Nat.le_of_ble_eq_true rfl)) dJ0_charAt_5068e_1 ⟨Nat.le_of_ble_eq_true rfl, Nat.le_of_ble_eq_true rfl⟩ (fun H locs hP hD hS => ?_)
  refine lv_if_eq (tgt := 16) hx hb dJ0_charAt_5068e_4 (by decide) (fun c3 => ?_) (fun c3 => ?_)
  · have hf := br_pos c3 hf
    cases hf
  · have hf := br_neg c3 hf
    refine lv_aload_n hx hb dJ0_charAt_5068e_7 rfl (lv_at hl 0 rfl) ?_
    refine va_get (D := D) (ci := 0) (v := .ref vq) (C := RJ0) (T := TJ0) (N := 4) hx hb hts inJ0 hown hK hP 0 rfl rfl 0 (by decide) (hts _ q1239) (fun _ h9 => h9) rfl dJ0_charAt_5068e_8 ?_
    refine lv_iload_n hx hb dJ0_charAt_5068e_11 rfl (lv_at hl 1 rfl) ?_
    obtain ⟨r4, h5, hf⟩ := bnd hf
    refine zs_i (rest := []) (m_B_J1_charAt_3b067 l ca hq vq sZ sB R _ p1 r4 h5) ⟨hx, hb, hml, hown, hts⟩ (va_cwS 2 hts (gS q1678 q1679 q68 q1680) rfl rfl rfl (by decide +kernel) ⟨Nat.le_of_ble_eq_true rfl, Nat.le_of_ble_eq_true rfl⟩) hE hP hD hS hA hZ rfl hl.1 rfl (lv_room (Nat.le_of_ble_eq_true rfl)) dJ0_charAt_5068e_12 ⟨Nat.le_of_ble_eq_true rfl, Nat.le_of_ble_eq_true rfl⟩ (fun H locs hP hD hS => ?_)
    obtain ⟨k6, hf⟩ := ck_yes hf
    cases hf
    exact end_i hAe hQm hx hb hr hlocks (nar_c k6) hP hD hS dJ0_charAt_5068e_15
