/-! two small methods of the law -/
def f_low (p0 p1 : Int32) : Option Int32 := if p1 = 0 then none else some ((p0 &&& 2147483647) - (p0 &&& 2147483647) / p1 * p1)
set_option maxHeartbeats 4000000 in
set_option maxRecDepth 100000 in
theorem m_low (l : Launch) {D : va_G} {sl : List (String × Nat × String)} (ca : Nat → ClassId) (w : va_W) (sz : Nat) (p0 p1 : Int32) (ro : Int32) (hf : f_low p0 p1 = some ro) : Met l yL_low (wm yL_low cL_low 2 (some .int)) ({ frames := 0, cells := 0, slots := 0, locals := 0 } : Room) (PRE [.int p0, .int p1] D ca sl w sz) (QI ro D w w sz) 0 0 (va_A w sz) := by
  refine Met.ofW (cc := cL_low) (maxL := 2) (ret := (some .int)) (by decide) rfl ?_
  intro p e s m args below meth c s₁ B hml hv
  obtain ⟨rfl, rfl, hP, hE, hD0⟩ := hv
  have hx := B.exec
  have hb := B.bytes
  have hr := B.returns
  have hts := wm_ww (atoms_spec (ws := wm yL_low cL_low 2 (some .int)) B.pre)
  have hown : s.vm.findClass RL = some m.cls := findClass_of_methodNamed B.named
  have hlocks := B.notSynchronized
  have hD := hD0.self (sz := s.heap.size)
  generalize hAe : va_A w s.heap.size = A at hD ⊢
  have hS : va_S A s.heap s.heap [] := va_S.rf
  have hl := lv_entry ([.int p0, .int p1]) (n := 2) (Nat.le_of_ble_eq_true rfl)
  rw [lg_entry_eq]
  generalize (lg_sl ([.int p0, .int p1]) ++ List.replicate (2 - (lg_sl ([.int p0, .int p1])).length) Slot.unset).toArray = ls at hl ⊢
  have hl : lv_has ls 2 [(0, .int p0), (1, .int p1)] := hl
  change W p l e ({ frames := 0, cells := 0, slots := 0, locals := 0 } : Room) s m _ below meth c s.heap [] 0 0 _ _
  generalize hQm : MQ below (QI ro D w w s.heap.size) _ s 0 0 A = Qm
  generalize hae : ([.int p0, .int p1] : List Value).toArray = args at hts hQm ⊢
  unfold f_low at hf
  refine lv_iload_n hx hb dL_low_0 rfl (lv_at hl 0 rfl) ?_
  refine lv_ldc (v := 2147483647) hx hb hown (hts _ q250) dL_low_1 ?_
  refine lv_iand hx hb dL_low_3 ?_
  refine lv_iload_n hx hb dL_low_4 rfl (lv_at hl 1 rfl) ?_
  obtain ⟨k1, hf⟩ := ck_not hf
  refine lv_irem hx hb dL_low_5 k1 ?_
  cases hf
  exact end_i hAe hQm hx hb hr hlocks rfl hP hD hS dL_low_6
def f_cell (LL : Nat) (xs : Nat → Int32) (p1 : Int32) : Option Int32 := if Int32.ofNat LL ≤ p1 then some (800029 * p1 + 89) else if p1 < 0 ∨ LL ≤ p1.toNatClampNeg then none else some (xs p1.toNatClampNeg)
set_option maxHeartbeats 4000000 in
set_option maxRecDepth 100000 in
theorem m_cell (l : Launch) {D : va_G} {sl : List (String × Nat × String)} (ca : Nat → ClassId) (w : va_W) (sz : Nat) (b LL : Nat) (xs : Nat → Int32) (p1 : Int32) (ro : Int32) (hf : f_cell LL xs p1 = some ro) : Met l yL_cell (wm yL_cell cL_cell 2 (some .int)) ({ frames := 0, cells := 0, slots := 0, locals := 0 } : Room) (PREC b LL xs [.ref b, .int p1] D ca sl w sz) (QI ro D w w sz) 0 0 (va_A w sz) := by
  refine Met.ofW (cc := cL_cell) (maxL := 2) (ret := (some .int)) (by decide) rfl ?_
  intro p e s m args below meth c s₁ B hml hv
  obtain ⟨rfl, rfl, hP, hE, hD0, hX, hbl, hbA⟩ := hv
  have hx := B.exec
  have hb := B.bytes
  have hr := B.returns
  have hts := wm_ww (atoms_spec (ws := wm yL_cell cL_cell 2 (some .int)) B.pre)
  have hown : s.vm.findClass RL = some m.cls := findClass_of_methodNamed B.named
  have hlocks := B.notSynchronized
  have hD := hD0.self (sz := s.heap.size)
  generalize hAe : va_A w s.heap.size = A at hD hbA ⊢
  have hS : va_S A s.heap s.heap [] := va_S.rf
  have hl := lv_entry ([.ref b, .int p1]) (n := 2) (Nat.le_of_ble_eq_true rfl)
  rw [lg_entry_eq]
  generalize (lg_sl ([.ref b, .int p1]) ++ List.replicate (2 - (lg_sl ([.ref b, .int p1])).length) Slot.unset).toArray = ls at hl ⊢
  have hl : lv_has ls 2 [(0, .ref b), (1, .int p1)] := hl
  change W p l e ({ frames := 0, cells := 0, slots := 0, locals := 0 } : Room) s m _ below meth c s.heap [] 0 0 _ _
  generalize hQm : MQ below (QI ro D w w s.heap.size) _ s 0 0 A = Qm
  generalize hae : ([.ref b, .int p1] : List Value).toArray = args at hts hQm ⊢
  unfold f_cell at hf
  refine lv_iload_n hx hb dL_cell_0 rfl (lv_at hl 1 rfl) ?_
  refine lv_aload_n hx hb dL_cell_1 rfl (lv_at hl 0 rfl) ?_
  refine va_slen hx hb hX hbl hbA hS dL_cell_2 ?_
  refine lv_icmp_ge (tgt := 12) hx hb dL_cell_3 (by decide) (fun c1 => ?_) (fun c1 => ?_)
  · have hf := br_pos c1 hf
    refine lv_ldc (v := 800029) hx hb hown (hts _ q246) dL_cell_12 ?_
    refine lv_iload_n hx hb dL_cell_14 rfl (lv_at hl 1 rfl) ?_
    refine lv_imul hx hb dL_cell_15 ?_
    refine lv_bipush (v := 89) hx hb dL_cell_16 (by decide) ?_
    refine lv_iadd hx hb dL_cell_18 ?_
    cases hf
    exact end_i hAe hQm hx hb hr hlocks rfl hP hD hS dL_cell_19
  · have hf := br_neg c1 hf
    obtain ⟨k1, hf⟩ := ck_not hf
    refine lv_aload_n hx hb dL_cell_6 rfl (lv_at hl 0 rfl) ?_
    refine lv_iload_n hx hb dL_cell_7 rfl (lv_at hl 1 rfl) ?_
    refine va_sld hx hb hX hbl hbA hS k1 dL_cell_8 ?_
    refine lv_goto (tgt := 19) hx hb dL_cell_9 (by decide) ?_
    cases hf
    exact end_i hAe hQm hx hb hr hlocks rfl hP hD hS dL_cell_19
