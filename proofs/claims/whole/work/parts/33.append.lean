/-- digits -/
def dgs (v : Nat) : Nat := if v < 10 then 1 else 2
def appI (k v : Nat) (B : Nat → Int32) : Nat → Int32 := if v < 10 then upd B k (nI (48 + v)) else upd (upd B (k + 1) (nI (48 + v % 10))) k (nI (48 + v / 10))
theorem dgs_le (v : Nat) : 1 ≤ dgs v ∧ dgs v ≤ 2 := by unfold dgs; split <;> omega
theorem nar_b {c : Nat} (h : c < 128) : vp_nar .byte (nI c) = nI c := by
  have e : ∀ c : Fin 128, vp_nar .byte (nI c.val) = nI c.val := by decide +kernel
  exact e ⟨c, h⟩
theorem i2b_ok {c : Nat} (h : c < 128) : (nI c).toInt8.toInt32 = nI c := by
  have e : ∀ c : Fin 128, (nI c.val).toInt8.toInt32 = nI c.val := by decide +kernel
  exact e ⟨c, h⟩
theorem canE_ok {c : Nat} (h : c < 128) : f_B_J1_canEncode_fc78d (nI c) = some 1 := by
  unfold f_B_J1_canEncode_fc78d
  rw [if_neg]
  exact fun z => absurd ((nI_ltI (a := 255) (by omega) (by omega)).mp z) (by omega)
theorem size_ok {v : Nat} (h : v < 100) : f_B_J6_stringSize_0f7a4 (nI v) = some (nI (dgs v)) := by
  unfold f_B_J6_stringSize_0f7a4 dgs
  have e0 : ¬ nI v < 0 := nI_pos (by omega)
  rw [if_neg e0, show FU = 99998 + 1 + 1 from rfl, f_B_J6_stringSize_0f7a4_L16, if_neg (by decide)]
  have ea : (-nI v ≤ (-10 : Int32)) ↔ 10 ≤ v := sb_nle (a := v) (b := 10) (by omega) (by omega)
  have eb : (-nI v ≤ (10 * -10 : Int32)) ↔ 100 ≤ v := sb_nle (a := v) (b := 100) (by omega) (by omega)
  by_cases h1 : v < 10
  · rw [if_neg (fun z => absurd (ea.mp z) (by omega)), if_pos h1]
    rfl
  · rw [if_pos (ea.mpr (by omega)), f_B_J6_stringSize_0f7a4_L16, if_neg (by decide), if_neg (fun z => absurd (eb.mp z) (by omega)), if_neg h1]
    rfl
theorem getC_ok {v k z : Nat} {B : Nat → Int32} (h : v < 100) (hk : k + dgs v ≤ z) (hz : z ≤ 300000) : f_B_J6_getChars_ba4f3 (nI v) (nI (k + dgs v)) z B = some (nI k, appI k v B) := by
  unfold f_B_J6_getChars_ba4f3 appI
  unfold dgs at hk ⊢
  have e1 : (-100 : Int32) = -nI 100 := rfl
  have e9 : (-9 : Int32) = -nI 9 := rfl
  have e5 : -(-nI v) = nI v := Int32.neg_neg
  have e6 : (0 : Int32) ≤ nI v := Int32.not_lt.mp (nI_pos (by omega))
  have e7 : ¬ nI v < 0 := nI_pos (by omega)
  by_cases h1 : v < 10
  · have e8 : ¬ nI k < 0 := nI_pos (by rw [if_pos h1] at hk; omega)
    rw [if_pos h1] at hk
    simp (disch := omega) only [h1, if_true, e1, e9, e5, e6, e7, e8, sb_nlt, sb_nle, sb_m1, Nat.add_sub_cancel, nI_clamp, if_pos, if_neg, false_or, nar_b, Nat.mod_eq_of_lt]
  · rw [if_neg h1] at hk
    have e8 : ¬ nI k < 0 := nI_pos (by omega)
    have e10 : ¬ nI (k + 1) < 0 := nI_pos (by omega)
    have e11 : k + 2 - 1 = k + 1 := by omega
    simp (disch := omega) only [h1, if_false, e1, e9, e5, e6, e7, e8, e10, e11, sb_nlt, sb_nle, sb_m1, Nat.add_sub_cancel, nI_clamp, if_pos, if_neg, if_true, false_or, nar_b]
theorem cap_le {q m : Nat} (hq : q ≤ 100000) (hm : m ≤ 100000) : sb_cap q m ≤ 300000 := by
  unfold sb_cap
  split <;> (try split) <;> omega
set_option maxHeartbeats 4000000 in
set_option maxRecDepth 100000 in
theorem m_appC5 (l : Launch) {D : va_G} {sl : List (String × Nat × String)} (ca : Nat → ClassId) (aq bq : Nat) (jM : Int32) (R : va_W) (sz k z ch : Nat) (B : Nat → Int32) (hn : k + 1 ≤ 100000) (hz : z ≤ 100000) (hch : ch < 128) (hFit : sb_Fit B) : Met l yJ5_append_3fe6f (wm yJ5_append_3fe6f cJ5_append_3fe6f 2 (some (.object "java/lang/AbstractStringBuilder"))) ({ frames := 4, cells := mcE (k + 1) z, slots := msE (k + 1) z, locals := 110 } : Room) (PREX [.ref aq, .int (nI ch)] D ca sl (WB ca aq bq jM (nI k) z B ++ R) sz) (QRU aq (fun bq => (WB ca aq bq jM (nI (k + 1)) (sb_cap (k + 1) z) (upd (capB (k + 1) z B) k (nI ch)) ++ R)) D (WB ca aq bq jM (nI k) z B ++ R) sz) (mcE (k + 1) z) (msE (k + 1) z) (va_A (WB ca aq bq jM (nI k) z B ++ R) sz) := by
  refine Met.ofW (cc := cJ5_append_3fe6f) (maxL := 2) (ret := (some (.object "java/lang/AbstractStringBuilder"))) (by decide) rfl ?_
  intro p e s m args below meth c s₁ B9 hml hv
  obtain ⟨rfl, rfl, hP, hE, hD0, hZ⟩ := hv
  have hx := B9.exec
  have hb := B9.bytes
  have hr := B9.returns
  have hts := wm_ww (atoms_spec (ws := wm yJ5_append_3fe6f cJ5_append_3fe6f 2 (some (.object "java/lang/AbstractStringBuilder"))) B9.pre)
  have hown : s.vm.findClass RJ5 = some m.cls := findClass_of_methodNamed B9.named
  have hlocks := B9.notSynchronized
  have hK := hE.1
  have hD := hD0.self (sz := s.heap.size)
  generalize hAe : va_A (WB ca aq bq jM (nI k) z B ++ R) s.heap.size = A at hD hZ ⊢
  have hA : ∀ q : Nat, s.heap.size ≤ q → A q := fun q h => by rw [← hAe]; exact Or.inr h
  have hS : va_S A s.heap s.heap [] := va_S.rf
  have hl := lv_entry ([.ref aq, .int (nI ch)]) (n := 2) (Nat.le_of_ble_eq_true rfl)
  rw [lg_entry_eq]
  generalize (lg_sl ([.ref aq, .int (nI ch)]) ++ List.replicate (2 - (lg_sl ([.ref aq, .int (nI ch)])).length) Slot.unset).toArray = ls at hl ⊢
  have hl : lv_has ls 2 [(0, .ref aq), (1, .int (nI ch))] := hl
  change W p l e ({ frames := 4, cells := mcE (k + 1) z, slots := msE (k + 1) z, locals := 110 } : Room) s m _ below meth c s.heap [] 0 0 _ _
  have hP : va_P D vwCl (WB ca aq bq jM (nI k) z B ++ R) s.heap := hP
  have hcap := sb_cap_ge (k + 1) z
  have hcap2 := cap_le hn hz
  refine lv_aload_n hx hb dJ5_append_3fe6f_0 rfl (lv_at hl 0 rfl) ?_
  refine lv_aload_n hx hb dJ5_append_3fe6f_1 rfl (lv_at hl 0 rfl) ?_
  refine va_get (D := D) (ci := 1) (v := .int (nI k)) (C := RJ4) (T := TJ4) (N := 4) hx hb hts inJ4 hown hK hP 0 rfl rfl 3 (by decide) (hts _ q190) (fun _ h9 => h9) rfl dJ5_append_3fe6f_2 ?_
  refine lv_iconst (v := 1) hx hb dJ5_append_3fe6f_5 (by decide) ?_
  refine lv_iadd hx hb dJ5_append_3fe6f_6 ?_
  rw [nI_1]
  refine zu_u (C := RJ4) (rest := []) (m_ens l ca aq bq jM R _ k z (k + 1) B hn hz hFit) ⟨hx, hb, hml, hown, hts⟩ (va_cwU 1 hts (gU q1053 q1691 qx1 q1055 q46 q1056) rfl rfl rfl rfl (by decide +kernel) ⟨Nat.le_of_ble_eq_true rfl, Nat.le_of_ble_eq_true rfl⟩) (va_recv hK hP (ci := 1) (q0 := 0) rfl rfl) hE hP hD hS hA hZ rfl hl.1 rfl (lv_room (Nat.le_of_ble_eq_true rfl)) dJ5_append_3fe6f_7 ⟨Nat.le_of_eq (Nat.zero_add _), Nat.le_of_eq (Nat.zero_add _)⟩ (fun q H locs hP hD hS => ?_)
  have hP : va_P D vwCl (WB ca aq q jM (nI k) (sb_cap (k + 1) z) (capB (k + 1) z B) ++ R) H := hP
  have hD : va_D A (WB ca aq q jM (nI k) (sb_cap (k + 1) z) (capB (k + 1) z B) ++ R) := hD
  refine lv_aload_n hx hb dJ5_append_3fe6f_10 rfl (lv_at hl 0 rfl) ?_
  refine zu_i (rest := []) (m_B_J5_isLatin1_aae02 l ca aq q jM (nI k) _ _ R _ 1 rfl) ⟨hx, hb, hml, hown, hts⟩ (va_cwU 0 hts (gU q1084 q1086 q1087 q1085 q46 q1088) rfl rfl rfl rfl (by decide +kernel) ⟨Nat.le_of_ble_eq_true rfl, Nat.le_of_ble_eq_true rfl⟩) (va_recv hK hP (ci := 1) (q0 := 0) rfl rfl) hE hP hD hS hA hZ rfl hl.1 rfl (lv_room (Nat.le_of_ble_eq_true rfl)) dJ5_append_3fe6f_11 ⟨by show 0 + mcE (k + 1) z + 0 ≤ mcE (k + 1) z; omega, by show 0 + msE (k + 1) z + 0 ≤ msE (k + 1) z; omega⟩ (fun H locs hP hD hS => ?_)
  refine lv_if_eq (tgt := 45) hx hb dJ5_append_3fe6f_14 (by decide) (fun c1 => absurd c1 (by decide)) (fun c1 => ?_)
  refine lv_iload_n hx hb dJ5_append_3fe6f_17 rfl (lv_at hl 1 rfl) ?_
  refine zs_i (rest := []) (m_B_J1_canEncode_fc78d l ca _ _ (nI ch) 1 (canE_ok hch)) ⟨hx, hb, hml, hown, hts⟩ (va_cwS 1 hts (gS q1288 q1289 q68 q1290) rfl rfl rfl (by decide +kernel) ⟨Nat.le_of_ble_eq_true rfl, Nat.le_of_ble_eq_true rfl⟩) hE hP hD hS hA hZ rfl hl.1 rfl (lv_room (Nat.le_of_ble_eq_true rfl)) dJ5_append_3fe6f_18 ⟨by show 0 + mcE (k + 1) z + 0 + 0 ≤ mcE (k + 1) z; omega, by show 0 + msE (k + 1) z + 0 + 0 ≤ msE (k + 1) z; omega⟩ (fun H locs hP hD hS => ?_)
  refine lv_if_eq (tgt := 45) hx hb dJ5_append_3fe6f_21 (by decide) (fun c1 => absurd c1 (by decide)) (fun c1 => ?_)
  refine lv_aload_n hx hb dJ5_append_3fe6f_24 rfl (lv_at hl 0 rfl) ?_
  refine va_get (D := D) (ci := 1) (v := .ref q) (C := RJ4) (T := TJ4) (N := 4) hx hb hts inJ4 hown hK hP 0 rfl rfl 0 (by decide) (hts _ q186) (fun _ h9 => h9) rfl dJ5_append_3fe6f_25 ?_
  refine lv_aload_n hx hb dJ5_append_3fe6f_28 rfl (lv_at hl 0 rfl) ?_
  refine lv_dup hx hb dJ5_append_3fe6f_29 rfl ?_
  refine va_get (D := D) (ci := 1) (v := .int (nI k)) (C := RJ4) (T := TJ4) (N := 4) hx hb hts inJ4 hown hK hP 0 rfl rfl 3 (by decide) (hts _ q190) (fun _ h9 => h9) rfl dJ5_append_3fe6f_30 ?_
  refine lv_dup_x1 hx hb dJ5_append_3fe6f_33 rfl rfl ?_
  refine lv_iconst (v := 1) hx hb dJ5_append_3fe6f_34 (by decide) ?_
  refine lv_iadd hx hb dJ5_append_3fe6f_35 ?_
  rw [nI_1]
  refine va_put (D := D) (ci := 1) (v := .int (nI (k + 1))) (ty := .int) (C := RJ4) (T := TJ4) (N := 4) hx hb hts inJ4 tyJ4 tyJ4_ok nmJ4 hown hK hP hD hS 0 rfl rfl 3 (by decide) (hts _ q190) (fun _ h9 => h9) rfl (by decide +kernel) rfl rfl (Nat.le_of_ble_eq_true rfl) dJ5_append_3fe6f_36 (fun H locs hP hD hS => ?_)
  have hP : va_P D vwCl (WB ca aq q jM (nI (k + 1)) (sb_cap (k + 1) z) (capB (k + 1) z B) ++ R) H := hP
  have hD : va_D A (WB ca aq q jM (nI (k + 1)) (sb_cap (k + 1) z) (capB (k + 1) z B) ++ R) := hD
  refine lv_iload_n hx hb dJ5_append_3fe6f_39 rfl (lv_at hl 1 rfl) ?_
  refine lv_i2b hx hb dJ5_append_3fe6f_40 (i2b_ok hch) ?_
  refine va_bast (D := D) hx hb hK hP hD hS 1 3 rfl rfl (vp_in_nI (by omega) (by omega)) dJ5_append_3fe6f_41 (fun H locs hP hD hS => ?_)
  rw [nI_clamp (by omega), nar_b hch] at hP hD
  have hP : va_P D vwCl (WB ca aq q jM (nI (k + 1)) (sb_cap (k + 1) z) (upd (capB (k + 1) z B) k (nI ch)) ++ R) H := hP
  have hD : va_D A (WB ca aq q jM (nI (k + 1)) (sb_cap (k + 1) z) (upd (capB (k + 1) z B) k (nI ch)) ++ R) := hD
  refine lv_goto (tgt := 75) hx hb dJ5_append_3fe6f_42 (by decide) ?_
  refine lv_aload_n hx hb dJ5_append_3fe6f_75 rfl (lv_at hl 0 rfl) ?_
  refine endr_u (f := (fun bq => (WB ca aq bq jM (nI (k + 1)) (sb_cap (k + 1) z) (upd (capB (k + 1) z B) k (nI ch)) ++ R))) q hAe hx hb hr (Or.inl ⟨_, rfl⟩) hlocks hP hD hS dJ5_append_3fe6f_76 ?_ ?_
  · omega
  · omega
set_option maxHeartbeats 4000000 in
set_option maxRecDepth 100000 in
theorem m_appI5 (l : Launch) {D : va_G} {sl : List (String × Nat × String)} (ca : Nat → ClassId) (aq bq : Nat) (jM : Int32) (R : va_W) (sz k z v : Nat) (B : Nat → Int32) (hn : k + dgs v ≤ 100000) (hz : z ≤ 100000) (hv : v < 100) (hFit : sb_Fit B) : Met l yJ5_append_c97b9 (wm yJ5_append_c97b9 cJ5_append_c97b9 4 (some (.object "java/lang/AbstractStringBuilder"))) ({ frames := 4, cells := mcE (k + dgs v) z, slots := msE (k + dgs v) z, locals := 110 } : Room) (PREX [.ref aq, .int (nI v)] D ca sl (WB ca aq bq jM (nI k) z B ++ R) sz) (QRU aq (fun bq => (WB ca aq bq jM (nI (k + dgs v)) (sb_cap (k + dgs v) z) (appI k v (capB (k + dgs v) z B)) ++ R)) D (WB ca aq bq jM (nI k) z B ++ R) sz) (mcE (k + dgs v) z) (msE (k + dgs v) z) (va_A (WB ca aq bq jM (nI k) z B ++ R) sz) := by
  refine Met.ofW (cc := cJ5_append_c97b9) (maxL := 4) (ret := (some (.object "java/lang/AbstractStringBuilder"))) (by decide) rfl ?_
  intro p e s m args below meth c s₁ B9 hml hv
  obtain ⟨rfl, rfl, hP, hE, hD0, hZ⟩ := hv
  have hx := B9.exec
  have hb := B9.bytes
  have hr := B9.returns
  have hts := wm_ww (atoms_spec (ws := wm yJ5_append_c97b9 cJ5_append_c97b9 4 (some (.object "java/lang/AbstractStringBuilder"))) B9.pre)
  have hown : s.vm.findClass RJ5 = some m.cls := findClass_of_methodNamed B9.named
  have hlocks := B9.notSynchronized
  have hK := hE.1
  have hD := hD0.self (sz := s.heap.size)
  generalize hAe : va_A (WB ca aq bq jM (nI k) z B ++ R) s.heap.size = A at hD hZ ⊢
  have hA : ∀ q : Nat, s.heap.size ≤ q → A q := fun q h => by rw [← hAe]; exact Or.inr h
  have hS : va_S A s.heap s.heap [] := va_S.rf
  have hl := lv_entry ([.ref aq, .int (nI v)]) (n := 4) (Nat.le_of_ble_eq_true rfl)
  rw [lg_entry_eq]
  generalize (lg_sl ([.ref aq, .int (nI v)]) ++ List.replicate (4 - (lg_sl ([.ref aq, .int (nI v)])).length) Slot.unset).toArray = ls at hl ⊢
  have hl : lv_has ls 4 [(0, .ref aq), (1, .int (nI v))] := hl
  change W p l e ({ frames := 4, cells := mcE (k + dgs v) z, slots := msE (k + dgs v) z, locals := 110 } : Room) s m _ below meth c s.heap [] 0 0 _ _
  have hP : va_P D vwCl (WB ca aq bq jM (nI k) z B ++ R) s.heap := hP
  have hdg := dgs_le v
  have hcap := sb_cap_ge (k + dgs v) z
  have hcap2 := cap_le hn hz
  refine lv_aload_n hx hb dJ5_append_c97b9_0 rfl (lv_at hl 0 rfl) ?_
  refine va_get (D := D) (ci := 1) (v := .int (nI k)) (C := RJ4) (T := TJ4) (N := 4) hx hb hts inJ4 hown hK hP 0 rfl rfl 3 (by decide) (hts _ q190) (fun _ h9 => h9) rfl dJ5_append_c97b9_1 ?_
  refine lv_istore_n (lv' := [(2, .int (nI k)), (0, .ref aq), (1, .int (nI v))]) hx hb dJ5_append_c97b9_4 rfl hl (by decide) rfl (fun ls hl => ?_)
  refine lv_iload_n hx hb dJ5_append_c97b9_5 rfl (lv_at hl 0 rfl) ?_
  refine lv_iload_n hx hb dJ5_append_c97b9_6 rfl (lv_at hl 2 rfl) ?_
  refine zs_i (rest := [.int (nI k)]) (m_B_J6_stringSize_0f7a4 l ca _ _ (nI v) (nI (dgs v)) (size_ok hv)) ⟨hx, hb, hml, hown, hts⟩ (va_cwS 1 hts (gS q1165 q1166 q69 q1167) rfl rfl rfl (by decide +kernel) ⟨Nat.le_of_ble_eq_true rfl, Nat.le_of_ble_eq_true rfl⟩) hE hP hD hS hA hZ rfl hl.1 rfl (lv_room (Nat.le_of_ble_eq_true rfl)) dJ5_append_c97b9_7 ⟨Nat.zero_le _, Nat.zero_le _⟩ (fun H locs hP hD hS => ?_)
  refine lv_iadd hx hb dJ5_append_c97b9_10 ?_
  rw [nI_add]
  refine lv_istore_n (lv' := [(3, .int (nI (k + dgs v))), (2, .int (nI k)), (0, .ref aq), (1, .int (nI v))]) hx hb dJ5_append_c97b9_11 rfl hl (by decide) rfl (fun ls hl => ?_)
  refine lv_aload_n hx hb dJ5_append_c97b9_12 rfl (lv_at hl 2 rfl) ?_
  refine lv_iload_n hx hb dJ5_append_c97b9_13 rfl (lv_at hl 0 rfl) ?_
  refine zu_u (C := RJ4) (rest := []) (m_ens l ca aq bq jM R _ k z (k + dgs v) B hn hz hFit) ⟨hx, hb, hml, hown, hts⟩ (va_cwU 1 hts (gU q1053 q1691 qx1 q1055 q46 q1056) rfl rfl rfl rfl (by decide +kernel) ⟨Nat.le_of_ble_eq_true rfl, Nat.le_of_ble_eq_true rfl⟩) (va_recv hK hP (ci := 1) (q0 := 0) rfl rfl) hE hP hD hS hA hZ rfl hl.1 rfl (lv_room (Nat.le_of_ble_eq_true rfl)) dJ5_append_c97b9_14 ⟨by show 0 + 0 + mcE (k + dgs v) z ≤ mcE (k + dgs v) z; omega, by show 0 + 0 + msE (k + dgs v) z ≤ msE (k + dgs v) z; omega⟩ (fun q H locs hP hD hS => ?_)
  have hP : va_P D vwCl (WB ca aq q jM (nI k) (sb_cap (k + dgs v) z) (capB (k + dgs v) z B) ++ R) H := hP
  have hD : va_D A (WB ca aq q jM (nI k) (sb_cap (k + dgs v) z) (capB (k + dgs v) z B) ++ R) := hD
  refine lv_aload_n hx hb dJ5_append_c97b9_17 rfl (lv_at hl 2 rfl) ?_
  refine zu_i (rest := []) (m_B_J5_isLatin1_aae02 l ca aq q jM (nI k) _ _ R _ 1 rfl) ⟨hx, hb, hml, hown, hts⟩ (va_cwU 0 hts (gU q1084 q1086 q1087 q1085 q46 q1088) rfl rfl rfl rfl (by decide +kernel) ⟨Nat.le_of_ble_eq_true rfl, Nat.le_of_ble_eq_true rfl⟩) (va_recv hK hP (ci := 1) (q0 := 0) rfl rfl) hE hP hD hS hA hZ rfl hl.1 rfl (lv_room (Nat.le_of_ble_eq_true rfl)) dJ5_append_c97b9_18 ⟨by show 0 + 0 + mcE (k + dgs v) z + 0 ≤ mcE (k + dgs v) z; omega, by show 0 + 0 + msE (k + dgs v) z + 0 ≤ msE (k + dgs v) z; omega⟩ (fun H locs hP hD hS => ?_)
  refine lv_if_eq (tgt := 37) hx hb dJ5_append_c97b9_21 (by decide) (fun c1 => absurd c1 (by decide)) (fun c1 => ?_)
  refine lv_iload_n hx hb dJ5_append_c97b9_24 rfl (lv_at hl 3 rfl) ?_
  refine lv_iload_n hx hb dJ5_append_c97b9_25 rfl (lv_at hl 0 rfl) ?_
  refine lv_aload_n hx hb dJ5_append_c97b9_26 rfl (lv_at hl 2 rfl) ?_
  refine va_get (D := D) (ci := 1) (v := .ref q) (C := RJ4) (T := TJ4) (N := 4) hx hb hts inJ4 hown hK hP 0 rfl rfl 0 (by decide) (hts _ q186) (fun _ h9 => h9) rfl dJ5_append_c97b9_27 ?_
  refine zs_i (rest := []) (m_B_J6_getChars_ba4f3 l ca aq q jM (nI k) _ _ R _ (nI v) (nI (k + dgs v)) (nI k) (appI k v (capB (k + dgs v) z B)) (getC_ok hv hcap hcap2)) ⟨hx, hb, hml, hown, hts⟩ (va_cwS 3 hts (gS q1168 q1169 q69 q1170) rfl rfl rfl (by decide +kernel) ⟨Nat.le_of_ble_eq_true rfl, Nat.le_of_ble_eq_true rfl⟩) hE hP hD hS hA hZ rfl hl.1 rfl (lv_room (Nat.le_of_ble_eq_true rfl)) dJ5_append_c97b9_30 ⟨by show 0 + 0 + mcE (k + dgs v) z + 0 + 0 ≤ mcE (k + dgs v) z; omega, by show 0 + 0 + msE (k + dgs v) z + 0 + 0 ≤ msE (k + dgs v) z; omega⟩ (fun H locs hP hD hS => ?_)
  have hP : va_P D vwCl (WB ca aq q jM (nI k) (sb_cap (k + dgs v) z) (appI k v (capB (k + dgs v) z B)) ++ R) H := hP
  have hD : va_D A (WB ca aq q jM (nI k) (sb_cap (k + dgs v) z) (appI k v (capB (k + dgs v) z B)) ++ R) := hD
  refine lv_pop hx hb dJ5_append_c97b9_33 rfl ?_
  refine lv_goto (tgt := 48) hx hb dJ5_append_c97b9_34 (by decide) ?_
  refine lv_aload_n hx hb dJ5_append_c97b9_48 rfl (lv_at hl 2 rfl) ?_
  refine lv_iload_n hx hb dJ5_append_c97b9_49 rfl (lv_at hl 0 rfl) ?_
  refine va_put (D := D) (ci := 1) (v := .int (nI (k + dgs v))) (ty := .int) (C := RJ4) (T := TJ4) (N := 4) hx hb hts inJ4 tyJ4 tyJ4_ok nmJ4 hown hK hP hD hS 0 rfl rfl 3 (by decide) (hts _ q190) (fun _ h9 => h9) rfl (by decide +kernel) rfl rfl (Nat.le_of_ble_eq_true rfl) dJ5_append_c97b9_50 (fun H locs hP hD hS => ?_)
  have hP : va_P D vwCl (WB ca aq q jM (nI (k + dgs v)) (sb_cap (k + dgs v) z) (appI k v (capB (k + dgs v) z B)) ++ R) H := hP
  have hD : va_D A (WB ca aq q jM (nI (k + dgs v)) (sb_cap (k + dgs v) z) (appI k v (capB (k + dgs v) z B)) ++ R) := hD
  refine lv_aload_n hx hb dJ5_append_c97b9_53 rfl (lv_at hl 2 rfl) ?_
  refine endr_u (f := (fun bq => (WB ca aq bq jM (nI (k + dgs v)) (sb_cap (k + dgs v) z) (appI k v (capB (k + dgs v) z B)) ++ R))) q hAe hx hb hr (Or.inl ⟨_, rfl⟩) hlocks hP hD hS dJ5_append_c97b9_54 ?_ ?_
  · omega
  · omega
set_option maxHeartbeats 4000000 in
set_option maxRecDepth 100000 in
theorem m_appC (l : Launch) {D : va_G} {sl : List (String × Nat × String)} (ca : Nat → ClassId) (aq bq : Nat) (jM : Int32) (R : va_W) (sz k z ch : Nat) (B : Nat → Int32) (hn : k + 1 ≤ 100000) (hz : z ≤ 100000) (hv : ch < 128) (hFit : sb_Fit B) : Met l yJ4_append_cf468 (wm yJ4_append_cf468 cJ4_append_cf468 2 (some (.object "java/lang/StringBuilder"))) ({ frames := 5, cells := mcE (k + 1) z, slots := msE (k + 1) z, locals := 131 } : Room) (PREX [.ref aq, .int (nI ch)] D ca sl (WB ca aq bq jM (nI k) z B ++ R) sz) (QRU aq (fun bq => (WB ca aq bq jM (nI (k + 1)) (sb_cap (k + 1) z) (upd (capB (k + 1) z B) k (nI ch)) ++ R)) D (WB ca aq bq jM (nI k) z B ++ R) sz) (mcE (k + 1) z) (msE (k + 1) z) (va_A (WB ca aq bq jM (nI k) z B ++ R) sz) := by
  refine Met.ofW (cc := cJ4_append_cf468) (maxL := 2) (ret := (some (.object "java/lang/StringBuilder"))) (by decide) rfl ?_
  intro p e s m args below meth c s₁ B9 hml hv
  obtain ⟨rfl, rfl, hP, hE, hD0, hZ⟩ := hv
  have hx := B9.exec
  have hb := B9.bytes
  have hr := B9.returns
  have hts := wm_ww (atoms_spec (ws := wm yJ4_append_cf468 cJ4_append_cf468 2 (some (.object "java/lang/StringBuilder"))) B9.pre)
  have hown : s.vm.findClass RJ4 = some m.cls := findClass_of_methodNamed B9.named
  have hlocks := B9.notSynchronized
  have hK := hE.1
  have hD := hD0.self (sz := s.heap.size)
  generalize hAe : va_A (WB ca aq bq jM (nI k) z B ++ R) s.heap.size = A at hD hZ ⊢
  have hA : ∀ q : Nat, s.heap.size ≤ q → A q := fun q h => by rw [← hAe]; exact Or.inr h
  have hS : va_S A s.heap s.heap [] := va_S.rf
  have hl := lv_entry ([.ref aq, .int (nI ch)]) (n := 2) (Nat.le_of_ble_eq_true rfl)
  rw [lg_entry_eq]
  generalize (lg_sl ([.ref aq, .int (nI ch)]) ++ List.replicate (2 - (lg_sl ([.ref aq, .int (nI ch)])).length) Slot.unset).toArray = ls at hl ⊢
  have hl : lv_has ls 2 [(0, .ref aq), (1, .int (nI ch))] := hl
  change W p l e ({ frames := 5, cells := mcE (k + 1) z, slots := msE (k + 1) z, locals := 131 } : Room) s m _ below meth c s.heap [] 0 0 _ _
  have hP : va_P D vwCl (WB ca aq bq jM (nI k) z B ++ R) s.heap := hP
  refine lv_aload_n hx hb dJ4_append_cf468_0 rfl (lv_at hl 0 rfl) ?_
  refine lv_iload_n hx hb dJ4_append_cf468_1 rfl (lv_at hl 1 rfl) ?_
  refine zp_r (rest := []) (m_appC5 l ca aq bq jM R _ k z ch B hn hz hv hFit) (clsAt hK (ci := 1) rfl) ⟨hx, hb, hml, hown, hts⟩ (va_cwSU 1 hts (gSU q1285 q1697 q199 q1286 q46 q1287) rfl rfl rfl (by decide +kernel) ⟨Nat.le_of_ble_eq_true rfl, Nat.le_of_ble_eq_true rfl⟩) (va_recv hK hP (ci := 1) (q0 := 0) rfl rfl) hE hP hD hS hA hZ rfl hl.1 rfl (lv_room (Nat.le_of_ble_eq_true rfl)) dJ4_append_cf468_2 ⟨Nat.le_of_eq (Nat.zero_add _), Nat.le_of_eq (Nat.zero_add _)⟩ (fun q H locs hP hD hS => ?_)
  refine lv_pop hx hb dJ4_append_cf468_5 rfl ?_
  refine lv_aload_n hx hb dJ4_append_cf468_6 rfl (lv_at hl 0 rfl) ?_
  exact endr_u (f := (fun bq => (WB ca aq bq jM (nI (k + 1)) (sb_cap (k + 1) z) (upd (capB (k + 1) z B) k (nI ch)) ++ R))) q hAe hx hb hr (Or.inl ⟨_, rfl⟩) hlocks hP hD hS dJ4_append_cf468_7 (Nat.le_of_eq (Nat.zero_add _)) (Nat.le_of_eq (Nat.zero_add _))
set_option maxHeartbeats 4000000 in
set_option maxRecDepth 100000 in
theorem m_appI (l : Launch) {D : va_G} {sl : List (String × Nat × String)} (ca : Nat → ClassId) (aq bq : Nat) (jM : Int32) (R : va_W) (sz k z v : Nat) (B : Nat → Int32) (hn : k + dgs v ≤ 100000) (hz : z ≤ 100000) (hv : v < 100) (hFit : sb_Fit B) : Met l yJ4_append_bf812 (wm yJ4_append_bf812 cJ4_append_bf812 2 (some (.object "java/lang/StringBuilder"))) ({ frames := 5, cells := mcE (k + dgs v) z, slots := msE (k + dgs v) z, locals := 133 } : Room) (PREX [.ref aq, .int (nI v)] D ca sl (WB ca aq bq jM (nI k) z B ++ R) sz) (QRU aq (fun bq => (WB ca aq bq jM (nI (k + dgs v)) (sb_cap (k + dgs v) z) (appI k v (capB (k + dgs v) z B)) ++ R)) D (WB ca aq bq jM (nI k) z B ++ R) sz) (mcE (k + dgs v) z) (msE (k + dgs v) z) (va_A (WB ca aq bq jM (nI k) z B ++ R) sz) := by
  refine Met.ofW (cc := cJ4_append_bf812) (maxL := 2) (ret := (some (.object "java/lang/StringBuilder"))) (by decide) rfl ?_
  intro p e s m args below meth c s₁ B9 hml hv
  obtain ⟨rfl, rfl, hP, hE, hD0, hZ⟩ := hv
  have hx := B9.exec
  have hb := B9.bytes
  have hr := B9.returns
  have hts := wm_ww (atoms_spec (ws := wm yJ4_append_bf812 cJ4_append_bf812 2 (some (.object "java/lang/StringBuilder"))) B9.pre)
  have hown : s.vm.findClass RJ4 = some m.cls := findClass_of_methodNamed B9.named
  have hlocks := B9.notSynchronized
  have hK := hE.1
  have hD := hD0.self (sz := s.heap.size)
  generalize hAe : va_A (WB ca aq bq jM (nI k) z B ++ R) s.heap.size = A at hD hZ ⊢
  have hA : ∀ q : Nat, s.heap.size ≤ q → A q := fun q h => by rw [← hAe]; exact Or.inr h
  have hS : va_S A s.heap s.heap [] := va_S.rf
  have hl := lv_entry ([.ref aq, .int (nI v)]) (n := 2) (Nat.le_of_ble_eq_true rfl)
  rw [lg_entry_eq]
  generalize (lg_sl ([.ref aq, .int (nI v)]) ++ List.replicate (2 - (lg_sl ([.ref aq, .int (nI v)])).length) Slot.unset).toArray = ls at hl ⊢
  have hl : lv_has ls 2 [(0, .ref aq), (1, .int (nI v))] := hl
  change W p l e ({ frames := 5, cells := mcE (k + dgs v) z, slots := msE (k + dgs v) z, locals := 133 } : Room) s m _ below meth c s.heap [] 0 0 _ _
  have hP : va_P D vwCl (WB ca aq bq jM (nI k) z B ++ R) s.heap := hP
  refine lv_aload_n hx hb dJ4_append_bf812_0 rfl (lv_at hl 0 rfl) ?_
  refine lv_iload_n hx hb dJ4_append_bf812_1 rfl (lv_at hl 1 rfl) ?_
  refine zp_r (rest := []) (m_appI5 l ca aq bq jM R _ k z v B hn hz hv hFit) (clsAt hK (ci := 1) rfl) ⟨hx, hb, hml, hown, hts⟩ (va_cwSU 1 hts (gSU q1162 q1696 q199 q1163 q46 q1164) rfl rfl rfl (by decide +kernel) ⟨Nat.le_of_ble_eq_true rfl, Nat.le_of_ble_eq_true rfl⟩) (va_recv hK hP (ci := 1) (q0 := 0) rfl rfl) hE hP hD hS hA hZ rfl hl.1 rfl (lv_room (Nat.le_of_ble_eq_true rfl)) dJ4_append_bf812_2 ⟨Nat.le_of_eq (Nat.zero_add _), Nat.le_of_eq (Nat.zero_add _)⟩ (fun q H locs hP hD hS => ?_)
  refine lv_pop hx hb dJ4_append_bf812_5 rfl ?_
  refine lv_aload_n hx hb dJ4_append_bf812_6 rfl (lv_at hl 0 rfl) ?_
  exact endr_u (f := (fun bq => (WB ca aq bq jM (nI (k + dgs v)) (sb_cap (k + dgs v) z) (appI k v (capB (k + dgs v) z B)) ++ R))) q hAe hx hb hr (Or.inl ⟨_, rfl⟩) hlocks hP hD hS dJ4_append_bf812_7 (Nat.le_of_eq (Nat.zero_add _)) (Nat.le_of_eq (Nat.zero_add _))
