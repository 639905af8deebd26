/-! WRITEFILE, THE REFERENCE'S -/
theorem M_isFile_in {i f : Nat} (h : i < f) (hf : f ≤ 40) : f_M_isFile (nI i) (nI f) = some 1 := by
  unfold f_M_isFile f_M_in
  have e : nI f - nI 1 = nI (f - 1) := pk_sub (by omega)
  simp (disch := omega) only [l0, l1, e, nI_ltI, nI_leI, if_pos, if_neg, if_true, if_false, Option.bind_some]
  first | rfl | decide
theorem tail_P {D : va_G} {z : Nat × va_E} {w : va_W} {H : Heap} (h : va_P D vwCl (z :: w) H) : va_P D vwCl w H := va_P_mem.mpr fun y hy => va_P_mem.mp h y (List.mem_cons_of_mem _ hy)
theorem tail_D {A : Nat → Prop} {z : Nat × va_E} {w : va_W} (h : va_D A (z :: w)) : va_D A w := by
  rw [va_D_iff] at h ⊢
  refine ⟨?_, fun y hy => h.2 y (List.mem_cons_of_mem _ hy)⟩
  have h1 := h.1
  simp only [List.map_cons, List.nodup_cons] at h1
  exact h1.2
def QIU {S : Type} (P : S → Prop) (r : Int32) (f : S → va_W) (D : va_G) (w : va_W) (sz : Nat) : Array Value → State → Outcome → State → Prop := va_Qi (fun (r' : Int32) (u : S) => r' = r ∧ P u) (fun u t => BW D (f u) w sz t) (va_A w sz)
section QIUS
variable {p : Program} {l : Launch} {e : Env} {Rm : Room} {s : State} {m : MethodId} {args : Array Value} {below : List Frame} {meth : Method} {c : Code} {H : Heap} {locs : List Loc} {cells slots MC MS : Nat} {Q : State → Prop}
variable {cc : ByteArray} {pc : Nat} {ls : Array Slot} {D : va_G}
theorem end_iu {S : Type} (u : S) {P : S → Prop} {f : S → va_W} {v : Int32} {ty : FieldType} {w0 : va_W} {A : Nat → Prop} (hAe : va_A w0 s.heap.size = A) (hQm : MQ below (QIU P v f D w0 s.heap.size) args s MC MS A = Q) (hx : p.tables.exec = Jvm.exec) (hb : c.code = cc) (hr : meth.sig.returnType = some ty) (hlocks : meth.locks = false) (hn : narrow ty (.int v) = .int v) (hPu : P u) (hP : va_P D vwCl (f u) H) (hD : va_D A (f u)) (hS : va_S A s.heap H locs) (hdg : decode cc pc = .ok (.ireturn, 1)) (hc : cells ≤ MC) (hs : slots ≤ MS) :
    W p l e Rm s m args below meth c H locs cells slots Q (F0 m pc ls [.int v]) := by
  subst hQm
  subst hAe
  exact W.widen hc hs (W.zret (v := v) hx hb hr hn (fun t ht hW => ⟨⟨v, u, rfl, ⟨rfl, hPu⟩, by rw [ht]; exact hP, hD⟩, hS.F ht⟩) hS.2.2 hdg hlocks)
end QIUS
theorem strlen_ok {n : Nat} : f_B_J0_length_8abf5 n = some (nI n) := by
  unfold f_B_J0_length_8abf5 f_B_J0_coder_7d493
  rw [Option.bind_some, sb_shr0]
set_option maxHeartbeats 8000000 in
set_option maxRecDepth 100000 in
theorem m_M_writeFile_ok (l : Launch) {D : va_G} {sl : List (String × Nat × String)} (ca : Nat → ClassId) (ad : Nat → Nat) (lq : Nat) (mcode : Int32) (mday : Int32) (mown : Int32) (mquot : Nat → Int32) (mprom : Nat → Int32) (mfiles : Int32) (mowner : Nat → Int32) (mlinks : Nat → Int32) (mblocks : Nat → Int32) (mvals : Nat → Int32) (msnaps : Int32) (mranks : Nat → Int32) (mkept : Nat → Int32) (mshot : Nat → Int32) (mwas : Nat → Int32) (mholds : Int32) (mheld : Nat → Int32) (mends : Nat → Int32) (mopen : Nat → Int32) (mentr : Int32) (mkinds : Nat → Int32) (misop : Int32) (mfilesT : Int32) (mentrT : Int32) (mpromT : Nat → Int32) (mlinksT : Nat → Int32) (mblocksT : Nat → Int32) (mvalsT : Nat → Int32) (R : va_W) (sz : Nat) (i f L : Nat) (blk : Nat → Nat) (hi : i < f) (hf : f ≤ 40) (hNF : mfiles = nI f) (hNL : mlinks i = nI L) (hL : L < 10) (hNC : ∀ k, k < 16 → mblocks (16 * i + k) = nI (blk k)) (hblk : ∀ k, k < 16 → blk k ≤ 64) : Met l yX4_writeFile (wm yX4_writeFile cX4_writeFile 4 (some .int)) ({ frames := 40, cells := 310, slots := 800, locals := 900 } : Room) (PREX [.ref (ad 0), .int (nI i)] D ca sl (WM ca ad lq mcode mday mown mquot mprom mfiles mowner mlinks mblocks mvals msnaps mranks mkept mshot mwas mholds mheld mends mopen mentr mkinds misop mfilesT mentrT mpromT mlinksT mblocksT mvalsT ++ R) sz) (QIU (fun u : Nat × Nat × (Nat → Int32) => Same (rowT i L blk 16).2 (rowT i L blk 16).1 u.2.2) (nI (rowT i L blk 16).2) (fun u : Nat × Nat × (Nat → Int32) => ((WM ca ad u.1 (nI 0) mday mown mquot mprom mfiles mowner mlinks mblocks mvals msnaps mranks mkept mshot mwas mholds mheld mends mopen mentr mkinds misop mfilesT mentrT mpromT mlinksT mblocksT mvalsT) ++ (WS ca u.1 u.2.1 (rowT i L blk 16).2 u.2.2 ++ R))) D (WM ca ad lq mcode mday mown mquot mprom mfiles mowner mlinks mblocks mvals msnaps mranks mkept mshot mwas mholds mheld mends mopen mentr mkinds misop mfilesT mentrT mpromT mlinksT mblocksT mvalsT ++ R) sz) 310 800 (va_A (WM ca ad lq mcode mday mown mquot mprom mfiles mowner mlinks mblocks mvals msnaps mranks mkept mshot mwas mholds mheld mends mopen mentr mkinds misop mfilesT mentrT mpromT mlinksT mblocksT mvalsT ++ R) sz) := by
  subst hNF
  refine Met.ofW (cc := cX4_writeFile) (maxL := 4) (ret := (some .int)) (by decide) rfl ?_
  intro p e s m args below meth c s₁ B9 hml hv
  obtain ⟨rfl, rfl, hP, hE, hD0, hZ⟩ := hv
  have hx := B9.exec
  have hb := B9.bytes
  have hr := B9.returns
  have hts := wm_ww (atoms_spec (ws := wm yX4_writeFile cX4_writeFile 4 (some .int)) B9.pre)
  have hown : s.vm.findClass RX4 = some m.cls := findClass_of_methodNamed B9.named
  have hlocks := B9.notSynchronized
  have hK := hE.1
  have hD := hD0.self (sz := s.heap.size)
  generalize hAe : va_A (WM ca ad lq mcode mday mown mquot mprom (nI f) mowner mlinks mblocks mvals msnaps mranks mkept mshot mwas mholds mheld mends mopen mentr mkinds misop mfilesT mentrT mpromT mlinksT mblocksT mvalsT ++ R) s.heap.size = A at hD hZ ⊢
  have hA : ∀ q : Nat, s.heap.size ≤ q → A q := fun q h => by rw [← hAe]; exact Or.inr h
  have hS : va_S A s.heap s.heap [] := va_S.rf
  have hl := lv_entry ([.ref (ad 0), .int (nI i)]) (n := 4) (Nat.le_of_ble_eq_true rfl)
  rw [lg_entry_eq]
  generalize (lg_sl ([.ref (ad 0), .int (nI i)]) ++ List.replicate (4 - (lg_sl ([.ref (ad 0), .int (nI i)])).length) Slot.unset).toArray = ls at hl ⊢
  have hl : lv_has ls 4 [(0, .ref (ad 0)), (1, .int (nI i))] := hl
  change W p l e ({ frames := 40, cells := 310, slots := 800, locals := 900 } : Room) s m _ below meth c s.heap [] 0 0 _ _
  generalize hQm : MQ below (QIU (fun u : Nat × Nat × (Nat → Int32) => Same (rowT i L blk 16).2 (rowT i L blk 16).1 u.2.2) (nI (rowT i L blk 16).2) (fun u : Nat × Nat × (Nat → Int32) => ((WM ca ad u.1 (nI 0) mday mown mquot mprom (nI f) mowner mlinks mblocks mvals msnaps mranks mkept mshot mwas mholds mheld mends mopen mentr mkinds misop mfilesT mentrT mpromT mlinksT mblocksT mvalsT) ++ (WS ca u.1 u.2.1 (rowT i L blk 16).2 u.2.2 ++ R))) D (WM ca ad lq mcode mday mown mquot mprom (nI f) mowner mlinks mblocks mvals msnaps mranks mkept mshot mwas mholds mheld mends mopen mentr mkinds misop mfilesT mentrT mpromT mlinksT mblocksT mvalsT ++ R) s.heap.size) _ s 310 800 A = Qm
  have hP : va_P D vwCl (WM ca ad lq mcode mday mown mquot mprom (nI f) mowner mlinks mblocks mvals msnaps mranks mkept mshot mwas mholds mheld mends mopen mentr mkinds misop mfilesT mentrT mpromT mlinksT mblocksT mvalsT ++ R) s.heap := hP
  generalize hae : ([.ref (ad 0), .int (nI i)] : List Value).toArray = args at hts hQm ⊢
  have LP : ∀ (h0 : Nat) (t k : Nat), k + t = 16 → ∀ (q z : Nat) (B : Nat → Int32) (H : Heap) (locs : List Loc) (ls : Array Slot), Same (rowT i L blk k).2 (rowT i L blk k).1 B → sb_Fit B → (rowT i L blk k).2 ≤ z → z ≤ 300 → va_P D vwCl (WB ca h0 q 0 (nI (rowT i L blk k).2) z B ++ ((WM ca ad lq (nI 0) mday mown mquot mprom (nI f) mowner mlinks mblocks mvals msnaps mranks mkept mshot mwas mholds mheld mends mopen mentr mkinds misop mfilesT mentrT mpromT mlinksT mblocksT mvalsT) ++ R)) H → va_D A (WB ca h0 q 0 (nI (rowT i L blk k).2) z B ++ ((WM ca ad lq (nI 0) mday mown mquot mprom (nI f) mowner mlinks mblocks mvals msnaps mranks mkept mshot mwas mholds mheld mends mopen mentr mkinds misop mfilesT mentrT mpromT mlinksT mblocksT mvalsT) ++ R)) → va_S A s.heap H locs → lv_has ls 4 [(3, .int (nI k)), (2, .ref h0), (0, .ref (ad 0)), (1, .int (nI i))] → W p l e ({ frames := 40, cells := 310, slots := 800, locals := 900 } : Room) s m args below meth c H locs (2 + z) (20 + 2 * z) Qm (F0 m 49 ls []) := by
    intro h0 t
    induction t with
    | zero =>
      intro k hk q z B H locs ls hT hF hm hz hP hD hS hl
      have e : k = 16 := by omega
      subst e
      have hle := rowT_le i L blk 16
      refine lv_iload_n hx hb dX4_writeFile_49 rfl (lv_at hl 0 rfl) ?_
      refine lv_bipush (v := nI 16) hx hb dX4_writeFile_50 (by decide) ?_
      refine lv_icmp_ge (tgt := 107) hx hb dX4_writeFile_52 (by decide) (fun c4 => ?_) (fun c4 => absurd (nI_le (Nat.le_refl 16) (by omega)) c4)
      refine lv_aload_n hx hb dX4_writeFile_107 rfl (lv_at hl 2 rfl) ?_
      refine lv_aload_n hx hb dX4_writeFile_108 rfl (lv_at hl 1 rfl) ?_
      refine zv_b (rest := [.ref (ad 0)]) (m_toString l ca h0 q 0 _ _ (rowT i L blk 16).2 z B hm (by omega) hF) ⟨hx, hb, hml, hown, hts⟩ (cwV 0 hts (gV q1664 q1184 q1185 q47 q1186) rfl rfl rfl (by decide +kernel) ⟨by show 5 + 1 ≤ 40; decide, by show 8 + (1 + 11) + 280 ≤ 900; decide⟩) (va_recv hK hP (ci := 1) (q0 := 0) rfl rfl) hE hP hD hS hA hZ rfl hl.1 rfl (lv_room (Nat.le_of_ble_eq_true rfl)) dX4_writeFile_109 ⟨by show 2 + z + 2 ≤ 310; omega, by show 20 + 2 * z + ((rowT i L blk 16).2 + 4) ≤ 800; omega⟩ (fun ra h1 H locs hP hD hS => ?_)
      replace hP := (tail_P (tail_P hP)).perm (List.Perm.swap _ _ _)
      replace hD := (tail_D (tail_D hD)).perm (List.Perm.swap _ _ _)
      have hP : va_P D vwCl (WS ca h1 ra (rowT i L blk 16).2 (cpR (rowT i L blk 16).2 z B) ++ ((WM ca ad lq (nI 0) mday mown mquot mprom (nI f) mowner mlinks mblocks mvals msnaps mranks mkept mshot mwas mholds mheld mends mopen mentr mkinds misop mfilesT mentrT mpromT mlinksT mblocksT mvalsT) ++ R)) H := hP
      have hD : va_D A (WS ca h1 ra (rowT i L blk 16).2 (cpR (rowT i L blk 16).2 z B) ++ ((WM ca ad lq (nI 0) mday mown mquot mprom (nI f) mowner mlinks mblocks mvals msnaps mranks mkept mshot mwas mholds mheld mends mopen mentr mkinds misop mfilesT mentrT mpromT mlinksT mblocksT mvalsT) ++ R)) := hD
      refine va_put (D := D) (ci := 8) (v := .ref h1) (ty := (.object "java/lang/String")) (C := RX4) (T := TX4) (N := 29) hx hb hts inX4 tyX4 tyX4_ok nmX4 hown hK hP hD hS 2 rfl rfl 28 (by decide) (hts _ q1357) (fun _ h9 => h9) rfl (by decide +kernel) rfl rfl (Nat.le_of_ble_eq_true rfl) dX4_writeFile_112 (fun H locs hP hD hS => ?_)
      have hP : va_P D vwCl (WS ca h1 ra (rowT i L blk 16).2 (cpR (rowT i L blk 16).2 z B) ++ ((WM ca ad h1 (nI 0) mday mown mquot mprom (nI f) mowner mlinks mblocks mvals msnaps mranks mkept mshot mwas mholds mheld mends mopen mentr mkinds misop mfilesT mentrT mpromT mlinksT mblocksT mvalsT) ++ R)) H := hP
      have hD : va_D A (WS ca h1 ra (rowT i L blk 16).2 (cpR (rowT i L blk 16).2 z B) ++ ((WM ca ad h1 (nI 0) mday mown mquot mprom (nI f) mowner mlinks mblocks mvals msnaps mranks mkept mshot mwas mholds mheld mends mopen mentr mkinds misop mfilesT mentrT mpromT mlinksT mblocksT mvalsT) ++ R)) := hD
      refine lv_aload_n hx hb dX4_writeFile_115 rfl (lv_at hl 2 rfl) ?_
      refine va_get (D := D) (ci := 8) (v := .ref h1) (C := RX4) (T := TX4) (N := 29) hx hb hts inX4 hown hK hP 2 rfl rfl 28 (by decide) (hts _ q1357) (fun _ h9 => h9) rfl dX4_writeFile_116 ?_
      refine zv_i (rest := []) (m_B_J0_length_8abf5 l ca h1 ra (rowT i L blk 16).2 (cpR (rowT i L blk 16).2 z B) _ _ (nI (rowT i L blk 16).2) strlen_ok) ⟨hx, hb, hml, hown, hts⟩ (cwV 0 hts (gV q1665 q1116 q1117 q48 q1118) rfl rfl rfl (by decide +kernel) ⟨by show _ ≤ 40; decide, by show _ ≤ 900; decide⟩) (va_recv hK hP (ci := 0) (q0 := 0) rfl rfl) hE hP hD hS hA hZ rfl hl.1 rfl (lv_room (Nat.le_of_ble_eq_true rfl)) dX4_writeFile_119 ⟨by show 2 + z + 2 + 0 ≤ 310; omega, by show 20 + 2 * z + ((rowT i L blk 16).2 + 4) + 0 ≤ 800; omega⟩ (fun H locs hP hD hS => ?_)
      replace hP := hP.perm (new_perm (WM ca ad h1 (nI 0) mday mown mquot mprom (nI f) mowner mlinks mblocks mvals msnaps mranks mkept mshot mwas mholds mheld mends mopen mentr mkinds misop mfilesT mentrT mpromT mlinksT mblocksT mvalsT) (WS ca h1 ra (rowT i L blk 16).2 (cpR (rowT i L blk 16).2 z B)) R).symm
      replace hD := hD.perm (new_perm (WM ca ad h1 (nI 0) mday mown mquot mprom (nI f) mowner mlinks mblocks mvals msnaps mranks mkept mshot mwas mholds mheld mends mopen mentr mkinds misop mfilesT mentrT mpromT mlinksT mblocksT mvalsT) (WS ca h1 ra (rowT i L blk 16).2 (cpR (rowT i L blk 16).2 z B)) R).symm
      refine end_iu (h1, ra, cpR (rowT i L blk 16).2 z B) hAe hQm hx hb hr hlocks rfl (cpR_same hT) hP hD hS dX4_writeFile_122 ?_ ?_
      · show 2 + z + 2 + 0 ≤ 310; omega
      · show 20 + 2 * z + ((rowT i L blk 16).2 + 4) + 0 ≤ 800; omega
    | succ t ih =>
      intro k hk q z B H locs ls hT hF hm hz hP hD hS hl
      have hk16 : k < 16 := by omega
      have hle := rowT_le i L blk k
      have hbk := hblk k hk16
      have hnc := hNC k hk16
      refine lv_iload_n hx hb dX4_writeFile_49 rfl (lv_at hl 0 rfl) ?_
      refine lv_bipush (v := nI 16) hx hb dX4_writeFile_50 (by decide) ?_
      refine lv_icmp_ge (tgt := 107) hx hb dX4_writeFile_52 (by decide) (fun c4 => absurd c4 (nI_ge (by omega) (by omega))) (fun c4 => ?_)
      refine lv_aload_n hx hb dX4_writeFile_55 rfl (lv_at hl 2 rfl) ?_
      refine va_get (D := D) (ci := 8) (v := .ref (ad 5)) (C := RX4) (T := TX4) (N := 29) hx hb hts inX4 hown hK hP 2 rfl rfl 8 (by decide) (hts _ q1337) (fun _ h9 => h9) rfl dX4_writeFile_56 ?_
      refine lv_bipush (v := nI 16) hx hb dX4_writeFile_59 (by decide) ?_
      refine lv_iload_n hx hb dX4_writeFile_61 rfl (lv_at hl 3 rfl) ?_
      refine lv_imul hx hb dX4_writeFile_62 ?_
      rw [pk_mul]
      refine lv_iload_n hx hb dX4_writeFile_63 rfl (lv_at hl 0 rfl) ?_
      refine lv_iadd hx hb dX4_writeFile_64 ?_
      rw [nI_add]
      refine va_iald (D := D) hx hb hK hP 7 0 rfl rfl (vp_in_nI (by omega) (by omega)) dX4_writeFile_65 ?_
      rw [nI_clamp (by omega), hnc]
      refine lv_if_le (tgt := 101) hx hb dX4_writeFile_66 (by decide) (fun c5 => ?_) (fun c5 => ?_)
      · have e0 : blk k = 0 := by
          have := (nI_leI (a := blk k) (b := 0) (by omega) (by omega)).mp c5
          omega
        have er : rowT i L blk (k + 1) = rowT i L blk k := if_pos e0
        refine lv_iinc (v := nI (k + 1)) (lv' := [(3, .int (nI (k + 1))), (2, .ref h0), (0, .ref (ad 0)), (1, .int (nI i))]) hx hb dX4_writeFile_101 hl (k := 0) rfl (nI_1 k) (by decide) rfl (fun ls hl => ?_)
        refine lv_goto (tgt := 49) hx hb dX4_writeFile_104 (by decide) ?_
        exact ih (k + 1) (by omega) q z B _ _ _ (by rw [er]; exact hT) hF (by rw [er]; exact hm) hz (by rw [er]; exact hP) (by rw [er]; exact hD) hS hl
      · have e0 : blk k ≠ 0 := fun h => c5 ((nI_leI (a := blk k) (b := 0) (by omega) (by omega)).mpr (by omega))
        obtain ⟨b, hbe⟩ : ∃ b, blk k = b + 1 := ⟨blk k - 1, by omega⟩
        have hb64 : b < 100 := by omega
        have hkk : k < 100 := by omega
        have hd3 := dgs_le k
        have hd4 := dgs_le b
        have er : rowT i L blk (k + 1) = apI b (ap 58 (apI k (ap 32 (rowT i L blk k)))) := by
          show rowS k (blk k) (rowT i L blk k) = _
          unfold rowS
          rw [if_neg e0, hbe]
          rfl
        generalize rowT i L blk k = r at hT hm hP hD er hle
        obtain ⟨T, n⟩ := r
        have hT : Same n T B := hT
        have hm : n ≤ z := hm
        have hle : n ≤ 5 + 6 * k := hle
        refine lv_aload_n hx hb dX4_writeFile_69 rfl (lv_at hl 1 rfl) ?_
        refine lv_bipush (v := nI 32) hx hb dX4_writeFile_70 (by decide) ?_
        refine sb_apC ca h0 q 0 _ (ch := 32) hT hF hm hz (by omega) (by omega) ⟨hx, hb, hml, hown, hts⟩ q1663 ⟨by show _ ≤ 40; decide, by show _ ≤ 900; decide⟩ ⟨by show 2 + 300 ≤ 310; omega, by show 20 + 600 ≤ 800; omega⟩ hE hP hD hS hA hZ hl.1 (Nat.le_of_ble_eq_true rfl) dX4_writeFile_72 (fun q4 z4 B4 H locs hT4 hF4 hm4 hz4 hP hD hS => ?_)
        have hP : va_P D vwCl (WB ca h0 q4 0 (nI (n + 1)) z4 B4 ++ ((WM ca ad lq (nI 0) mday mown mquot mprom (nI f) mowner mlinks mblocks mvals msnaps mranks mkept mshot mwas mholds mheld mends mopen mentr mkinds misop mfilesT mentrT mpromT mlinksT mblocksT mvalsT) ++ R)) H := hP
        have hD : va_D A (WB ca h0 q4 0 (nI (n + 1)) z4 B4 ++ ((WM ca ad lq (nI 0) mday mown mquot mprom (nI f) mowner mlinks mblocks mvals msnaps mranks mkept mshot mwas mholds mheld mends mopen mentr mkinds misop mfilesT mentrT mpromT mlinksT mblocksT mvalsT) ++ R)) := hD
        refine lv_iload_n hx hb dX4_writeFile_75 rfl (lv_at hl 0 rfl) ?_
        refine sb_apI ca h0 q4 0 _ (v := k) hT4 hF4 hm4 hz4 (by omega) hkk ⟨hx, hb, hml, hown, hts⟩ q1662 ⟨by show _ ≤ 40; decide, by show _ ≤ 900; decide⟩ ⟨by show 2 + 300 ≤ 310; omega, by show 20 + 600 ≤ 800; omega⟩ hE hP hD hS hA hZ hl.1 (Nat.le_of_ble_eq_true rfl) dX4_writeFile_76 (fun q5 z5 B5 H locs hT5 hF5 hm5 hz5 hP hD hS => ?_)
        have hP : va_P D vwCl (WB ca h0 q5 0 (nI (n + 1 + dgs k)) z5 B5 ++ ((WM ca ad lq (nI 0) mday mown mquot mprom (nI f) mowner mlinks mblocks mvals msnaps mranks mkept mshot mwas mholds mheld mends mopen mentr mkinds misop mfilesT mentrT mpromT mlinksT mblocksT mvalsT) ++ R)) H := hP
        have hD : va_D A (WB ca h0 q5 0 (nI (n + 1 + dgs k)) z5 B5 ++ ((WM ca ad lq (nI 0) mday mown mquot mprom (nI f) mowner mlinks mblocks mvals msnaps mranks mkept mshot mwas mholds mheld mends mopen mentr mkinds misop mfilesT mentrT mpromT mlinksT mblocksT mvalsT) ++ R)) := hD
        refine lv_bipush (v := nI 58) hx hb dX4_writeFile_79 (by decide) ?_
        refine sb_apC ca h0 q5 0 _ (ch := 58) hT5 hF5 hm5 hz5 (by omega) (by omega) ⟨hx, hb, hml, hown, hts⟩ q1663 ⟨by show _ ≤ 40; decide, by show _ ≤ 900; decide⟩ ⟨by show 2 + 300 ≤ 310; omega, by show 20 + 600 ≤ 800; omega⟩ hE hP hD hS hA hZ hl.1 (Nat.le_of_ble_eq_true rfl) dX4_writeFile_81 (fun q6 z6 B6 H locs hT6 hF6 hm6 hz6 hP hD hS => ?_)
        have hP : va_P D vwCl (WB ca h0 q6 0 (nI (n + 1 + dgs k + 1)) z6 B6 ++ ((WM ca ad lq (nI 0) mday mown mquot mprom (nI f) mowner mlinks mblocks mvals msnaps mranks mkept mshot mwas mholds mheld mends mopen mentr mkinds misop mfilesT mentrT mpromT mlinksT mblocksT mvalsT) ++ R)) H := hP
        have hD : va_D A (WB ca h0 q6 0 (nI (n + 1 + dgs k + 1)) z6 B6 ++ ((WM ca ad lq (nI 0) mday mown mquot mprom (nI f) mowner mlinks mblocks mvals msnaps mranks mkept mshot mwas mholds mheld mends mopen mentr mkinds misop mfilesT mentrT mpromT mlinksT mblocksT mvalsT) ++ R)) := hD
        refine lv_aload_n hx hb dX4_writeFile_84 rfl (lv_at hl 2 rfl) ?_
        refine va_get (D := D) (ci := 8) (v := .ref (ad 5)) (C := RX4) (T := TX4) (N := 29) hx hb hts inX4 hown hK hP 2 rfl rfl 8 (by decide) (hts _ q1337) (fun _ h9 => h9) rfl dX4_writeFile_85 ?_
        refine lv_bipush (v := nI 16) hx hb dX4_writeFile_88 (by decide) ?_
        refine lv_iload_n hx hb dX4_writeFile_90 rfl (lv_at hl 3 rfl) ?_
        refine lv_imul hx hb dX4_writeFile_91 ?_
        rw [pk_mul]
        refine lv_iload_n hx hb dX4_writeFile_92 rfl (lv_at hl 0 rfl) ?_
        refine lv_iadd hx hb dX4_writeFile_93 ?_
        rw [nI_add]
        refine va_iald (D := D) hx hb hK hP 7 0 rfl rfl (vp_in_nI (by omega) (by omega)) dX4_writeFile_94 ?_
        rw [nI_clamp (by omega), hnc, hbe]
        refine lv_iconst (v := 1) hx hb dX4_writeFile_95 (by decide) ?_
        refine lv_isub hx hb dX4_writeFile_96 ?_
        rw [nI_pred]
        refine sb_apI ca h0 q6 0 _ (v := b) hT6 hF6 hm6 hz6 (by omega) hb64 ⟨hx, hb, hml, hown, hts⟩ q1662 ⟨by show _ ≤ 40; decide, by show _ ≤ 900; decide⟩ ⟨by show 2 + 300 ≤ 310; omega, by show 20 + 600 ≤ 800; omega⟩ hE hP hD hS hA hZ hl.1 (Nat.le_of_ble_eq_true rfl) dX4_writeFile_97 (fun q7 z7 B7 H locs hT7 hF7 hm7 hz7 hP hD hS => ?_)
        have hP : va_P D vwCl (WB ca h0 q7 0 (nI (n + 1 + dgs k + 1 + dgs b)) z7 B7 ++ ((WM ca ad lq (nI 0) mday mown mquot mprom (nI f) mowner mlinks mblocks mvals msnaps mranks mkept mshot mwas mholds mheld mends mopen mentr mkinds misop mfilesT mentrT mpromT mlinksT mblocksT mvalsT) ++ R)) H := hP
        have hD : va_D A (WB ca h0 q7 0 (nI (n + 1 + dgs k + 1 + dgs b)) z7 B7 ++ ((WM ca ad lq (nI 0) mday mown mquot mprom (nI f) mowner mlinks mblocks mvals msnaps mranks mkept mshot mwas mholds mheld mends mopen mentr mkinds misop mfilesT mentrT mpromT mlinksT mblocksT mvalsT) ++ R)) := hD
        refine lv_pop hx hb dX4_writeFile_100 rfl ?_
        refine lv_iinc (v := nI (k + 1)) (lv' := [(3, .int (nI (k + 1))), (2, .ref h0), (0, .ref (ad 0)), (1, .int (nI i))]) hx hb dX4_writeFile_101 hl (k := 0) rfl (nI_1 k) (by decide) rfl (fun ls hl => ?_)
        refine lv_goto (tgt := 49) hx hb dX4_writeFile_104 (by decide) ?_
        exact ih (k + 1) (by omega) q7 z7 B7 _ _ _ (by rw [er]; exact hT7) hF7 (by rw [er]; exact hm7) hz7 (by rw [er]; exact hP) (by rw [er]; exact hD) hS hl
  have hi40 : i < 100 := by omega
  have hL100 : L < 100 := by omega
  have hd1 := dgs_le i
  have hd2 := dgs_le L
  refine lv_aload_n hx hb dX4_writeFile_0 rfl (lv_at hl 0 rfl) ?_
  refine lv_iconst (v := nI 0) hx hb dX4_writeFile_1 (by decide) ?_
  refine va_put (D := D) (ci := 8) (v := .int (nI 0)) (ty := .int) (C := RX4) (T := TX4) (N := 29) hx hb hts inX4 tyX4 tyX4_ok nmX4 hown hK hP hD hS 0 rfl rfl 0 (by decide) (hts _ q1329) (fun _ h9 => h9) rfl (by decide +kernel) rfl rfl (Nat.le_of_ble_eq_true rfl) dX4_writeFile_2 (fun H locs hP hD hS => ?_)
  have hP : va_P D vwCl (WM ca ad lq (nI 0) mday mown mquot mprom (nI f) mowner mlinks mblocks mvals msnaps mranks mkept mshot mwas mholds mheld mends mopen mentr mkinds misop mfilesT mentrT mpromT mlinksT mblocksT mvalsT ++ R) H := hP
  have hD : va_D A (WM ca ad lq (nI 0) mday mown mquot mprom (nI f) mowner mlinks mblocks mvals msnaps mranks mkept mshot mwas mholds mheld mends mopen mentr mkinds misop mfilesT mentrT mpromT mlinksT mblocksT mvalsT ++ R) := hD
  refine lv_aload_n hx hb dX4_writeFile_5 rfl (lv_at hl 0 rfl) ?_
  refine lv_iload_n hx hb dX4_writeFile_6 rfl (lv_at hl 1 rfl) ?_
  refine call_vi (rest := []) (m_M_isFile l ca ad lq (nI 0) mday mown mquot mprom (nI f) mowner mlinks mblocks mvals msnaps mranks mkept mshot mwas mholds mheld mends mopen mentr mkinds misop mfilesT mentrT mpromT mlinksT mblocksT mvalsT R _ (nI i) 1 (M_isFile_in hi hf)) ⟨hx, hb, hml, hown, hts⟩ (cwV 1 hts (gV q1452 q1454 q26 q50 q1455) rfl rfl rfl (by decide +kernel) ⟨by show _ ≤ 40; decide, by show _ ≤ 900; decide⟩) (va_recv hK hP (ci := 8) (q0 := 0) rfl rfl) hE hP hD hS hA rfl hl.1 rfl (lv_room (Nat.le_of_ble_eq_true rfl)) dX4_writeFile_7 ⟨by show 0 + 0 ≤ 310; omega, by show 0 + 0 ≤ 800; omega⟩ (fun H locs hP hD hS => ?_)
  refine lv_if_ne (tgt := 19) hx hb dX4_writeFile_10 (by decide) (fun c1 => ?_) (fun c1 => absurd c1 (by decide))
  refine va_new (D := D) (ci := 1) (fs := [.null, .int 0, .int 0, .int 0]) (C := RJ4) (T := TJ4) (N := 4) hx hb hts inJ4 tyJ4 tyJ4_ok hown (hts _ q1660) (hts _ q169) (hts _ q47) hK hP hD hS hA rfl (fun j hj => by match j, hj with | 0, _ => rfl | 1, _ => rfl | 2, _ => rfl | 3, _ => rfl) (by show 0 + 0 + 1 ≤ 310; omega) (by show 0 + 0 + 4 ≤ 800; omega) dX4_writeFile_19 (fun h0 H hP hD hS => ?_)
  replace hP := va_P.swap hP
  replace hD := va_D.swap hD
  refine lv_dup hx hb dX4_writeFile_22 rfl ?_
  refine call_newZ (rest := [.ref h0]) (wx := (WM ca ad lq (nI 0) mday mown mquot mprom (nI f) mowner mlinks mblocks mvals msnaps mranks mkept mshot mwas mholds mheld mends mopen mentr mkinds misop mfilesT mentrT mpromT mlinksT mblocksT mvalsT)) (wn := [(h0, .inr (1, [.null, .int 0, .int 0, .int 0]))]) (wr := R) (c_J4_init l (ca := ca) h0 ((WM ca ad lq (nI 0) mday mown mquot mprom (nI f) mowner mlinks mblocks mvals msnaps mranks mkept mshot mwas mholds mheld mends mopen mentr mkinds misop mfilesT mentrT mpromT mlinksT mblocksT mvalsT) ++ R) _) ⟨hx, hb, hml, hown, hts⟩ (cwI 0 hts (gM q172) rfl rfl rfl (hts _ q47) (hts _ q1661) (hts _ q171) rfl (by decide +kernel) ⟨by show _ ≤ 40; decide, by show _ ≤ 900; decide⟩) hE hP hD hS hA hZ rfl hl.1 rfl (lv_room (Nat.le_of_ble_eq_true rfl)) dX4_writeFile_23 ⟨by show 0 + 0 + 1 + 1 ≤ 310; omega, by show 0 + 0 + 4 + 16 ≤ 800; omega⟩ (fun u H locs hP hD hS => ?_)
  replace hP := hP.perm (new_perm (WM ca ad lq (nI 0) mday mown mquot mprom (nI f) mowner mlinks mblocks mvals msnaps mranks mkept mshot mwas mholds mheld mends mopen mentr mkinds misop mfilesT mentrT mpromT mlinksT mblocksT mvalsT) (GB ca h0 u) R)
  replace hD := hD.perm (new_perm (WM ca ad lq (nI 0) mday mown mquot mprom (nI f) mowner mlinks mblocks mvals msnaps mranks mkept mshot mwas mholds mheld mends mopen mentr mkinds misop mfilesT mentrT mpromT mlinksT mblocksT mvalsT) (GB ca h0 u) R)
  have hP : va_P D vwCl (WB ca h0 (u 1) 0 (nI 0) 16 (fun _ => 0) ++ ((WM ca ad lq (nI 0) mday mown mquot mprom (nI f) mowner mlinks mblocks mvals msnaps mranks mkept mshot mwas mholds mheld mends mopen mentr mkinds misop mfilesT mentrT mpromT mlinksT mblocksT mvalsT) ++ R)) H := hP
  have hD : va_D A (WB ca h0 (u 1) 0 (nI 0) 16 (fun _ => 0) ++ ((WM ca ad lq (nI 0) mday mown mquot mprom (nI f) mowner mlinks mblocks mvals msnaps mranks mkept mshot mwas mholds mheld mends mopen mentr mkinds misop mfilesT mentrT mpromT mlinksT mblocksT mvalsT) ++ R)) := hD
  refine lv_astore_n (lv' := [(2, .ref h0), (0, .ref (ad 0)), (1, .int (nI i))]) hx hb dX4_writeFile_26 rfl hl (by decide) rfl (fun ls hl => ?_)
  refine W.widen (k := 2 + 16) (n := 20 + 2 * 16) (by omega) (by omega) ?_
  have hT0 : Same 0 (fun _ => 0) (fun _ => (0 : Int32)) := fun j hj => absurd hj (Nat.not_lt_zero j)
  refine lv_aload_n hx hb dX4_writeFile_27 rfl (lv_at hl 0 rfl) ?_
  refine lv_iload_n hx hb dX4_writeFile_28 rfl (lv_at hl 2 rfl) ?_
  refine sb_apI ca h0 (u 1) 0 _ (v := i) hT0 sb_fit0 (Nat.zero_le _) (by omega) (by omega) hi40 ⟨hx, hb, hml, hown, hts⟩ q1662 ⟨by show _ ≤ 40; decide, by show _ ≤ 900; decide⟩ ⟨by show 2 + 300 ≤ 310; omega, by show 20 + 600 ≤ 800; omega⟩ hE hP hD hS hA hZ hl.1 (Nat.le_of_ble_eq_true rfl) dX4_writeFile_29 (fun q1 z1 B1 H locs hT1 hF1 hm1 hz1 hP hD hS => ?_)
  have hP : va_P D vwCl (WB ca h0 q1 0 (nI (0 + dgs i)) z1 B1 ++ ((WM ca ad lq (nI 0) mday mown mquot mprom (nI f) mowner mlinks mblocks mvals msnaps mranks mkept mshot mwas mholds mheld mends mopen mentr mkinds misop mfilesT mentrT mpromT mlinksT mblocksT mvalsT) ++ R)) H := hP
  have hD : va_D A (WB ca h0 q1 0 (nI (0 + dgs i)) z1 B1 ++ ((WM ca ad lq (nI 0) mday mown mquot mprom (nI f) mowner mlinks mblocks mvals msnaps mranks mkept mshot mwas mholds mheld mends mopen mentr mkinds misop mfilesT mentrT mpromT mlinksT mblocksT mvalsT) ++ R)) := hD
  refine lv_bipush (v := nI 120) hx hb dX4_writeFile_32 (by decide) ?_
  refine sb_apC ca h0 q1 0 _ (ch := 120) hT1 hF1 hm1 hz1 (by omega) (by omega) ⟨hx, hb, hml, hown, hts⟩ q1663 ⟨by show _ ≤ 40; decide, by show _ ≤ 900; decide⟩ ⟨by show 2 + 300 ≤ 310; omega, by show 20 + 600 ≤ 800; omega⟩ hE hP hD hS hA hZ hl.1 (Nat.le_of_ble_eq_true rfl) dX4_writeFile_34 (fun q2 z2 B2 H locs hT2 hF2 hm2 hz2 hP hD hS => ?_)
  have hP : va_P D vwCl (WB ca h0 q2 0 (nI (0 + dgs i + 1)) z2 B2 ++ ((WM ca ad lq (nI 0) mday mown mquot mprom (nI f) mowner mlinks mblocks mvals msnaps mranks mkept mshot mwas mholds mheld mends mopen mentr mkinds misop mfilesT mentrT mpromT mlinksT mblocksT mvalsT) ++ R)) H := hP
  have hD : va_D A (WB ca h0 q2 0 (nI (0 + dgs i + 1)) z2 B2 ++ ((WM ca ad lq (nI 0) mday mown mquot mprom (nI f) mowner mlinks mblocks mvals msnaps mranks mkept mshot mwas mholds mheld mends mopen mentr mkinds misop mfilesT mentrT mpromT mlinksT mblocksT mvalsT) ++ R)) := hD
  refine lv_aload_n hx hb dX4_writeFile_37 rfl (lv_at hl 1 rfl) ?_
  refine va_get (D := D) (ci := 8) (v := .ref (ad 4)) (C := RX4) (T := TX4) (N := 29) hx hb hts inX4 hown hK hP 2 rfl rfl 7 (by decide) (hts _ q1336) (fun _ h9 => h9) rfl dX4_writeFile_38 ?_
  refine lv_iload_n hx hb dX4_writeFile_41 rfl (lv_at hl 2 rfl) ?_
  refine va_iald (D := D) hx hb hK hP 6 0 rfl rfl (vp_in_nI (by omega) (by omega)) dX4_writeFile_42 ?_
  rw [nI_clamp (by omega), hNL]
  refine sb_apI ca h0 q2 0 _ (v := L) hT2 hF2 hm2 hz2 (by omega) hL100 ⟨hx, hb, hml, hown, hts⟩ q1662 ⟨by show _ ≤ 40; decide, by show _ ≤ 900; decide⟩ ⟨by show 2 + 300 ≤ 310; omega, by show 20 + 600 ≤ 800; omega⟩ hE hP hD hS hA hZ hl.1 (Nat.le_of_ble_eq_true rfl) dX4_writeFile_43 (fun q3 z3 B3 H locs hT3 hF3 hm3 hz3 hP hD hS => ?_)
  have hP : va_P D vwCl (WB ca h0 q3 0 (nI (row0 i L).2) z3 B3 ++ ((WM ca ad lq (nI 0) mday mown mquot mprom (nI f) mowner mlinks mblocks mvals msnaps mranks mkept mshot mwas mholds mheld mends mopen mentr mkinds misop mfilesT mentrT mpromT mlinksT mblocksT mvalsT) ++ R)) H := hP
  have hD : va_D A (WB ca h0 q3 0 (nI (row0 i L).2) z3 B3 ++ ((WM ca ad lq (nI 0) mday mown mquot mprom (nI f) mowner mlinks mblocks mvals msnaps mranks mkept mshot mwas mholds mheld mends mopen mentr mkinds misop mfilesT mentrT mpromT mlinksT mblocksT mvalsT) ++ R)) := hD
  have hT3 : Same (rowT i L blk 0).2 (rowT i L blk 0).1 B3 := hT3
  refine lv_pop hx hb dX4_writeFile_46 rfl ?_
  refine lv_iconst (v := nI 0) hx hb dX4_writeFile_47 (by decide) ?_
  refine lv_istore_n (lv' := [(3, .int (nI 0)), (2, .ref h0), (0, .ref (ad 0)), (1, .int (nI i))]) hx hb dX4_writeFile_48 rfl hl (by decide) rfl (fun ls hl => ?_)
  exact LP h0 16 0 rfl q3 z3 B3 _ _ _ hT3 hF3 hm3 hz3 hP hD hS hl
