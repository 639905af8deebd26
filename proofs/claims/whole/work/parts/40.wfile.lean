/-! WRITEFILE, THE CLASS'S -/
def QXIU {S : Type} (P : S → Prop) (r : Int32) (f : S → va_W) (D : va_G) (w : va_W) (sz : Nat) : Array Value → State → Outcome → State → Prop := va_Qi (fun (r' : Int32) (u : S) => r' = r ∧ P u) (fun u t => BW D (f u) w sz t) (va_A w sz)
section QXU
variable {p : Program} {l : Launch} {e : Env} {Rm : Room} {s : State} {m : MethodId} {args : Array Value} {below : List Frame} {meth : Method} {c : Code} {H : Heap} {locs : List Loc} {cells slots MC MS : Nat} {Q : State → Prop}
variable {cc : ByteArray} {pc : Nat} {ls : Array Slot} {D : va_G}
theorem endx_iu {S : Type} (u : S) {P : S → Prop} {f : S → va_W} {v : Int32} {ty : FieldType} {w0 : va_W} {A : Nat → Prop} (hAe : va_A w0 s.heap.size = A) (hQm : vx_MQ below (QXIU P v f D w0 s.heap.size) (QXE (.ok v : Except Nat Int32) D w0 w0 s.heap.size) args s MC MS A = Q) (hx : p.tables.exec = Jvm.exec) (hb : c.code = cc) (hr : meth.sig.returnType = some ty) (hlocks : meth.locks = false) (hn : narrow ty (.int v) = .int v) (hPu : P u) (hP : va_P D vwCl (f u) H) (hD : va_D A (f u)) (hS : va_S A s.heap H locs) (hdg : decode cc pc = .ok (.ireturn, 1)) (hc : cells ≤ MC) (hs : slots ≤ MS) :
    W p l e Rm s m args below meth c H locs cells slots Q (F0 m pc ls [.int v]) := by
  subst hQm
  subst hAe
  exact W.widen hc hs (vx_ret (W.zret (v := v) hx hb hr hn (fun t ht hW => ⟨⟨v, u, rfl, ⟨rfl, hPu⟩, by rw [ht]; exact hP, hD⟩, hS.F ht⟩) hS.2.2 hdg hlocks))
end QXU
theorem reqF_ok {i f : Nat} (h : i < f) (hf : f ≤ 40) : f_C_requireFile (nI i) (nI f) = some (.ok ()) := by
  unfold f_C_requireFile
  rw [S_hasFile_in h hf]
  rfl
theorem setL_ok {jM : Int32} {n z : Nat} (hn : n ≤ 300) (hz : z ≤ 300) : ∃ oM : Int32, f_B_J4_setLength_d00df 0 jM (nI n) z = some (oM, nI 0) := by
  unfold f_B_J4_setLength_d00df f_B_J5_setLength_d00df f_B_J5_ensureCapacityInternal_d00df
  have e1 : nI 0 - nI z ≤ nI 0 := by
    have h1 := pk_sub_toInt (a := 0) (b := z) (by omega) (by omega)
    refine Int32.le_iff_toInt_le.mpr ?_
    rw [h1, show (nI 0).toInt = 0 from rfl]
    omega
  by_cases h : n ≤ 0
  · refine ⟨jM, ?_⟩
    simp (disch := omega) only [l0, e1, nI_leI, if_true, if_pos, Option.bind_some]
  · refine ⟨1, ?_⟩
    simp (disch := omega) only [l0, e1, nI_leI, if_true, if_pos, if_neg, Option.bind_some]
set_option maxHeartbeats 8000000 in
set_option maxRecDepth 100000 in
theorem m_C_writeFile_ok (l : Launch) (hst : l.stackTraces = false) {D : va_G} (ca : Nat → ClassId) (ad : Nat → Nat) (bq : Nat) (nF : Int32) (nO : Nat → Int32) (nL : Nat → Int32) (nA : Nat → Int32) (nC : Nat → Int32) (nV : Nat → Int32) (nU : Nat → Int32) (nP : Nat → Int32) (nE : Int32) (bF : Int32) (bO : Nat → Int32) (bL : Nat → Int32) (bA : Nat → Int32) (bC : Nat → Int32) (bV : Nat → Int32) (bU : Nat → Int32) (bP : Nat → Int32) (bE : Int32) (cT : Int32) (cK : Nat → Int32) (cO : Int32) (cQ : Nat → Int32) (cD : Int32) (pT : Int32) (pK : Int32) (pR : Nat → Int32) (pW : Nat → Int32) (pU : Nat → Int32) (pI : Nat → Int32) (pC : Nat → Nat → Int32) (uO : Int32) (uF : Nat → Int32) (uE : Nat → Int32) (uN : Nat → Int32) (wK : Nat → Int32) (jM : Int32) (jN : Int32) (jZ : Nat) (jB : Nat → Int32) (R : va_W) (sz : Nat) (i f L n0 : Nat) (blk : Nat → Nat) (hi : i < f) (hf : f ≤ 40) (hNF : nF = nI f) (hNL : nL i = nI L) (hL : L < 10) (hNC : ∀ k, k < 16 → nC (i * 16 + k) = nI (blk k) - 1) (hblk : ∀ k, k < 16 → blk k ≤ 64) (hjN : jN = nI n0) (hn0 : n0 ≤ 300) (hz0 : jZ ≤ 300) (hFit : sb_Fit jB) : vx_Met l yX3_writeFile (wm yX3_writeFile cX3_writeFile 4 (some .int)) ({ frames := 30, cells := 301, slots := 606, locals := 600 } : Room) (PREX [.ref (ad 0), .int (nI i)] D ca SL0 (WC ca ad bq nF nO nL nA nC nV nU nP nE bF bO bL bA bC bV bU bP bE cT cK cO cQ cD pT pK pR pW pU pI pC uO uF uE uN wK jM jN jZ jB ++ R) sz) (QXIU (fun u : Nat × Nat × (Nat → Int32) × Int32 => Same (rowT i L blk 16).2 (rowT i L blk 16).1 u.2.2.1 ∧ sb_Fit u.2.2.1 ∧ u.2.1 ≤ 300 ∧ (rowT i L blk 16).2 ≤ u.2.1) (nI (rowT i L blk 16).2) (fun u : Nat × Nat × (Nat → Int32) × Int32 => (WC ca ad u.1 nF nO nL nA nC nV nU nP nE bF bO bL bA bC bV bU bP bE cT cK cO cQ cD pT pK pR pW pU pI pC uO uF uE uN wK u.2.2.2 (nI (rowT i L blk 16).2) u.2.1 u.2.2.1 ++ R)) D (WC ca ad bq nF nO nL nA nC nV nU nP nE bF bO bL bA bC bV bU bP bE cT cK cO cQ cD pT pK pR pW pU pI pC uO uF uE uN wK jM jN jZ jB ++ R) sz) (QXE (.ok (nI (rowT i L blk 16).2) : Except Nat Int32) D (WC ca ad bq nF nO nL nA nC nV nU nP nE bF bO bL bA bC bV bU bP bE cT cK cO cQ cD pT pK pR pW pU pI pC uO uF uE uN wK jM jN jZ jB ++ R) (WC ca ad bq nF nO nL nA nC nV nU nP nE bF bO bL bA bC bV bU bP bE cT cK cO cQ cD pT pK pR pW pU pI pC uO uF uE uN wK jM jN jZ jB ++ R) sz) 301 606 (va_A (WC ca ad bq nF nO nL nA nC nV nU nP nE bF bO bL bA bC bV bU bP bE cT cK cO cQ cD pT pK pR pW pU pI pC uO uF uE uN wK jM jN jZ jB ++ R) sz) := by
  subst hNF
  subst hjN
  refine vx_ofW (cc := cX3_writeFile) (maxL := 4) (ret := (some .int)) (by decide) rfl ?_
  intro p e s m args below meth c s₁ B9 hml htab hv
  obtain ⟨rfl, rfl, hP, hE, hD0, hZ⟩ := hv
  have hx := B9.exec
  have hb := B9.bytes
  have hr := B9.returns
  have hts := wm_ww (atoms_spec (ws := wm yX3_writeFile cX3_writeFile 4 (some .int)) B9.pre)
  have hown : s.vm.findClass RX3 = some m.cls := findClass_of_methodNamed B9.named
  have hlocks := B9.notSynchronized
  have hK := hE.1
  have hD := hD0.self (sz := s.heap.size)
  generalize hAe : va_A (WC ca ad bq (nI f) nO nL nA nC nV nU nP nE bF bO bL bA bC bV bU bP bE cT cK cO cQ cD pT pK pR pW pU pI pC uO uF uE uN wK jM (nI n0) jZ jB ++ R) s.heap.size = A at hD hZ ⊢
  have hA : ∀ q : Nat, s.heap.size ≤ q → A q := fun q h => by rw [← hAe]; exact Or.inr h
  have hS : va_S A s.heap s.heap [] := va_S.rf
  have hl := lv_entry ([.ref (ad 0), .int (nI i)]) (n := 4) (Nat.le_of_ble_eq_true rfl)
  rw [lg_entry_eq]
  generalize (lg_sl ([.ref (ad 0), .int (nI i)]) ++ List.replicate (4 - (lg_sl ([.ref (ad 0), .int (nI i)])).length) Slot.unset).toArray = ls at hl ⊢
  have hl : lv_has ls 4 [(0, .ref (ad 0)), (1, .int (nI i))] := hl
  change W p l e ({ frames := 30, cells := 301, slots := 606, locals := 600 } : Room) s m _ below meth c s.heap [] 0 0 _ _
  generalize hQm : vx_MQ below (QXIU (fun u : Nat × Nat × (Nat → Int32) × Int32 => Same (rowT i L blk 16).2 (rowT i L blk 16).1 u.2.2.1 ∧ sb_Fit u.2.2.1 ∧ u.2.1 ≤ 300 ∧ (rowT i L blk 16).2 ≤ u.2.1) (nI (rowT i L blk 16).2) (fun u : Nat × Nat × (Nat → Int32) × Int32 => (WC ca ad u.1 (nI f) nO nL nA nC nV nU nP nE bF bO bL bA bC bV bU bP bE cT cK cO cQ cD pT pK pR pW pU pI pC uO uF uE uN wK u.2.2.2 (nI (rowT i L blk 16).2) u.2.1 u.2.2.1 ++ R)) D (WC ca ad bq (nI f) nO nL nA nC nV nU nP nE bF bO bL bA bC bV bU bP bE cT cK cO cQ cD pT pK pR pW pU pI pC uO uF uE uN wK jM (nI n0) jZ jB ++ R) s.heap.size) (QXE (.ok (nI (rowT i L blk 16).2) : Except Nat Int32) D (WC ca ad bq (nI f) nO nL nA nC nV nU nP nE bF bO bL bA bC bV bU bP bE cT cK cO cQ cD pT pK pR pW pU pI pC uO uF uE uN wK jM (nI n0) jZ jB ++ R) (WC ca ad bq (nI f) nO nL nA nC nV nU nP nE bF bO bL bA bC bV bU bP bE cT cK cO cQ cD pT pK pR pW pU pI pC uO uF uE uN wK jM (nI n0) jZ jB ++ R) s.heap.size) _ s 301 606 A = Qm
  have hP : va_P D vwCl (WC ca ad bq (nI f) nO nL nA nC nV nU nP nE bF bO bL bA bC bV bU bP bE cT cK cO cQ cD pT pK pR pW pU pI pC uO uF uE uN wK jM (nI n0) jZ jB ++ R) s.heap := hP
  generalize hae : ([.ref (ad 0), .int (nI i)] : List Value).toArray = args at hts hQm ⊢
  have LP : ∀ (oM : Int32) (t k : Nat), k + t = 16 → ∀ (q z : Nat) (B : Nat → Int32) (H : Heap) (locs : List Loc) (ls : Array Slot), Same (rowT i L blk k).2 (rowT i L blk k).1 B → sb_Fit B → (rowT i L blk k).2 ≤ z → z ≤ 300 → va_P D vwCl (WB ca (ad 7) q oM (nI (rowT i L blk k).2) z B ++ (WCr ca ad (nI f) nO nL nA nC nV nU nP nE bF bO bL bA bC bV bU bP bE cT cK cO cQ cD pT pK pR pW pU pI pC uO uF uE uN wK ++ R)) H → va_D A (WB ca (ad 7) q oM (nI (rowT i L blk k).2) z B ++ (WCr ca ad (nI f) nO nL nA nC nV nU nP nE bF bO bL bA bC bV bU bP bE cT cK cO cQ cD pT pK pR pW pU pI pC uO uF uE uN wK ++ R)) → va_S A s.heap H locs → lv_has ls 4 [(2, .int (nI k)), (0, .ref (ad 0)), (1, .int (nI i))] → W p l e ({ frames := 30, cells := 301, slots := 606, locals := 600 } : Room) s m args below meth c H locs (1 + z) (6 + 2 * z) Qm (F0 m 40 ls []) := by
    intro oM t
    induction t with
    | zero =>
      intro k hk q z B H locs ls hT hF hm hz hP hD hS hl
      have e : k = 16 := by omega
      subst e
      refine lv_iload_n hx hb dX3_writeFile_40 rfl (lv_at hl 0 rfl) ?_
      refine lv_bipush (v := nI 16) hx hb dX3_writeFile_41 (by decide) ?_
      refine lv_icmp_ge (tgt := 90) hx hb dX3_writeFile_43 (by decide) (fun c4 => ?_) (fun c4 => absurd (nI_le (Nat.le_refl 16) (by omega)) c4)
      refine lv_aload_n hx hb dX3_writeFile_90 rfl (lv_at hl 1 rfl) ?_
      refine va_get (D := D) (ci := 7) (v := .ref (ad 7)) (C := RX3) (T := TX3) (N := 11) hx hb hts inX3 hown hK hP 2 rfl rfl 9 (by decide) (hts _ q210) (fun _ h9 => h9) rfl dX3_writeFile_91 ?_
      refine zv_i (rest := []) (m_B_J4_length_8abf5 l ca (ad 7) q oM (nI (rowT i L blk 16).2) z B _ _ (nI (rowT i L blk 16).2) rfl) ⟨hx, hb, hml, hown, hts⟩ (cwV 0 hts (gV q1303 q1204 q1698 q47 q1205) rfl rfl rfl (by decide +kernel) ⟨by show _ ≤ 30; decide, by show _ ≤ 600; decide⟩) (va_recv hK hP (ci := 1) (q0 := 0) rfl rfl) hE hP hD hS hA hZ rfl hl.1 rfl (lv_room (Nat.le_of_ble_eq_true rfl)) dX3_writeFile_94 ⟨by show 1 + z + 0 ≤ 301; omega, by show 6 + 2 * z + 0 ≤ 606; omega⟩ (fun H locs hP hD hS => ?_)
      have hP := hP.perm (WC_sb ca ad q (nI f) nO nL nA nC nV nU nP nE bF bO bL bA bC bV bU bP bE cT cK cO cQ cD pT pK pR pW pU pI pC uO uF uE uN wK oM (nI (rowT i L blk 16).2) z B R).symm
      have hD := hD.perm (WC_sb ca ad q (nI f) nO nL nA nC nV nU nP nE bF bO bL bA bC bV bU bP bE cT cK cO cQ cD pT pK pR pW pU pI pC uO uF uE uN wK oM (nI (rowT i L blk 16).2) z B R).symm
      refine endx_iu (q, z, B, oM) hAe hQm hx hb hr hlocks rfl ⟨hT, hF, hz, hm⟩ hP hD hS dX3_writeFile_97 ?_ ?_
      · show 1 + z + 0 ≤ 301; omega
      · show 6 + 2 * z + 0 ≤ 606; omega
    | succ t ih =>
      intro k hk q z B H locs ls hT hF hm hz hP hD hS hl
      have hk16 : k < 16 := by omega
      have hle := rowT_le i L blk k
      have hbk := hblk k hk16
      refine lv_iload_n hx hb dX3_writeFile_40 rfl (lv_at hl 0 rfl) ?_
      refine lv_bipush (v := nI 16) hx hb dX3_writeFile_41 (by decide) ?_
      refine lv_icmp_ge (tgt := 90) hx hb dX3_writeFile_43 (by decide) (fun c4 => absurd c4 (nI_ge (by omega) (by omega))) (fun c4 => ?_)
      refine lv_aload_n hx hb dX3_writeFile_46 rfl (lv_at hl 1 rfl) ?_
      refine va_get (D := D) (ci := 7) (v := .ref (ad 1)) (C := RX3) (T := TX3) (N := 11) hx hb hts inX3 hown hK hP 2 rfl rfl 0 (by decide) (hts _ q201) (fun _ h9 => h9) rfl dX3_writeFile_47 ?_
      refine lv_iload_n hx hb dX3_writeFile_50 rfl (lv_at hl 2 rfl) ?_
      refine lv_iload_n hx hb dX3_writeFile_51 rfl (lv_at hl 0 rfl) ?_
      have hP := hP.perm (WC_sb ca ad q (nI f) nO nL nA nC nV nU nP nE bF bO bL bA bC bV bU bP bE cT cK cO cQ cD pT pK pR pW pU pI pC uO uF uE uN wK oM (nI (rowT i L blk k).2) z B R).symm
      have hD := hD.perm (WC_sb ca ad q (nI f) nO nL nA nC nV nU nP nE bF bO bL bA bC bV bU bP bE cT cK cO cQ cD pT pK pR pW pU pI pC uO uF uE uN wK oM (nI (rowT i L blk k).2) z B R).symm
      refine call_vi (rest := []) (m_S_blockIn l ca ad q (nI f) nO nL nA nC nV nU nP nE bF bO bL bA bC bV bU bP bE cT cK cO cQ cD pT pK pR pW pU pI pC uO uF uE uN wK oM (nI (rowT i L blk k).2) z B R _ (nI i) (nI k) (nI (blk k) - 1) (by rw [S_blockIn_in hi hf hk16, hNC k hk16])) ⟨hx, hb, hml, hown, hts⟩ (cwV 2 hts (gV q603 q292 q293 q42 q294) rfl rfl rfl (by decide +kernel) ⟨by show _ ≤ 30; decide, by show _ ≤ 600; decide⟩) (va_recv hK hP (ci := 6) (q0 := 1) rfl rfl) hE hP hD hS hA rfl hl.1 rfl (lv_room (Nat.le_of_ble_eq_true rfl)) dX3_writeFile_52 ⟨by show 1 + z + 0 ≤ 301; omega, by show 6 + 2 * z + 0 ≤ 606; omega⟩ (fun H locs hP hD hS => ?_)
      have hP := hP.perm (WC_sb ca ad q (nI f) nO nL nA nC nV nU nP nE bF bO bL bA bC bV bU bP bE cT cK cO cQ cD pT pK pR pW pU pI pC uO uF uE uN wK oM (nI (rowT i L blk k).2) z B R)
      have hD := hD.perm (WC_sb ca ad q (nI f) nO nL nA nC nV nU nP nE bF bO bL bA bC bV bU bP bE cT cK cO cQ cD pT pK pR pW pU pI pC uO uF uE uN wK oM (nI (rowT i L blk k).2) z B R)
      refine W.widen (k := 1 + z) (n := 6 + 2 * z) (by omega) (by omega) ?_
      refine lv_istore_n (lv' := [(3, .int (nI (blk k) - 1)), (2, .int (nI k)), (0, .ref (ad 0)), (1, .int (nI i))]) hx hb dX3_writeFile_55 rfl hl (by decide) rfl (fun ls hl => ?_)
      refine lv_iload_n hx hb dX3_writeFile_56 rfl (lv_at hl 0 rfl) ?_
      refine lv_iconst (v := (-1)) hx hb dX3_writeFile_57 (by decide) ?_
      refine lv_icmp_eq (tgt := 84) hx hb dX3_writeFile_58 (by decide) (fun c5 => ?_) (fun c5 => ?_)
      · have e0 : blk k = 0 := (m1_eq (by omega)).mp c5
        have er : rowT i L blk (k + 1) = rowT i L blk k := if_pos e0
        refine lv_iinc (v := nI (k + 1)) (lv' := [(2, .int (nI (k + 1))), (3, .int (nI (blk k) - 1)), (0, .ref (ad 0)), (1, .int (nI i))]) hx hb dX3_writeFile_84 hl (k := 1) rfl (nI_1 k) (by decide) rfl (fun ls hl => ?_)
        refine lv_goto (tgt := 40) hx hb dX3_writeFile_87 (by decide) ?_
        exact ih (k + 1) (by omega) q z B _ _ _ (by rw [er]; exact hT) hF (by rw [er]; exact hm) hz (by rw [er]; exact hP) (by rw [er]; exact hD) hS (lv_sub hl [0, 2, 3] rfl)
      · have e0 : blk k ≠ 0 := fun h => c5 ((m1_eq (by omega)).mpr h)
        obtain ⟨b, hbe⟩ : ∃ b, blk k = b + 1 := ⟨blk k - 1, by omega⟩
        have hb64 : b < 100 := by omega
        have hkk : k < 100 := by omega
        have hd3 := dgs_le k
        have hd4 := dgs_le b
        have ev : nI (blk k) - 1 = nI b := by rw [hbe]; exact nI_pred b
        rw [ev] at hl
        have er : rowT i L blk (k + 1) = apI b (ap 58 (apI k (ap 32 (rowT i L blk k)))) := by
          show rowS k (blk k) (rowT i L blk k) = _
          unfold rowS
          rw [if_neg e0, hbe]
          rfl
        generalize rowT i L blk k = r at hT hm hP hD er hle
        obtain ⟨T, n⟩ := r
        have hT : Same n T B := hT
        have hm : n ≤ z := hm
        have hle : n ≤ 5 + 6 * k := hle
        refine lv_aload_n hx hb dX3_writeFile_61 rfl (lv_at hl 2 rfl) ?_
        refine va_get (D := D) (ci := 7) (v := .ref (ad 7)) (C := RX3) (T := TX3) (N := 11) hx hb hts inX3 hown hK hP 2 rfl rfl 9 (by decide) (hts _ q210) (fun _ h9 => h9) rfl dX3_writeFile_62 ?_
        refine lv_bipush (v := nI 32) hx hb dX3_writeFile_65 (by decide) ?_
        refine sb_apC ca (ad 7) q oM _ (ch := 32) hT hF hm hz (by omega) (by omega) ⟨hx, hb, hml, hown, hts⟩ q1281 ⟨by show _ ≤ 30; decide, by show _ ≤ 600; decide⟩ ⟨by show 1 + 300 ≤ 301; omega, by show 6 + 600 ≤ 606; omega⟩ hE hP hD hS hA hZ hl.1 (Nat.le_of_ble_eq_true rfl) dX3_writeFile_67 (fun q4 z4 B4 H locs hT4 hF4 hm4 hz4 hP hD hS => ?_)
        have hP : va_P D vwCl (WB ca (ad 7) q4 oM (nI (n + 1)) z4 B4 ++ (WCr ca ad (nI f) nO nL nA nC nV nU nP nE bF bO bL bA bC bV bU bP bE cT cK cO cQ cD pT pK pR pW pU pI pC uO uF uE uN wK ++ R)) H := hP
        have hD : va_D A (WB ca (ad 7) q4 oM (nI (n + 1)) z4 B4 ++ (WCr ca ad (nI f) nO nL nA nC nV nU nP nE bF bO bL bA bC bV bU bP bE cT cK cO cQ cD pT pK pR pW pU pI pC uO uF uE uN wK ++ R)) := hD
        refine lv_iload_n hx hb dX3_writeFile_70 rfl (lv_at hl 1 rfl) ?_
        refine sb_apI ca (ad 7) q4 oM _ (v := k) hT4 hF4 hm4 hz4 (by omega) hkk ⟨hx, hb, hml, hown, hts⟩ q1280 ⟨by show _ ≤ 30; decide, by show _ ≤ 600; decide⟩ ⟨by show 1 + 300 ≤ 301; omega, by show 6 + 600 ≤ 606; omega⟩ hE hP hD hS hA hZ hl.1 (Nat.le_of_ble_eq_true rfl) dX3_writeFile_71 (fun q5 z5 B5 H locs hT5 hF5 hm5 hz5 hP hD hS => ?_)
        have hP : va_P D vwCl (WB ca (ad 7) q5 oM (nI (n + 1 + dgs k)) z5 B5 ++ (WCr ca ad (nI f) nO nL nA nC nV nU nP nE bF bO bL bA bC bV bU bP bE cT cK cO cQ cD pT pK pR pW pU pI pC uO uF uE uN wK ++ R)) H := hP
        have hD : va_D A (WB ca (ad 7) q5 oM (nI (n + 1 + dgs k)) z5 B5 ++ (WCr ca ad (nI f) nO nL nA nC nV nU nP nE bF bO bL bA bC bV bU bP bE cT cK cO cQ cD pT pK pR pW pU pI pC uO uF uE uN wK ++ R)) := hD
        refine lv_bipush (v := nI 58) hx hb dX3_writeFile_74 (by decide) ?_
        refine sb_apC ca (ad 7) q5 oM _ (ch := 58) hT5 hF5 hm5 hz5 (by omega) (by omega) ⟨hx, hb, hml, hown, hts⟩ q1281 ⟨by show _ ≤ 30; decide, by show _ ≤ 600; decide⟩ ⟨by show 1 + 300 ≤ 301; omega, by show 6 + 600 ≤ 606; omega⟩ hE hP hD hS hA hZ hl.1 (Nat.le_of_ble_eq_true rfl) dX3_writeFile_76 (fun q6 z6 B6 H locs hT6 hF6 hm6 hz6 hP hD hS => ?_)
        have hP : va_P D vwCl (WB ca (ad 7) q6 oM (nI (n + 1 + dgs k + 1)) z6 B6 ++ (WCr ca ad (nI f) nO nL nA nC nV nU nP nE bF bO bL bA bC bV bU bP bE cT cK cO cQ cD pT pK pR pW pU pI pC uO uF uE uN wK ++ R)) H := hP
        have hD : va_D A (WB ca (ad 7) q6 oM (nI (n + 1 + dgs k + 1)) z6 B6 ++ (WCr ca ad (nI f) nO nL nA nC nV nU nP nE bF bO bL bA bC bV bU bP bE cT cK cO cQ cD pT pK pR pW pU pI pC uO uF uE uN wK ++ R)) := hD
        refine lv_iload_n hx hb dX3_writeFile_79 rfl (lv_at hl 0 rfl) ?_
        refine sb_apI ca (ad 7) q6 oM _ (v := b) hT6 hF6 hm6 hz6 (by omega) hb64 ⟨hx, hb, hml, hown, hts⟩ q1280 ⟨by show _ ≤ 30; decide, by show _ ≤ 600; decide⟩ ⟨by show 1 + 300 ≤ 301; omega, by show 6 + 600 ≤ 606; omega⟩ hE hP hD hS hA hZ hl.1 (Nat.le_of_ble_eq_true rfl) dX3_writeFile_80 (fun q7 z7 B7 H locs hT7 hF7 hm7 hz7 hP hD hS => ?_)
        have hP : va_P D vwCl (WB ca (ad 7) q7 oM (nI (n + 1 + dgs k + 1 + dgs b)) z7 B7 ++ (WCr ca ad (nI f) nO nL nA nC nV nU nP nE bF bO bL bA bC bV bU bP bE cT cK cO cQ cD pT pK pR pW pU pI pC uO uF uE uN wK ++ R)) H := hP
        have hD : va_D A (WB ca (ad 7) q7 oM (nI (n + 1 + dgs k + 1 + dgs b)) z7 B7 ++ (WCr ca ad (nI f) nO nL nA nC nV nU nP nE bF bO bL bA bC bV bU bP bE cT cK cO cQ cD pT pK pR pW pU pI pC uO uF uE uN wK ++ R)) := hD
        refine lv_pop hx hb dX3_writeFile_83 rfl ?_
        refine lv_iinc (v := nI (k + 1)) (lv' := [(2, .int (nI (k + 1))), (3, .int (nI b)), (0, .ref (ad 0)), (1, .int (nI i))]) hx hb dX3_writeFile_84 hl (k := 1) rfl (nI_1 k) (by decide) rfl (fun ls hl => ?_)
        refine lv_goto (tgt := 40) hx hb dX3_writeFile_87 (by decide) ?_
        exact ih (k + 1) (by omega) q7 z7 B7 _ _ _ (by rw [er]; exact hT7) hF7 (by rw [er]; exact hm7) hz7 (by rw [er]; exact hP) (by rw [er]; exact hD) hS (lv_sub hl [0, 2, 3] rfl)
  have hi40 : i < 100 := by omega
  have hL100 : L < 100 := by omega
  refine lv_aload_n hx hb dX3_writeFile_0 rfl (lv_at hl 0 rfl) ?_
  refine lv_iload_n hx hb dX3_writeFile_1 rfl (lv_at hl 1 rfl) ?_
  refine cx_vv_ok (rest := []) (m_C_requireFile l hst ca ad bq (nI f) nO nL nA nC nV nU nP nE bF bO bL bA bC bV bU bP bE cT cK cO cQ cD pT pK pR pW pU pI pC uO uF uE uN wK jM (nI n0) jZ jB R _ (nI i) (.ok ()) (reqF_ok hi hf)) ⟨hx, hb, hml, hown, hts⟩ (cwV 1 hts (gV q523 q525 q9 q41 q526) rfl rfl rfl (by decide +kernel) ⟨by show _ ≤ 30; decide, by show _ ≤ 600; decide⟩) (va_recv hK hP (ci := 7) (q0 := 0) rfl rfl) hE hP hD hS hA hZ rfl hl.1 rfl (lv_room (Nat.le_of_ble_eq_true rfl)) dX3_writeFile_2 ⟨by show 0 + 1 ≤ 301; omega, by show 0 + 6 ≤ 606; omega⟩ (fun H locs hP hD hS => ?_)
  have hP := hP.perm (WC_sb ca ad bq (nI f) nO nL nA nC nV nU nP nE bF bO bL bA bC bV bU bP bE cT cK cO cQ cD pT pK pR pW pU pI pC uO uF uE uN wK jM (nI n0) jZ jB R)
  have hD := hD.perm (WC_sb ca ad bq (nI f) nO nL nA nC nV nU nP nE bF bO bL bA bC bV bU bP bE cT cK cO cQ cD pT pK pR pW pU pI pC uO uF uE uN wK jM (nI n0) jZ jB R)
  refine lv_aload_n hx hb dX3_writeFile_5 rfl (lv_at hl 0 rfl) ?_
  refine va_get (D := D) (ci := 7) (v := .ref (ad 7)) (C := RX3) (T := TX3) (N := 11) hx hb hts inX3 hown hK hP 2 rfl rfl 9 (by decide) (hts _ q210) (fun _ h9 => h9) rfl dX3_writeFile_6 ?_
  refine lv_iconst (v := 0) hx hb dX3_writeFile_9 (by decide) ?_
  obtain ⟨oM, hoM⟩ := setL_ok (jM := jM) hn0 hz0
  refine zv_v (rest := []) (m_B_J4_setLength_d00df l ca (ad 7) bq jM (nI n0) jZ jB _ _ 0 oM (nI 0) hoM) ⟨hx, hb, hml, hown, hts⟩ (cwV 1 hts (gV q1027 q1028 q1029 q47 q1030) rfl rfl rfl (by decide +kernel) ⟨by show _ ≤ 30; decide, by show _ ≤ 600; decide⟩) (va_recv hK hP (ci := 1) (q0 := 0) rfl rfl) hE hP hD hS hA hZ rfl hl.1 rfl (lv_room (Nat.le_of_ble_eq_true rfl)) dX3_writeFile_10 ⟨by show 0 + 1 + 0 ≤ 301; omega, by show 0 + 6 + 0 ≤ 606; omega⟩ (fun H locs hP hD hS => ?_)
  refine W.widen (k := 1 + jZ) (n := 6 + 2 * jZ) (by omega) (by omega) ?_
  have hT0 : Same 0 (fun _ => 0) jB := fun j hj => absurd hj (Nat.not_lt_zero j)
  have hd1 := dgs_le i
  have hd2 := dgs_le L
  refine lv_aload_n hx hb dX3_writeFile_13 rfl (lv_at hl 0 rfl) ?_
  refine va_get (D := D) (ci := 7) (v := .ref (ad 7)) (C := RX3) (T := TX3) (N := 11) hx hb hts inX3 hown hK hP 2 rfl rfl 9 (by decide) (hts _ q210) (fun _ h9 => h9) rfl dX3_writeFile_14 ?_
  refine lv_iload_n hx hb dX3_writeFile_17 rfl (lv_at hl 1 rfl) ?_
  refine sb_apI ca (ad 7) bq oM _ (v := i) hT0 hFit (Nat.zero_le _) hz0 (by omega) hi40 ⟨hx, hb, hml, hown, hts⟩ q1280 ⟨by show _ ≤ 30; decide, by show _ ≤ 600; decide⟩ ⟨by show 1 + 300 ≤ 301; omega, by show 6 + 600 ≤ 606; omega⟩ hE hP hD hS hA hZ hl.1 (Nat.le_of_ble_eq_true rfl) dX3_writeFile_18 (fun q1 z1 B1 H locs hT1 hF1 hm1 hz1 hP hD hS => ?_)
  have hP : va_P D vwCl (WB ca (ad 7) q1 oM (nI (0 + dgs i)) z1 B1 ++ (WCr ca ad (nI f) nO nL nA nC nV nU nP nE bF bO bL bA bC bV bU bP bE cT cK cO cQ cD pT pK pR pW pU pI pC uO uF uE uN wK ++ R)) H := hP
  have hD : va_D A (WB ca (ad 7) q1 oM (nI (0 + dgs i)) z1 B1 ++ (WCr ca ad (nI f) nO nL nA nC nV nU nP nE bF bO bL bA bC bV bU bP bE cT cK cO cQ cD pT pK pR pW pU pI pC uO uF uE uN wK ++ R)) := hD
  refine lv_bipush (v := nI 120) hx hb dX3_writeFile_21 (by decide) ?_
  refine sb_apC ca (ad 7) q1 oM _ (ch := 120) hT1 hF1 hm1 hz1 (by omega) (by omega) ⟨hx, hb, hml, hown, hts⟩ q1281 ⟨by show _ ≤ 30; decide, by show _ ≤ 600; decide⟩ ⟨by show 1 + 300 ≤ 301; omega, by show 6 + 600 ≤ 606; omega⟩ hE hP hD hS hA hZ hl.1 (Nat.le_of_ble_eq_true rfl) dX3_writeFile_23 (fun q2 z2 B2 H locs hT2 hF2 hm2 hz2 hP hD hS => ?_)
  have hP : va_P D vwCl (WB ca (ad 7) q2 oM (nI (0 + dgs i + 1)) z2 B2 ++ (WCr ca ad (nI f) nO nL nA nC nV nU nP nE bF bO bL bA bC bV bU bP bE cT cK cO cQ cD pT pK pR pW pU pI pC uO uF uE uN wK ++ R)) H := hP
  have hD : va_D A (WB ca (ad 7) q2 oM (nI (0 + dgs i + 1)) z2 B2 ++ (WCr ca ad (nI f) nO nL nA nC nV nU nP nE bF bO bL bA bC bV bU bP bE cT cK cO cQ cD pT pK pR pW pU pI pC uO uF uE uN wK ++ R)) := hD
  refine lv_aload_n hx hb dX3_writeFile_26 rfl (lv_at hl 0 rfl) ?_
  refine va_get (D := D) (ci := 7) (v := .ref (ad 1)) (C := RX3) (T := TX3) (N := 11) hx hb hts inX3 hown hK hP 2 rfl rfl 0 (by decide) (hts _ q201) (fun _ h9 => h9) rfl dX3_writeFile_27 ?_
  refine lv_iload_n hx hb dX3_writeFile_30 rfl (lv_at hl 1 rfl) ?_
  have hP := hP.perm (WC_sb ca ad q2 (nI f) nO nL nA nC nV nU nP nE bF bO bL bA bC bV bU bP bE cT cK cO cQ cD pT pK pR pW pU pI pC uO uF uE uN wK oM (nI (0 + dgs i + 1)) z2 B2 R).symm
  have hD := hD.perm (WC_sb ca ad q2 (nI f) nO nL nA nC nV nU nP nE bF bO bL bA bC bV bU bP bE cT cK cO cQ cD pT pK pR pW pU pI pC uO uF uE uN wK oM (nI (0 + dgs i + 1)) z2 B2 R).symm
  refine call_vi (rest := [.ref (ad 7)]) (m_S_linkTotal l ca ad q2 (nI f) nO nL nA nC nV nU nP nE bF bO bL bA bC bV bU bP bE cT cK cO cQ cD pT pK pR pW pU pI pC uO uF uE uN wK oM (nI (0 + dgs i + 1)) z2 B2 R _ (nI i) (nI L) (by rw [S_linkTotal_in hi hf, hNL])) ⟨hx, hb, hml, hown, hts⟩ (cwV 1 hts (gV q536 q537 q538 q42 q539) rfl rfl rfl (by decide +kernel) ⟨by show _ ≤ 30; decide, by show _ ≤ 600; decide⟩) (va_recv hK hP (ci := 6) (q0 := 1) rfl rfl) hE hP hD hS hA rfl hl.1 rfl (lv_room (Nat.le_of_ble_eq_true rfl)) dX3_writeFile_31 ⟨by show 1 + z2 + 0 ≤ 301; omega, by show 6 + 2 * z2 + 0 ≤ 606; omega⟩ (fun H locs hP hD hS => ?_)
  have hP := hP.perm (WC_sb ca ad q2 (nI f) nO nL nA nC nV nU nP nE bF bO bL bA bC bV bU bP bE cT cK cO cQ cD pT pK pR pW pU pI pC uO uF uE uN wK oM (nI (0 + dgs i + 1)) z2 B2 R)
  have hD := hD.perm (WC_sb ca ad q2 (nI f) nO nL nA nC nV nU nP nE bF bO bL bA bC bV bU bP bE cT cK cO cQ cD pT pK pR pW pU pI pC uO uF uE uN wK oM (nI (0 + dgs i + 1)) z2 B2 R)
  refine W.widen (k := 1 + z2) (n := 6 + 2 * z2) (by omega) (by omega) ?_
  refine sb_apI ca (ad 7) q2 oM _ (v := L) hT2 hF2 hm2 hz2 (by omega) hL100 ⟨hx, hb, hml, hown, hts⟩ q1280 ⟨by show _ ≤ 30; decide, by show _ ≤ 600; decide⟩ ⟨by show 1 + 300 ≤ 301; omega, by show 6 + 600 ≤ 606; omega⟩ hE hP hD hS hA hZ hl.1 (Nat.le_of_ble_eq_true rfl) dX3_writeFile_34 (fun q3 z3 B3 H locs hT3 hF3 hm3 hz3 hP hD hS => ?_)
  have hP : va_P D vwCl (WB ca (ad 7) q3 oM (nI (row0 i L).2) z3 B3 ++ (WCr ca ad (nI f) nO nL nA nC nV nU nP nE bF bO bL bA bC bV bU bP bE cT cK cO cQ cD pT pK pR pW pU pI pC uO uF uE uN wK ++ R)) H := hP
  have hD : va_D A (WB ca (ad 7) q3 oM (nI (row0 i L).2) z3 B3 ++ (WCr ca ad (nI f) nO nL nA nC nV nU nP nE bF bO bL bA bC bV bU bP bE cT cK cO cQ cD pT pK pR pW pU pI pC uO uF uE uN wK ++ R)) := hD
  have hT3 : Same (rowT i L blk 0).2 (rowT i L blk 0).1 B3 := hT3
  refine lv_pop hx hb dX3_writeFile_37 rfl ?_
  refine lv_iconst (v := nI 0) hx hb dX3_writeFile_38 (by decide) ?_
  refine lv_istore_n (lv' := [(2, .int (nI 0)), (0, .ref (ad 0)), (1, .int (nI i))]) hx hb dX3_writeFile_39 rfl hl (by decide) rfl (fun ls hl => ?_)
  exact LP oM 16 0 rfl q3 z3 B3 _ _ _ hT3 hF3 hm3 hz3 hP hD hS (lv_sub hl [0, 1, 2] rfl)
