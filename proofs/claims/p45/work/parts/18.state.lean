def f_state_L55 : Nat → Int32 → Int32 → Int32 → Int64 → Int32 → Int32 → Int32 → (Nat → Int32) → (Nat → Int32) → Option (Int64)
  | 0, _, _, _, _, _, _, _, _, _ => none
  | fuel + 1, v1, v2, v3, v4, v6, v7, nF, nC, nV =>
    if 16 ≤ v7 then
      some v4
    else
      (f_K8 v6 v7 nF nC nV).bind fun r33 =>
      (f_K9 v6 v7 nF nC).bind fun r35 =>
      f_state_L55 fuel v1 v2 v3 ((31 * ((31 * v4) + (r33).toInt64)) + (r35).toInt64) v6 (v7 + 3) nF nC nV
def f_state_L8 : Nat → Int32 → Int32 → Int32 → Int64 → Int32 → Int32 → (Nat → Int32) → (Nat → Int32) → (Nat → Int32) → Int32 → (Nat → Int32) → (Nat → Int32) → Option (Int64)
  | 0, _, _, _, _, _, _, _, _, _, _, _, _ => none
  | fuel + 1, v1, v2, v3, v4, v6, nF, nL, nC, nV, uO, uF, uN =>
    (f_C_fileCount nF).bind fun r20 =>
    if r20 ≤ v6 then
      some v4
    else
      (f_K3 v6 nF nL).bind fun r23 =>
      (f_K26 v6 nF uO uF uN).bind fun r25 =>
      (f_state_L55 7 v1 v2 v3 ((31 * ((31 * v4) + (r23).toInt64)) + (r25).toInt64) v6 0 nF nC nV).bind fun x38 =>
      f_state_L8 fuel v1 v2 v3 x38 (v6 + 1) nF nL nC nV uO uF uN
def f_state_L115 : Nat → Int32 → Int32 → Int32 → Int64 → Int32 → Int32 → (Nat → Int32) → (Nat → Int32) → (Nat → Int32) → Int32 → Option (Int64)
  | 0, _, _, _, _, _, _, _, _, _, _ => none
  | fuel + 1, v1, v2, v3, v4, v6, nF, nO, nC, nP, cO =>
    if v1 ≤ v6 then
      some v4
    else
      (f_K11 v6 nF nO nC cO).bind fun r47 =>
      (f_K15 v6 nP cO).bind fun r49 =>
      f_state_L115 fuel v1 v2 v3 ((31 * ((31 * v4) + (r47).toInt64)) + (r49).toInt64) (v6 + 1) nF nO nC nP cO
def f_state_L166 : Nat → Int32 → Int32 → Int64 → Int32 → Int32 → (Nat → Int32) → Option (Int64)
  | 0, _, _, _, _, _, _ => none
  | fuel + 1, v2, v3, v4, v6, pT, pW =>
    if v2 ≤ v6 then
      some v4
    else
      (f_K18 v6 pT pW).bind fun r57 =>
      f_state_L166 fuel v2 v3 ((31 * v4) + (r57).toInt64) (v6 + 1) pT pW
def f_state_L201 : Nat → Int32 → Int64 → Int32 → Int32 → (Nat → Int32) → Option (Int64)
  | 0, _, _, _, _, _ => none
  | fuel + 1, v3, v4, v6, uO, uN =>
    if v3 ≤ v6 then
      some v4
    else
      (f_K25 v6 uO uN).bind fun r65 =>
      f_state_L201 fuel v3 ((31 * v4) + (r65).toInt64) (v6 + 1) uO uN
def f_state (p1 : Int32) (p2 : Int32) (p3 : Int32) (nF : Int32) (nO : Nat → Int32) (nL : Nat → Int32) (nC : Nat → Int32) (nV : Nat → Int32) (nU : Nat → Int32) (nP : Nat → Int32) (nE : Int32) (cO : Int32) (cD : Int32) (pT : Int32) (pW : Nat → Int32) (uO : Int32) (uF : Nat → Int32) (uN : Nat → Int32) : Option (Int64) :=
  (f_state_L8 41 p1 p2 p3 97 0 nF nL nC nV uO uF uN).bind fun x40 =>
  (f_state_L115 5 p1 p2 p3 x40 0 nF nO nC nP cO).bind fun x52 =>
  (f_state_L166 31 p2 p3 x52 0 pT pW).bind fun x60 =>
  (f_state_L201 31 p3 x60 0 uO uN).bind fun x68 =>
  (f_C_fileCount nF).bind fun r69 =>
  (f_C_journalSize nE).bind fun r71 =>
  (f_C_free nU).bind fun r73 =>
  (f_C_day cD).bind fun r75 =>
  some ((31 * ((31 * ((31 * ((31 * x68) + (r69).toInt64)) + (r71).toInt64)) + (r73).toInt64)) + (r75).toInt64)
set_option maxHeartbeats 8000000 in
set_option maxRecDepth 100000 in
theorem m_state (l : Launch) (hst : l.stackTraces = false) {D : va_G} (ca : Nat → ClassId) (ad : Nat → Nat) (bq qa sa : Nat) (nF : Int32) (nO : Nat → Int32) (nL : Nat → Int32) (nA : Nat → Int32) (nC : Nat → Int32) (nV : Nat → Int32) (nU : Nat → Int32) (nP : Nat → Int32) (nE : Int32) (bF : Int32) (bO : Nat → Int32) (bL : Nat → Int32) (bA : Nat → Int32) (bC : Nat → Int32) (bV : Nat → Int32) (bU : Nat → Int32) (bP : Nat → Int32) (bE : Int32) (cT : Int32) (cK : Nat → Int32) (cO : Int32) (cQ : Nat → Int32) (cD : Int32) (pT : Int32) (pK : Int32) (pR : Nat → Int32) (pW : Nat → Int32) (pU : Nat → Int32) (pI : Nat → Int32) (pC : Nat → Nat → Int32) (uO : Int32) (uF : Nat → Int32) (uE : Nat → Int32) (uN : Nat → Int32) (wK : Nat → Int32) (jM : Int32) (jN : Int32) (jZ : Nat) (jB : Nat → Int32) (oQ : Nat → Int32) (oS : Nat → Int32) (R : va_W) (sz : Nat) (p1 : Int32) (p2 : Int32) (p3 : Int32) (ro : Int64) (hf : f_state p1 p2 p3 nF nO nL nC nV nU nP nE cO cD pT pW uO uF uN = some ro) : Met l yL_state (wm yL_state cL_state 8 (some .long)) ({ frames := 10, cells := 1876, slots := 11256, locals := 181 } : Room) (PREL [.ref (ad 0), .int p1, .int p2, .int p3] D ca SL0 (WC ca ad bq nF nO nL nA nC nV nU nP nE bF bO bL bA bC bV bU bP bE cT cK cO cQ cD pT pK pR pW pU pI pC uO uF uE uN wK jM jN jZ jB ++ (WO ca qa sa oQ oS ++ R)) sz) (QL ro D (WC ca ad bq nF nO nL nA nC nV nU nP nE bF bO bL bA bC bV bU bP bE cT cK cO cQ cD pT pK pR pW pU pI pC uO uF uE uN wK jM jN jZ jB ++ (WO ca qa sa oQ oS ++ R)) (WC ca ad bq nF nO nL nA nC nV nU nP nE bF bO bL bA bC bV bU bP bE cT cK cO cQ cD pT pK pR pW pU pI pC uO uF uE uN wK jM jN jZ jB ++ (WO ca qa sa oQ oS ++ R)) sz) 1876 11256 (va_A (WC ca ad bq nF nO nL nA nC nV nU nP nE bF bO bL bA bC bV bU bP bE cT cK cO cQ cD pT pK pR pW pU pI pC uO uF uE uN wK jM jN jZ jB ++ (WO ca qa sa oQ oS ++ R)) sz) := by
  refine Met.ofW (cc := cL_state) (maxL := 8) (ret := (some .long)) (by decide) rfl ?_
  intro p e s m args below meth c s₁ B hml hv
  obtain ⟨rfl, rfl, hP, hE, hD0, hZ, hNC⟩ := hv
  have hx := B.exec
  have hb := B.bytes
  have hr := B.returns
  have hts := wm_ww (atoms_spec (ws := wm yL_state cL_state 8 (some .long)) B.pre)
  have hown : s.vm.findClass RL = some m.cls := findClass_of_methodNamed B.named
  have hlocks := B.notSynchronized
  have hK := hE.1
  have hD := hD0.self (sz := s.heap.size)
  generalize hAe : va_A (WC ca ad bq nF nO nL nA nC nV nU nP nE bF bO bL bA bC bV bU bP bE cT cK cO cQ cD pT pK pR pW pU pI pC uO uF uE uN wK jM jN jZ jB ++ (WO ca qa sa oQ oS ++ R)) s.heap.size = A at hD hZ ⊢
  have hA : ∀ q : Nat, s.heap.size ≤ q → A q := fun q h => by rw [← hAe]; exact Or.inr h
  have hS : va_S A s.heap s.heap [] := va_S.rf
  have hl := lv_entry ([.ref (ad 0), .int p1, .int p2, .int p3]) (n := 8) (Nat.le_of_ble_eq_true rfl)
  rw [lg_entry_eq]
  generalize (lg_sl ([.ref (ad 0), .int p1, .int p2, .int p3]) ++ List.replicate (8 - (lg_sl ([.ref (ad 0), .int p1, .int p2, .int p3])).length) Slot.unset).toArray = ls at hl ⊢
  have hl : lv_has ls 8 [(0, .ref (ad 0)), (1, .int p1), (2, .int p2), (3, .int p3)] := hl
  change W p l e ({ frames := 10, cells := 1876, slots := 11256, locals := 181 } : Room) s m _ below meth c s.heap [] 0 0 _ _
  generalize hQm : MQ below (QL ro D (WC ca ad bq nF nO nL nA nC nV nU nP nE bF bO bL bA bC bV bU bP bE cT cK cO cQ cD pT pK pR pW pU pI pC uO uF uE uN wK jM jN jZ jB ++ (WO ca qa sa oQ oS ++ R)) (WC ca ad bq nF nO nL nA nC nV nU nP nE bF bO bL bA bC bV bU bP bE cT cK cO cQ cD pT pK pR pW pU pI pC uO uF uE uN wK jM jN jZ jB ++ (WO ca qa sa oQ oS ++ R)) s.heap.size) _ s 1876 11256 A = Qm
  have hP : va_P D vwCl (WC ca ad bq nF nO nL nA nC nV nU nP nE bF bO bL bA bC bV bU bP bE cT cK cO cQ cD pT pK pR pW pU pI pC uO uF uE uN wK jM jN jZ jB ++ (WO ca qa sa oQ oS ++ R)) s.heap := hP
  generalize hae : ([.ref (ad 0), .int p1, .int p2, .int p3] : List Value).toArray = args at hts hQm ⊢
  have L55 : ∀ (n : Nat) (cN_ sN_ CT ST : Nat) (v1 : Int32) (v2 : Int32) (v3 : Int32) (v4 : Int64) (v6 : Int32) (v7 : Int32) (y4 : Int64), f_state_L55 n v1 v2 v3 v4 v6 v7 nF nC nV = some y4 → cN_ + n * 6 ≤ CT → sN_ + n * 36 ≤ ST → CT ≤ 1876 → ST ≤ 11256 → ∀ (H : Heap) (locs : List Loc) (ls : Array Slot), va_P D vwCl (WC ca ad bq nF nO nL nA nC nV nU nP nE bF bO bL bA bC bV bU bP bE cT cK cO cQ cD pT pK pR pW pU pI pC uO uF uE uN wK jM jN jZ jB ++ (WO ca qa sa oQ oS ++ R)) H → va_D A (WC ca ad bq nF nO nL nA nC nV nU nP nE bF bO bL bA bC bV bU bP bE cT cK cO cQ cD pT pK pR pW pU pI pC uO uF uE uN wK jM jN jZ jB ++ (WO ca qa sa oQ oS ++ R)) → va_S A s.heap H locs → lv_has ls 8 [(0, .ref (ad 0)), (1, .int v1), (2, .int v2), (3, .int v3), (4, .long v4), (6, .int v6), (7, .int v7)] → (∀ (H : Heap) (locs : List Loc) (ls : Array Slot), va_P D vwCl (WC ca ad bq nF nO nL nA nC nV nU nP nE bF bO bL bA bC bV bU bP bE cT cK cO cQ cD pT pK pR pW pU pI pC uO uF uE uN wK jM jN jZ jB ++ (WO ca qa sa oQ oS ++ R)) H → va_D A (WC ca ad bq nF nO nL nA nC nV nU nP nE bF bO bL bA bC bV bU bP bE cT cK cO cQ cD pT pK pR pW pU pI pC uO uF uE uN wK jM jN jZ jB ++ (WO ca qa sa oQ oS ++ R)) → va_S A s.heap H locs → lv_has ls 8 [(0, .ref (ad 0)), (1, .int v1), (2, .int v2), (3, .int v3), (4, .long y4), (6, .int v6)] → W p l e ({ frames := 10, cells := 1876, slots := 11256, locals := 181 } : Room) s m args below meth c H locs CT ST Qm (F0 m 106 ls [])) → W p l e ({ frames := 10, cells := 1876, slots := 11256, locals := 181 } : Room) s m args below meth c H locs cN_ sN_ Qm (F0 m 55 ls []) := by
    intro n
    induction n with
    | zero => intro _ _ _ _ v1 v2 v3 v4 v6 v7 y4 hf; cases hf
    | succ n ih =>
      intro cN_ sN_ CT ST v1 v2 v3 v4 v6 v7 y4 hf hc9 hs9 hCT hST H locs ls hP hD hS hl kk
      have hc8 : cN_ + n * 6 + 6 ≤ CT := by rw [Nat.succ_mul] at hc9; omega
      have hs8 : sN_ + n * 36 + 36 ≤ ST := by rw [Nat.succ_mul] at hs9; omega
      clear hc9 hs9
      change W p l e ({ frames := 10, cells := 1876, slots := 11256, locals := 181 } : Room) s m args below meth c H locs (cN_ + 0) (sN_ + 0) Qm (F0 m 55 ls [])
      unfold f_state_L55 at hf
      refine lv_iload hx hb dL_state_55 (lv_at hl 6 rfl) ?_
      refine lv_bipush (v := 16) hx hb dL_state_57 (by decide) ?_
      refine lv_icmp_ge (tgt := 106) hx hb dL_state_59 (by decide) (fun c32 => ?_) (fun c32 => ?_)
      · have hf := br_pos c32 hf
        cases hf
        refine W.widen (k := CT) (n := ST) (by omega) (by omega) ?_
        exact kk _ _ _ hP hD hS (lv_sub hl [0, 1, 2, 3, 4, 5] rfl)
      · have hf := br_neg c32 hf
        refine lv_ldc2 hx hb hown (hts _ q1163) dL_state_62 ?_
        refine lv_ldc2 hx hb hown (hts _ q1163) dL_state_65 ?_
        refine lv_lload hx hb dL_state_68 (lv_at hl 4 rfl) ?_
        refine lv_lmul hx hb dL_state_70 ?_
        refine lv_aload_n hx hb dL_state_71 rfl (lv_at hl 0 rfl) ?_
        refine lv_bipush (v := 8) hx hb dL_state_72 (by decide) ?_
        refine lv_iload hx hb dL_state_74 (lv_at hl 5 rfl) ?_
        refine lv_iload hx hb dL_state_76 (lv_at hl 6 rfl) ?_
        refine lv_iconst (v := 0) hx hb dL_state_78 (by decide) ?_
        obtain ⟨r33, h34, hf⟩ := bnd hf
        refine cl_wi (rest := [.long (31 * v4), .long 31]) (m_K8 l hst ca ad bq nF nO nL nA nC nV nU nP nE bF bO bL bA bC bV bU bP bE cT cK cO cQ cD pT pK pR pW pU pI pC uO uF uE uN wK jM jN jZ jB (WO ca qa sa oQ oS ++ R) _ v6 v7 0 r33 h34) ⟨hx, hb, hml, hown, hts⟩ (vx_cwSW 5 hts (gSW q251 q252 q23 q253) rfl rfl rfl (by decide +kernel) ⟨Nat.le_of_ble_eq_true rfl, Nat.le_of_ble_eq_true rfl⟩) hE hP hD hS hA hZ hNC rfl hl.1 rfl (lv_room (Nat.le_of_ble_eq_true rfl)) dL_state_79 ⟨by show _ ≤ 1876; omega, by show _ ≤ 11256; omega⟩ (fun H locs hP hD hS => ?_)
        refine lv_i2l hx hb dL_state_82 rfl ?_
        refine lv_ladd hx hb dL_state_83 ?_
        refine lv_lmul hx hb dL_state_84 ?_
        refine lv_aload_n hx hb dL_state_85 rfl (lv_at hl 0 rfl) ?_
        refine lv_bipush (v := 9) hx hb dL_state_86 (by decide) ?_
        refine lv_iload hx hb dL_state_88 (lv_at hl 5 rfl) ?_
        refine lv_iload hx hb dL_state_90 (lv_at hl 6 rfl) ?_
        refine lv_iconst (v := 0) hx hb dL_state_92 (by decide) ?_
        obtain ⟨r35, h36, hf⟩ := bnd hf
        refine cl_wi (rest := [.long (31 * ((31 * v4) + (r33).toInt64))]) (m_K9 l hst ca ad bq nF nO nL nA nC nV nU nP nE bF bO bL bA bC bV bU bP bE cT cK cO cQ cD pT pK pR pW pU pI pC uO uF uE uN wK jM jN jZ jB (WO ca qa sa oQ oS ++ R) _ v6 v7 0 r35 h36) ⟨hx, hb, hml, hown, hts⟩ (vx_cwSW 5 hts (gSW q251 q252 q23 q253) rfl rfl rfl (by decide +kernel) ⟨Nat.le_of_ble_eq_true rfl, Nat.le_of_ble_eq_true rfl⟩) hE hP hD hS hA hZ hNC rfl hl.1 rfl (lv_room (Nat.le_of_ble_eq_true rfl)) dL_state_93 ⟨by show _ ≤ 1876; omega, by show _ ≤ 11256; omega⟩ (fun H locs hP hD hS => ?_)
        refine lv_i2l hx hb dL_state_96 rfl ?_
        refine lv_ladd hx hb dL_state_97 ?_
        refine lv_lstore (lv' := [(4, .long ((31 * ((31 * v4) + (r33).toInt64)) + (r35).toInt64)), (0, .ref (ad 0)), (1, .int v1), (2, .int v2), (3, .int v3), (6, .int v6), (7, .int v7)]) hx hb dL_state_98 hl (by decide) rfl (fun ls hl => ?_)
        refine lv_iinc (v := (v7 + 3)) (lv' := [(7, .int (v7 + 3)), (4, .long ((31 * ((31 * v4) + (r33).toInt64)) + (r35).toInt64)), (0, .ref (ad 0)), (1, .int v1), (2, .int v2), (3, .int v3), (6, .int v6)]) hx hb dL_state_100 hl (k := 6) rfl rfl (by decide) rfl (fun ls hl => ?_)
        refine lv_goto (tgt := 55) hx hb dL_state_103 (by decide) ?_
        exact ih _ _ CT ST v1 v2 v3 ((31 * ((31 * v4) + (r33).toInt64)) + (r35).toInt64) v6 (v7 + 3) _ hf (by omega) (by omega) hCT hST _ _ _ hP hD hS (lv_sub hl [2, 3, 4, 5, 1, 6, 0] rfl) kk
  have L8 : ∀ (n : Nat) (cN_ sN_ CT ST : Nat) (v1 : Int32) (v2 : Int32) (v3 : Int32) (v4 : Int64) (v6 : Int32) (y4 : Int64), f_state_L8 n v1 v2 v3 v4 v6 nF nL nC nV uO uF uN = some y4 → cN_ + n * 44 ≤ CT → sN_ + n * 264 ≤ ST → CT ≤ 1876 → ST ≤ 11256 → ∀ (H : Heap) (locs : List Loc) (ls : Array Slot), va_P D vwCl (WC ca ad bq nF nO nL nA nC nV nU nP nE bF bO bL bA bC bV bU bP bE cT cK cO cQ cD pT pK pR pW pU pI pC uO uF uE uN wK jM jN jZ jB ++ (WO ca qa sa oQ oS ++ R)) H → va_D A (WC ca ad bq nF nO nL nA nC nV nU nP nE bF bO bL bA bC bV bU bP bE cT cK cO cQ cD pT pK pR pW pU pI pC uO uF uE uN wK jM jN jZ jB ++ (WO ca qa sa oQ oS ++ R)) → va_S A s.heap H locs → lv_has ls 8 [(0, .ref (ad 0)), (1, .int v1), (2, .int v2), (3, .int v3), (4, .long v4), (6, .int v6)] → (∀ (H : Heap) (locs : List Loc) (ls : Array Slot), va_P D vwCl (WC ca ad bq nF nO nL nA nC nV nU nP nE bF bO bL bA bC bV bU bP bE cT cK cO cQ cD pT pK pR pW pU pI pC uO uF uE uN wK jM jN jZ jB ++ (WO ca qa sa oQ oS ++ R)) H → va_D A (WC ca ad bq nF nO nL nA nC nV nU nP nE bF bO bL bA bC bV bU bP bE cT cK cO cQ cD pT pK pR pW pU pI pC uO uF uE uN wK jM jN jZ jB ++ (WO ca qa sa oQ oS ++ R)) → va_S A s.heap H locs → lv_has ls 8 [(0, .ref (ad 0)), (1, .int v1), (2, .int v2), (3, .int v3), (4, .long y4)] → W p l e ({ frames := 10, cells := 1876, slots := 11256, locals := 181 } : Room) s m args below meth c H locs CT ST Qm (F0 m 112 ls [])) → W p l e ({ frames := 10, cells := 1876, slots := 11256, locals := 181 } : Room) s m args below meth c H locs cN_ sN_ Qm (F0 m 8 ls []) := by
    intro n
    induction n with
    | zero => intro _ _ _ _ v1 v2 v3 v4 v6 y4 hf; cases hf
    | succ n ih =>
      intro cN_ sN_ CT ST v1 v2 v3 v4 v6 y4 hf hc9 hs9 hCT hST H locs ls hP hD hS hl kk
      have hc8 : cN_ + n * 44 + 44 ≤ CT := by rw [Nat.succ_mul] at hc9; omega
      have hs8 : sN_ + n * 264 + 264 ≤ ST := by rw [Nat.succ_mul] at hs9; omega
      clear hc9 hs9
      change W p l e ({ frames := 10, cells := 1876, slots := 11256, locals := 181 } : Room) s m args below meth c H locs (cN_ + 0) (sN_ + 0) Qm (F0 m 8 ls [])
      unfold f_state_L8 at hf
      refine lv_iload hx hb dL_state_8 (lv_at hl 5 rfl) ?_
      refine lv_aload_n hx hb dL_state_10 rfl (lv_at hl 0 rfl) ?_
      obtain ⟨r20, h21, hf⟩ := bnd hf
      refine call_vi (rest := [.int v6]) (m_C_fileCount l ca ad bq nF nO nL nA nC nV nU nP nE bF bO bL bA bC bV bU bP bE cT cK cO cQ cD pT pK pR pW pU pI pC uO uF uE uN wK jM jN jZ jB (WO ca qa sa oQ oS ++ R) _ r20 h21) ⟨hx, hb, hml, hown, hts⟩ (cwV 0 hts (gV q216 q217 q218 q24 q219) rfl rfl rfl (by decide +kernel) ⟨Nat.le_of_ble_eq_true rfl, Nat.le_of_ble_eq_true rfl⟩) (va_recv hK hP (ci := 7) (q0 := 0) rfl rfl) hE hP hD hS hA rfl hl.1 rfl (lv_room (Nat.le_of_ble_eq_true rfl)) dL_state_11 ⟨by show _ ≤ 1876; omega, by show _ ≤ 11256; omega⟩ (fun H locs hP hD hS => ?_)
      refine lv_icmp_ge (tgt := 112) hx hb dL_state_14 (by decide) (fun c22 => ?_) (fun c22 => ?_)
      · have hf := br_pos c22 hf
        cases hf
        refine W.widen (k := CT) (n := ST) (by omega) (by omega) ?_
        exact kk _ _ _ hP hD hS (lv_sub hl [0, 1, 2, 3, 4] rfl)
      · have hf := br_neg c22 hf
        refine lv_ldc2 hx hb hown (hts _ q1163) dL_state_17 ?_
        refine lv_ldc2 hx hb hown (hts _ q1163) dL_state_20 ?_
        refine lv_lload hx hb dL_state_23 (lv_at hl 4 rfl) ?_
        refine lv_lmul hx hb dL_state_25 ?_
        refine lv_aload_n hx hb dL_state_26 rfl (lv_at hl 0 rfl) ?_
        refine lv_iconst (v := 3) hx hb dL_state_27 (by decide) ?_
        refine lv_iload hx hb dL_state_28 (lv_at hl 5 rfl) ?_
        refine lv_iconst (v := 0) hx hb dL_state_30 (by decide) ?_
        refine lv_iconst (v := 0) hx hb dL_state_31 (by decide) ?_
        obtain ⟨r23, h24, hf⟩ := bnd hf
        refine cl_wi (rest := [.long (31 * v4), .long 31]) (m_K3 l hst ca ad bq nF nO nL nA nC nV nU nP nE bF bO bL bA bC bV bU bP bE cT cK cO cQ cD pT pK pR pW pU pI pC uO uF uE uN wK jM jN jZ jB (WO ca qa sa oQ oS ++ R) _ v6 0 0 r23 h24) ⟨hx, hb, hml, hown, hts⟩ (vx_cwSW 5 hts (gSW q251 q252 q23 q253) rfl rfl rfl (by decide +kernel) ⟨Nat.le_of_ble_eq_true rfl, Nat.le_of_ble_eq_true rfl⟩) hE hP hD hS hA hZ hNC rfl hl.1 rfl (lv_room (Nat.le_of_ble_eq_true rfl)) dL_state_32 ⟨by show _ ≤ 1876; omega, by show _ ≤ 11256; omega⟩ (fun H locs hP hD hS => ?_)
        refine lv_i2l hx hb dL_state_35 rfl ?_
        refine lv_ladd hx hb dL_state_36 ?_
        refine lv_lmul hx hb dL_state_37 ?_
        refine lv_aload_n hx hb dL_state_38 rfl (lv_at hl 0 rfl) ?_
        refine lv_bipush (v := 26) hx hb dL_state_39 (by decide) ?_
        refine lv_iload hx hb dL_state_41 (lv_at hl 5 rfl) ?_
        refine lv_iconst (v := 0) hx hb dL_state_43 (by decide) ?_
        refine lv_iconst (v := 0) hx hb dL_state_44 (by decide) ?_
        obtain ⟨r25, h26, hf⟩ := bnd hf
        refine cl_wi (rest := [.long (31 * ((31 * v4) + (r23).toInt64))]) (m_K26 l hst ca ad bq nF nO nL nA nC nV nU nP nE bF bO bL bA bC bV bU bP bE cT cK cO cQ cD pT pK pR pW pU pI pC uO uF uE uN wK jM jN jZ jB (WO ca qa sa oQ oS ++ R) _ v6 0 0 r25 h26) ⟨hx, hb, hml, hown, hts⟩ (vx_cwSW 5 hts (gSW q251 q252 q23 q253) rfl rfl rfl (by decide +kernel) ⟨Nat.le_of_ble_eq_true rfl, Nat.le_of_ble_eq_true rfl⟩) hE hP hD hS hA hZ hNC rfl hl.1 rfl (lv_room (Nat.le_of_ble_eq_true rfl)) dL_state_45 ⟨by show _ ≤ 1876; omega, by show _ ≤ 11256; omega⟩ (fun H locs hP hD hS => ?_)
        refine lv_i2l hx hb dL_state_48 rfl ?_
        refine lv_ladd hx hb dL_state_49 ?_
        refine lv_lstore (lv' := [(4, .long ((31 * ((31 * v4) + (r23).toInt64)) + (r25).toInt64)), (0, .ref (ad 0)), (1, .int v1), (2, .int v2), (3, .int v3), (6, .int v6)]) hx hb dL_state_50 hl (by decide) rfl (fun ls hl => ?_)
        refine lv_iconst (v := 0) hx hb dL_state_52 (by decide) ?_
        refine lv_istore (lv' := [(7, .int 0), (4, .long ((31 * ((31 * v4) + (r23).toInt64)) + (r25).toInt64)), (0, .ref (ad 0)), (1, .int v1), (2, .int v2), (3, .int v3), (6, .int v6)]) hx hb dL_state_53 hl (by decide) rfl (fun ls hl => ?_)
        obtain ⟨x38, h37, hf⟩ := bnd hf
        refine L55 7 _ _ (cN_ + 44) (sN_ + 264) v1 v2 v3 ((31 * ((31 * v4) + (r23).toInt64)) + (r25).toInt64) v6 0 x38 h37 (by omega) (by omega) (by omega) (by omega) _ _ _ hP hD hS (lv_sub hl [2, 3, 4, 5, 1, 6, 0] rfl) (fun H locs ls hP hD hS hl => ?_)
        refine lv_iinc (v := (v6 + 1)) (lv' := [(6, .int (v6 + 1)), (0, .ref (ad 0)), (1, .int v1), (2, .int v2), (3, .int v3), (4, .long x38)]) hx hb dL_state_106 hl (k := 5) rfl rfl (by decide) rfl (fun ls hl => ?_)
        refine lv_goto (tgt := 8) hx hb dL_state_109 (by decide) ?_
        exact ih _ _ CT ST v1 v2 v3 x38 (v6 + 1) _ hf (by omega) (by omega) hCT hST _ _ _ hP hD hS (lv_sub hl [1, 2, 3, 4, 5, 0] rfl) kk
  have L115 : ∀ (n : Nat) (cN_ sN_ CT ST : Nat) (v1 : Int32) (v2 : Int32) (v3 : Int32) (v4 : Int64) (v6 : Int32) (y4 : Int64), f_state_L115 n v1 v2 v3 v4 v6 nF nO nC nP cO = some y4 → cN_ + n * 2 ≤ CT → sN_ + n * 12 ≤ ST → CT ≤ 1876 → ST ≤ 11256 → ∀ (H : Heap) (locs : List Loc) (ls : Array Slot), va_P D vwCl (WC ca ad bq nF nO nL nA nC nV nU nP nE bF bO bL bA bC bV bU bP bE cT cK cO cQ cD pT pK pR pW pU pI pC uO uF uE uN wK jM jN jZ jB ++ (WO ca qa sa oQ oS ++ R)) H → va_D A (WC ca ad bq nF nO nL nA nC nV nU nP nE bF bO bL bA bC bV bU bP bE cT cK cO cQ cD pT pK pR pW pU pI pC uO uF uE uN wK jM jN jZ jB ++ (WO ca qa sa oQ oS ++ R)) → va_S A s.heap H locs → lv_has ls 8 [(0, .ref (ad 0)), (1, .int v1), (2, .int v2), (3, .int v3), (4, .long v4), (6, .int v6)] → (∀ (H : Heap) (locs : List Loc) (ls : Array Slot), va_P D vwCl (WC ca ad bq nF nO nL nA nC nV nU nP nE bF bO bL bA bC bV bU bP bE cT cK cO cQ cD pT pK pR pW pU pI pC uO uF uE uN wK jM jN jZ jB ++ (WO ca qa sa oQ oS ++ R)) H → va_D A (WC ca ad bq nF nO nL nA nC nV nU nP nE bF bO bL bA bC bV bU bP bE cT cK cO cQ cD pT pK pR pW pU pI pC uO uF uE uN wK jM jN jZ jB ++ (WO ca qa sa oQ oS ++ R)) → va_S A s.heap H locs → lv_has ls 8 [(0, .ref (ad 0)), (2, .int v2), (3, .int v3), (4, .long y4)] → W p l e ({ frames := 10, cells := 1876, slots := 11256, locals := 181 } : Room) s m args below meth c H locs CT ST Qm (F0 m 163 ls [])) → W p l e ({ frames := 10, cells := 1876, slots := 11256, locals := 181 } : Room) s m args below meth c H locs cN_ sN_ Qm (F0 m 115 ls []) := by
    intro n
    induction n with
    | zero => intro _ _ _ _ v1 v2 v3 v4 v6 y4 hf; cases hf
    | succ n ih =>
      intro cN_ sN_ CT ST v1 v2 v3 v4 v6 y4 hf hc9 hs9 hCT hST H locs ls hP hD hS hl kk
      have hc8 : cN_ + n * 2 + 2 ≤ CT := by rw [Nat.succ_mul] at hc9; omega
      have hs8 : sN_ + n * 12 + 12 ≤ ST := by rw [Nat.succ_mul] at hs9; omega
      clear hc9 hs9
      change W p l e ({ frames := 10, cells := 1876, slots := 11256, locals := 181 } : Room) s m args below meth c H locs (cN_ + 0) (sN_ + 0) Qm (F0 m 115 ls [])
      unfold f_state_L115 at hf
      refine lv_iload hx hb dL_state_115 (lv_at hl 5 rfl) ?_
      refine lv_iload_n hx hb dL_state_117 rfl (lv_at hl 1 rfl) ?_
      refine lv_icmp_ge (tgt := 163) hx hb dL_state_118 (by decide) (fun c46 => ?_) (fun c46 => ?_)
      · have hf := br_pos c46 hf
        cases hf
        refine W.widen (k := CT) (n := ST) (by omega) (by omega) ?_
        exact kk _ _ _ hP hD hS (lv_sub hl [0, 2, 3, 4] rfl)
      · have hf := br_neg c46 hf
        refine lv_ldc2 hx hb hown (hts _ q1163) dL_state_121 ?_
        refine lv_ldc2 hx hb hown (hts _ q1163) dL_state_124 ?_
        refine lv_lload hx hb dL_state_127 (lv_at hl 4 rfl) ?_
        refine lv_lmul hx hb dL_state_129 ?_
        refine lv_aload_n hx hb dL_state_130 rfl (lv_at hl 0 rfl) ?_
        refine lv_bipush (v := 11) hx hb dL_state_131 (by decide) ?_
        refine lv_iload hx hb dL_state_133 (lv_at hl 5 rfl) ?_
        refine lv_iconst (v := 0) hx hb dL_state_135 (by decide) ?_
        refine lv_iconst (v := 0) hx hb dL_state_136 (by decide) ?_
        obtain ⟨r47, h48, hf⟩ := bnd hf
        refine cl_wi (rest := [.long (31 * v4), .long 31]) (m_K11 l hst ca ad bq nF nO nL nA nC nV nU nP nE bF bO bL bA bC bV bU bP bE cT cK cO cQ cD pT pK pR pW pU pI pC uO uF uE uN wK jM jN jZ jB (WO ca qa sa oQ oS ++ R) _ v6 0 0 r47 h48) ⟨hx, hb, hml, hown, hts⟩ (vx_cwSW 5 hts (gSW q251 q252 q23 q253) rfl rfl rfl (by decide +kernel) ⟨Nat.le_of_ble_eq_true rfl, Nat.le_of_ble_eq_true rfl⟩) hE hP hD hS hA hZ hNC rfl hl.1 rfl (lv_room (Nat.le_of_ble_eq_true rfl)) dL_state_137 ⟨by show _ ≤ 1876; omega, by show _ ≤ 11256; omega⟩ (fun H locs hP hD hS => ?_)
        refine lv_i2l hx hb dL_state_140 rfl ?_
        refine lv_ladd hx hb dL_state_141 ?_
        refine lv_lmul hx hb dL_state_142 ?_
        refine lv_aload_n hx hb dL_state_143 rfl (lv_at hl 0 rfl) ?_
        refine lv_bipush (v := 15) hx hb dL_state_144 (by decide) ?_
        refine lv_iload hx hb dL_state_146 (lv_at hl 5 rfl) ?_
        refine lv_iconst (v := 0) hx hb dL_state_148 (by decide) ?_
        refine lv_iconst (v := 0) hx hb dL_state_149 (by decide) ?_
        obtain ⟨r49, h50, hf⟩ := bnd hf
        refine cl_wi (rest := [.long (31 * ((31 * v4) + (r47).toInt64))]) (m_K15 l hst ca ad bq nF nO nL nA nC nV nU nP nE bF bO bL bA bC bV bU bP bE cT cK cO cQ cD pT pK pR pW pU pI pC uO uF uE uN wK jM jN jZ jB (WO ca qa sa oQ oS ++ R) _ v6 0 0 r49 h50) ⟨hx, hb, hml, hown, hts⟩ (vx_cwSW 5 hts (gSW q251 q252 q23 q253) rfl rfl rfl (by decide +kernel) ⟨Nat.le_of_ble_eq_true rfl, Nat.le_of_ble_eq_true rfl⟩) hE hP hD hS hA hZ hNC rfl hl.1 rfl (lv_room (Nat.le_of_ble_eq_true rfl)) dL_state_150 ⟨by show _ ≤ 1876; omega, by show _ ≤ 11256; omega⟩ (fun H locs hP hD hS => ?_)
        refine lv_i2l hx hb dL_state_153 rfl ?_
        refine lv_ladd hx hb dL_state_154 ?_
        refine lv_lstore (lv' := [(4, .long ((31 * ((31 * v4) + (r47).toInt64)) + (r49).toInt64)), (0, .ref (ad 0)), (1, .int v1), (2, .int v2), (3, .int v3), (6, .int v6)]) hx hb dL_state_155 hl (by decide) rfl (fun ls hl => ?_)
        refine lv_iinc (v := (v6 + 1)) (lv' := [(6, .int (v6 + 1)), (4, .long ((31 * ((31 * v4) + (r47).toInt64)) + (r49).toInt64)), (0, .ref (ad 0)), (1, .int v1), (2, .int v2), (3, .int v3)]) hx hb dL_state_157 hl (k := 5) rfl rfl (by decide) rfl (fun ls hl => ?_)
        refine lv_goto (tgt := 115) hx hb dL_state_160 (by decide) ?_
        exact ih _ _ CT ST v1 v2 v3 ((31 * ((31 * v4) + (r47).toInt64)) + (r49).toInt64) (v6 + 1) _ hf (by omega) (by omega) hCT hST _ _ _ hP hD hS (lv_sub hl [2, 3, 4, 5, 1, 0] rfl) kk
  have L166 : ∀ (n : Nat) (cN_ sN_ CT ST : Nat) (v2 : Int32) (v3 : Int32) (v4 : Int64) (v6 : Int32) (y4 : Int64), f_state_L166 n v2 v3 v4 v6 pT pW = some y4 → cN_ + n * 1 ≤ CT → sN_ + n * 6 ≤ ST → CT ≤ 1876 → ST ≤ 11256 → ∀ (H : Heap) (locs : List Loc) (ls : Array Slot), va_P D vwCl (WC ca ad bq nF nO nL nA nC nV nU nP nE bF bO bL bA bC bV bU bP bE cT cK cO cQ cD pT pK pR pW pU pI pC uO uF uE uN wK jM jN jZ jB ++ (WO ca qa sa oQ oS ++ R)) H → va_D A (WC ca ad bq nF nO nL nA nC nV nU nP nE bF bO bL bA bC bV bU bP bE cT cK cO cQ cD pT pK pR pW pU pI pC uO uF uE uN wK jM jN jZ jB ++ (WO ca qa sa oQ oS ++ R)) → va_S A s.heap H locs → lv_has ls 8 [(0, .ref (ad 0)), (2, .int v2), (3, .int v3), (4, .long v4), (6, .int v6)] → (∀ (H : Heap) (locs : List Loc) (ls : Array Slot), va_P D vwCl (WC ca ad bq nF nO nL nA nC nV nU nP nE bF bO bL bA bC bV bU bP bE cT cK cO cQ cD pT pK pR pW pU pI pC uO uF uE uN wK jM jN jZ jB ++ (WO ca qa sa oQ oS ++ R)) H → va_D A (WC ca ad bq nF nO nL nA nC nV nU nP nE bF bO bL bA bC bV bU bP bE cT cK cO cQ cD pT pK pR pW pU pI pC uO uF uE uN wK jM jN jZ jB ++ (WO ca qa sa oQ oS ++ R)) → va_S A s.heap H locs → lv_has ls 8 [(0, .ref (ad 0)), (3, .int v3), (4, .long y4)] → W p l e ({ frames := 10, cells := 1876, slots := 11256, locals := 181 } : Room) s m args below meth c H locs CT ST Qm (F0 m 198 ls [])) → W p l e ({ frames := 10, cells := 1876, slots := 11256, locals := 181 } : Room) s m args below meth c H locs cN_ sN_ Qm (F0 m 166 ls []) := by
    intro n
    induction n with
    | zero => intro _ _ _ _ v2 v3 v4 v6 y4 hf; cases hf
    | succ n ih =>
      intro cN_ sN_ CT ST v2 v3 v4 v6 y4 hf hc9 hs9 hCT hST H locs ls hP hD hS hl kk
      have hc8 : cN_ + n * 1 + 1 ≤ CT := by rw [Nat.succ_mul] at hc9; omega
      have hs8 : sN_ + n * 6 + 6 ≤ ST := by rw [Nat.succ_mul] at hs9; omega
      clear hc9 hs9
      change W p l e ({ frames := 10, cells := 1876, slots := 11256, locals := 181 } : Room) s m args below meth c H locs (cN_ + 0) (sN_ + 0) Qm (F0 m 166 ls [])
      unfold f_state_L166 at hf
      refine lv_iload hx hb dL_state_166 (lv_at hl 4 rfl) ?_
      refine lv_iload_n hx hb dL_state_168 rfl (lv_at hl 1 rfl) ?_
      refine lv_icmp_ge (tgt := 198) hx hb dL_state_169 (by decide) (fun c56 => ?_) (fun c56 => ?_)
      · have hf := br_pos c56 hf
        cases hf
        refine W.widen (k := CT) (n := ST) (by omega) (by omega) ?_
        exact kk _ _ _ hP hD hS (lv_sub hl [0, 2, 3] rfl)
      · have hf := br_neg c56 hf
        refine lv_ldc2 hx hb hown (hts _ q1163) dL_state_172 ?_
        refine lv_lload hx hb dL_state_175 (lv_at hl 3 rfl) ?_
        refine lv_lmul hx hb dL_state_177 ?_
        refine lv_aload_n hx hb dL_state_178 rfl (lv_at hl 0 rfl) ?_
        refine lv_bipush (v := 18) hx hb dL_state_179 (by decide) ?_
        refine lv_iload hx hb dL_state_181 (lv_at hl 4 rfl) ?_
        refine lv_iconst (v := 0) hx hb dL_state_183 (by decide) ?_
        refine lv_iconst (v := 0) hx hb dL_state_184 (by decide) ?_
        obtain ⟨r57, h58, hf⟩ := bnd hf
        refine cl_wi (rest := [.long (31 * v4)]) (m_K18 l hst ca ad bq nF nO nL nA nC nV nU nP nE bF bO bL bA bC bV bU bP bE cT cK cO cQ cD pT pK pR pW pU pI pC uO uF uE uN wK jM jN jZ jB (WO ca qa sa oQ oS ++ R) _ v6 0 0 r57 h58) ⟨hx, hb, hml, hown, hts⟩ (vx_cwSW 5 hts (gSW q251 q252 q23 q253) rfl rfl rfl (by decide +kernel) ⟨Nat.le_of_ble_eq_true rfl, Nat.le_of_ble_eq_true rfl⟩) hE hP hD hS hA hZ hNC rfl hl.1 rfl (lv_room (Nat.le_of_ble_eq_true rfl)) dL_state_185 ⟨by show _ ≤ 1876; omega, by show _ ≤ 11256; omega⟩ (fun H locs hP hD hS => ?_)
        refine lv_i2l hx hb dL_state_188 rfl ?_
        refine lv_ladd hx hb dL_state_189 ?_
        refine lv_lstore (lv' := [(4, .long ((31 * v4) + (r57).toInt64)), (0, .ref (ad 0)), (2, .int v2), (3, .int v3), (6, .int v6)]) hx hb dL_state_190 hl (by decide) rfl (fun ls hl => ?_)
        refine lv_iinc (v := (v6 + 1)) (lv' := [(6, .int (v6 + 1)), (4, .long ((31 * v4) + (r57).toInt64)), (0, .ref (ad 0)), (2, .int v2), (3, .int v3)]) hx hb dL_state_192 hl (k := 4) rfl rfl (by decide) rfl (fun ls hl => ?_)
        refine lv_goto (tgt := 166) hx hb dL_state_195 (by decide) ?_
        exact ih _ _ CT ST v2 v3 ((31 * v4) + (r57).toInt64) (v6 + 1) _ hf (by omega) (by omega) hCT hST _ _ _ hP hD hS (lv_sub hl [2, 3, 4, 1, 0] rfl) kk
  have L201 : ∀ (n : Nat) (cN_ sN_ CT ST : Nat) (v3 : Int32) (v4 : Int64) (v6 : Int32) (y4 : Int64), f_state_L201 n v3 v4 v6 uO uN = some y4 → cN_ + n * 1 ≤ CT → sN_ + n * 6 ≤ ST → CT ≤ 1876 → ST ≤ 11256 → ∀ (H : Heap) (locs : List Loc) (ls : Array Slot), va_P D vwCl (WC ca ad bq nF nO nL nA nC nV nU nP nE bF bO bL bA bC bV bU bP bE cT cK cO cQ cD pT pK pR pW pU pI pC uO uF uE uN wK jM jN jZ jB ++ (WO ca qa sa oQ oS ++ R)) H → va_D A (WC ca ad bq nF nO nL nA nC nV nU nP nE bF bO bL bA bC bV bU bP bE cT cK cO cQ cD pT pK pR pW pU pI pC uO uF uE uN wK jM jN jZ jB ++ (WO ca qa sa oQ oS ++ R)) → va_S A s.heap H locs → lv_has ls 8 [(0, .ref (ad 0)), (3, .int v3), (4, .long v4), (6, .int v6)] → (∀ (H : Heap) (locs : List Loc) (ls : Array Slot), va_P D vwCl (WC ca ad bq nF nO nL nA nC nV nU nP nE bF bO bL bA bC bV bU bP bE cT cK cO cQ cD pT pK pR pW pU pI pC uO uF uE uN wK jM jN jZ jB ++ (WO ca qa sa oQ oS ++ R)) H → va_D A (WC ca ad bq nF nO nL nA nC nV nU nP nE bF bO bL bA bC bV bU bP bE cT cK cO cQ cD pT pK pR pW pU pI pC uO uF uE uN wK jM jN jZ jB ++ (WO ca qa sa oQ oS ++ R)) → va_S A s.heap H locs → lv_has ls 8 [(0, .ref (ad 0)), (4, .long y4)] → W p l e ({ frames := 10, cells := 1876, slots := 11256, locals := 181 } : Room) s m args below meth c H locs CT ST Qm (F0 m 233 ls [])) → W p l e ({ frames := 10, cells := 1876, slots := 11256, locals := 181 } : Room) s m args below meth c H locs cN_ sN_ Qm (F0 m 201 ls []) := by
    intro n
    induction n with
    | zero => intro _ _ _ _ v3 v4 v6 y4 hf; cases hf
    | succ n ih =>
      intro cN_ sN_ CT ST v3 v4 v6 y4 hf hc9 hs9 hCT hST H locs ls hP hD hS hl kk
      have hc8 : cN_ + n * 1 + 1 ≤ CT := by rw [Nat.succ_mul] at hc9; omega
      have hs8 : sN_ + n * 6 + 6 ≤ ST := by rw [Nat.succ_mul] at hs9; omega
      clear hc9 hs9
      change W p l e ({ frames := 10, cells := 1876, slots := 11256, locals := 181 } : Room) s m args below meth c H locs (cN_ + 0) (sN_ + 0) Qm (F0 m 201 ls [])
      unfold f_state_L201 at hf
      refine lv_iload hx hb dL_state_201 (lv_at hl 3 rfl) ?_
      refine lv_iload_n hx hb dL_state_203 rfl (lv_at hl 1 rfl) ?_
      refine lv_icmp_ge (tgt := 233) hx hb dL_state_204 (by decide) (fun c64 => ?_) (fun c64 => ?_)
      · have hf := br_pos c64 hf
        cases hf
        refine W.widen (k := CT) (n := ST) (by omega) (by omega) ?_
        exact kk _ _ _ hP hD hS (lv_sub hl [0, 2] rfl)
      · have hf := br_neg c64 hf
        refine lv_ldc2 hx hb hown (hts _ q1163) dL_state_207 ?_
        refine lv_lload hx hb dL_state_210 (lv_at hl 2 rfl) ?_
        refine lv_lmul hx hb dL_state_212 ?_
        refine lv_aload_n hx hb dL_state_213 rfl (lv_at hl 0 rfl) ?_
        refine lv_bipush (v := 25) hx hb dL_state_214 (by decide) ?_
        refine lv_iload hx hb dL_state_216 (lv_at hl 3 rfl) ?_
        refine lv_iconst (v := 0) hx hb dL_state_218 (by decide) ?_
        refine lv_iconst (v := 0) hx hb dL_state_219 (by decide) ?_
        obtain ⟨r65, h66, hf⟩ := bnd hf
        refine cl_wi (rest := [.long (31 * v4)]) (m_K25 l hst ca ad bq nF nO nL nA nC nV nU nP nE bF bO bL bA bC bV bU bP bE cT cK cO cQ cD pT pK pR pW pU pI pC uO uF uE uN wK jM jN jZ jB (WO ca qa sa oQ oS ++ R) _ v6 0 0 r65 h66) ⟨hx, hb, hml, hown, hts⟩ (vx_cwSW 5 hts (gSW q251 q252 q23 q253) rfl rfl rfl (by decide +kernel) ⟨Nat.le_of_ble_eq_true rfl, Nat.le_of_ble_eq_true rfl⟩) hE hP hD hS hA hZ hNC rfl hl.1 rfl (lv_room (Nat.le_of_ble_eq_true rfl)) dL_state_220 ⟨by show _ ≤ 1876; omega, by show _ ≤ 11256; omega⟩ (fun H locs hP hD hS => ?_)
        refine lv_i2l hx hb dL_state_223 rfl ?_
        refine lv_ladd hx hb dL_state_224 ?_
        refine lv_lstore (lv' := [(4, .long ((31 * v4) + (r65).toInt64)), (0, .ref (ad 0)), (3, .int v3), (6, .int v6)]) hx hb dL_state_225 hl (by decide) rfl (fun ls hl => ?_)
        refine lv_iinc (v := (v6 + 1)) (lv' := [(6, .int (v6 + 1)), (4, .long ((31 * v4) + (r65).toInt64)), (0, .ref (ad 0)), (3, .int v3)]) hx hb dL_state_227 hl (k := 3) rfl rfl (by decide) rfl (fun ls hl => ?_)
        refine lv_goto (tgt := 201) hx hb dL_state_230 (by decide) ?_
        exact ih _ _ CT ST v3 ((31 * v4) + (r65).toInt64) (v6 + 1) _ hf (by omega) (by omega) hCT hST _ _ _ hP hD hS (lv_sub hl [2, 3, 1, 0] rfl) kk
  refine lv_ldc2 hx hb hown (hts _ q1162) dL_state_0 ?_
  refine lv_lstore (lv' := [(4, .long 97), (0, .ref (ad 0)), (1, .int p1), (2, .int p2), (3, .int p3)]) hx hb dL_state_3 hl (by decide) rfl (fun ls hl => ?_)
  refine lv_iconst (v := 0) hx hb dL_state_5 (by decide) ?_
  refine lv_istore (lv' := [(6, .int 0), (4, .long 97), (0, .ref (ad 0)), (1, .int p1), (2, .int p2), (3, .int p3)]) hx hb dL_state_6 hl (by decide) rfl (fun ls hl => ?_)
  obtain ⟨x40, h39, hf⟩ := bnd hf
  refine L8 41 _ _ (1804) (10824) p1 p2 p3 97 0 x40 h39 (by omega) (by omega) (by omega) (by omega) _ _ _ hP hD hS (lv_sub hl [2, 3, 4, 5, 1, 0] rfl) (fun H locs ls hP hD hS hl => ?_)
  refine lv_iconst (v := 0) hx hb dL_state_112 (by decide) ?_
  refine lv_istore (lv' := [(6, .int 0), (0, .ref (ad 0)), (1, .int p1), (2, .int p2), (3, .int p3), (4, .long x40)]) hx hb dL_state_113 hl (by decide) rfl (fun ls hl => ?_)
  obtain ⟨x52, h51, hf⟩ := bnd hf
  refine L115 5 _ _ (1814) (10884) p1 p2 p3 x40 0 x52 h51 (by omega) (by omega) (by omega) (by omega) _ _ _ hP hD hS (lv_sub hl [1, 2, 3, 4, 5, 0] rfl) (fun H locs ls hP hD hS hl => ?_)
  refine lv_iconst (v := 0) hx hb dL_state_163 (by decide) ?_
  refine lv_istore (lv' := [(6, .int 0), (0, .ref (ad 0)), (2, .int p2), (3, .int p3), (4, .long x52)]) hx hb dL_state_164 hl (by decide) rfl (fun ls hl => ?_)
  obtain ⟨x60, h59, hf⟩ := bnd hf
  refine L166 31 _ _ (1845) (11070) p2 p3 x52 0 x60 h59 (by omega) (by omega) (by omega) (by omega) _ _ _ hP hD hS (lv_sub hl [1, 2, 3, 4, 0] rfl) (fun H locs ls hP hD hS hl => ?_)
  refine lv_iconst (v := 0) hx hb dL_state_198 (by decide) ?_
  refine lv_istore (lv' := [(6, .int 0), (0, .ref (ad 0)), (3, .int p3), (4, .long x60)]) hx hb dL_state_199 hl (by decide) rfl (fun ls hl => ?_)
  obtain ⟨x68, h67, hf⟩ := bnd hf
  refine L201 31 _ _ (1876) (11256) p3 x60 0 x68 h67 (by omega) (by omega) (by omega) (by omega) _ _ _ hP hD hS (lv_sub hl [1, 2, 3, 0] rfl) (fun H locs ls hP hD hS hl => ?_)
  refine lv_ldc2 hx hb hown (hts _ q1163) dL_state_233 ?_
  refine lv_ldc2 hx hb hown (hts _ q1163) dL_state_236 ?_
  refine lv_ldc2 hx hb hown (hts _ q1163) dL_state_239 ?_
  refine lv_ldc2 hx hb hown (hts _ q1163) dL_state_242 ?_
  refine lv_lload hx hb dL_state_245 (lv_at hl 1 rfl) ?_
  refine lv_lmul hx hb dL_state_247 ?_
  refine lv_aload_n hx hb dL_state_248 rfl (lv_at hl 0 rfl) ?_
  obtain ⟨r69, h70, hf⟩ := bnd hf
  refine call_vi (rest := [.long (31 * x68), .long 31, .long 31, .long 31]) (m_C_fileCount l ca ad bq nF nO nL nA nC nV nU nP nE bF bO bL bA bC bV bU bP bE cT cK cO cQ cD pT pK pR pW pU pI pC uO uF uE uN wK jM jN jZ jB (WO ca qa sa oQ oS ++ R) _ r69 h70) ⟨hx, hb, hml, hown, hts⟩ (cwV 0 hts (gV q216 q217 q218 q24 q219) rfl rfl rfl (by decide +kernel) ⟨Nat.le_of_ble_eq_true rfl, Nat.le_of_ble_eq_true rfl⟩) (va_recv hK hP (ci := 7) (q0 := 0) rfl rfl) hE hP hD hS hA rfl hl.1 rfl (lv_room (Nat.le_of_ble_eq_true rfl)) dL_state_249 ⟨by show _ ≤ 1876; omega, by show _ ≤ 11256; omega⟩ (fun H locs hP hD hS => ?_)
  refine lv_i2l hx hb dL_state_252 rfl ?_
  refine lv_ladd hx hb dL_state_253 ?_
  refine lv_lmul hx hb dL_state_254 ?_
  refine lv_aload_n hx hb dL_state_255 rfl (lv_at hl 0 rfl) ?_
  obtain ⟨r71, h72, hf⟩ := bnd hf
  refine call_vi (rest := [.long (31 * ((31 * x68) + (r69).toInt64)), .long 31, .long 31]) (m_C_journalSize l ca ad bq nF nO nL nA nC nV nU nP nE bF bO bL bA bC bV bU bP bE cT cK cO cQ cD pT pK pR pW pU pI pC uO uF uE uN wK jM jN jZ jB (WO ca qa sa oQ oS ++ R) _ r71 h72) ⟨hx, hb, hml, hown, hts⟩ (cwV 0 hts (gV q239 q240 q241 q24 q242) rfl rfl rfl (by decide +kernel) ⟨Nat.le_of_ble_eq_true rfl, Nat.le_of_ble_eq_true rfl⟩) (va_recv hK hP (ci := 7) (q0 := 0) rfl rfl) hE hP hD hS hA rfl hl.1 rfl (lv_room (Nat.le_of_ble_eq_true rfl)) dL_state_256 ⟨by show _ ≤ 1876; omega, by show _ ≤ 11256; omega⟩ (fun H locs hP hD hS => ?_)
  refine lv_i2l hx hb dL_state_259 rfl ?_
  refine lv_ladd hx hb dL_state_260 ?_
  refine lv_lmul hx hb dL_state_261 ?_
  refine lv_aload_n hx hb dL_state_262 rfl (lv_at hl 0 rfl) ?_
  obtain ⟨r73, h74, hf⟩ := bnd hf
  refine call_vi (rest := [.long (31 * ((31 * ((31 * x68) + (r69).toInt64)) + (r71).toInt64)), .long 31]) (m_C_free l ca ad bq nF nO nL nA nC nV nU nP nE bF bO bL bA bC bV bU bP bE cT cK cO cQ cD pT pK pR pW pU pI pC uO uF uE uN wK jM jN jZ jB (WO ca qa sa oQ oS ++ R) _ r73 h74) ⟨hx, hb, hml, hown, hts⟩ (cwV 0 hts (gV q1164 q1165 q1166 q24 q1167) rfl rfl rfl (by decide +kernel) ⟨Nat.le_of_ble_eq_true rfl, Nat.le_of_ble_eq_true rfl⟩) (va_recv hK hP (ci := 7) (q0 := 0) rfl rfl) hE hP hD hS hA rfl hl.1 rfl (lv_room (Nat.le_of_ble_eq_true rfl)) dL_state_263 ⟨by show _ ≤ 1876; omega, by show _ ≤ 11256; omega⟩ (fun H locs hP hD hS => ?_)
  refine lv_i2l hx hb dL_state_266 rfl ?_
  refine lv_ladd hx hb dL_state_267 ?_
  refine lv_lmul hx hb dL_state_268 ?_
  refine lv_aload_n hx hb dL_state_269 rfl (lv_at hl 0 rfl) ?_
  obtain ⟨r75, h76, hf⟩ := bnd hf
  refine call_vi (rest := [.long (31 * ((31 * ((31 * ((31 * x68) + (r69).toInt64)) + (r71).toInt64)) + (r73).toInt64))]) (m_C_day l ca ad bq nF nO nL nA nC nV nU nP nE bF bO bL bA bC bV bU bP bE cT cK cO cQ cD pT pK pR pW pU pI pC uO uF uE uN wK jM jN jZ jB (WO ca qa sa oQ oS ++ R) _ r75 h76) ⟨hx, hb, hml, hown, hts⟩ (cwV 0 hts (gV q1168 q1169 q1170 q24 q1171) rfl rfl rfl (by decide +kernel) ⟨Nat.le_of_ble_eq_true rfl, Nat.le_of_ble_eq_true rfl⟩) (va_recv hK hP (ci := 7) (q0 := 0) rfl rfl) hE hP hD hS hA rfl hl.1 rfl (lv_room (Nat.le_of_ble_eq_true rfl)) dL_state_270 ⟨by show _ ≤ 1876; omega, by show _ ≤ 11256; omega⟩ (fun H locs hP hD hS => ?_)
  refine lv_i2l hx hb dL_state_273 rfl ?_
  refine lv_ladd hx hb dL_state_274 ?_
  cases hf
  exact endm_l hAe hQm hx hb hr hlocks hP hD hS dL_state_275 (Nat.le_of_ble_eq_true rfl) (Nat.le_of_ble_eq_true rfl)
