def f_sound_L14 : Nat → Int32 → Int32 → Int32 → Int32 → Int32 → Int32 → Int32 → (Nat → Int32) → (Nat → Int32) → (Nat → Int32) → (Nat → Int32) → (Nat → Nat → Int32) → (Nat → Int32) → Option (Int32 × Int32 × (Nat → Int32))
  | 0, _, _, _, _, _, _, _, _, _, _, _, _, _ => none
  | fuel + 1, v1, v3, v4, v5, v6, v7, nF, nC, nU, pU, pI, pC, wK =>
    if 64 ≤ v7 then
      some (v3, v6, wK)
    else
      (f_K12 v7 nU).bind fun r16 =>
      if r16 = 0 then
        if r16 < 0 then
          none
        else
          (f_K13 v7 nF nC pU pI pC wK).bind fun (r25, wK_27) =>
          if r16 = r25 then
            f_sound_L14 fuel v1 (v3 + 1) v4 v5 (v6 + r16) (v7 + 1) nF nC nU pU pI pC wK_27
          else
            none
      else
        if r16 < 0 then
          none
        else
          (f_K13 v7 nF nC pU pI pC wK).bind fun (r20, wK_22) =>
          if r16 = r20 then
            f_sound_L14 fuel v1 (v3 + 0) v4 v5 (v6 + r16) (v7 + 1) nF nC nU pU pI pC wK_22
          else
            none
def f_sound_L99 : Nat → Int32 → Int32 → Int32 → Int32 → Int32 → Int32 → Int32 → Int32 → Int32 → (Nat → Int32) → (Nat → Int32) → (Nat → Int32) → Option (Int32)
  | 0, _, _, _, _, _, _, _, _, _, _, _, _ => none
  | fuel + 1, v1, v3, v4, v5, v6, v7, v8, v9, nF, nC, nV, nU =>
    if 16 ≤ v9 then
      some v8
    else
      (f_K9 v7 v9 nF nC).bind fun r239 =>
      if r239 < 0 then
        if r239 < 0 then
          if r239 < 0 then
            (f_K8 v7 v9 nF nC nV).bind fun r244 =>
            if r244 < 0 then
              f_sound_L99 fuel v1 v3 v4 v5 v6 v7 (v8 + 0) (v9 + 1) nF nC nV nU
            else
              none
          else
            (f_K8 v7 v9 nF nC nV).bind fun r249 =>
            if r249 < 0 then
              none
            else
              f_sound_L99 fuel v1 v3 v4 v5 v6 v7 (v8 + 0) (v9 + 1) nF nC nV nU
        else
          (f_K12 r239 nU).bind fun r254 =>
          if r254 < 1 then
            none
          else
            if r239 < 0 then
              (f_K8 v7 v9 nF nC nV).bind fun r258 =>
              if r258 < 0 then
                f_sound_L99 fuel v1 v3 v4 v5 v6 v7 (v8 + 0) (v9 + 1) nF nC nV nU
              else
                none
            else
              (f_K8 v7 v9 nF nC nV).bind fun r263 =>
              if r263 < 0 then
                none
              else
                f_sound_L99 fuel v1 v3 v4 v5 v6 v7 (v8 + 0) (v9 + 1) nF nC nV nU
      else
        if r239 < 0 then
          if r239 < 0 then
            (f_K8 v7 v9 nF nC nV).bind fun r270 =>
            if r270 < 0 then
              f_sound_L99 fuel v1 v3 v4 v5 v6 v7 (v8 + 1) (v9 + 1) nF nC nV nU
            else
              none
          else
            (f_K8 v7 v9 nF nC nV).bind fun r275 =>
            if r275 < 0 then
              none
            else
              f_sound_L99 fuel v1 v3 v4 v5 v6 v7 (v8 + 1) (v9 + 1) nF nC nV nU
        else
          (f_K12 r239 nU).bind fun r280 =>
          if r280 < 1 then
            none
          else
            if r239 < 0 then
              (f_K8 v7 v9 nF nC nV).bind fun r284 =>
              if r284 < 0 then
                f_sound_L99 fuel v1 v3 v4 v5 v6 v7 (v8 + 1) (v9 + 1) nF nC nV nU
              else
                none
            else
              (f_K8 v7 v9 nF nC nV).bind fun r289 =>
              if r289 < 0 then
                none
              else
                f_sound_L99 fuel v1 v3 v4 v5 v6 v7 (v8 + 1) (v9 + 1) nF nC nV nU
def f_sound_L84 : Nat → Int32 → Int32 → Int32 → Int32 → Int32 → Int32 → Int32 → (Nat → Int32) → (Nat → Int32) → (Nat → Int32) → (Nat → Int32) → (Nat → Int32) → Int32 → (Nat → Int32) → (Nat → Int32) → Option (Int32)
  | 0, _, _, _, _, _, _, _, _, _, _, _, _, _, _, _ => none
  | fuel + 1, v1, v3, v4, v5, v6, v7, nF, nL, nA, nC, nV, nU, uO, uF, uN =>
    (f_C_fileCount nF).bind fun r179 =>
    if r179 ≤ v7 then
      some v5
    else
      (f_sound_L99 17 v1 v3 v4 v5 v6 v7 0 0 nF nC nV nU).bind fun x295 =>
      (f_K10 v7 nF nC).bind fun r296 =>
      if r296 = x295 then
        if x295 ≤ 0 then
          (f_K2 v7 nF nA).bind fun r300 =>
          (f_K3 v7 nF nL).bind fun r302 =>
          if 0 < r302 then
            if r300 = 1 then
              f_sound_L84 fuel v1 v3 v4 (v5 + x295) v6 (v7 + 1) nF nL nA nC nV nU uO uF uN
            else
              none
          else
            (f_K26 v7 nF uO uF uN).bind fun r306 =>
            if r306 ≤ 0 then
              if r300 = 0 then
                f_sound_L84 fuel v1 v3 v4 (v5 + x295) v6 (v7 + 1) nF nL nA nC nV nU uO uF uN
              else
                none
            else
              if r300 = 1 then
                f_sound_L84 fuel v1 v3 v4 (v5 + x295) v6 (v7 + 1) nF nL nA nC nV nU uO uF uN
              else
                none
        else
          (f_K2 v7 nF nA).bind fun r311 =>
          if r311 = 1 then
            (f_K2 v7 nF nA).bind fun r314 =>
            (f_K3 v7 nF nL).bind fun r316 =>
            if 0 < r316 then
              if r314 = 1 then
                f_sound_L84 fuel v1 v3 v4 (v5 + x295) v6 (v7 + 1) nF nL nA nC nV nU uO uF uN
              else
                none
            else
              (f_K26 v7 nF uO uF uN).bind fun r320 =>
              if r320 ≤ 0 then
                if r314 = 0 then
                  f_sound_L84 fuel v1 v3 v4 (v5 + x295) v6 (v7 + 1) nF nL nA nC nV nU uO uF uN
                else
                  none
              else
                if r314 = 1 then
                  f_sound_L84 fuel v1 v3 v4 (v5 + x295) v6 (v7 + 1) nF nL nA nC nV nU uO uF uN
                else
                  none
          else
            none
      else
        none
def f_sound_L286 : Nat → Int32 → Int32 → Int32 → Int32 → Int32 → Int32 → Int32 → (Nat → Int32) → (Nat → Int32) → (Nat → Int32) → Int32 → (Nat → Int32) → Option (Int32)
  | 0, _, _, _, _, _, _, _, _, _, _, _, _ => none
  | fuel + 1, v1, v3, v4, v5, v6, v7, nF, nO, nC, nP, cO, oQ =>
    if v1 ≤ v7 then
      some v4
    else
      (f_K15 v7 nP cO).bind fun r335 =>
      (f_K11 v7 nF nO nC cO).bind fun r337 =>
      if v7 < 0 ∨ 4 ≤ v7.toNatClampNeg then none else
        if r337 ≤ (oQ v7.toNatClampNeg) then
        f_sound_L286 fuel v1 v3 (v4 + r335) v5 v6 (v7 + 1) nF nO nC nP cO oQ
      else
        none
def f_sound (p1 : Int32) (nF : Int32) (nO : Nat → Int32) (nL : Nat → Int32) (nA : Nat → Int32) (nC : Nat → Int32) (nV : Nat → Int32) (nU : Nat → Int32) (nP : Nat → Int32) (cO : Int32) (pU : Nat → Int32) (pI : Nat → Int32) (pC : Nat → Nat → Int32) (uO : Int32) (uF : Nat → Int32) (uN : Nat → Int32) (wK : Nat → Int32) (oQ : Nat → Int32) : Option ((Nat → Int32)) :=
  (f_sound_L14 65 p1 0 0 0 0 0 nF nC nU pU pI pC wK).bind fun (x30, x31, wK_32) =>
  (f_sound_L84 41 p1 x30 0 0 x31 0 nF nL nA nC nV nU uO uF uN).bind fun x326 =>
  (f_sound_L286 5 p1 x30 0 x326 x31 0 nF nO nC nP cO oQ).bind fun x342 =>
  (f_C_free nU).bind fun r343 =>
  if r343 = x30 then
    if x30 < x342 then
      none
    else
      if x31 < x326 then
        none
      else
        (f_C_isConsistent nF nA nC nU nP pU pI pC uO uF uN wK_32).bind fun (r348, wK_350) =>
        if r348 = 0 then
          none
        else
          some wK_350
  else
    none
set_option maxHeartbeats 8000000 in
set_option maxRecDepth 100000 in
theorem m_sound (l : Launch) (hst : l.stackTraces = false) {D : va_G} (ca : Nat → ClassId) (ad : Nat → Nat) (bq qa sa : Nat) (nF : Int32) (nO : Nat → Int32) (nL : Nat → Int32) (nA : Nat → Int32) (nC : Nat → Int32) (nV : Nat → Int32) (nU : Nat → Int32) (nP : Nat → Int32) (nE : Int32) (bF : Int32) (bO : Nat → Int32) (bL : Nat → Int32) (bA : Nat → Int32) (bC : Nat → Int32) (bV : Nat → Int32) (bU : Nat → Int32) (bP : Nat → Int32) (bE : Int32) (cT : Int32) (cK : Nat → Int32) (cO : Int32) (cQ : Nat → Int32) (cD : Int32) (pT : Int32) (pK : Int32) (pR : Nat → Int32) (pW : Nat → Int32) (pU : Nat → Int32) (pI : Nat → Int32) (pC : Nat → Nat → Int32) (uO : Int32) (uF : Nat → Int32) (uE : Nat → Int32) (uN : Nat → Int32) (wK : Nat → Int32) (jM : Int32) (jN : Int32) (jZ : Nat) (jB : Nat → Int32) (oQ : Nat → Int32) (oS : Nat → Int32) (R : va_W) (sz : Nat) (p1 : Int32) (owK : Nat → Int32) (hf : f_sound p1 nF nO nL nA nC nV nU nP cO pU pI pC uO uF uN wK oQ = some owK) : Met l yL_sound (wm yL_sound cL_sound 11 (some .boolean)) ({ frames := 10, cells := 5224, slots := 31344, locals := 181 } : Room) (PREL [.ref (ad 0), .int p1, .ref qa] D ca SL0 (WC ca ad bq nF nO nL nA nC nV nU nP nE bF bO bL bA bC bV bU bP bE cT cK cO cQ cD pT pK pR pW pU pI pC uO uF uE uN wK jM jN jZ jB ++ (WO ca qa sa oQ oS ++ R)) sz) (QI 1 D (WC ca ad bq nF nO nL nA nC nV nU nP nE bF bO bL bA bC bV bU bP bE cT cK cO cQ cD pT pK pR pW pU pI pC uO uF uE uN owK jM jN jZ jB ++ (WO ca qa sa oQ oS ++ R)) (WC ca ad bq nF nO nL nA nC nV nU nP nE bF bO bL bA bC bV bU bP bE cT cK cO cQ cD pT pK pR pW pU pI pC uO uF uE uN wK jM jN jZ jB ++ (WO ca qa sa oQ oS ++ R)) sz) 5224 31344 (va_A (WC ca ad bq nF nO nL nA nC nV nU nP nE bF bO bL bA bC bV bU bP bE cT cK cO cQ cD pT pK pR pW pU pI pC uO uF uE uN wK jM jN jZ jB ++ (WO ca qa sa oQ oS ++ R)) sz) := by
  refine Met.ofW (cc := cL_sound) (maxL := 11) (ret := (some .boolean)) (by decide) rfl ?_
  intro p e s m args below meth c s₁ B hml hv
  obtain ⟨rfl, rfl, hP, hE, hD0, hZ, hNC⟩ := hv
  have hx := B.exec
  have hb := B.bytes
  have hr := B.returns
  have hts := wm_ww (atoms_spec (ws := wm yL_sound cL_sound 11 (some .boolean)) B.pre)
  have hown : s.vm.findClass RL = some m.cls := findClass_of_methodNamed B.named
  have hlocks := B.notSynchronized
  have hK := hE.1
  have hD := hD0.self (sz := s.heap.size)
  generalize hAe : va_A (WC ca ad bq nF nO nL nA nC nV nU nP nE bF bO bL bA bC bV bU bP bE cT cK cO cQ cD pT pK pR pW pU pI pC uO uF uE uN wK jM jN jZ jB ++ (WO ca qa sa oQ oS ++ R)) s.heap.size = A at hD hZ ⊢
  have hA : ∀ q : Nat, s.heap.size ≤ q → A q := fun q h => by rw [← hAe]; exact Or.inr h
  have hS : va_S A s.heap s.heap [] := va_S.rf
  have hl := lv_entry ([.ref (ad 0), .int p1, .ref qa]) (n := 11) (Nat.le_of_ble_eq_true rfl)
  rw [lg_entry_eq]
  generalize (lg_sl ([.ref (ad 0), .int p1, .ref qa]) ++ List.replicate (11 - (lg_sl ([.ref (ad 0), .int p1, .ref qa])).length) Slot.unset).toArray = ls at hl ⊢
  have hl : lv_has ls 11 [(0, .ref (ad 0)), (1, .int p1), (2, .ref qa)] := hl
  change W p l e ({ frames := 10, cells := 5224, slots := 31344, locals := 181 } : Room) s m _ below meth c s.heap [] 0 0 _ _
  generalize hQm : MQ below (QI 1 D (WC ca ad bq nF nO nL nA nC nV nU nP nE bF bO bL bA bC bV bU bP bE cT cK cO cQ cD pT pK pR pW pU pI pC uO uF uE uN owK jM jN jZ jB ++ (WO ca qa sa oQ oS ++ R)) (WC ca ad bq nF nO nL nA nC nV nU nP nE bF bO bL bA bC bV bU bP bE cT cK cO cQ cD pT pK pR pW pU pI pC uO uF uE uN wK jM jN jZ jB ++ (WO ca qa sa oQ oS ++ R)) s.heap.size) _ s 5224 31344 A = Qm
  have hP : va_P D vwCl (WC ca ad bq nF nO nL nA nC nV nU nP nE bF bO bL bA bC bV bU bP bE cT cK cO cQ cD pT pK pR pW pU pI pC uO uF uE uN wK jM jN jZ jB ++ (WO ca qa sa oQ oS ++ R)) s.heap := hP
  generalize hae : ([.ref (ad 0), .int p1, .ref qa] : List Value).toArray = args at hts hQm ⊢
  have L14 : ∀ (n : Nat) (cN_ sN_ CT ST : Nat) (v1 : Int32) (v3 : Int32) (v4 : Int32) (v5 : Int32) (v6 : Int32) (v7 : Int32) (wK : Nat → Int32) (y3 : Int32) (y6 : Int32) (zwK : Nat → Int32), f_sound_L14 n v1 v3 v4 v5 v6 v7 nF nC nU pU pI pC wK = some (y3, y6, zwK) → cN_ + n * 2 ≤ CT → sN_ + n * 12 ≤ ST → CT ≤ 5224 → ST ≤ 31344 → ∀ (H : Heap) (locs : List Loc) (ls : Array Slot), va_P D vwCl (WC ca ad bq nF nO nL nA nC nV nU nP nE bF bO bL bA bC bV bU bP bE cT cK cO cQ cD pT pK pR pW pU pI pC uO uF uE uN wK jM jN jZ jB ++ (WO ca qa sa oQ oS ++ R)) H → va_D A (WC ca ad bq nF nO nL nA nC nV nU nP nE bF bO bL bA bC bV bU bP bE cT cK cO cQ cD pT pK pR pW pU pI pC uO uF uE uN wK jM jN jZ jB ++ (WO ca qa sa oQ oS ++ R)) → va_S A s.heap H locs → lv_has ls 11 [(0, .ref (ad 0)), (1, .int v1), (2, .ref qa), (3, .int v3), (4, .int v4), (5, .int v5), (6, .int v6), (7, .int v7)] → (∀ (H : Heap) (locs : List Loc) (ls : Array Slot), va_P D vwCl (WC ca ad bq nF nO nL nA nC nV nU nP nE bF bO bL bA bC bV bU bP bE cT cK cO cQ cD pT pK pR pW pU pI pC uO uF uE uN zwK jM jN jZ jB ++ (WO ca qa sa oQ oS ++ R)) H → va_D A (WC ca ad bq nF nO nL nA nC nV nU nP nE bF bO bL bA bC bV bU bP bE cT cK cO cQ cD pT pK pR pW pU pI pC uO uF uE uN zwK jM jN jZ jB ++ (WO ca qa sa oQ oS ++ R)) → va_S A s.heap H locs → lv_has ls 11 [(0, .ref (ad 0)), (1, .int v1), (2, .ref qa), (3, .int y3), (4, .int v4), (5, .int v5), (6, .int y6)] → W p l e ({ frames := 10, cells := 5224, slots := 31344, locals := 181 } : Room) s m args below meth c H locs CT ST Qm (F0 m 81 ls [])) → W p l e ({ frames := 10, cells := 5224, slots := 31344, locals := 181 } : Room) s m args below meth c H locs cN_ sN_ Qm (F0 m 14 ls []) := by
    intro n
    induction n with
    | zero => intro _ _ _ _ v1 v3 v4 v5 v6 v7 wK y3 y6 zwK hf; cases hf
    | succ n ih =>
      intro cN_ sN_ CT ST v1 v3 v4 v5 v6 v7 wK y3 y6 zwK hf hc9 hs9 hCT hST H locs ls hP hD hS hl kk
      have hc8 : cN_ + n * 2 + 2 ≤ CT := by rw [Nat.succ_mul] at hc9; omega
      have hs8 : sN_ + n * 12 + 12 ≤ ST := by rw [Nat.succ_mul] at hs9; omega
      clear hc9 hs9
      change W p l e ({ frames := 10, cells := 5224, slots := 31344, locals := 181 } : Room) s m args below meth c H locs (cN_ + 0) (sN_ + 0) Qm (F0 m 14 ls [])
      unfold f_sound_L14 at hf
      refine lv_iload hx hb dL_sound_14 (lv_at hl 7 rfl) ?_
      refine lv_bipush (v := 64) hx hb dL_sound_16 (by decide) ?_
      refine lv_icmp_ge (tgt := 81) hx hb dL_sound_18 (by decide) (fun c15 => ?_) (fun c15 => ?_)
      · have hf := br_pos c15 hf
        cases hf
        refine W.widen (k := CT) (n := ST) (by omega) (by omega) ?_
        exact kk _ _ _ hP hD hS (lv_sub hl [0, 1, 2, 3, 4, 5, 6] rfl)
      · have hf := br_neg c15 hf
        refine lv_aload_n hx hb dL_sound_21 rfl (lv_at hl 0 rfl) ?_
        refine lv_bipush (v := 12) hx hb dL_sound_22 (by decide) ?_
        refine lv_iload hx hb dL_sound_24 (lv_at hl 7 rfl) ?_
        refine lv_iconst (v := 0) hx hb dL_sound_26 (by decide) ?_
        refine lv_iconst (v := 0) hx hb dL_sound_27 (by decide) ?_
        obtain ⟨r16, h17, hf⟩ := bnd hf
        refine cl_wi (rest := []) (m_K12 l hst ca ad bq nF nO nL nA nC nV nU nP nE bF bO bL bA bC bV bU bP bE cT cK cO cQ cD pT pK pR pW pU pI pC uO uF uE uN wK jM jN jZ jB (WO ca qa sa oQ oS ++ R) _ v7 0 0 r16 h17) ⟨hx, hb, hml, hown, hts⟩ (vx_cwSW 5 hts (gSW q251 q252 q23 q253) rfl rfl rfl (by decide +kernel) ⟨Nat.le_of_ble_eq_true rfl, Nat.le_of_ble_eq_true rfl⟩) hE hP hD hS hA hZ hNC rfl hl.1 rfl (lv_room (Nat.le_of_ble_eq_true rfl)) dL_sound_28 ⟨by show _ ≤ 5224; omega, by show _ ≤ 31344; omega⟩ (fun H locs hP hD hS => ?_)
        refine lv_istore (lv' := [(8, .int r16), (0, .ref (ad 0)), (1, .int v1), (2, .ref qa), (3, .int v3), (4, .int v4), (5, .int v5), (6, .int v6), (7, .int v7)]) hx hb dL_sound_31 hl (by decide) rfl (fun ls hl => ?_)
        refine lv_iload_n hx hb dL_sound_33 rfl (lv_at hl 4 rfl) ?_
        refine lv_iload hx hb dL_sound_34 (lv_at hl 0 rfl) ?_
        refine lv_if_ne (tgt := 43) hx hb dL_sound_36 (by decide) (fun c18 => ?_) (fun c18 => ?_)
        · have hf := br_neg c18 hf
          refine lv_iconst (v := 0) hx hb dL_sound_43 (by decide) ?_
          refine lv_iadd hx hb dL_sound_44 ?_
          refine lv_istore_n (lv' := [(3, .int (v3 + 0)), (8, .int r16), (0, .ref (ad 0)), (1, .int v1), (2, .ref qa), (4, .int v4), (5, .int v5), (6, .int v6), (7, .int v7)]) hx hb dL_sound_45 rfl hl (by decide) rfl (fun ls hl => ?_)
          refine lv_iload hx hb dL_sound_46 (lv_at hl 7 rfl) ?_
          refine lv_iload hx hb dL_sound_48 (lv_at hl 1 rfl) ?_
          refine lv_iadd hx hb dL_sound_50 ?_
          refine lv_istore (lv' := [(6, .int (v6 + r16)), (3, .int (v3 + 0)), (8, .int r16), (0, .ref (ad 0)), (1, .int v1), (2, .ref qa), (4, .int v4), (5, .int v5), (7, .int v7)]) hx hb dL_sound_51 hl (by decide) rfl (fun ls hl => ?_)
          refine lv_iload hx hb dL_sound_53 (lv_at hl 2 rfl) ?_
          refine lv_if_lt (tgt := 73) hx hb dL_sound_55 (by decide) (fun c19 => ?_) (fun c19 => ?_)
          · have hf := br_pos c19 hf
            cases hf
          · have hf := br_neg c19 hf
            refine lv_iload hx hb dL_sound_58 (lv_at hl 2 rfl) ?_
            refine lv_aload_n hx hb dL_sound_60 rfl (lv_at hl 3 rfl) ?_
            refine lv_bipush (v := 13) hx hb dL_sound_61 (by decide) ?_
            refine lv_iload hx hb dL_sound_63 (lv_at hl 8 rfl) ?_
            refine lv_iconst (v := 0) hx hb dL_sound_65 (by decide) ?_
            refine lv_iconst (v := 0) hx hb dL_sound_66 (by decide) ?_
            obtain ⟨⟨r20, wK_22⟩, h21, hf⟩ := bnd hf
            refine cl_wi (rest := [.int r16]) (m_K13 l hst ca ad bq nF nO nL nA nC nV nU nP nE bF bO bL bA bC bV bU bP bE cT cK cO cQ cD pT pK pR pW pU pI pC uO uF uE uN wK jM jN jZ jB (WO ca qa sa oQ oS ++ R) _ v7 0 0 r20 wK_22 h21) ⟨hx, hb, hml, hown, hts⟩ (vx_cwSW 5 hts (gSW q251 q252 q23 q253) rfl rfl rfl (by decide +kernel) ⟨Nat.le_of_ble_eq_true rfl, Nat.le_of_ble_eq_true rfl⟩) hE hP hD hS hA hZ hNC rfl hl.1 rfl (lv_room (Nat.le_of_ble_eq_true rfl)) dL_sound_67 ⟨by show _ ≤ 5224; omega, by show _ ≤ 31344; omega⟩ (fun H locs hP hD hS => ?_)
            refine lv_icmp_eq (tgt := 75) hx hb dL_sound_70 (by decide) (fun c23 => ?_) (fun c23 => ?_)
            · have hf := br_pos c23 hf
              refine lv_iinc (v := (v7 + 1)) (lv' := [(7, .int (v7 + 1)), (6, .int (v6 + r16)), (3, .int (v3 + 0)), (8, .int r16), (0, .ref (ad 0)), (1, .int v1), (2, .ref qa), (4, .int v4), (5, .int v5)]) hx hb dL_sound_75 hl (k := 8) rfl rfl (by decide) rfl (fun ls hl => ?_)
              refine lv_goto (tgt := 14) hx hb dL_sound_78 (by decide) ?_
              exact ih _ _ CT ST v1 (v3 + 0) v4 v5 (v6 + r16) (v7 + 1) wK_22 _ _ _ hf (by omega) (by omega) hCT hST _ _ _ hP hD hS (lv_sub hl [4, 5, 6, 2, 7, 8, 1, 0] rfl) kk
            · have hf := br_neg c23 hf
              cases hf
        · have hf := br_pos c18 hf
          refine lv_iconst (v := 1) hx hb dL_sound_39 (by decide) ?_
          refine lv_goto (tgt := 44) hx hb dL_sound_40 (by decide) ?_
          refine lv_iadd hx hb dL_sound_44 ?_
          refine lv_istore_n (lv' := [(3, .int (v3 + 1)), (8, .int r16), (0, .ref (ad 0)), (1, .int v1), (2, .ref qa), (4, .int v4), (5, .int v5), (6, .int v6), (7, .int v7)]) hx hb dL_sound_45 rfl hl (by decide) rfl (fun ls hl => ?_)
          refine lv_iload hx hb dL_sound_46 (lv_at hl 7 rfl) ?_
          refine lv_iload hx hb dL_sound_48 (lv_at hl 1 rfl) ?_
          refine lv_iadd hx hb dL_sound_50 ?_
          refine lv_istore (lv' := [(6, .int (v6 + r16)), (3, .int (v3 + 1)), (8, .int r16), (0, .ref (ad 0)), (1, .int v1), (2, .ref qa), (4, .int v4), (5, .int v5), (7, .int v7)]) hx hb dL_sound_51 hl (by decide) rfl (fun ls hl => ?_)
          refine lv_iload hx hb dL_sound_53 (lv_at hl 2 rfl) ?_
          refine lv_if_lt (tgt := 73) hx hb dL_sound_55 (by decide) (fun c24 => ?_) (fun c24 => ?_)
          · have hf := br_pos c24 hf
            cases hf
          · have hf := br_neg c24 hf
            refine lv_iload hx hb dL_sound_58 (lv_at hl 2 rfl) ?_
            refine lv_aload_n hx hb dL_sound_60 rfl (lv_at hl 3 rfl) ?_
            refine lv_bipush (v := 13) hx hb dL_sound_61 (by decide) ?_
            refine lv_iload hx hb dL_sound_63 (lv_at hl 8 rfl) ?_
            refine lv_iconst (v := 0) hx hb dL_sound_65 (by decide) ?_
            refine lv_iconst (v := 0) hx hb dL_sound_66 (by decide) ?_
            obtain ⟨⟨r25, wK_27⟩, h26, hf⟩ := bnd hf
            refine cl_wi (rest := [.int r16]) (m_K13 l hst ca ad bq nF nO nL nA nC nV nU nP nE bF bO bL bA bC bV bU bP bE cT cK cO cQ cD pT pK pR pW pU pI pC uO uF uE uN wK jM jN jZ jB (WO ca qa sa oQ oS ++ R) _ v7 0 0 r25 wK_27 h26) ⟨hx, hb, hml, hown, hts⟩ (vx_cwSW 5 hts (gSW q251 q252 q23 q253) rfl rfl rfl (by decide +kernel) ⟨Nat.le_of_ble_eq_true rfl, Nat.le_of_ble_eq_true rfl⟩) hE hP hD hS hA hZ hNC rfl hl.1 rfl (lv_room (Nat.le_of_ble_eq_true rfl)) dL_sound_67 ⟨by show _ ≤ 5224; omega, by show _ ≤ 31344; omega⟩ (fun H locs hP hD hS => ?_)
            refine lv_icmp_eq (tgt := 75) hx hb dL_sound_70 (by decide) (fun c28 => ?_) (fun c28 => ?_)
            · have hf := br_pos c28 hf
              refine lv_iinc (v := (v7 + 1)) (lv' := [(7, .int (v7 + 1)), (6, .int (v6 + r16)), (3, .int (v3 + 1)), (8, .int r16), (0, .ref (ad 0)), (1, .int v1), (2, .ref qa), (4, .int v4), (5, .int v5)]) hx hb dL_sound_75 hl (k := 8) rfl rfl (by decide) rfl (fun ls hl => ?_)
              refine lv_goto (tgt := 14) hx hb dL_sound_78 (by decide) ?_
              exact ih _ _ CT ST v1 (v3 + 1) v4 v5 (v6 + r16) (v7 + 1) wK_27 _ _ _ hf (by omega) (by omega) hCT hST _ _ _ hP hD hS (lv_sub hl [4, 5, 6, 2, 7, 8, 1, 0] rfl) kk
            · have hf := br_neg c28 hf
              cases hf
  have L99 : ∀ (n : Nat) (cN_ sN_ CT ST : Nat) (v1 : Int32) (v3 : Int32) (v4 : Int32) (v5 : Int32) (v6 : Int32) (v7 : Int32) (v8 : Int32) (v9 : Int32) (wK : Nat → Int32) (y8 : Int32), f_sound_L99 n v1 v3 v4 v5 v6 v7 v8 v9 nF nC nV nU = some y8 → cN_ + n * 7 ≤ CT → sN_ + n * 42 ≤ ST → CT ≤ 5224 → ST ≤ 31344 → ∀ (H : Heap) (locs : List Loc) (ls : Array Slot), va_P D vwCl (WC ca ad bq nF nO nL nA nC nV nU nP nE bF bO bL bA bC bV bU bP bE cT cK cO cQ cD pT pK pR pW pU pI pC uO uF uE uN wK jM jN jZ jB ++ (WO ca qa sa oQ oS ++ R)) H → va_D A (WC ca ad bq nF nO nL nA nC nV nU nP nE bF bO bL bA bC bV bU bP bE cT cK cO cQ cD pT pK pR pW pU pI pC uO uF uE uN wK jM jN jZ jB ++ (WO ca qa sa oQ oS ++ R)) → va_S A s.heap H locs → lv_has ls 11 [(0, .ref (ad 0)), (1, .int v1), (2, .ref qa), (3, .int v3), (4, .int v4), (5, .int v5), (6, .int v6), (7, .int v7), (8, .int v8), (9, .int v9)] → (∀ (H : Heap) (locs : List Loc) (ls : Array Slot), va_P D vwCl (WC ca ad bq nF nO nL nA nC nV nU nP nE bF bO bL bA bC bV bU bP bE cT cK cO cQ cD pT pK pR pW pU pI pC uO uF uE uN wK jM jN jZ jB ++ (WO ca qa sa oQ oS ++ R)) H → va_D A (WC ca ad bq nF nO nL nA nC nV nU nP nE bF bO bL bA bC bV bU bP bE cT cK cO cQ cD pT pK pR pW pU pI pC uO uF uE uN wK jM jN jZ jB ++ (WO ca qa sa oQ oS ++ R)) → va_S A s.heap H locs → lv_has ls 11 [(0, .ref (ad 0)), (1, .int v1), (2, .ref qa), (3, .int v3), (4, .int v4), (5, .int v5), (6, .int v6), (7, .int v7), (8, .int y8)] → W p l e ({ frames := 10, cells := 5224, slots := 31344, locals := 181 } : Room) s m args below meth c H locs CT ST Qm (F0 m 193 ls [])) → W p l e ({ frames := 10, cells := 5224, slots := 31344, locals := 181 } : Room) s m args below meth c H locs cN_ sN_ Qm (F0 m 99 ls []) := by
    intro n
    induction n with
    | zero => intro _ _ _ _ v1 v3 v4 v5 v6 v7 v8 v9 wK y8 hf; cases hf
    | succ n ih =>
      intro cN_ sN_ CT ST v1 v3 v4 v5 v6 v7 v8 v9 wK y8 hf hc9 hs9 hCT hST H locs ls hP hD hS hl kk
      have hc8 : cN_ + n * 7 + 7 ≤ CT := by rw [Nat.succ_mul] at hc9; omega
      have hs8 : sN_ + n * 42 + 42 ≤ ST := by rw [Nat.succ_mul] at hs9; omega
      clear hc9 hs9
      change W p l e ({ frames := 10, cells := 5224, slots := 31344, locals := 181 } : Room) s m args below meth c H locs (cN_ + 0) (sN_ + 0) Qm (F0 m 99 ls [])
      unfold f_sound_L99 at hf
      refine lv_iload hx hb dL_sound_99 (lv_at hl 9 rfl) ?_
      refine lv_bipush (v := 16) hx hb dL_sound_101 (by decide) ?_
      refine lv_icmp_ge (tgt := 193) hx hb dL_sound_103 (by decide) (fun c238 => ?_) (fun c238 => ?_)
      · have hf := br_pos c238 hf
        cases hf
        refine W.widen (k := CT) (n := ST) (by omega) (by omega) ?_
        exact kk _ _ _ hP hD hS (lv_sub hl [0, 1, 2, 3, 4, 5, 6, 7, 8] rfl)
      · have hf := br_neg c238 hf
        refine lv_aload_n hx hb dL_sound_106 rfl (lv_at hl 0 rfl) ?_
        refine lv_bipush (v := 9) hx hb dL_sound_107 (by decide) ?_
        refine lv_iload hx hb dL_sound_109 (lv_at hl 7 rfl) ?_
        refine lv_iload hx hb dL_sound_111 (lv_at hl 9 rfl) ?_
        refine lv_iconst (v := 0) hx hb dL_sound_113 (by decide) ?_
        obtain ⟨r239, h240, hf⟩ := bnd hf
        refine cl_wi (rest := []) (m_K9 l hst ca ad bq nF nO nL nA nC nV nU nP nE bF bO bL bA bC bV bU bP bE cT cK cO cQ cD pT pK pR pW pU pI pC uO uF uE uN wK jM jN jZ jB (WO ca qa sa oQ oS ++ R) _ v7 v9 0 r239 h240) ⟨hx, hb, hml, hown, hts⟩ (vx_cwSW 5 hts (gSW q251 q252 q23 q253) rfl rfl rfl (by decide +kernel) ⟨Nat.le_of_ble_eq_true rfl, Nat.le_of_ble_eq_true rfl⟩) hE hP hD hS hA hZ hNC rfl hl.1 rfl (lv_room (Nat.le_of_ble_eq_true rfl)) dL_sound_114 ⟨by show _ ≤ 5224; omega, by show _ ≤ 31344; omega⟩ (fun H locs hP hD hS => ?_)
        refine lv_istore (lv' := [(10, .int r239), (0, .ref (ad 0)), (1, .int v1), (2, .ref qa), (3, .int v3), (4, .int v4), (5, .int v5), (6, .int v6), (7, .int v7), (8, .int v8), (9, .int v9)]) hx hb dL_sound_117 hl (by decide) rfl (fun ls hl => ?_)
        refine lv_iload hx hb dL_sound_119 (lv_at hl 9 rfl) ?_
        refine lv_iload hx hb dL_sound_121 (lv_at hl 0 rfl) ?_
        refine lv_if_lt (tgt := 130) hx hb dL_sound_123 (by decide) (fun c241 => ?_) (fun c241 => ?_)
        · have hf := br_pos c241 hf
          refine lv_iconst (v := 0) hx hb dL_sound_130 (by decide) ?_
          refine lv_iadd hx hb dL_sound_131 ?_
          refine lv_istore (lv' := [(8, .int (v8 + 0)), (10, .int r239), (0, .ref (ad 0)), (1, .int v1), (2, .ref qa), (3, .int v3), (4, .int v4), (5, .int v5), (6, .int v6), (7, .int v7), (9, .int v9)]) hx hb dL_sound_132 hl (by decide) rfl (fun ls hl => ?_)
          refine lv_iload hx hb dL_sound_134 (lv_at hl 1 rfl) ?_
          refine lv_if_lt (tgt := 153) hx hb dL_sound_136 (by decide) (fun c242 => ?_) (fun c242 => ?_)
          · have hf := br_pos c242 hf
            refine lv_iload hx hb dL_sound_153 (lv_at hl 1 rfl) ?_
            refine lv_if_lt (tgt := 162) hx hb dL_sound_155 (by decide) (fun c243 => ?_) (fun c243 => ?_)
            · have hf := br_pos c243 hf
              refine lv_iconst (v := 0) hx hb dL_sound_162 (by decide) ?_
              refine lv_aload_n hx hb dL_sound_163 rfl (lv_at hl 2 rfl) ?_
              refine lv_bipush (v := 8) hx hb dL_sound_164 (by decide) ?_
              refine lv_iload hx hb dL_sound_166 (lv_at hl 9 rfl) ?_
              refine lv_iload hx hb dL_sound_168 (lv_at hl 10 rfl) ?_
              refine lv_iconst (v := 0) hx hb dL_sound_170 (by decide) ?_
              obtain ⟨r244, h245, hf⟩ := bnd hf
              refine cl_wi (rest := [.int 0]) (m_K8 l hst ca ad bq nF nO nL nA nC nV nU nP nE bF bO bL bA bC bV bU bP bE cT cK cO cQ cD pT pK pR pW pU pI pC uO uF uE uN wK jM jN jZ jB (WO ca qa sa oQ oS ++ R) _ v7 v9 0 r244 h245) ⟨hx, hb, hml, hown, hts⟩ (vx_cwSW 5 hts (gSW q251 q252 q23 q253) rfl rfl rfl (by decide +kernel) ⟨Nat.le_of_ble_eq_true rfl, Nat.le_of_ble_eq_true rfl⟩) hE hP hD hS hA hZ hNC rfl hl.1 rfl (lv_room (Nat.le_of_ble_eq_true rfl)) dL_sound_171 ⟨by show _ ≤ 5224; omega, by show _ ≤ 31344; omega⟩ (fun H locs hP hD hS => ?_)
              refine lv_if_lt (tgt := 181) hx hb dL_sound_174 (by decide) (fun c246 => ?_) (fun c246 => ?_)
              · have hf := br_pos c246 hf
                refine lv_iconst (v := 0) hx hb dL_sound_181 (by decide) ?_
                refine lv_icmp_eq (tgt := 187) hx hb dL_sound_182 (by decide) (fun c247 => ?_) (fun c247 => ?_)
                rotate_left
                · exact absurd c247 (by decide)
                refine lv_iinc (v := (v9 + 1)) (lv' := [(9, .int (v9 + 1)), (8, .int (v8 + 0)), (10, .int r239), (0, .ref (ad 0)), (1, .int v1), (2, .ref qa), (3, .int v3), (4, .int v4), (5, .int v5), (6, .int v6), (7, .int v7)]) hx hb dL_sound_187 hl (k := 10) rfl rfl (by decide) rfl (fun ls hl => ?_)
                refine lv_goto (tgt := 99) hx hb dL_sound_190 (by decide) ?_
                exact ih _ _ CT ST v1 v3 v4 v5 v6 v7 (v8 + 0) (v9 + 1) wK _ hf (by omega) (by omega) hCT hST _ _ _ hP hD hS (lv_sub hl [3, 4, 5, 6, 7, 8, 9, 10, 1, 0] rfl) kk
              · have hf := br_neg c246 hf
                refine lv_iconst (v := 1) hx hb dL_sound_177 (by decide) ?_
                refine lv_goto (tgt := 182) hx hb dL_sound_178 (by decide) ?_
                refine lv_icmp_eq (tgt := 187) hx hb dL_sound_182 (by decide) (fun c248 => ?_) (fun c248 => ?_)
                · exact absurd c248 (by decide)
                cases hf
            · have hf := br_neg c243 hf
              refine lv_iconst (v := 1) hx hb dL_sound_158 (by decide) ?_
              refine lv_goto (tgt := 163) hx hb dL_sound_159 (by decide) ?_
              refine lv_aload_n hx hb dL_sound_163 rfl (lv_at hl 2 rfl) ?_
              refine lv_bipush (v := 8) hx hb dL_sound_164 (by decide) ?_
              refine lv_iload hx hb dL_sound_166 (lv_at hl 9 rfl) ?_
              refine lv_iload hx hb dL_sound_168 (lv_at hl 10 rfl) ?_
              refine lv_iconst (v := 0) hx hb dL_sound_170 (by decide) ?_
              obtain ⟨r249, h250, hf⟩ := bnd hf
              refine cl_wi (rest := [.int 1]) (m_K8 l hst ca ad bq nF nO nL nA nC nV nU nP nE bF bO bL bA bC bV bU bP bE cT cK cO cQ cD pT pK pR pW pU pI pC uO uF uE uN wK jM jN jZ jB (WO ca qa sa oQ oS ++ R) _ v7 v9 0 r249 h250) ⟨hx, hb, hml, hown, hts⟩ (vx_cwSW 5 hts (gSW q251 q252 q23 q253) rfl rfl rfl (by decide +kernel) ⟨Nat.le_of_ble_eq_true rfl, Nat.le_of_ble_eq_true rfl⟩) hE hP hD hS hA hZ hNC rfl hl.1 rfl (lv_room (Nat.le_of_ble_eq_true rfl)) dL_sound_171 ⟨by show _ ≤ 5224; omega, by show _ ≤ 31344; omega⟩ (fun H locs hP hD hS => ?_)
              refine lv_if_lt (tgt := 181) hx hb dL_sound_174 (by decide) (fun c251 => ?_) (fun c251 => ?_)
              · have hf := br_pos c251 hf
                refine lv_iconst (v := 0) hx hb dL_sound_181 (by decide) ?_
                refine lv_icmp_eq (tgt := 187) hx hb dL_sound_182 (by decide) (fun c252 => ?_) (fun c252 => ?_)
                · exact absurd c252 (by decide)
                cases hf
              · have hf := br_neg c251 hf
                refine lv_iconst (v := 1) hx hb dL_sound_177 (by decide) ?_
                refine lv_goto (tgt := 182) hx hb dL_sound_178 (by decide) ?_
                refine lv_icmp_eq (tgt := 187) hx hb dL_sound_182 (by decide) (fun c253 => ?_) (fun c253 => ?_)
                rotate_left
                · exact absurd c253 (by decide)
                refine lv_iinc (v := (v9 + 1)) (lv' := [(9, .int (v9 + 1)), (8, .int (v8 + 0)), (10, .int r239), (0, .ref (ad 0)), (1, .int v1), (2, .ref qa), (3, .int v3), (4, .int v4), (5, .int v5), (6, .int v6), (7, .int v7)]) hx hb dL_sound_187 hl (k := 10) rfl rfl (by decide) rfl (fun ls hl => ?_)
                refine lv_goto (tgt := 99) hx hb dL_sound_190 (by decide) ?_
                exact ih _ _ CT ST v1 v3 v4 v5 v6 v7 (v8 + 0) (v9 + 1) wK _ hf (by omega) (by omega) hCT hST _ _ _ hP hD hS (lv_sub hl [3, 4, 5, 6, 7, 8, 9, 10, 1, 0] rfl) kk
          · have hf := br_neg c242 hf
            refine lv_aload_n hx hb dL_sound_139 rfl (lv_at hl 2 rfl) ?_
            refine lv_bipush (v := 12) hx hb dL_sound_140 (by decide) ?_
            refine lv_iload hx hb dL_sound_142 (lv_at hl 1 rfl) ?_
            refine lv_iconst (v := 0) hx hb dL_sound_144 (by decide) ?_
            refine lv_iconst (v := 0) hx hb dL_sound_145 (by decide) ?_
            obtain ⟨r254, h255, hf⟩ := bnd hf
            refine cl_wi (rest := []) (m_K12 l hst ca ad bq nF nO nL nA nC nV nU nP nE bF bO bL bA bC bV bU bP bE cT cK cO cQ cD pT pK pR pW pU pI pC uO uF uE uN wK jM jN jZ jB (WO ca qa sa oQ oS ++ R) _ r239 0 0 r254 h255) ⟨hx, hb, hml, hown, hts⟩ (vx_cwSW 5 hts (gSW q251 q252 q23 q253) rfl rfl rfl (by decide +kernel) ⟨Nat.le_of_ble_eq_true rfl, Nat.le_of_ble_eq_true rfl⟩) hE hP hD hS hA hZ hNC rfl hl.1 rfl (lv_room (Nat.le_of_ble_eq_true rfl)) dL_sound_146 ⟨by show _ ≤ 5224; omega, by show _ ≤ 31344; omega⟩ (fun H locs hP hD hS => ?_)
            refine lv_iconst (v := 1) hx hb dL_sound_149 (by decide) ?_
            refine lv_icmp_lt (tgt := 185) hx hb dL_sound_150 (by decide) (fun c256 => ?_) (fun c256 => ?_)
            · have hf := br_pos c256 hf
              cases hf
            · have hf := br_neg c256 hf
              refine lv_iload hx hb dL_sound_153 (lv_at hl 1 rfl) ?_
              refine lv_if_lt (tgt := 162) hx hb dL_sound_155 (by decide) (fun c257 => ?_) (fun c257 => ?_)
              · have hf := br_pos c257 hf
                refine lv_iconst (v := 0) hx hb dL_sound_162 (by decide) ?_
                refine lv_aload_n hx hb dL_sound_163 rfl (lv_at hl 2 rfl) ?_
                refine lv_bipush (v := 8) hx hb dL_sound_164 (by decide) ?_
                refine lv_iload hx hb dL_sound_166 (lv_at hl 9 rfl) ?_
                refine lv_iload hx hb dL_sound_168 (lv_at hl 10 rfl) ?_
                refine lv_iconst (v := 0) hx hb dL_sound_170 (by decide) ?_
                obtain ⟨r258, h259, hf⟩ := bnd hf
                refine cl_wi (rest := [.int 0]) (m_K8 l hst ca ad bq nF nO nL nA nC nV nU nP nE bF bO bL bA bC bV bU bP bE cT cK cO cQ cD pT pK pR pW pU pI pC uO uF uE uN wK jM jN jZ jB (WO ca qa sa oQ oS ++ R) _ v7 v9 0 r258 h259) ⟨hx, hb, hml, hown, hts⟩ (vx_cwSW 5 hts (gSW q251 q252 q23 q253) rfl rfl rfl (by decide +kernel) ⟨Nat.le_of_ble_eq_true rfl, Nat.le_of_ble_eq_true rfl⟩) hE hP hD hS hA hZ hNC rfl hl.1 rfl (lv_room (Nat.le_of_ble_eq_true rfl)) dL_sound_171 ⟨by show _ ≤ 5224; omega, by show _ ≤ 31344; omega⟩ (fun H locs hP hD hS => ?_)
                refine lv_if_lt (tgt := 181) hx hb dL_sound_174 (by decide) (fun c260 => ?_) (fun c260 => ?_)
                · have hf := br_pos c260 hf
                  refine lv_iconst (v := 0) hx hb dL_sound_181 (by decide) ?_
                  refine lv_icmp_eq (tgt := 187) hx hb dL_sound_182 (by decide) (fun c261 => ?_) (fun c261 => ?_)
                  rotate_left
                  · exact absurd c261 (by decide)
                  refine lv_iinc (v := (v9 + 1)) (lv' := [(9, .int (v9 + 1)), (8, .int (v8 + 0)), (10, .int r239), (0, .ref (ad 0)), (1, .int v1), (2, .ref qa), (3, .int v3), (4, .int v4), (5, .int v5), (6, .int v6), (7, .int v7)]) hx hb dL_sound_187 hl (k := 10) rfl rfl (by decide) rfl (fun ls hl => ?_)
                  refine lv_goto (tgt := 99) hx hb dL_sound_190 (by decide) ?_
                  exact ih _ _ CT ST v1 v3 v4 v5 v6 v7 (v8 + 0) (v9 + 1) wK _ hf (by omega) (by omega) hCT hST _ _ _ hP hD hS (lv_sub hl [3, 4, 5, 6, 7, 8, 9, 10, 1, 0] rfl) kk
                · have hf := br_neg c260 hf
                  refine lv_iconst (v := 1) hx hb dL_sound_177 (by decide) ?_
                  refine lv_goto (tgt := 182) hx hb dL_sound_178 (by decide) ?_
                  refine lv_icmp_eq (tgt := 187) hx hb dL_sound_182 (by decide) (fun c262 => ?_) (fun c262 => ?_)
                  · exact absurd c262 (by decide)
                  cases hf
              · have hf := br_neg c257 hf
                refine lv_iconst (v := 1) hx hb dL_sound_158 (by decide) ?_
                refine lv_goto (tgt := 163) hx hb dL_sound_159 (by decide) ?_
                refine lv_aload_n hx hb dL_sound_163 rfl (lv_at hl 2 rfl) ?_
                refine lv_bipush (v := 8) hx hb dL_sound_164 (by decide) ?_
                refine lv_iload hx hb dL_sound_166 (lv_at hl 9 rfl) ?_
                refine lv_iload hx hb dL_sound_168 (lv_at hl 10 rfl) ?_
                refine lv_iconst (v := 0) hx hb dL_sound_170 (by decide) ?_
                obtain ⟨r263, h264, hf⟩ := bnd hf
                refine cl_wi (rest := [.int 1]) (m_K8 l hst ca ad bq nF nO nL nA nC nV nU nP nE bF bO bL bA bC bV bU bP bE cT cK cO cQ cD pT pK pR pW pU pI pC uO uF uE uN wK jM jN jZ jB (WO ca qa sa oQ oS ++ R) _ v7 v9 0 r263 h264) ⟨hx, hb, hml, hown, hts⟩ (vx_cwSW 5 hts (gSW q251 q252 q23 q253) rfl rfl rfl (by decide +kernel) ⟨Nat.le_of_ble_eq_true rfl, Nat.le_of_ble_eq_true rfl⟩) hE hP hD hS hA hZ hNC rfl hl.1 rfl (lv_room (Nat.le_of_ble_eq_true rfl)) dL_sound_171 ⟨by show _ ≤ 5224; omega, by show _ ≤ 31344; omega⟩ (fun H locs hP hD hS => ?_)
                refine lv_if_lt (tgt := 181) hx hb dL_sound_174 (by decide) (fun c265 => ?_) (fun c265 => ?_)
                · have hf := br_pos c265 hf
                  refine lv_iconst (v := 0) hx hb dL_sound_181 (by decide) ?_
                  refine lv_icmp_eq (tgt := 187) hx hb dL_sound_182 (by decide) (fun c266 => ?_) (fun c266 => ?_)
                  · exact absurd c266 (by decide)
                  cases hf
                · have hf := br_neg c265 hf
                  refine lv_iconst (v := 1) hx hb dL_sound_177 (by decide) ?_
                  refine lv_goto (tgt := 182) hx hb dL_sound_178 (by decide) ?_
                  refine lv_icmp_eq (tgt := 187) hx hb dL_sound_182 (by decide) (fun c267 => ?_) (fun c267 => ?_)
                  rotate_left
                  · exact absurd c267 (by decide)
                  refine lv_iinc (v := (v9 + 1)) (lv' := [(9, .int (v9 + 1)), (8, .int (v8 + 0)), (10, .int r239), (0, .ref (ad 0)), (1, .int v1), (2, .ref qa), (3, .int v3), (4, .int v4), (5, .int v5), (6, .int v6), (7, .int v7)]) hx hb dL_sound_187 hl (k := 10) rfl rfl (by decide) rfl (fun ls hl => ?_)
                  refine lv_goto (tgt := 99) hx hb dL_sound_190 (by decide) ?_
                  exact ih _ _ CT ST v1 v3 v4 v5 v6 v7 (v8 + 0) (v9 + 1) wK _ hf (by omega) (by omega) hCT hST _ _ _ hP hD hS (lv_sub hl [3, 4, 5, 6, 7, 8, 9, 10, 1, 0] rfl) kk
        · have hf := br_neg c241 hf
          refine lv_iconst (v := 1) hx hb dL_sound_126 (by decide) ?_
          refine lv_goto (tgt := 131) hx hb dL_sound_127 (by decide) ?_
          refine lv_iadd hx hb dL_sound_131 ?_
          refine lv_istore (lv' := [(8, .int (v8 + 1)), (10, .int r239), (0, .ref (ad 0)), (1, .int v1), (2, .ref qa), (3, .int v3), (4, .int v4), (5, .int v5), (6, .int v6), (7, .int v7), (9, .int v9)]) hx hb dL_sound_132 hl (by decide) rfl (fun ls hl => ?_)
          refine lv_iload hx hb dL_sound_134 (lv_at hl 1 rfl) ?_
          refine lv_if_lt (tgt := 153) hx hb dL_sound_136 (by decide) (fun c268 => ?_) (fun c268 => ?_)
          · have hf := br_pos c268 hf
            refine lv_iload hx hb dL_sound_153 (lv_at hl 1 rfl) ?_
            refine lv_if_lt (tgt := 162) hx hb dL_sound_155 (by decide) (fun c269 => ?_) (fun c269 => ?_)
            · have hf := br_pos c269 hf
              refine lv_iconst (v := 0) hx hb dL_sound_162 (by decide) ?_
              refine lv_aload_n hx hb dL_sound_163 rfl (lv_at hl 2 rfl) ?_
              refine lv_bipush (v := 8) hx hb dL_sound_164 (by decide) ?_
              refine lv_iload hx hb dL_sound_166 (lv_at hl 9 rfl) ?_
              refine lv_iload hx hb dL_sound_168 (lv_at hl 10 rfl) ?_
              refine lv_iconst (v := 0) hx hb dL_sound_170 (by decide) ?_
              obtain ⟨r270, h271, hf⟩ := bnd hf
              refine cl_wi (rest := [.int 0]) (m_K8 l hst ca ad bq nF nO nL nA nC nV nU nP nE bF bO bL bA bC bV bU bP bE cT cK cO cQ cD pT pK pR pW pU pI pC uO uF uE uN wK jM jN jZ jB (WO ca qa sa oQ oS ++ R) _ v7 v9 0 r270 h271) ⟨hx, hb, hml, hown, hts⟩ (vx_cwSW 5 hts (gSW q251 q252 q23 q253) rfl rfl rfl (by decide +kernel) ⟨Nat.le_of_ble_eq_true rfl, Nat.le_of_ble_eq_true rfl⟩) hE hP hD hS hA hZ hNC rfl hl.1 rfl (lv_room (Nat.le_of_ble_eq_true rfl)) dL_sound_171 ⟨by show _ ≤ 5224; omega, by show _ ≤ 31344; omega⟩ (fun H locs hP hD hS => ?_)
              refine lv_if_lt (tgt := 181) hx hb dL_sound_174 (by decide) (fun c272 => ?_) (fun c272 => ?_)
              · have hf := br_pos c272 hf
                refine lv_iconst (v := 0) hx hb dL_sound_181 (by decide) ?_
                refine lv_icmp_eq (tgt := 187) hx hb dL_sound_182 (by decide) (fun c273 => ?_) (fun c273 => ?_)
                rotate_left
                · exact absurd c273 (by decide)
                refine lv_iinc (v := (v9 + 1)) (lv' := [(9, .int (v9 + 1)), (8, .int (v8 + 1)), (10, .int r239), (0, .ref (ad 0)), (1, .int v1), (2, .ref qa), (3, .int v3), (4, .int v4), (5, .int v5), (6, .int v6), (7, .int v7)]) hx hb dL_sound_187 hl (k := 10) rfl rfl (by decide) rfl (fun ls hl => ?_)
                refine lv_goto (tgt := 99) hx hb dL_sound_190 (by decide) ?_
                exact ih _ _ CT ST v1 v3 v4 v5 v6 v7 (v8 + 1) (v9 + 1) wK _ hf (by omega) (by omega) hCT hST _ _ _ hP hD hS (lv_sub hl [3, 4, 5, 6, 7, 8, 9, 10, 1, 0] rfl) kk
              · have hf := br_neg c272 hf
                refine lv_iconst (v := 1) hx hb dL_sound_177 (by decide) ?_
                refine lv_goto (tgt := 182) hx hb dL_sound_178 (by decide) ?_
                refine lv_icmp_eq (tgt := 187) hx hb dL_sound_182 (by decide) (fun c274 => ?_) (fun c274 => ?_)
                · exact absurd c274 (by decide)
                cases hf
            · have hf := br_neg c269 hf
              refine lv_iconst (v := 1) hx hb dL_sound_158 (by decide) ?_
              refine lv_goto (tgt := 163) hx hb dL_sound_159 (by decide) ?_
              refine lv_aload_n hx hb dL_sound_163 rfl (lv_at hl 2 rfl) ?_
              refine lv_bipush (v := 8) hx hb dL_sound_164 (by decide) ?_
              refine lv_iload hx hb dL_sound_166 (lv_at hl 9 rfl) ?_
              refine lv_iload hx hb dL_sound_168 (lv_at hl 10 rfl) ?_
              refine lv_iconst (v := 0) hx hb dL_sound_170 (by decide) ?_
              obtain ⟨r275, h276, hf⟩ := bnd hf
              refine cl_wi (rest := [.int 1]) (m_K8 l hst ca ad bq nF nO nL nA nC nV nU nP nE bF bO bL bA bC bV bU bP bE cT cK cO cQ cD pT pK pR pW pU pI pC uO uF uE uN wK jM jN jZ jB (WO ca qa sa oQ oS ++ R) _ v7 v9 0 r275 h276) ⟨hx, hb, hml, hown, hts⟩ (vx_cwSW 5 hts (gSW q251 q252 q23 q253) rfl rfl rfl (by decide +kernel) ⟨Nat.le_of_ble_eq_true rfl, Nat.le_of_ble_eq_true rfl⟩) hE hP hD hS hA hZ hNC rfl hl.1 rfl (lv_room (Nat.le_of_ble_eq_true rfl)) dL_sound_171 ⟨by show _ ≤ 5224; omega, by show _ ≤ 31344; omega⟩ (fun H locs hP hD hS => ?_)
              refine lv_if_lt (tgt := 181) hx hb dL_sound_174 (by decide) (fun c277 => ?_) (fun c277 => ?_)
              · have hf := br_pos c277 hf
                refine lv_iconst (v := 0) hx hb dL_sound_181 (by decide) ?_
                refine lv_icmp_eq (tgt := 187) hx hb dL_sound_182 (by decide) (fun c278 => ?_) (fun c278 => ?_)
                · exact absurd c278 (by decide)
                cases hf
              · have hf := br_neg c277 hf
                refine lv_iconst (v := 1) hx hb dL_sound_177 (by decide) ?_
                refine lv_goto (tgt := 182) hx hb dL_sound_178 (by decide) ?_
                refine lv_icmp_eq (tgt := 187) hx hb dL_sound_182 (by decide) (fun c279 => ?_) (fun c279 => ?_)
                rotate_left
                · exact absurd c279 (by decide)
                refine lv_iinc (v := (v9 + 1)) (lv' := [(9, .int (v9 + 1)), (8, .int (v8 + 1)), (10, .int r239), (0, .ref (ad 0)), (1, .int v1), (2, .ref qa), (3, .int v3), (4, .int v4), (5, .int v5), (6, .int v6), (7, .int v7)]) hx hb dL_sound_187 hl (k := 10) rfl rfl (by decide) rfl (fun ls hl => ?_)
                refine lv_goto (tgt := 99) hx hb dL_sound_190 (by decide) ?_
                exact ih _ _ CT ST v1 v3 v4 v5 v6 v7 (v8 + 1) (v9 + 1) wK _ hf (by omega) (by omega) hCT hST _ _ _ hP hD hS (lv_sub hl [3, 4, 5, 6, 7, 8, 9, 10, 1, 0] rfl) kk
          · have hf := br_neg c268 hf
            refine lv_aload_n hx hb dL_sound_139 rfl (lv_at hl 2 rfl) ?_
            refine lv_bipush (v := 12) hx hb dL_sound_140 (by decide) ?_
            refine lv_iload hx hb dL_sound_142 (lv_at hl 1 rfl) ?_
            refine lv_iconst (v := 0) hx hb dL_sound_144 (by decide) ?_
            refine lv_iconst (v := 0) hx hb dL_sound_145 (by decide) ?_
            obtain ⟨r280, h281, hf⟩ := bnd hf
            refine cl_wi (rest := []) (m_K12 l hst ca ad bq nF nO nL nA nC nV nU nP nE bF bO bL bA bC bV bU bP bE cT cK cO cQ cD pT pK pR pW pU pI pC uO uF uE uN wK jM jN jZ jB (WO ca qa sa oQ oS ++ R) _ r239 0 0 r280 h281) ⟨hx, hb, hml, hown, hts⟩ (vx_cwSW 5 hts (gSW q251 q252 q23 q253) rfl rfl rfl (by decide +kernel) ⟨Nat.le_of_ble_eq_true rfl, Nat.le_of_ble_eq_true rfl⟩) hE hP hD hS hA hZ hNC rfl hl.1 rfl (lv_room (Nat.le_of_ble_eq_true rfl)) dL_sound_146 ⟨by show _ ≤ 5224; omega, by show _ ≤ 31344; omega⟩ (fun H locs hP hD hS => ?_)
            refine lv_iconst (v := 1) hx hb dL_sound_149 (by decide) ?_
            refine lv_icmp_lt (tgt := 185) hx hb dL_sound_150 (by decide) (fun c282 => ?_) (fun c282 => ?_)
            · have hf := br_pos c282 hf
              cases hf
            · have hf := br_neg c282 hf
              refine lv_iload hx hb dL_sound_153 (lv_at hl 1 rfl) ?_
              refine lv_if_lt (tgt := 162) hx hb dL_sound_155 (by decide) (fun c283 => ?_) (fun c283 => ?_)
              · have hf := br_pos c283 hf
                refine lv_iconst (v := 0) hx hb dL_sound_162 (by decide) ?_
                refine lv_aload_n hx hb dL_sound_163 rfl (lv_at hl 2 rfl) ?_
                refine lv_bipush (v := 8) hx hb dL_sound_164 (by decide) ?_
                refine lv_iload hx hb dL_sound_166 (lv_at hl 9 rfl) ?_
                refine lv_iload hx hb dL_sound_168 (lv_at hl 10 rfl) ?_
                refine lv_iconst (v := 0) hx hb dL_sound_170 (by decide) ?_
                obtain ⟨r284, h285, hf⟩ := bnd hf
                refine cl_wi (rest := [.int 0]) (m_K8 l hst ca ad bq nF nO nL nA nC nV nU nP nE bF bO bL bA bC bV bU bP bE cT cK cO cQ cD pT pK pR pW pU pI pC uO uF uE uN wK jM jN jZ jB (WO ca qa sa oQ oS ++ R) _ v7 v9 0 r284 h285) ⟨hx, hb, hml, hown, hts⟩ (vx_cwSW 5 hts (gSW q251 q252 q23 q253) rfl rfl rfl (by decide +kernel) ⟨Nat.le_of_ble_eq_true rfl, Nat.le_of_ble_eq_true rfl⟩) hE hP hD hS hA hZ hNC rfl hl.1 rfl (lv_room (Nat.le_of_ble_eq_true rfl)) dL_sound_171 ⟨by show _ ≤ 5224; omega, by show _ ≤ 31344; omega⟩ (fun H locs hP hD hS => ?_)
                refine lv_if_lt (tgt := 181) hx hb dL_sound_174 (by decide) (fun c286 => ?_) (fun c286 => ?_)
                · have hf := br_pos c286 hf
                  refine lv_iconst (v := 0) hx hb dL_sound_181 (by decide) ?_
                  refine lv_icmp_eq (tgt := 187) hx hb dL_sound_182 (by decide) (fun c287 => ?_) (fun c287 => ?_)
                  rotate_left
                  · exact absurd c287 (by decide)
                  refine lv_iinc (v := (v9 + 1)) (lv' := [(9, .int (v9 + 1)), (8, .int (v8 + 1)), (10, .int r239), (0, .ref (ad 0)), (1, .int v1), (2, .ref qa), (3, .int v3), (4, .int v4), (5, .int v5), (6, .int v6), (7, .int v7)]) hx hb dL_sound_187 hl (k := 10) rfl rfl (by decide) rfl (fun ls hl => ?_)
                  refine lv_goto (tgt := 99) hx hb dL_sound_190 (by decide) ?_
                  exact ih _ _ CT ST v1 v3 v4 v5 v6 v7 (v8 + 1) (v9 + 1) wK _ hf (by omega) (by omega) hCT hST _ _ _ hP hD hS (lv_sub hl [3, 4, 5, 6, 7, 8, 9, 10, 1, 0] rfl) kk
                · have hf := br_neg c286 hf
                  refine lv_iconst (v := 1) hx hb dL_sound_177 (by decide) ?_
                  refine lv_goto (tgt := 182) hx hb dL_sound_178 (by decide) ?_
                  refine lv_icmp_eq (tgt := 187) hx hb dL_sound_182 (by decide) (fun c288 => ?_) (fun c288 => ?_)
                  · exact absurd c288 (by decide)
                  cases hf
              · have hf := br_neg c283 hf
                refine lv_iconst (v := 1) hx hb dL_sound_158 (by decide) ?_
                refine lv_goto (tgt := 163) hx hb dL_sound_159 (by decide) ?_
                refine lv_aload_n hx hb dL_sound_163 rfl (lv_at hl 2 rfl) ?_
                refine lv_bipush (v := 8) hx hb dL_sound_164 (by decide) ?_
                refine lv_iload hx hb dL_sound_166 (lv_at hl 9 rfl) ?_
                refine lv_iload hx hb dL_sound_168 (lv_at hl 10 rfl) ?_
                refine lv_iconst (v := 0) hx hb dL_sound_170 (by decide) ?_
                obtain ⟨r289, h290, hf⟩ := bnd hf
                refine cl_wi (rest := [.int 1]) (m_K8 l hst ca ad bq nF nO nL nA nC nV nU nP nE bF bO bL bA bC bV bU bP bE cT cK cO cQ cD pT pK pR pW pU pI pC uO uF uE uN wK jM jN jZ jB (WO ca qa sa oQ oS ++ R) _ v7 v9 0 r289 h290) ⟨hx, hb, hml, hown, hts⟩ (vx_cwSW 5 hts (gSW q251 q252 q23 q253) rfl rfl rfl (by decide +kernel) ⟨Nat.le_of_ble_eq_true rfl, Nat.le_of_ble_eq_true rfl⟩) hE hP hD hS hA hZ hNC rfl hl.1 rfl (lv_room (Nat.le_of_ble_eq_true rfl)) dL_sound_171 ⟨by show _ ≤ 5224; omega, by show _ ≤ 31344; omega⟩ (fun H locs hP hD hS => ?_)
                refine lv_if_lt (tgt := 181) hx hb dL_sound_174 (by decide) (fun c291 => ?_) (fun c291 => ?_)
                · have hf := br_pos c291 hf
                  refine lv_iconst (v := 0) hx hb dL_sound_181 (by decide) ?_
                  refine lv_icmp_eq (tgt := 187) hx hb dL_sound_182 (by decide) (fun c292 => ?_) (fun c292 => ?_)
                  · exact absurd c292 (by decide)
                  cases hf
                · have hf := br_neg c291 hf
                  refine lv_iconst (v := 1) hx hb dL_sound_177 (by decide) ?_
                  refine lv_goto (tgt := 182) hx hb dL_sound_178 (by decide) ?_
                  refine lv_icmp_eq (tgt := 187) hx hb dL_sound_182 (by decide) (fun c293 => ?_) (fun c293 => ?_)
                  rotate_left
                  · exact absurd c293 (by decide)
                  refine lv_iinc (v := (v9 + 1)) (lv' := [(9, .int (v9 + 1)), (8, .int (v8 + 1)), (10, .int r239), (0, .ref (ad 0)), (1, .int v1), (2, .ref qa), (3, .int v3), (4, .int v4), (5, .int v5), (6, .int v6), (7, .int v7)]) hx hb dL_sound_187 hl (k := 10) rfl rfl (by decide) rfl (fun ls hl => ?_)
                  refine lv_goto (tgt := 99) hx hb dL_sound_190 (by decide) ?_
                  exact ih _ _ CT ST v1 v3 v4 v5 v6 v7 (v8 + 1) (v9 + 1) wK _ hf (by omega) (by omega) hCT hST _ _ _ hP hD hS (lv_sub hl [3, 4, 5, 6, 7, 8, 9, 10, 1, 0] rfl) kk
  have L84 : ∀ (n : Nat) (cN_ sN_ CT ST : Nat) (v1 : Int32) (v3 : Int32) (v4 : Int32) (v5 : Int32) (v6 : Int32) (v7 : Int32) (wK : Nat → Int32) (y5 : Int32), f_sound_L84 n v1 v3 v4 v5 v6 v7 nF nL nA nC nV nU uO uF uN = some y5 → cN_ + n * 124 ≤ CT → sN_ + n * 744 ≤ ST → CT ≤ 5224 → ST ≤ 31344 → ∀ (H : Heap) (locs : List Loc) (ls : Array Slot), va_P D vwCl (WC ca ad bq nF nO nL nA nC nV nU nP nE bF bO bL bA bC bV bU bP bE cT cK cO cQ cD pT pK pR pW pU pI pC uO uF uE uN wK jM jN jZ jB ++ (WO ca qa sa oQ oS ++ R)) H → va_D A (WC ca ad bq nF nO nL nA nC nV nU nP nE bF bO bL bA bC bV bU bP bE cT cK cO cQ cD pT pK pR pW pU pI pC uO uF uE uN wK jM jN jZ jB ++ (WO ca qa sa oQ oS ++ R)) → va_S A s.heap H locs → lv_has ls 11 [(0, .ref (ad 0)), (1, .int v1), (2, .ref qa), (3, .int v3), (4, .int v4), (5, .int v5), (6, .int v6), (7, .int v7)] → (∀ (H : Heap) (locs : List Loc) (ls : Array Slot), va_P D vwCl (WC ca ad bq nF nO nL nA nC nV nU nP nE bF bO bL bA bC bV bU bP bE cT cK cO cQ cD pT pK pR pW pU pI pC uO uF uE uN wK jM jN jZ jB ++ (WO ca qa sa oQ oS ++ R)) H → va_D A (WC ca ad bq nF nO nL nA nC nV nU nP nE bF bO bL bA bC bV bU bP bE cT cK cO cQ cD pT pK pR pW pU pI pC uO uF uE uN wK jM jN jZ jB ++ (WO ca qa sa oQ oS ++ R)) → va_S A s.heap H locs → lv_has ls 11 [(0, .ref (ad 0)), (1, .int v1), (2, .ref qa), (3, .int v3), (4, .int v4), (5, .int y5), (6, .int v6)] → W p l e ({ frames := 10, cells := 5224, slots := 31344, locals := 181 } : Room) s m args below meth c H locs CT ST Qm (F0 m 283 ls [])) → W p l e ({ frames := 10, cells := 5224, slots := 31344, locals := 181 } : Room) s m args below meth c H locs cN_ sN_ Qm (F0 m 84 ls []) := by
    intro n
    induction n with
    | zero => intro _ _ _ _ v1 v3 v4 v5 v6 v7 wK y5 hf; cases hf
    | succ n ih =>
      intro cN_ sN_ CT ST v1 v3 v4 v5 v6 v7 wK y5 hf hc9 hs9 hCT hST H locs ls hP hD hS hl kk
      have hc8 : cN_ + n * 124 + 124 ≤ CT := by rw [Nat.succ_mul] at hc9; omega
      have hs8 : sN_ + n * 744 + 744 ≤ ST := by rw [Nat.succ_mul] at hs9; omega
      clear hc9 hs9
      change W p l e ({ frames := 10, cells := 5224, slots := 31344, locals := 181 } : Room) s m args below meth c H locs (cN_ + 0) (sN_ + 0) Qm (F0 m 84 ls [])
      unfold f_sound_L84 at hf
      refine lv_iload hx hb dL_sound_84 (lv_at hl 7 rfl) ?_
      refine lv_aload_n hx hb dL_sound_86 rfl (lv_at hl 0 rfl) ?_
      obtain ⟨r179, h180, hf⟩ := bnd hf
      refine call_vi (rest := [.int v7]) (m_C_fileCount l ca ad bq nF nO nL nA nC nV nU nP nE bF bO bL bA bC bV bU bP bE cT cK cO cQ cD pT pK pR pW pU pI pC uO uF uE uN wK jM jN jZ jB (WO ca qa sa oQ oS ++ R) _ r179 h180) ⟨hx, hb, hml, hown, hts⟩ (cwV 0 hts (gV q216 q217 q218 q24 q219) rfl rfl rfl (by decide +kernel) ⟨Nat.le_of_ble_eq_true rfl, Nat.le_of_ble_eq_true rfl⟩) (va_recv hK hP (ci := 7) (q0 := 0) rfl rfl) hE hP hD hS hA rfl hl.1 rfl (lv_room (Nat.le_of_ble_eq_true rfl)) dL_sound_87 ⟨by show _ ≤ 5224; omega, by show _ ≤ 31344; omega⟩ (fun H locs hP hD hS => ?_)
      refine lv_icmp_ge (tgt := 283) hx hb dL_sound_90 (by decide) (fun c181 => ?_) (fun c181 => ?_)
      · have hf := br_pos c181 hf
        cases hf
        refine W.widen (k := CT) (n := ST) (by omega) (by omega) ?_
        exact kk _ _ _ hP hD hS (lv_sub hl [0, 1, 2, 3, 4, 5, 6] rfl)
      · have hf := br_neg c181 hf
        refine lv_iconst (v := 0) hx hb dL_sound_93 (by decide) ?_
        refine lv_istore (lv' := [(8, .int 0), (0, .ref (ad 0)), (1, .int v1), (2, .ref qa), (3, .int v3), (4, .int v4), (5, .int v5), (6, .int v6), (7, .int v7)]) hx hb dL_sound_94 hl (by decide) rfl (fun ls hl => ?_)
        refine lv_iconst (v := 0) hx hb dL_sound_96 (by decide) ?_
        refine lv_istore (lv' := [(9, .int 0), (8, .int 0), (0, .ref (ad 0)), (1, .int v1), (2, .ref qa), (3, .int v3), (4, .int v4), (5, .int v5), (6, .int v6), (7, .int v7)]) hx hb dL_sound_97 hl (by decide) rfl (fun ls hl => ?_)
        obtain ⟨x295, h294, hf⟩ := bnd hf
        refine L99 17 _ _ (cN_ + 119) (sN_ + 714) v1 v3 v4 v5 v6 v7 0 0 wK x295 h294 (by omega) (by omega) (by omega) (by omega) _ _ _ hP hD hS (lv_sub hl [2, 3, 4, 5, 6, 7, 8, 9, 1, 0] rfl) (fun H locs ls hP hD hS hl => ?_)
        refine lv_iload hx hb dL_sound_193 (lv_at hl 5 rfl) ?_
        refine lv_iload hx hb dL_sound_195 (lv_at hl 8 rfl) ?_
        refine lv_iadd hx hb dL_sound_197 ?_
        refine lv_istore (lv' := [(5, .int (v5 + x295)), (0, .ref (ad 0)), (1, .int v1), (2, .ref qa), (3, .int v3), (4, .int v4), (6, .int v6), (7, .int v7), (8, .int x295)]) hx hb dL_sound_198 hl (by decide) rfl (fun ls hl => ?_)
        refine lv_aload_n hx hb dL_sound_200 rfl (lv_at hl 1 rfl) ?_
        refine lv_bipush (v := 10) hx hb dL_sound_201 (by decide) ?_
        refine lv_iload hx hb dL_sound_203 (lv_at hl 7 rfl) ?_
        refine lv_iconst (v := 0) hx hb dL_sound_205 (by decide) ?_
        refine lv_iconst (v := 0) hx hb dL_sound_206 (by decide) ?_
        obtain ⟨r296, h297, hf⟩ := bnd hf
        refine cl_wi (rest := []) (m_K10 l hst ca ad bq nF nO nL nA nC nV nU nP nE bF bO bL bA bC bV bU bP bE cT cK cO cQ cD pT pK pR pW pU pI pC uO uF uE uN wK jM jN jZ jB (WO ca qa sa oQ oS ++ R) _ v7 0 0 r296 h297) ⟨hx, hb, hml, hown, hts⟩ (vx_cwSW 5 hts (gSW q251 q252 q23 q253) rfl rfl rfl (by decide +kernel) ⟨Nat.le_of_ble_eq_true rfl, Nat.le_of_ble_eq_true rfl⟩) hE hP hD hS hA hZ hNC rfl hl.1 rfl (lv_room (Nat.le_of_ble_eq_true rfl)) dL_sound_207 ⟨by show _ ≤ 5224; omega, by show _ ≤ 31344; omega⟩ (fun H locs hP hD hS => ?_)
        refine lv_iload hx hb dL_sound_210 (lv_at hl 8 rfl) ?_
        refine lv_icmp_ne (tgt := 275) hx hb dL_sound_212 (by decide) (fun c298 => ?_) (fun c298 => ?_)
        · have hf := br_neg c298 hf
          cases hf
        · have hf := br_pos c298 hf
          refine lv_iload hx hb dL_sound_215 (lv_at hl 8 rfl) ?_
          refine lv_if_le (tgt := 233) hx hb dL_sound_217 (by decide) (fun c299 => ?_) (fun c299 => ?_)
          · have hf := br_pos c299 hf
            refine lv_aload_n hx hb dL_sound_233 rfl (lv_at hl 1 rfl) ?_
            refine lv_iconst (v := 2) hx hb dL_sound_234 (by decide) ?_
            refine lv_iload hx hb dL_sound_235 (lv_at hl 7 rfl) ?_
            refine lv_iconst (v := 0) hx hb dL_sound_237 (by decide) ?_
            refine lv_iconst (v := 0) hx hb dL_sound_238 (by decide) ?_
            obtain ⟨r300, h301, hf⟩ := bnd hf
            refine cl_wi (rest := []) (m_K2 l hst ca ad bq nF nO nL nA nC nV nU nP nE bF bO bL bA bC bV bU bP bE cT cK cO cQ cD pT pK pR pW pU pI pC uO uF uE uN wK jM jN jZ jB (WO ca qa sa oQ oS ++ R) _ v7 0 0 r300 h301) ⟨hx, hb, hml, hown, hts⟩ (vx_cwSW 5 hts (gSW q251 q252 q23 q253) rfl rfl rfl (by decide +kernel) ⟨Nat.le_of_ble_eq_true rfl, Nat.le_of_ble_eq_true rfl⟩) hE hP hD hS hA hZ hNC rfl hl.1 rfl (lv_room (Nat.le_of_ble_eq_true rfl)) dL_sound_239 ⟨by show _ ≤ 5224; omega, by show _ ≤ 31344; omega⟩ (fun H locs hP hD hS => ?_)
            refine lv_aload_n hx hb dL_sound_242 rfl (lv_at hl 1 rfl) ?_
            refine lv_iconst (v := 3) hx hb dL_sound_243 (by decide) ?_
            refine lv_iload hx hb dL_sound_244 (lv_at hl 7 rfl) ?_
            refine lv_iconst (v := 0) hx hb dL_sound_246 (by decide) ?_
            refine lv_iconst (v := 0) hx hb dL_sound_247 (by decide) ?_
            obtain ⟨r302, h303, hf⟩ := bnd hf
            refine cl_wi (rest := [.int r300]) (m_K3 l hst ca ad bq nF nO nL nA nC nV nU nP nE bF bO bL bA bC bV bU bP bE cT cK cO cQ cD pT pK pR pW pU pI pC uO uF uE uN wK jM jN jZ jB (WO ca qa sa oQ oS ++ R) _ v7 0 0 r302 h303) ⟨hx, hb, hml, hown, hts⟩ (vx_cwSW 5 hts (gSW q251 q252 q23 q253) rfl rfl rfl (by decide +kernel) ⟨Nat.le_of_ble_eq_true rfl, Nat.le_of_ble_eq_true rfl⟩) hE hP hD hS hA hZ hNC rfl hl.1 rfl (lv_room (Nat.le_of_ble_eq_true rfl)) dL_sound_248 ⟨by show _ ≤ 5224; omega, by show _ ≤ 31344; omega⟩ (fun H locs hP hD hS => ?_)
            refine lv_if_gt (tgt := 267) hx hb dL_sound_251 (by decide) (fun c304 => ?_) (fun c304 => ?_)
            · have hf := br_pos c304 hf
              refine lv_iconst (v := 1) hx hb dL_sound_267 (by decide) ?_
              refine lv_goto (tgt := 272) hx hb dL_sound_268 (by decide) ?_
              refine lv_icmp_eq (tgt := 277) hx hb dL_sound_272 (by decide) (fun c305 => ?_) (fun c305 => ?_)
              · have hf := br_pos c305 hf
                refine lv_iinc (v := (v7 + 1)) (lv' := [(7, .int (v7 + 1)), (5, .int (v5 + x295)), (0, .ref (ad 0)), (1, .int v1), (2, .ref qa), (3, .int v3), (4, .int v4), (6, .int v6), (8, .int x295)]) hx hb dL_sound_277 hl (k := 7) rfl rfl (by decide) rfl (fun ls hl => ?_)
                refine lv_goto (tgt := 84) hx hb dL_sound_280 (by decide) ?_
                exact ih _ _ CT ST v1 v3 v4 (v5 + x295) v6 (v7 + 1) wK _ hf (by omega) (by omega) hCT hST _ _ _ hP hD hS (lv_sub hl [2, 3, 4, 5, 6, 1, 7, 0] rfl) kk
              · have hf := br_neg c305 hf
                cases hf
            · have hf := br_neg c304 hf
              refine lv_aload_n hx hb dL_sound_254 rfl (lv_at hl 1 rfl) ?_
              refine lv_bipush (v := 26) hx hb dL_sound_255 (by decide) ?_
              refine lv_iload hx hb dL_sound_257 (lv_at hl 7 rfl) ?_
              refine lv_iconst (v := 0) hx hb dL_sound_259 (by decide) ?_
              refine lv_iconst (v := 0) hx hb dL_sound_260 (by decide) ?_
              obtain ⟨r306, h307, hf⟩ := bnd hf
              refine cl_wi (rest := [.int r300]) (m_K26 l hst ca ad bq nF nO nL nA nC nV nU nP nE bF bO bL bA bC bV bU bP bE cT cK cO cQ cD pT pK pR pW pU pI pC uO uF uE uN wK jM jN jZ jB (WO ca qa sa oQ oS ++ R) _ v7 0 0 r306 h307) ⟨hx, hb, hml, hown, hts⟩ (vx_cwSW 5 hts (gSW q251 q252 q23 q253) rfl rfl rfl (by decide +kernel) ⟨Nat.le_of_ble_eq_true rfl, Nat.le_of_ble_eq_true rfl⟩) hE hP hD hS hA hZ hNC rfl hl.1 rfl (lv_room (Nat.le_of_ble_eq_true rfl)) dL_sound_261 ⟨by show _ ≤ 5224; omega, by show _ ≤ 31344; omega⟩ (fun H locs hP hD hS => ?_)
              refine lv_if_le (tgt := 271) hx hb dL_sound_264 (by decide) (fun c308 => ?_) (fun c308 => ?_)
              · have hf := br_pos c308 hf
                refine lv_iconst (v := 0) hx hb dL_sound_271 (by decide) ?_
                refine lv_icmp_eq (tgt := 277) hx hb dL_sound_272 (by decide) (fun c309 => ?_) (fun c309 => ?_)
                · have hf := br_pos c309 hf
                  refine lv_iinc (v := (v7 + 1)) (lv' := [(7, .int (v7 + 1)), (5, .int (v5 + x295)), (0, .ref (ad 0)), (1, .int v1), (2, .ref qa), (3, .int v3), (4, .int v4), (6, .int v6), (8, .int x295)]) hx hb dL_sound_277 hl (k := 7) rfl rfl (by decide) rfl (fun ls hl => ?_)
                  refine lv_goto (tgt := 84) hx hb dL_sound_280 (by decide) ?_
                  exact ih _ _ CT ST v1 v3 v4 (v5 + x295) v6 (v7 + 1) wK _ hf (by omega) (by omega) hCT hST _ _ _ hP hD hS (lv_sub hl [2, 3, 4, 5, 6, 1, 7, 0] rfl) kk
                · have hf := br_neg c309 hf
                  cases hf
              · have hf := br_neg c308 hf
                refine lv_iconst (v := 1) hx hb dL_sound_267 (by decide) ?_
                refine lv_goto (tgt := 272) hx hb dL_sound_268 (by decide) ?_
                refine lv_icmp_eq (tgt := 277) hx hb dL_sound_272 (by decide) (fun c310 => ?_) (fun c310 => ?_)
                · have hf := br_pos c310 hf
                  refine lv_iinc (v := (v7 + 1)) (lv' := [(7, .int (v7 + 1)), (5, .int (v5 + x295)), (0, .ref (ad 0)), (1, .int v1), (2, .ref qa), (3, .int v3), (4, .int v4), (6, .int v6), (8, .int x295)]) hx hb dL_sound_277 hl (k := 7) rfl rfl (by decide) rfl (fun ls hl => ?_)
                  refine lv_goto (tgt := 84) hx hb dL_sound_280 (by decide) ?_
                  exact ih _ _ CT ST v1 v3 v4 (v5 + x295) v6 (v7 + 1) wK _ hf (by omega) (by omega) hCT hST _ _ _ hP hD hS (lv_sub hl [2, 3, 4, 5, 6, 1, 7, 0] rfl) kk
                · have hf := br_neg c310 hf
                  cases hf
          · have hf := br_neg c299 hf
            refine lv_aload_n hx hb dL_sound_220 rfl (lv_at hl 1 rfl) ?_
            refine lv_iconst (v := 2) hx hb dL_sound_221 (by decide) ?_
            refine lv_iload hx hb dL_sound_222 (lv_at hl 7 rfl) ?_
            refine lv_iconst (v := 0) hx hb dL_sound_224 (by decide) ?_
            refine lv_iconst (v := 0) hx hb dL_sound_225 (by decide) ?_
            obtain ⟨r311, h312, hf⟩ := bnd hf
            refine cl_wi (rest := []) (m_K2 l hst ca ad bq nF nO nL nA nC nV nU nP nE bF bO bL bA bC bV bU bP bE cT cK cO cQ cD pT pK pR pW pU pI pC uO uF uE uN wK jM jN jZ jB (WO ca qa sa oQ oS ++ R) _ v7 0 0 r311 h312) ⟨hx, hb, hml, hown, hts⟩ (vx_cwSW 5 hts (gSW q251 q252 q23 q253) rfl rfl rfl (by decide +kernel) ⟨Nat.le_of_ble_eq_true rfl, Nat.le_of_ble_eq_true rfl⟩) hE hP hD hS hA hZ hNC rfl hl.1 rfl (lv_room (Nat.le_of_ble_eq_true rfl)) dL_sound_226 ⟨by show _ ≤ 5224; omega, by show _ ≤ 31344; omega⟩ (fun H locs hP hD hS => ?_)
            refine lv_iconst (v := 1) hx hb dL_sound_229 (by decide) ?_
            refine lv_icmp_ne (tgt := 275) hx hb dL_sound_230 (by decide) (fun c313 => ?_) (fun c313 => ?_)
            · have hf := br_neg c313 hf
              cases hf
            · have hf := br_pos c313 hf
              refine lv_aload_n hx hb dL_sound_233 rfl (lv_at hl 1 rfl) ?_
              refine lv_iconst (v := 2) hx hb dL_sound_234 (by decide) ?_
              refine lv_iload hx hb dL_sound_235 (lv_at hl 7 rfl) ?_
              refine lv_iconst (v := 0) hx hb dL_sound_237 (by decide) ?_
              refine lv_iconst (v := 0) hx hb dL_sound_238 (by decide) ?_
              obtain ⟨r314, h315, hf⟩ := bnd hf
              refine cl_wi (rest := []) (m_K2 l hst ca ad bq nF nO nL nA nC nV nU nP nE bF bO bL bA bC bV bU bP bE cT cK cO cQ cD pT pK pR pW pU pI pC uO uF uE uN wK jM jN jZ jB (WO ca qa sa oQ oS ++ R) _ v7 0 0 r314 h315) ⟨hx, hb, hml, hown, hts⟩ (vx_cwSW 5 hts (gSW q251 q252 q23 q253) rfl rfl rfl (by decide +kernel) ⟨Nat.le_of_ble_eq_true rfl, Nat.le_of_ble_eq_true rfl⟩) hE hP hD hS hA hZ hNC rfl hl.1 rfl (lv_room (Nat.le_of_ble_eq_true rfl)) dL_sound_239 ⟨by show _ ≤ 5224; omega, by show _ ≤ 31344; omega⟩ (fun H locs hP hD hS => ?_)
              refine lv_aload_n hx hb dL_sound_242 rfl (lv_at hl 1 rfl) ?_
              refine lv_iconst (v := 3) hx hb dL_sound_243 (by decide) ?_
              refine lv_iload hx hb dL_sound_244 (lv_at hl 7 rfl) ?_
              refine lv_iconst (v := 0) hx hb dL_sound_246 (by decide) ?_
              refine lv_iconst (v := 0) hx hb dL_sound_247 (by decide) ?_
              obtain ⟨r316, h317, hf⟩ := bnd hf
              refine cl_wi (rest := [.int r314]) (m_K3 l hst ca ad bq nF nO nL nA nC nV nU nP nE bF bO bL bA bC bV bU bP bE cT cK cO cQ cD pT pK pR pW pU pI pC uO uF uE uN wK jM jN jZ jB (WO ca qa sa oQ oS ++ R) _ v7 0 0 r316 h317) ⟨hx, hb, hml, hown, hts⟩ (vx_cwSW 5 hts (gSW q251 q252 q23 q253) rfl rfl rfl (by decide +kernel) ⟨Nat.le_of_ble_eq_true rfl, Nat.le_of_ble_eq_true rfl⟩) hE hP hD hS hA hZ hNC rfl hl.1 rfl (lv_room (Nat.le_of_ble_eq_true rfl)) dL_sound_248 ⟨by show _ ≤ 5224; omega, by show _ ≤ 31344; omega⟩ (fun H locs hP hD hS => ?_)
              refine lv_if_gt (tgt := 267) hx hb dL_sound_251 (by decide) (fun c318 => ?_) (fun c318 => ?_)
              · have hf := br_pos c318 hf
                refine lv_iconst (v := 1) hx hb dL_sound_267 (by decide) ?_
                refine lv_goto (tgt := 272) hx hb dL_sound_268 (by decide) ?_
                refine lv_icmp_eq (tgt := 277) hx hb dL_sound_272 (by decide) (fun c319 => ?_) (fun c319 => ?_)
                · have hf := br_pos c319 hf
                  refine lv_iinc (v := (v7 + 1)) (lv' := [(7, .int (v7 + 1)), (5, .int (v5 + x295)), (0, .ref (ad 0)), (1, .int v1), (2, .ref qa), (3, .int v3), (4, .int v4), (6, .int v6), (8, .int x295)]) hx hb dL_sound_277 hl (k := 7) rfl rfl (by decide) rfl (fun ls hl => ?_)
                  refine lv_goto (tgt := 84) hx hb dL_sound_280 (by decide) ?_
                  exact ih _ _ CT ST v1 v3 v4 (v5 + x295) v6 (v7 + 1) wK _ hf (by omega) (by omega) hCT hST _ _ _ hP hD hS (lv_sub hl [2, 3, 4, 5, 6, 1, 7, 0] rfl) kk
                · have hf := br_neg c319 hf
                  cases hf
              · have hf := br_neg c318 hf
                refine lv_aload_n hx hb dL_sound_254 rfl (lv_at hl 1 rfl) ?_
                refine lv_bipush (v := 26) hx hb dL_sound_255 (by decide) ?_
                refine lv_iload hx hb dL_sound_257 (lv_at hl 7 rfl) ?_
                refine lv_iconst (v := 0) hx hb dL_sound_259 (by decide) ?_
                refine lv_iconst (v := 0) hx hb dL_sound_260 (by decide) ?_
                obtain ⟨r320, h321, hf⟩ := bnd hf
                refine cl_wi (rest := [.int r314]) (m_K26 l hst ca ad bq nF nO nL nA nC nV nU nP nE bF bO bL bA bC bV bU bP bE cT cK cO cQ cD pT pK pR pW pU pI pC uO uF uE uN wK jM jN jZ jB (WO ca qa sa oQ oS ++ R) _ v7 0 0 r320 h321) ⟨hx, hb, hml, hown, hts⟩ (vx_cwSW 5 hts (gSW q251 q252 q23 q253) rfl rfl rfl (by decide +kernel) ⟨Nat.le_of_ble_eq_true rfl, Nat.le_of_ble_eq_true rfl⟩) hE hP hD hS hA hZ hNC rfl hl.1 rfl (lv_room (Nat.le_of_ble_eq_true rfl)) dL_sound_261 ⟨by show _ ≤ 5224; omega, by show _ ≤ 31344; omega⟩ (fun H locs hP hD hS => ?_)
                refine lv_if_le (tgt := 271) hx hb dL_sound_264 (by decide) (fun c322 => ?_) (fun c322 => ?_)
                · have hf := br_pos c322 hf
                  refine lv_iconst (v := 0) hx hb dL_sound_271 (by decide) ?_
                  refine lv_icmp_eq (tgt := 277) hx hb dL_sound_272 (by decide) (fun c323 => ?_) (fun c323 => ?_)
                  · have hf := br_pos c323 hf
                    refine lv_iinc (v := (v7 + 1)) (lv' := [(7, .int (v7 + 1)), (5, .int (v5 + x295)), (0, .ref (ad 0)), (1, .int v1), (2, .ref qa), (3, .int v3), (4, .int v4), (6, .int v6), (8, .int x295)]) hx hb dL_sound_277 hl (k := 7) rfl rfl (by decide) rfl (fun ls hl => ?_)
                    refine lv_goto (tgt := 84) hx hb dL_sound_280 (by decide) ?_
                    exact ih _ _ CT ST v1 v3 v4 (v5 + x295) v6 (v7 + 1) wK _ hf (by omega) (by omega) hCT hST _ _ _ hP hD hS (lv_sub hl [2, 3, 4, 5, 6, 1, 7, 0] rfl) kk
                  · have hf := br_neg c323 hf
                    cases hf
                · have hf := br_neg c322 hf
                  refine lv_iconst (v := 1) hx hb dL_sound_267 (by decide) ?_
                  refine lv_goto (tgt := 272) hx hb dL_sound_268 (by decide) ?_
                  refine lv_icmp_eq (tgt := 277) hx hb dL_sound_272 (by decide) (fun c324 => ?_) (fun c324 => ?_)
                  · have hf := br_pos c324 hf
                    refine lv_iinc (v := (v7 + 1)) (lv' := [(7, .int (v7 + 1)), (5, .int (v5 + x295)), (0, .ref (ad 0)), (1, .int v1), (2, .ref qa), (3, .int v3), (4, .int v4), (6, .int v6), (8, .int x295)]) hx hb dL_sound_277 hl (k := 7) rfl rfl (by decide) rfl (fun ls hl => ?_)
                    refine lv_goto (tgt := 84) hx hb dL_sound_280 (by decide) ?_
                    exact ih _ _ CT ST v1 v3 v4 (v5 + x295) v6 (v7 + 1) wK _ hf (by omega) (by omega) hCT hST _ _ _ hP hD hS (lv_sub hl [2, 3, 4, 5, 6, 1, 7, 0] rfl) kk
                  · have hf := br_neg c324 hf
                    cases hf
  have L286 : ∀ (n : Nat) (cN_ sN_ CT ST : Nat) (v1 : Int32) (v3 : Int32) (v4 : Int32) (v5 : Int32) (v6 : Int32) (v7 : Int32) (wK : Nat → Int32) (y4 : Int32), f_sound_L286 n v1 v3 v4 v5 v6 v7 nF nO nC nP cO oQ = some y4 → cN_ + n * 2 ≤ CT → sN_ + n * 12 ≤ ST → CT ≤ 5224 → ST ≤ 31344 → ∀ (H : Heap) (locs : List Loc) (ls : Array Slot), va_P D vwCl (WC ca ad bq nF nO nL nA nC nV nU nP nE bF bO bL bA bC bV bU bP bE cT cK cO cQ cD pT pK pR pW pU pI pC uO uF uE uN wK jM jN jZ jB ++ (WO ca qa sa oQ oS ++ R)) H → va_D A (WC ca ad bq nF nO nL nA nC nV nU nP nE bF bO bL bA bC bV bU bP bE cT cK cO cQ cD pT pK pR pW pU pI pC uO uF uE uN wK jM jN jZ jB ++ (WO ca qa sa oQ oS ++ R)) → va_S A s.heap H locs → lv_has ls 11 [(0, .ref (ad 0)), (1, .int v1), (2, .ref qa), (3, .int v3), (4, .int v4), (5, .int v5), (6, .int v6), (7, .int v7)] → (∀ (H : Heap) (locs : List Loc) (ls : Array Slot), va_P D vwCl (WC ca ad bq nF nO nL nA nC nV nU nP nE bF bO bL bA bC bV bU bP bE cT cK cO cQ cD pT pK pR pW pU pI pC uO uF uE uN wK jM jN jZ jB ++ (WO ca qa sa oQ oS ++ R)) H → va_D A (WC ca ad bq nF nO nL nA nC nV nU nP nE bF bO bL bA bC bV bU bP bE cT cK cO cQ cD pT pK pR pW pU pI pC uO uF uE uN wK jM jN jZ jB ++ (WO ca qa sa oQ oS ++ R)) → va_S A s.heap H locs → lv_has ls 11 [(0, .ref (ad 0)), (3, .int v3), (4, .int y4), (5, .int v5), (6, .int v6)] → W p l e ({ frames := 10, cells := 5224, slots := 31344, locals := 181 } : Room) s m args below meth c H locs CT ST Qm (F0 m 332 ls [])) → W p l e ({ frames := 10, cells := 5224, slots := 31344, locals := 181 } : Room) s m args below meth c H locs cN_ sN_ Qm (F0 m 286 ls []) := by
    intro n
    induction n with
    | zero => intro _ _ _ _ v1 v3 v4 v5 v6 v7 wK y4 hf; cases hf
    | succ n ih =>
      intro cN_ sN_ CT ST v1 v3 v4 v5 v6 v7 wK y4 hf hc9 hs9 hCT hST H locs ls hP hD hS hl kk
      have hc8 : cN_ + n * 2 + 2 ≤ CT := by rw [Nat.succ_mul] at hc9; omega
      have hs8 : sN_ + n * 12 + 12 ≤ ST := by rw [Nat.succ_mul] at hs9; omega
      clear hc9 hs9
      change W p l e ({ frames := 10, cells := 5224, slots := 31344, locals := 181 } : Room) s m args below meth c H locs (cN_ + 0) (sN_ + 0) Qm (F0 m 286 ls [])
      unfold f_sound_L286 at hf
      refine lv_iload hx hb dL_sound_286 (lv_at hl 7 rfl) ?_
      refine lv_iload_n hx hb dL_sound_288 rfl (lv_at hl 1 rfl) ?_
      refine lv_icmp_ge (tgt := 332) hx hb dL_sound_289 (by decide) (fun c334 => ?_) (fun c334 => ?_)
      · have hf := br_pos c334 hf
        cases hf
        refine W.widen (k := CT) (n := ST) (by omega) (by omega) ?_
        exact kk _ _ _ hP hD hS (lv_sub hl [0, 3, 4, 5, 6] rfl)
      · have hf := br_neg c334 hf
        refine lv_iload hx hb dL_sound_292 (lv_at hl 4 rfl) ?_
        refine lv_aload_n hx hb dL_sound_294 rfl (lv_at hl 0 rfl) ?_
        refine lv_bipush (v := 15) hx hb dL_sound_295 (by decide) ?_
        refine lv_iload hx hb dL_sound_297 (lv_at hl 7 rfl) ?_
        refine lv_iconst (v := 0) hx hb dL_sound_299 (by decide) ?_
        refine lv_iconst (v := 0) hx hb dL_sound_300 (by decide) ?_
        obtain ⟨r335, h336, hf⟩ := bnd hf
        refine cl_wi (rest := [.int v4]) (m_K15 l hst ca ad bq nF nO nL nA nC nV nU nP nE bF bO bL bA bC bV bU bP bE cT cK cO cQ cD pT pK pR pW pU pI pC uO uF uE uN wK jM jN jZ jB (WO ca qa sa oQ oS ++ R) _ v7 0 0 r335 h336) ⟨hx, hb, hml, hown, hts⟩ (vx_cwSW 5 hts (gSW q251 q252 q23 q253) rfl rfl rfl (by decide +kernel) ⟨Nat.le_of_ble_eq_true rfl, Nat.le_of_ble_eq_true rfl⟩) hE hP hD hS hA hZ hNC rfl hl.1 rfl (lv_room (Nat.le_of_ble_eq_true rfl)) dL_sound_301 ⟨by show _ ≤ 5224; omega, by show _ ≤ 31344; omega⟩ (fun H locs hP hD hS => ?_)
        refine lv_iadd hx hb dL_sound_304 ?_
        refine lv_istore (lv' := [(4, .int (v4 + r335)), (0, .ref (ad 0)), (1, .int v1), (2, .ref qa), (3, .int v3), (5, .int v5), (6, .int v6), (7, .int v7)]) hx hb dL_sound_305 hl (by decide) rfl (fun ls hl => ?_)
        refine lv_aload_n hx hb dL_sound_307 rfl (lv_at hl 1 rfl) ?_
        refine lv_bipush (v := 11) hx hb dL_sound_308 (by decide) ?_
        refine lv_iload hx hb dL_sound_310 (lv_at hl 7 rfl) ?_
        refine lv_iconst (v := 0) hx hb dL_sound_312 (by decide) ?_
        refine lv_iconst (v := 0) hx hb dL_sound_313 (by decide) ?_
        obtain ⟨r337, h338, hf⟩ := bnd hf
        refine cl_wi (rest := []) (m_K11 l hst ca ad bq nF nO nL nA nC nV nU nP nE bF bO bL bA bC bV bU bP bE cT cK cO cQ cD pT pK pR pW pU pI pC uO uF uE uN wK jM jN jZ jB (WO ca qa sa oQ oS ++ R) _ v7 0 0 r337 h338) ⟨hx, hb, hml, hown, hts⟩ (vx_cwSW 5 hts (gSW q251 q252 q23 q253) rfl rfl rfl (by decide +kernel) ⟨Nat.le_of_ble_eq_true rfl, Nat.le_of_ble_eq_true rfl⟩) hE hP hD hS hA hZ hNC rfl hl.1 rfl (lv_room (Nat.le_of_ble_eq_true rfl)) dL_sound_314 ⟨by show _ ≤ 5224; omega, by show _ ≤ 31344; omega⟩ (fun H locs hP hD hS => ?_)
        refine lv_aload_n hx hb dL_sound_317 rfl (lv_at hl 3 rfl) ?_
        refine lv_iload hx hb dL_sound_318 (lv_at hl 7 rfl) ?_
        obtain ⟨k339, hf⟩ := ck_not hf
        refine va_iald (D := D) hx hb hK hP 40 0 rfl rfl k339 dL_sound_320 ?_
        refine lv_icmp_le (tgt := 326) hx hb dL_sound_321 (by decide) (fun c340 => ?_) (fun c340 => ?_)
        · have hf := br_pos c340 hf
          refine lv_iinc (v := (v7 + 1)) (lv' := [(7, .int (v7 + 1)), (4, .int (v4 + r335)), (0, .ref (ad 0)), (1, .int v1), (2, .ref qa), (3, .int v3), (5, .int v5), (6, .int v6)]) hx hb dL_sound_326 hl (k := 7) rfl rfl (by decide) rfl (fun ls hl => ?_)
          refine lv_goto (tgt := 286) hx hb dL_sound_329 (by decide) ?_
          exact ih _ _ CT ST v1 v3 (v4 + r335) v5 v6 (v7 + 1) wK _ hf (by omega) (by omega) hCT hST _ _ _ hP hD hS (lv_sub hl [2, 3, 4, 5, 1, 6, 7, 0] rfl) kk
        · have hf := br_neg c340 hf
          cases hf
  refine lv_iconst (v := 0) hx hb dL_sound_0 (by decide) ?_
  refine lv_istore_n (lv' := [(3, .int 0), (0, .ref (ad 0)), (1, .int p1), (2, .ref qa)]) hx hb dL_sound_1 rfl hl (by decide) rfl (fun ls hl => ?_)
  refine lv_iconst (v := 0) hx hb dL_sound_2 (by decide) ?_
  refine lv_istore (lv' := [(4, .int 0), (3, .int 0), (0, .ref (ad 0)), (1, .int p1), (2, .ref qa)]) hx hb dL_sound_3 hl (by decide) rfl (fun ls hl => ?_)
  refine lv_iconst (v := 0) hx hb dL_sound_5 (by decide) ?_
  refine lv_istore (lv' := [(5, .int 0), (4, .int 0), (3, .int 0), (0, .ref (ad 0)), (1, .int p1), (2, .ref qa)]) hx hb dL_sound_6 hl (by decide) rfl (fun ls hl => ?_)
  refine lv_iconst (v := 0) hx hb dL_sound_8 (by decide) ?_
  refine lv_istore (lv' := [(6, .int 0), (5, .int 0), (4, .int 0), (3, .int 0), (0, .ref (ad 0)), (1, .int p1), (2, .ref qa)]) hx hb dL_sound_9 hl (by decide) rfl (fun ls hl => ?_)
  refine lv_iconst (v := 0) hx hb dL_sound_11 (by decide) ?_
  refine lv_istore (lv' := [(7, .int 0), (6, .int 0), (5, .int 0), (4, .int 0), (3, .int 0), (0, .ref (ad 0)), (1, .int p1), (2, .ref qa)]) hx hb dL_sound_12 hl (by decide) rfl (fun ls hl => ?_)
  obtain ⟨⟨x30, x31, wK_32⟩, h29, hf⟩ := bnd hf
  refine L14 65 _ _ (130) (780) p1 0 0 0 0 0 wK x30 x31 wK_32 h29 (by omega) (by omega) (by omega) (by omega) _ _ _ hP hD hS (lv_sub hl [5, 6, 7, 4, 3, 2, 1, 0] rfl) (fun H locs ls hP hD hS hl => ?_)
  refine lv_iconst (v := 0) hx hb dL_sound_81 (by decide) ?_
  refine lv_istore (lv' := [(7, .int 0), (0, .ref (ad 0)), (1, .int p1), (2, .ref qa), (3, .int x30), (4, .int 0), (5, .int 0), (6, .int x31)]) hx hb dL_sound_82 hl (by decide) rfl (fun ls hl => ?_)
  obtain ⟨x326, h325, hf⟩ := bnd hf
  refine L84 41 _ _ (5214) (31284) p1 x30 0 0 x31 0 wK_32 x326 h325 (by omega) (by omega) (by omega) (by omega) _ _ _ hP hD hS (lv_sub hl [1, 2, 3, 4, 5, 6, 7, 0] rfl) (fun H locs ls hP hD hS hl => ?_)
  refine lv_iconst (v := 0) hx hb dL_sound_283 (by decide) ?_
  refine lv_istore (lv' := [(7, .int 0), (0, .ref (ad 0)), (1, .int p1), (2, .ref qa), (3, .int x30), (4, .int 0), (5, .int x326), (6, .int x31)]) hx hb dL_sound_284 hl (by decide) rfl (fun ls hl => ?_)
  obtain ⟨x342, h341, hf⟩ := bnd hf
  refine L286 5 _ _ (5224) (31344) p1 x30 0 x326 x31 0 wK_32 x342 h341 (by omega) (by omega) (by omega) (by omega) _ _ _ hP hD hS (lv_sub hl [1, 2, 3, 4, 5, 6, 7, 0] rfl) (fun H locs ls hP hD hS hl => ?_)
  refine lv_aload_n hx hb dL_sound_332 rfl (lv_at hl 0 rfl) ?_
  obtain ⟨r343, h344, hf⟩ := bnd hf
  refine call_vi (rest := []) (m_C_free l ca ad bq nF nO nL nA nC nV nU nP nE bF bO bL bA bC bV bU bP bE cT cK cO cQ cD pT pK pR pW pU pI pC uO uF uE uN wK_32 jM jN jZ jB (WO ca qa sa oQ oS ++ R) _ r343 h344) ⟨hx, hb, hml, hown, hts⟩ (cwV 0 hts (gV q1164 q1165 q1166 q24 q1167) rfl rfl rfl (by decide +kernel) ⟨Nat.le_of_ble_eq_true rfl, Nat.le_of_ble_eq_true rfl⟩) (va_recv hK hP (ci := 7) (q0 := 0) rfl rfl) hE hP hD hS hA rfl hl.1 rfl (lv_room (Nat.le_of_ble_eq_true rfl)) dL_sound_333 ⟨by show _ ≤ 5224; omega, by show _ ≤ 31344; omega⟩ (fun H locs hP hD hS => ?_)
  refine lv_iload_n hx hb dL_sound_336 rfl (lv_at hl 1 rfl) ?_
  refine lv_icmp_ne (tgt := 364) hx hb dL_sound_337 (by decide) (fun c345 => ?_) (fun c345 => ?_)
  · have hf := br_neg c345 hf
    cases hf
  · have hf := br_pos c345 hf
    refine lv_iload hx hb dL_sound_340 (lv_at hl 2 rfl) ?_
    refine lv_iload_n hx hb dL_sound_342 rfl (lv_at hl 1 rfl) ?_
    refine lv_icmp_gt (tgt := 364) hx hb dL_sound_343 (by decide) (fun c346 => ?_) (fun c346 => ?_)
    · have hf := br_pos c346 hf
      cases hf
    · have hf := br_neg c346 hf
      refine lv_iload hx hb dL_sound_346 (lv_at hl 4 rfl) ?_
      refine lv_iload hx hb dL_sound_348 (lv_at hl 3 rfl) ?_
      refine lv_icmp_lt (tgt := 364) hx hb dL_sound_350 (by decide) (fun c347 => ?_) (fun c347 => ?_)
      · have hf := br_pos c347 hf
        cases hf
      · have hf := br_neg c347 hf
        refine lv_aload_n hx hb dL_sound_353 rfl (lv_at hl 0 rfl) ?_
        obtain ⟨⟨r348, wK_350⟩, h349, hf⟩ := bnd hf
        refine call_vi (rest := []) (m_C_isConsistent l ca ad bq nF nO nL nA nC nV nU nP nE bF bO bL bA bC bV bU bP bE cT cK cO cQ cD pT pK pR pW pU pI pC uO uF uE uN wK_32 jM jN jZ jB (WO ca qa sa oQ oS ++ R) _ r348 wK_350 h349) ⟨hx, hb, hml, hown, hts⟩ (cwV 0 hts (gV q1175 q1176 q1177 q24 q1178) rfl rfl rfl (by decide +kernel) ⟨Nat.le_of_ble_eq_true rfl, Nat.le_of_ble_eq_true rfl⟩) (va_recv hK hP (ci := 7) (q0 := 0) rfl rfl) hE hP hD hS hA rfl hl.1 rfl (lv_room (Nat.le_of_ble_eq_true rfl)) dL_sound_354 ⟨by show _ ≤ 5224; omega, by show _ ≤ 31344; omega⟩ (fun H locs hP hD hS => ?_)
        refine lv_if_eq (tgt := 364) hx hb dL_sound_357 (by decide) (fun c351 => ?_) (fun c351 => ?_)
        · have hf := br_pos c351 hf
          cases hf
        · have hf := br_neg c351 hf
          refine lv_iconst (v := 1) hx hb dL_sound_360 (by decide) ?_
          refine lv_goto (tgt := 365) hx hb dL_sound_361 (by decide) ?_
          cases hf
          exact endm_i hAe hQm hx hb hr hlocks rfl hP hD hS dL_sound_365 (Nat.le_of_ble_eq_true rfl) (Nat.le_of_ble_eq_true rfl)
