/-! THE LAW'S CALLS OF WRITEFILE AND LINEAT -/
section LLN
variable {p : Program} {l : Launch} {e : Env} {Rm : Room} {s : State} {m : MethodId} {args : Array Value} {below : List Frame} {meth : Method} {c : Code} {H : Heap} {locs : List Loc} {cells slots MC MS : Nat} {Q : State → Prop}
variable {y : MethodName} {bytes cc : ByteArray} {maxL nL mc ms n index : Nat} {ret : Option FieldType} {rm : Room} {own C : String} {b : Nat} {As rest st : List Value} {pc : Nat} {ls : Array Slot}
variable {D : va_G} {ca : Nat → ClassId} {sl : List (String × Nat × String)} {w : va_W} {A0 : Nat → Prop}
theorem cw_viu {T : Type} {P : T → Prop} {f : T → va_W} {r : Int32} (hM : vx_Met l y (wm y bytes maxL ret) rm (PREX (.ref b :: As) D ca sl w H.size) (QXIU P r f D w H.size) (QXE (.ok r : Except Nat Int32) D w w H.size) mc ms (va_A w H.size)) (S : CallFix p m c cc nL s args WW own) (cw : CallW Rm s args own C index y bytes maxL ret (wm y bytes maxL ret) rm mc ms n)
    (hrecv : ∃ cellB : Cell, H[b]? = some cellB ∧ cellB.vm.isStatics = false ∧ s.vm.findClass C = some cellB.cls) (hE : EE D ca sl s) (hP : va_P D vwCl w H) (hD : va_D A0 w) (hS : va_S A0 s.heap H locs) (hA : ∀ q, s.heap.size ≤ q → A0 q) (hZ : ZZ A0 s s.heap)
    (hn : As.length = n) (hsize : ls.size = nL) (hst : st = As.reverse ++ .ref b :: rest) (hW : 2 * (F0 m pc ls st).monitorRoom + (rest.map fun v => v.category).sum ≤ 8) (hdg : decode cc pc = .ok (.invokevirtual index, 3)) (hf : cells + mc ≤ Rm.cells ∧ slots + ms ≤ Rm.slots)
    (kk : ∀ (u : T) (H1 : Heap) (locs1 : List Loc), P u → va_P D vwCl (f u) H1 → va_D A0 (f u) → va_S A0 s.heap H1 locs1 → W p l e Rm s m args below meth c H1 locs1 (cells + mc) (slots + ms) Q (F0 m (pc + 3) ls (.int r :: rest))) : W p l e Rm s m args below meth c H locs cells slots Q (F0 m pc ls st) :=
  vx_calli (vx_runV S hM cw ⟨PREX_blind, hrecv, prex_ok hE hP hD hS hA hZ⟩ rfl hn hsize hst hW hdg hf) hS (fun q _ h => vaA_sub hD hS hA q h) (vaA_sub hD hS hA) (fun q _ h => vaA_sub hD hS hA q h)
    (fun E ce q9 u t H1 locs1 ht hvm hw hB hz1 hk1 hS1 hce hv hcl => nomatch hw)
    (fun r' u t H1 locs1 ht hvm hw hB hz1 hk1 hS1 => by
      obtain ⟨hP1, hD1⟩ := bw_ok hD hS hA ht hB
      obtain ⟨rfl, hu⟩ := hw
      exact kk u H1 locs1 hu hP1 hD1 hS1)
theorem endw_iu {T : Type} (u : T) {P : T → Prop} {f : T → va_W} {v : Int32} {ty : FieldType} {w0 : va_W} {A : Nat → Prop} (hAe : va_A w0 s.heap.size = A) (hx : p.tables.exec = Jvm.exec) (hb : c.code = cc) (hr : meth.sig.returnType = some ty) (hlocks : meth.locks = false) (hn : narrow ty (.int v) = .int v) (hu : P u) (hP : va_P D vwCl (f u) H) (hD : va_D A (f u)) (hS : va_S A s.heap H locs) (hdg : decode cc pc = .ok (.ireturn, 1)) (hc : cells ≤ MC) (hs : slots ≤ MS) :
    W p l e Rm s m args below meth c H locs cells slots (vx_MQ below (QIU P v f D w0 s.heap.size) (fun _ _ _ => False) args s MC MS A) (F0 m pc ls [.int v]) := by
  subst hAe
  exact W.widen hc hs (vx_ret (W.zret (v := v) hx hb hr hn (fun t ht hW => ⟨⟨v, u, rfl, ⟨rfl, hu⟩, by rw [ht]; exact hP, hD⟩, hS.F ht⟩) hS.2.2 hdg hlocks))
theorem cl_wiu {T : Type} {P : T → Prop} {f : T → va_W} {r : Int32} {hh : List (Nat × Nat × Nat × Nat)} (hM : vx_Met l y (wmW y bytes maxL ret hh) rm (PREL As D ca sl w H.size) (QIU P r f D w H.size) (fun _ _ _ => False) mc ms (va_A w H.size)) (S : CallFix p m c cc nL s args WW own) (cw : vx_CSW Rm s args own index y bytes maxL ret hh (wmW y bytes maxL ret hh) rm mc ms n)
    (hE : EE D ca sl s) (hP : va_P D vwCl w H) (hD : va_D A0 w) (hS : va_S A0 s.heap H locs) (hA : ∀ q, s.heap.size ≤ q → A0 q) (hZ : ZZ A0 s s.heap) (hN : NCE s)
    (hn : As.length = n) (hsize : ls.size = nL) (hst : st = As.reverse ++ rest) (hW : 2 * (F0 m pc ls st).monitorRoom + (rest.map fun v => v.category).sum ≤ 8) (hdg : decode cc pc = .ok (.invokestatic index, 3)) (hf : cells + mc ≤ Rm.cells ∧ slots + ms ≤ Rm.slots)
    (kk : ∀ (u : T) (H1 : Heap) (locs1 : List Loc), P u → va_P D vwCl (f u) H1 → va_D A0 (f u) → va_S A0 s.heap H1 locs1 → W p l e Rm s m args below meth c H1 locs1 (cells + mc) (slots + ms) Q (F0 m (pc + 3) ls (.int r :: rest))) : W p l e Rm s m args below meth c H locs cells slots Q (F0 m pc ls st) := by
  have hM2 : vx_Met l y (wmW y bytes maxL ret hh) rm (PREL As D ca sl w H.size) (QIU P r f D w H.size) (vx_X (fun _ : Unit => False) (fun _ _ _ => False) (va_A w H.size)) mc ms (va_A w H.size) := by
    have e : (fun _ _ _ => False : String → State → State → Prop) = vx_X (fun _ : Unit => False) (fun _ _ _ => False) (va_A w H.size) := by
      funext a b d
      exact propext ⟨fun h => h.elim, fun ⟨_, h, _⟩ => h⟩
    rw [← e]
    exact hM
  exact vx_calli (vx_runSX S hM2 cw ⟨PREL_blind, prel_ok hE hP hD hS hA hZ hN⟩ rfl hn hsize hst hW hdg hf) hS (fun q _ h => vaA_sub hD hS hA q h) (vaA_sub hD hS hA) (fun q _ h => vaA_sub hD hS hA q h)
    (fun E ce q9 u t H1 locs1 ht hvm hw hB hz1 hk1 hS1 hce hv hcl => hw.elim)
    (fun r' u t H1 locs1 ht hvm hw hB hz1 hk1 hS1 => by
      obtain ⟨hP1, hD1⟩ := bw_ok hD hS hA ht hB
      obtain ⟨rfl, hu⟩ := hw
      exact kk u H1 locs1 hu hP1 hD1 hS1)
theorem zv_iu {T : Type} {P : T → Prop} {f : T → va_W} {r : Int32} (hM : Met l y (wm y bytes maxL ret) rm (PREX (.ref b :: As) D ca sl w H.size) (QIU P r f D w H.size) mc ms (va_A w H.size)) (S : CallFix p m c cc nL s args WW own) (cw : CallW Rm s args own C index y bytes maxL ret (wm y bytes maxL ret) rm mc ms n)
    (hrecv : ∃ cellB : Cell, H[b]? = some cellB ∧ cellB.vm.isStatics = false ∧ s.vm.findClass C = some cellB.cls) (hE : EE D ca sl s) (hP : va_P D vwCl w H) (hD : va_D A0 w) (hS : va_S A0 s.heap H locs) (hA : ∀ q, s.heap.size ≤ q → A0 q) (hZ : ZZ A0 s s.heap)
    (hn : As.length = n) (hsize : ls.size = nL) (hst : st = As.reverse ++ .ref b :: rest) (hW : 2 * (F0 m pc ls st).monitorRoom + (rest.map fun v => v.category).sum ≤ 8) (hdg : decode cc pc = .ok (.invokevirtual index, 3)) (hf : cells + mc ≤ Rm.cells ∧ slots + ms ≤ Rm.slots)
    (kk : ∀ (u : T) (H1 : Heap) (locs1 : List Loc), P u → va_P D vwCl (f u) H1 → va_D A0 (f u) → va_S A0 s.heap H1 locs1 → W p l e Rm s m args below meth c H1 locs1 (cells + mc) (slots + ms) Q (F0 m (pc + 3) ls (.int r :: rest))) : W p l e Rm s m args below meth c H locs cells slots Q (F0 m pc ls st) :=
  va_calli (va_runV S hM cw ⟨PREX_blind, hrecv, prex_ok hE hP hD hS hA hZ⟩ rfl hn hsize hst hW hdg hf) hS (fun q _ h => vaA_sub hD hS hA q h) (vaA_sub hD hS hA) (fun r' u t H1 locs1 ht hvm hw hB hz1 hk1 hS1 => by
    obtain ⟨hP1, hD1⟩ := bw_ok hD hS hA ht hB
    obtain ⟨rfl, hu⟩ := hw
    exact kk u H1 locs1 hu hP1 hD1 hS1)
end LLN
set_option maxHeartbeats 4000000 in
set_option maxRecDepth 100000 in
theorem m_L_writeFile_ok (l : Launch) (hst : l.stackTraces = false) {D : va_G} (ca : Nat → ClassId) (ad : Nat → Nat) (bq : Nat) (oa od : Nat) (nF : Int32) (nO : Nat → Int32) (nL : Nat → Int32) (nA : Nat → Int32) (nC : Nat → Int32) (nV : Nat → Int32) (nU : Nat → Int32) (nP : Nat → Int32) (nE : Int32) (bF : Int32) (bO : Nat → Int32) (bL : Nat → Int32) (bA : Nat → Int32) (bC : Nat → Int32) (bV : Nat → Int32) (bU : Nat → Int32) (bP : Nat → Int32) (bE : Int32) (cT : Int32) (cK : Nat → Int32) (cO : Int32) (cQ : Nat → Int32) (cD : Int32) (pT : Int32) (pK : Int32) (pR : Nat → Int32) (pW : Nat → Int32) (pU : Nat → Int32) (pI : Nat → Int32) (pC : Nat → Nat → Int32) (uO : Int32) (uF : Nat → Int32) (uE : Nat → Int32) (uN : Nat → Int32) (wK : Nat → Int32) (jM : Int32) (jN : Int32) (jZ : Nat) (jB : Nat → Int32) (oL : Nat → Int64) (oD : Nat → UInt64) (R : va_W) (sz : Nat) (i f L n0 : Nat) (blk : Nat → Nat) (hi : i < f) (hf40 : f ≤ 40) (hNF : nF = nI f) (hNL : nL i = nI L) (hL : L < 10) (hNC : ∀ k, k < 16 → nC (i * 16 + k) = nI (blk k) - 1) (hblk : ∀ k, k < 16 → blk k ≤ 64) (hjN : jN = nI n0) (hn0 : n0 ≤ 300) (hz0 : jZ ≤ 300) (hFit : sb_Fit jB) : vx_Met l yL_writeFile (wmW yL_writeFile cL_writeFile 4 (some .int) [(0, 9, 12, 20)]) ({ frames := 40, cells := 301, slots := 606, locals := 700 } : Room) (PREL [.ref (ad 0), .int (nI i), .ref oa] D ca SL0 (WC ca ad bq nF nO nL nA nC nV nU nP nE bF bO bL bA bC bV bU bP bE cT cK cO cQ cD pT pK pR pW pU pI pC uO uF uE uN wK jM jN jZ jB ++ (WO ca oa od oL oD ++ R)) sz) (QIU (fun u : Nat × Nat × (Nat → Int32) × Int32 => Same (rowT i L blk 16).2 (rowT i L blk 16).1 u.2.2.1 ∧ sb_Fit u.2.2.1 ∧ u.2.1 ≤ 300 ∧ (rowT i L blk 16).2 ≤ u.2.1) 0 (fun u : Nat × Nat × (Nat → Int32) × Int32 => (WC ca ad u.1 nF nO nL nA nC nV nU nP nE bF bO bL bA bC bV bU bP bE cT cK cO cQ cD pT pK pR pW pU pI pC uO uF uE uN wK u.2.2.2 (nI (rowT i L blk 16).2) u.2.1 u.2.2.1 ++ (WO ca oa od (vp_updL oL (0 : Int32).toNatClampNeg (nI (rowT i L blk 16).2).toInt64) oD ++ R))) D (WC ca ad bq nF nO nL nA nC nV nU nP nE bF bO bL bA bC bV bU bP bE cT cK cO cQ cD pT pK pR pW pU pI pC uO uF uE uN wK jM jN jZ jB ++ (WO ca oa od oL oD ++ R)) sz) (fun _ _ _ => False) 301 606 (va_A (WC ca ad bq nF nO nL nA nC nV nU nP nE bF bO bL bA bC bV bU bP bE cT cK cO cQ cD pT pK pR pW pU pI pC uO uF uE uN wK jM jN jZ jB ++ (WO ca oa od oL oD ++ R)) sz) := by
  refine vx_ofWH (cc := cL_writeFile) (maxL := 4) (ret := (some .int)) (hh := [(0, 9, 12, 20)]) (by decide) rfl ?_
  intro p e s m args below meth c s₁ B9 hml hv
  obtain ⟨rfl, rfl, hP, hE, hD0, hZ, hNCE⟩ := hv
  have hx := B9.exec
  have hb := B9.bytes
  have hr := B9.returns
  have hts0 := atoms_spec (ws := wmW yL_writeFile cL_writeFile 4 (some .int) [(0, 9, 12, 20)]) B9.pre
  have hts := wmW_ww hts0
  have hown : s.vm.findClass RL = some m.cls := findClass_of_methodNamed B9.named
  have hlocks := B9.notSynchronized
  have hK := hE.1
  have hD := hD0.self (sz := s.heap.size)
  generalize hAe : va_A (WC ca ad bq nF nO nL nA nC nV nU nP nE bF bO bL bA bC bV bU bP bE cT cK cO cQ cD pT pK pR pW pU pI pC uO uF uE uN wK jM jN jZ jB ++ (WO ca oa od oL oD ++ R)) s.heap.size = A at hD hZ ⊢
  have hA : ∀ q : Nat, s.heap.size ≤ q → A q := fun q h => by rw [← hAe]; exact Or.inr h
  have hS : va_S A s.heap s.heap [] := va_S.rf
  have hl := lv_entry ([.ref (ad 0), .int (nI i), .ref oa]) (n := 4) (Nat.le_of_ble_eq_true rfl)
  rw [lg_entry_eq]
  generalize (lg_sl ([.ref (ad 0), .int (nI i), .ref oa]) ++ List.replicate (4 - (lg_sl ([.ref (ad 0), .int (nI i), .ref oa])).length) Slot.unset).toArray = ls at hl ⊢
  have hl : lv_has ls 4 [(0, .ref (ad 0)), (1, .int (nI i)), (2, .ref oa)] := hl
  change W p l e ({ frames := 40, cells := 301, slots := 606, locals := 700 } : Room) s m _ below meth c s.heap [] 0 0 _ _
  have hP : va_P D vwCl (WC ca ad bq nF nO nL nA nC nV nU nP nE bF bO bL bA bC bV bU bP bE cT cK cO cQ cD pT pK pR pW pU pI pC uO uF uE uN wK jM jN jZ jB ++ (WO ca oa od oL oD ++ R)) s.heap := hP
  refine lv_aload_n hx hb dL_writeFile_0 rfl (lv_at hl 2 rfl) ?_
  refine lv_iconst (v := 0) hx hb dL_writeFile_1 (by decide) ?_
  refine lv_aload_n hx hb dL_writeFile_2 rfl (lv_at hl 0 rfl) ?_
  refine lv_iload_n hx hb dL_writeFile_3 rfl (lv_at hl 1 rfl) ?_
  refine cw_viu (rest := [.int 0, .ref oa]) (m_C_writeFile_ok l hst ca ad bq nF nO nL nA nC nV nU nP nE bF bO bL bA bC bV bU bP bE cT cK cO cQ cD pT pK pR pW pU pI pC uO uF uE uN wK jM jN jZ jB (WO ca oa od oL oD ++ R) _ i f L n0 blk hi hf40 hNF hNL hL hNC hblk hjN hn0 hz0 hFit) ⟨hx, hb, hml, hown, hts⟩ (cwV 1 hts (gV q1023 q1024 q1025 q41 q1026) rfl rfl rfl (by decide +kernel) ⟨Nat.le_of_ble_eq_true rfl, Nat.le_of_ble_eq_true rfl⟩) (va_recv hK hP (ci := 7) (q0 := 0) rfl rfl) hE hP hD hS hA hZ rfl hl.1 rfl (lv_room (Nat.le_of_ble_eq_true rfl)) dL_writeFile_4 ⟨Nat.le_of_ble_eq_true rfl, Nat.le_of_ble_eq_true rfl⟩ (fun u H locs hu hP hD hS => ?_)
  have hP : va_P D vwCl ((fun u : Nat × Nat × (Nat → Int32) × Int32 => (WC ca ad u.1 nF nO nL nA nC nV nU nP nE bF bO bL bA bC bV bU bP bE cT cK cO cQ cD pT pK pR pW pU pI pC uO uF uE uN wK u.2.2.2 (nI (rowT i L blk 16).2) u.2.1 u.2.2.1 ++ (WO ca oa od oL oD ++ R))) u) H := hP
  have hD : va_D A ((fun u : Nat × Nat × (Nat → Int32) × Int32 => (WC ca ad u.1 nF nO nL nA nC nV nU nP nE bF bO bL bA bC bV bU bP bE cT cK cO cQ cD pT pK pR pW pU pI pC uO uF uE uN wK u.2.2.2 (nI (rowT i L blk 16).2) u.2.1 u.2.2.1 ++ (WO ca oa od oL oD ++ R))) u) := hD
  refine lv_i2l hx hb dL_writeFile_7 rfl ?_
  refine va_last (D := D) hx hb hK hP hD hS 40 5 rfl rfl (by unfold vp_in; decide) dL_writeFile_8 (fun H locs hP hD hS => ?_)
  refine lv_goto (tgt := 15) hx hb dL_writeFile_9 (by decide) ?_
  refine lv_iconst (v := 0) hx hb dL_writeFile_15 (by decide) ?_
  exact endw_iu (f := (fun u : Nat × Nat × (Nat → Int32) × Int32 => (WC ca ad u.1 nF nO nL nA nC nV nU nP nE bF bO bL bA bC bV bU bP bE cT cK cO cQ cD pT pK pR pW pU pI pC uO uF uE uN wK u.2.2.2 (nI (rowT i L blk 16).2) u.2.1 u.2.2.1 ++ (WO ca oa od (vp_updL oL (0 : Int32).toNatClampNeg (nI (rowT i L blk 16).2).toInt64) oD ++ R)))) u hAe hx hb hr hlocks rfl hu hP hD hS dL_writeFile_16 (Nat.le_of_ble_eq_true rfl) (Nat.le_of_ble_eq_true rfl)
def f_case40o (i L : Nat) (blk : Nat → Nat) (oL : Nat → Int64) : Option Unit :=
  (f_M_thrown (nI 0)).bind fun r2 =>
  if r2 = 0 then
    if (lg_cmp ((vp_updL oL (0 : Int32).toNatClampNeg (nI (rowT i L blk 16).2).toInt64) (0 : Int32).toNatClampNeg) (((nI (rowT i L blk 16).2)).toInt64)) = 0 then
      some ()
    else
      none
  else
    none
set_option maxHeartbeats 8000000 in
set_option maxRecDepth 100000 in
theorem l_case40o {p : Program} {l : Launch} {e : Env} {s : State} {m : MethodId} {below : List Frame} {meth : Method} {c : Code} {Q : State → Prop} {D : va_G} {A : Nat → Prop} {b LL : Nat} {xs : Nat → Int32} (ca : Nat → ClassId) (hst : l.stackTraces = false) (hx : p.tables.exec = Jvm.exec) (hb : c.code = code) (hml : c.maxLocals = 9) (hown : s.vm.findClass RL = some m.cls) (hts : ∀ w ∈ WW, w.before #[Value.ref b] s = true) (hE : EE D ca SL0 s) (hA : ∀ q, s.heap.size ≤ q → A q) (hZ : ZZ A s s.heap) (hNCE : NCE s) (hX : va_X b LL xs s s.heap) (hbl : b < s.heap.size) (hbA : ¬ A b) (ad am : Nat → Nat) (bq oa od lq : Nat) (nF : Int32) (nO : Nat → Int32) (nL : Nat → Int32) (nA : Nat → Int32) (nC : Nat → Int32) (nV : Nat → Int32) (nU : Nat → Int32) (nP : Nat → Int32) (nE : Int32) (bF : Int32) (bO : Nat → Int32) (bL : Nat → Int32) (bA : Nat → Int32) (bC : Nat → Int32) (bV : Nat → Int32) (bU : Nat → Int32) (bP : Nat → Int32) (bE : Int32) (cT : Int32) (cK : Nat → Int32) (cO : Int32) (cQ : Nat → Int32) (cD : Int32) (pT : Int32) (pK : Int32) (pR : Nat → Int32) (pW : Nat → Int32) (pU : Nat → Int32) (pI : Nat → Int32) (pC : Nat → Nat → Int32) (uO : Int32) (uF : Nat → Int32) (uE : Nat → Int32) (uN : Nat → Int32) (wK : Nat → Int32) (jM : Int32) (jN : Int32) (jZ : Nat) (jB : Nat → Int32) (oL : Nat → Int64) (oD : Nat → UInt64) (mcode : Int32) (mday : Int32) (mown : Int32) (mquot : Nat → Int32) (mprom : Nat → Int32) (mfiles : Int32) (mowner : Nat → Int32) (mlinks : Nat → Int32) (mblocks : Nat → Int32) (mvals : Nat → Int32) (msnaps : Int32) (mranks : Nat → Int32) (mkept : Nat → Int32) (mshot : Nat → Int32) (mwas : Nat → Int32) (mholds : Int32) (mheld : Nat → Int32) (mends : Nat → Int32) (mopen : Nat → Int32) (mentr : Int32) (mkinds : Nat → Int32) (misop : Int32) (mfilesT : Int32) (mentrT : Int32) (mpromT : Nat → Int32) (mlinksT : Nat → Int32) (mblocksT : Nat → Int32) (mvalsT : Nat → Int32) (R : va_W) (x5 : Int32) (hi1 : vp_in (x5 + 1) LL) (cN sN : Nat) (hcN : cN + 1100 ≤ 603072) (hsN : sN + 13000 ≤ 7198826) (i f L n0 : Nat) (blk : Nat → Nat) (hi : i < f) (hf40 : f ≤ 40) (hNF : nF = nI f) (hNL : nL i = nI L) (hL : L < 10) (hNC : ∀ k, k < 16 → nC (i * 16 + k) = nI (blk k) - 1) (hblk : ∀ k, k < 16 → blk k ≤ 64) (hjN : jN = nI n0) (hn0 : n0 ≤ 300) (hz0 : jZ ≤ 300) (hFit : sb_Fit jB) (hp1 : xs (x5 + 1).toNatClampNeg = nI i) (hMF : mfiles = nI f) (hML : mlinks i = nI L) (hMB : ∀ k, k < 16 → mblocks (16 * i + k) = nI (blk k)) (hf : f_case40o i L blk oL = some ()) {H : Heap} {locs : List Loc} {ls : Array Slot} (hP : va_P D vwCl (WC ca ad bq nF nO nL nA nC nV nU nP nE bF bO bL bA bC bV bU bP bE cT cK cO cQ cD pT pK pR pW pU pI pC uO uF uE uN wK jM jN jZ jB ++ (WO ca oa od oL oD ++ (WM ca am lq mcode mday mown mquot mprom mfiles mowner mlinks mblocks mvals msnaps mranks mkept mshot mwas mholds mheld mends mopen mentr mkinds misop mfilesT mentrT mpromT mlinksT mblocksT mvalsT ++ R))) H) (hD : va_D A (WC ca ad bq nF nO nL nA nC nV nU nP nE bF bO bL bA bC bV bU bP bE cT cK cO cQ cD pT pK pR pW pU pI pC uO uF uE uN wK jM jN jZ jB ++ (WO ca oa od oL oD ++ (WM ca am lq mcode mday mown mquot mprom mfiles mowner mlinks mblocks mvals msnaps mranks mkept mshot mwas mholds mheld mends mopen mentr mkinds misop mfilesT mentrT mpromT mlinksT mblocksT mvalsT ++ R)))) (hS : va_S A s.heap H locs) (hl : lv_has ls 9 [(0, .ref b), (1, .ref (ad 0)), (2, .ref (am 0)), (3, .ref oa), (4, .ref od), (5, .int x5)]) (kk : ∀ (u : Nat × Nat × (Nat → Int32) × Int32) (v : Nat × Nat × (Nat → Int32)), (Same (rowT i L blk 16).2 (rowT i L blk 16).1 u.2.2.1 ∧ sb_Fit u.2.2.1 ∧ u.2.1 ≤ 300 ∧ (rowT i L blk 16).2 ≤ u.2.1) → (Same (rowT i L blk 16).2 (rowT i L blk 16).1 v.2.2) → ∀ (H : Heap) (locs : List Loc) (ls : Array Slot), va_P D vwCl (WC ca ad u.1 nF nO nL nA nC nV nU nP nE bF bO bL bA bC bV bU bP bE cT cK cO cQ cD pT pK pR pW pU pI pC uO uF uE uN wK u.2.2.2 (nI (rowT i L blk 16).2) u.2.1 u.2.2.1 ++ (WO ca oa od (vp_updL oL (0 : Int32).toNatClampNeg (nI (rowT i L blk 16).2).toInt64) oD ++ (WM ca am v.1 (nI 0) mday mown mquot mprom mfiles mowner mlinks mblocks mvals msnaps mranks mkept mshot mwas mholds mheld mends mopen mentr mkinds misop mfilesT mentrT mpromT mlinksT mblocksT mvalsT ++ (WS ca v.1 v.2.1 (rowT i L blk 16).2 v.2.2 ++ R)))) H → va_D A (WC ca ad u.1 nF nO nL nA nC nV nU nP nE bF bO bL bA bC bV bU bP bE cT cK cO cQ cD pT pK pR pW pU pI pC uO uF uE uN wK u.2.2.2 (nI (rowT i L blk 16).2) u.2.1 u.2.2.1 ++ (WO ca oa od (vp_updL oL (0 : Int32).toNatClampNeg (nI (rowT i L blk 16).2).toInt64) oD ++ (WM ca am v.1 (nI 0) mday mown mquot mprom mfiles mowner mlinks mblocks mvals msnaps mranks mkept mshot mwas mholds mheld mends mopen mentr mkinds misop mfilesT mentrT mpromT mlinksT mblocksT mvalsT ++ (WS ca v.1 v.2.1 (rowT i L blk 16).2 v.2.2 ++ R)))) → va_S A s.heap H locs → lv_has ls 9 [(0, .ref b), (1, .ref (ad 0)), (2, .ref (am 0)), (3, .ref oa), (4, .ref od), (5, .int x5)] → W p l e room_1 s m #[Value.ref b] below meth c H locs (cN + 1100) (sN + 13000) Q (F0 m 2434 ls [])) : W p l e room_1 s m #[Value.ref b] below meth c H locs cN sN Q (F0 m 2322 ls []) := by
  have hK := hE.1
  unfold f_case40o at hf
  change W p l e room_1 s m #[Value.ref b] below meth c H locs (cN + 0) (sN + 0) Q (F0 m 2322 ls [])
  refine lv_aload_n hx hb dL_law_2322 rfl (lv_at hl 1 rfl) ?_
  refine lv_aload_n hx hb dL_law_2323 rfl (lv_at hl 0 rfl) ?_
  refine lv_iload hx hb dL_law_2324 (lv_at hl 5 rfl) ?_
  refine lv_iconst (v := 1) hx hb dL_law_2326 (by decide) ?_
  refine lv_iadd hx hb dL_law_2327 ?_
  refine va_sld hx hb hX hbl hbA hS hi1 dL_law_2328 ?_
  refine lv_aload_n hx hb dL_law_2329 rfl (lv_at hl 3 rfl) ?_
  rw [hp1]
  refine cl_wiu (rest := []) (m_L_writeFile_ok l hst ca ad bq oa od nF nO nL nA nC nV nU nP nE bF bO bL bA bC bV bU bP bE cT cK cO cQ cD pT pK pR pW pU pI pC uO uF uE uN wK jM jN jZ jB oL oD (WM ca am lq mcode mday mown mquot mprom mfiles mowner mlinks mblocks mvals msnaps mranks mkept mshot mwas mholds mheld mends mopen mentr mkinds misop mfilesT mentrT mpromT mlinksT mblocksT mvalsT ++ R) _ i f L n0 blk hi hf40 hNF hNL hL hNC hblk hjN hn0 hz0 hFit) ⟨hx, hb, hml, hown, hts⟩ (vx_cwSW 3 hts (gSW q1020 q1021 q40 q1022) rfl rfl rfl (by decide +kernel) ⟨Nat.le_of_ble_eq_true rfl, Nat.le_of_ble_eq_true rfl⟩) hE hP hD hS hA hZ hNCE rfl hl.1 rfl (lv_room (Nat.le_of_ble_eq_true rfl)) dL_law_2330 ⟨by show _ ≤ 603072; omega, by show _ ≤ 7198826; omega⟩ (fun u H locs hu hP hD hS => ?_)
  have hP : va_P D vwCl (WC ca ad u.1 nF nO nL nA nC nV nU nP nE bF bO bL bA bC bV bU bP bE cT cK cO cQ cD pT pK pR pW pU pI pC uO uF uE uN wK u.2.2.2 (nI (rowT i L blk 16).2) u.2.1 u.2.2.1 ++ (WO ca oa od (vp_updL oL (0 : Int32).toNatClampNeg (nI (rowT i L blk 16).2).toInt64) oD ++ (WM ca am lq mcode mday mown mquot mprom mfiles mowner mlinks mblocks mvals msnaps mranks mkept mshot mwas mholds mheld mends mopen mentr mkinds misop mfilesT mentrT mpromT mlinksT mblocksT mvalsT ++ R))) H := hP
  have hD : va_D A (WC ca ad u.1 nF nO nL nA nC nV nU nP nE bF bO bL bA bC bV bU bP bE cT cK cO cQ cD pT pK pR pW pU pI pC uO uF uE uN wK u.2.2.2 (nI (rowT i L blk 16).2) u.2.1 u.2.2.1 ++ (WO ca oa od (vp_updL oL (0 : Int32).toNatClampNeg (nI (rowT i L blk 16).2).toInt64) oD ++ (WM ca am lq mcode mday mown mquot mprom mfiles mowner mlinks mblocks mvals msnaps mranks mkept mshot mwas mholds mheld mends mopen mentr mkinds misop mfilesT mentrT mpromT mlinksT mblocksT mvalsT ++ R))) := hD
  refine lv_istore (lv' := [(6, .int 0), (0, .ref b), (1, .ref (ad 0)), (2, .ref (am 0)), (3, .ref oa), (4, .ref od), (5, .int x5)]) hx hb dL_law_2333 hl (by decide) rfl (fun ls hl => ?_)
  refine lv_aload_n hx hb dL_law_2335 rfl (lv_at hl 3 rfl) ?_
  refine lv_aload_n hx hb dL_law_2336 rfl (lv_at hl 1 rfl) ?_
  refine lv_iload hx hb dL_law_2337 (lv_at hl 6 rfl) ?_
  refine lv_iconst (v := 1) hx hb dL_law_2339 (by decide) ?_
  refine lv_iadd hx hb dL_law_2340 ?_
  refine va_sld hx hb hX hbl hbA hS hi1 dL_law_2341 ?_
  rw [hp1]
  replace hP := hP.perm (perm_rot (WC ca ad u.1 nF nO nL nA nC nV nU nP nE bF bO bL bA bC bV bU bP bE cT cK cO cQ cD pT pK pR pW pU pI pC uO uF uE uN wK u.2.2.2 (nI (rowT i L blk 16).2) u.2.1 u.2.2.1) (WO ca oa od (vp_updL oL (0 : Int32).toNatClampNeg (nI (rowT i L blk 16).2).toInt64) oD) (WM ca am lq mcode mday mown mquot mprom mfiles mowner mlinks mblocks mvals msnaps mranks mkept mshot mwas mholds mheld mends mopen mentr mkinds misop mfilesT mentrT mpromT mlinksT mblocksT mvalsT) R)
  replace hD := hD.perm (perm_rot (WC ca ad u.1 nF nO nL nA nC nV nU nP nE bF bO bL bA bC bV bU bP bE cT cK cO cQ cD pT pK pR pW pU pI pC uO uF uE uN wK u.2.2.2 (nI (rowT i L blk 16).2) u.2.1 u.2.2.1) (WO ca oa od (vp_updL oL (0 : Int32).toNatClampNeg (nI (rowT i L blk 16).2).toInt64) oD) (WM ca am lq mcode mday mown mquot mprom mfiles mowner mlinks mblocks mvals msnaps mranks mkept mshot mwas mholds mheld mends mopen mentr mkinds misop mfilesT mentrT mpromT mlinksT mblocksT mvalsT) R)
  refine zv_iu (rest := []) (m_M_writeFile_ok l ca am lq mcode mday mown mquot mprom mfiles mowner mlinks mblocks mvals msnaps mranks mkept mshot mwas mholds mheld mends mopen mentr mkinds misop mfilesT mentrT mpromT mlinksT mblocksT mvalsT ((WC ca ad u.1 nF nO nL nA nC nV nU nP nE bF bO bL bA bC bV bU bP bE cT cK cO cQ cD pT pK pR pW pU pI pC uO uF uE uN wK u.2.2.2 (nI (rowT i L blk 16).2) u.2.1 u.2.2.1) ++ ((WO ca oa od (vp_updL oL (0 : Int32).toNatClampNeg (nI (rowT i L blk 16).2).toInt64) oD) ++ R)) _ i f L blk hi hf40 hMF hML hL hMB hblk) ⟨hx, hb, hml, hown, hts⟩ (cwV 1 hts (gV q1656 q1657 q1658 q50 q1659) rfl rfl rfl (by decide +kernel) ⟨Nat.le_of_ble_eq_true rfl, Nat.le_of_ble_eq_true rfl⟩) (va_recv hK hP (ci := 8) (q0 := 0) rfl rfl) hE hP hD hS hA hZ rfl hl.1 rfl (lv_room (Nat.le_of_ble_eq_true rfl)) dL_law_2342 ⟨by show _ ≤ 603072; omega, by show _ ≤ 7198826; omega⟩ (fun v H locs hv hP hD hS => ?_)
  replace hP := hP.perm (perm_rot (WC ca ad u.1 nF nO nL nA nC nV nU nP nE bF bO bL bA bC bV bU bP bE cT cK cO cQ cD pT pK pR pW pU pI pC uO uF uE uN wK u.2.2.2 (nI (rowT i L blk 16).2) u.2.1 u.2.2.1) (WO ca oa od (vp_updL oL (0 : Int32).toNatClampNeg (nI (rowT i L blk 16).2).toInt64) oD) ((WM ca am v.1 (nI 0) mday mown mquot mprom mfiles mowner mlinks mblocks mvals msnaps mranks mkept mshot mwas mholds mheld mends mopen mentr mkinds misop mfilesT mentrT mpromT mlinksT mblocksT mvalsT) ++ (WS ca v.1 v.2.1 (rowT i L blk 16).2 v.2.2)) R).symm
  replace hD := hD.perm (perm_rot (WC ca ad u.1 nF nO nL nA nC nV nU nP nE bF bO bL bA bC bV bU bP bE cT cK cO cQ cD pT pK pR pW pU pI pC uO uF uE uN wK u.2.2.2 (nI (rowT i L blk 16).2) u.2.1 u.2.2.1) (WO ca oa od (vp_updL oL (0 : Int32).toNatClampNeg (nI (rowT i L blk 16).2).toInt64) oD) ((WM ca am v.1 (nI 0) mday mown mquot mprom mfiles mowner mlinks mblocks mvals msnaps mranks mkept mshot mwas mholds mheld mends mopen mentr mkinds misop mfilesT mentrT mpromT mlinksT mblocksT mvalsT) ++ (WS ca v.1 v.2.1 (rowT i L blk 16).2 v.2.2)) R).symm
  have hP : va_P D vwCl (WC ca ad u.1 nF nO nL nA nC nV nU nP nE bF bO bL bA bC bV bU bP bE cT cK cO cQ cD pT pK pR pW pU pI pC uO uF uE uN wK u.2.2.2 (nI (rowT i L blk 16).2) u.2.1 u.2.2.1 ++ (WO ca oa od (vp_updL oL (0 : Int32).toNatClampNeg (nI (rowT i L blk 16).2).toInt64) oD ++ (WM ca am v.1 (nI 0) mday mown mquot mprom mfiles mowner mlinks mblocks mvals msnaps mranks mkept mshot mwas mholds mheld mends mopen mentr mkinds misop mfilesT mentrT mpromT mlinksT mblocksT mvalsT ++ (WS ca v.1 v.2.1 (rowT i L blk 16).2 v.2.2 ++ R)))) H := hP
  have hD : va_D A (WC ca ad u.1 nF nO nL nA nC nV nU nP nE bF bO bL bA bC bV bU bP bE cT cK cO cQ cD pT pK pR pW pU pI pC uO uF uE uN wK u.2.2.2 (nI (rowT i L blk 16).2) u.2.1 u.2.2.1 ++ (WO ca oa od (vp_updL oL (0 : Int32).toNatClampNeg (nI (rowT i L blk 16).2).toInt64) oD ++ (WM ca am v.1 (nI 0) mday mown mquot mprom mfiles mowner mlinks mblocks mvals msnaps mranks mkept mshot mwas mholds mheld mends mopen mentr mkinds misop mfilesT mentrT mpromT mlinksT mblocksT mvalsT ++ (WS ca v.1 v.2.1 (rowT i L blk 16).2 v.2.2 ++ R)))) := hD
  refine lv_istore (lv' := [(7, .int (nI (rowT i L blk 16).2)), (6, .int 0), (0, .ref b), (1, .ref (ad 0)), (2, .ref (am 0)), (3, .ref oa), (4, .ref od), (5, .int x5)]) hx hb dL_law_2345 hl (by decide) rfl (fun ls hl => ?_)
  refine lv_aload_n hx hb dL_law_2347 rfl (lv_at hl 4 rfl) ?_
  obtain ⟨r2, h1, hf⟩ := bnd hf
  refine cm_i (rest := []) (m_M_thrown l ca am v.1 (nI 0) mday mown mquot mprom mfiles mowner mlinks mblocks mvals msnaps mranks mkept mshot mwas mholds mheld mends mopen mentr mkinds misop mfilesT mentrT mpromT mlinksT mblocksT mvalsT (WC ca ad u.1 nF nO nL nA nC nV nU nP nE bF bO bL bA bC bV bU bP bE cT cK cO cQ cD pT pK pR pW pU pI pC uO uF uE uN wK u.2.2.2 (nI (rowT i L blk 16).2) u.2.1 u.2.2.1 ++ (WO ca oa od (vp_updL oL (0 : Int32).toNatClampNeg (nI (rowT i L blk 16).2).toInt64) oD ++ (WS ca v.1 v.2.1 (rowT i L blk 16).2 v.2.2 ++ R))) _ r2 h1) ⟨hx, hb, hml, hown, hts⟩ (cwV 0 hts (gV q1417 q1418 q1419 q50 q1420) rfl rfl rfl (by decide +kernel) ⟨Nat.le_of_ble_eq_true rfl, Nat.le_of_ble_eq_true rfl⟩) (va_recv hK hP (ci := 8) (q0 := 42) rfl rfl) hE hP hD hS hA rfl hl.1 rfl (lv_room (Nat.le_of_ble_eq_true rfl)) dL_law_2348 ⟨by show _ ≤ 603072; omega, by show _ ≤ 7198826; omega⟩ (fun H locs hP hD hS => ?_)
  refine lv_iload hx hb dL_law_2351 (lv_at hl 1 rfl) ?_
  refine lv_icmp_eq (tgt := 2358) hx hb dL_law_2353 (by decide) (fun c3 => ?_) (fun c3 => ?_)
  · have hf := br_pos c3 hf
    refine lv_iload hx hb dL_law_2358 (lv_at hl 1 rfl) ?_
    refine lv_if_ne (tgt := 2375) hx hb dL_law_2360 (by decide) (fun c4 => ?_) (fun c4 => ?_)
    · exact absurd c4 (by decide)
    refine lv_aload_n hx hb dL_law_2363 rfl (lv_at hl 5 rfl) ?_
    refine lv_iconst (v := 0) hx hb dL_law_2364 (by decide) ?_
    refine va_lald (D := D) hx hb hK hP 40 5 rfl rfl (by unfold vp_in; decide) dL_law_2365 ?_
    refine lv_iload hx hb dL_law_2366 (lv_at hl 0 rfl) ?_
    refine lv_i2l hx hb dL_law_2368 rfl ?_
    refine W.lcmp hx hb dL_law_2369 ?_
    refine lv_if_eq (tgt := 2375) hx hb dL_law_2370 (by decide) (fun c5 => ?_) (fun c5 => ?_)
    · have hf := br_pos c5 hf
      refine lv_goto (tgt := 2434) hx hb dL_law_2375 (by decide) ?_
      refine W.widen (k := cN + 1100) (n := sN + 13000) (by omega) (by omega) ?_
      exact kk u v hu hv _ _ _ hP hD hS (lv_sub hl [2, 3, 4, 5, 6, 7] rfl)
    · have hf := br_neg c5 hf
      refine lv_iconst (v := 0) hx hb dL_law_2373 (by decide) ?_
      cases hf
  · have hf := br_neg c3 hf
    refine lv_iconst (v := 0) hx hb dL_law_2356 (by decide) ?_
    cases hf
