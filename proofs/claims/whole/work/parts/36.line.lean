/-! THE LINE'S TEXT -/
def Same (n : Nat) (T B : Nat → Int32) : Prop := ∀ j, j < n → B j = T j
theorem fitN {c : Nat} (h : c < 128) : fits .byte (.int (nI c)) = true := by
  have e : ∀ c : Fin 128, fits .byte (.int (nI c.val)) = true := by decide +kernel
  exact e ⟨c, h⟩
theorem same_c {n need z : Nat} {T B : Nat → Int32} {x : Int32} (h : Same n T B) (hz : n ≤ z) : Same (n + 1) (upd T n x) (upd (capB need z B) n x) := fun j hj => by
  by_cases e : j = n
  · rw [e, upd_at, upd_at]
  · rw [upd_ne e, upd_ne e, capB_at (by omega), h j (by omega)]
theorem same_I {n need z v : Nat} {T B : Nat → Int32} (h : Same n T B) (hz : n ≤ z) : Same (n + dgs v) (appI n v T) (appI n v (capB need z B)) := fun j hj => by
  unfold dgs at hj
  unfold appI
  by_cases hv : v < 10
  · rw [if_pos hv] at hj
    rw [if_pos hv, if_pos hv]
    exact same_c h hz j hj
  · rw [if_neg hv] at hj
    rw [if_neg hv, if_neg hv]
    by_cases e : j = n
    · rw [e, upd_at, upd_at]
    · rw [upd_ne e, upd_ne e]
      by_cases e2 : j = n + 1
      · rw [e2, upd_at, upd_at]
      · rw [upd_ne e2, upd_ne e2, capB_at (by omega), h j (by omega)]
theorem fit_c {n need z c : Nat} {B : Nat → Int32} (hc : c < 128) (h : sb_Fit B) : sb_Fit (upd (capB need z B) n (nI c)) := sb_fitU (capB_fit h) (fitN hc)
theorem fit_I {n need z v : Nat} {B : Nat → Int32} (hv : v < 100) (h : sb_Fit B) : sb_Fit (appI n v (capB need z B)) := by
  unfold appI
  split
  · exact sb_fitU (capB_fit h) (fitN (by omega))
  · exact sb_fitU (sb_fitU (capB_fit h) (fitN (by omega))) (fitN (by omega))
/-- what growth costs, paid by the room that it makes -/
theorem cost_c {need z : Nat} : z + mcE need z ≤ sb_cap need z := by
  unfold mcE sb_cap
  split
  · omega
  · split <;> omega
theorem cost_s {need z : Nat} : 2 * z + msE need z ≤ 2 * sb_cap need z := by
  unfold msE sb_cap
  split
  · omega
  · split <;> omega
theorem cap_300 {need z : Nat} (h : need ≤ 128) (hz : z ≤ 300) : sb_cap need z ≤ 300 := by
  unfold sb_cap
  split
  · omega
  · split <;> omega
abbrev LT : Type := (Nat → Int32) × Nat
def ap (c : Nat) (s : LT) : LT := (upd s.1 s.2 (nI c), s.2 + 1)
def apI (v : Nat) (s : LT) : LT := (appI s.2 v s.1, s.2 + dgs v)
def row0 (i L : Nat) : LT := apI L (ap 120 (apI i (fun _ => 0, 0)))
def rowS (p b : Nat) (s : LT) : LT := if b = 0 then s else apI (b - 1) (ap 58 (apI p (ap 32 s)))
def rowT (i L : Nat) (blk : Nat → Nat) : Nat → LT
  | 0 => row0 i L
  | p + 1 => rowS p (blk p) (rowT i L blk p)
theorem rowT_le (i L : Nat) (blk : Nat → Nat) (p : Nat) : (rowT i L blk p).2 ≤ 5 + 6 * p := by
  induction p with
  | zero =>
    have h1 := dgs_le i
    have h2 := dgs_le L
    show 0 + dgs i + 1 + dgs L ≤ _
    omega
  | succ p ih =>
    have h1 := dgs_le p
    have h2 := dgs_le (blk p - 1)
    show (rowS p (blk p) (rowT i L blk p)).2 ≤ _
    unfold rowS
    split
    · omega
    · show (rowT i L blk p).2 + 1 + dgs p + 1 + dgs (blk p - 1) ≤ _
      omega
abbrev WCr (ca : Nat → ClassId) (ad : Nat → Nat) (nF : Int32) (nO : Nat → Int32) (nL : Nat → Int32) (nA : Nat → Int32) (nC : Nat → Int32) (nV : Nat → Int32) (nU : Nat → Int32) (nP : Nat → Int32) (nE : Int32) (bF : Int32) (bO : Nat → Int32) (bL : Nat → Int32) (bA : Nat → Int32) (bC : Nat → Int32) (bV : Nat → Int32) (bU : Nat → Int32) (bP : Nat → Int32) (bE : Int32) (cT : Int32) (cK : Nat → Int32) (cO : Int32) (cQ : Nat → Int32) (cD : Int32) (pT : Int32) (pK : Int32) (pR : Nat → Int32) (pW : Nat → Int32) (pU : Nat → Int32) (pI : Nat → Int32) (pC : Nat → Nat → Int32) (uO : Int32) (uF : Nat → Int32) (uE : Nat → Int32) (uN : Nat → Int32) (wK : Nat → Int32) : va_W :=
  [((ad 0), .inr (7, [.ref (ad 1), .ref (ad 2), .int cT, .ref (ad 3), .int cO, .ref (ad 4), .ref (ad 5), .ref (ad 6), .int cD, .ref (ad 7), .ref (ad 8)])),
   ((ad 1), .inr (6, [.int nF, .ref (ad 9), .ref (ad 10), .ref (ad 11), .ref (ad 12), .ref (ad 13), .ref (ad 14), .ref (ad 15), .int nE])),
   ((ad 9), .inl (ca 0, 40, .inl nO)),
   ((ad 10), .inl (ca 0, 40, .inl nL)),
   ((ad 11), .inl (ca 1, 40, .inl nA)),
   ((ad 12), .inl (ca 0, 640, .inl nC)),
   ((ad 13), .inl (ca 0, 64, .inl nV)),
   ((ad 14), .inl (ca 0, 64, .inl nU)),
   ((ad 15), .inl (ca 0, 4, .inl nP)),
   ((ad 2), .inr (6, [.int bF, .ref (ad 16), .ref (ad 17), .ref (ad 18), .ref (ad 19), .ref (ad 20), .ref (ad 21), .ref (ad 22), .int bE])),
   ((ad 16), .inl (ca 0, 40, .inl bO)),
   ((ad 17), .inl (ca 0, 40, .inl bL)),
   ((ad 18), .inl (ca 1, 40, .inl bA)),
   ((ad 19), .inl (ca 0, 640, .inl bC)),
   ((ad 20), .inl (ca 0, 64, .inl bV)),
   ((ad 21), .inl (ca 0, 64, .inl bU)),
   ((ad 22), .inl (ca 0, 4, .inl bP)),
   ((ad 3), .inl (ca 2, 512, .inl cK)),
   ((ad 4), .inl (ca 0, 4, .inl cQ)),
   ((ad 5), .inr (5, [.int pT, .int pK, .ref (ad 23), .ref (ad 24), .ref (ad 25), .ref (ad 26), .ref (ad 27)])),
   ((ad 23), .inl (ca 0, 30, .inl pR)),
   ((ad 24), .inl (ca 0, 30, .inl pW)),
   ((ad 25), .inl (ca 1, 8, .inl pU)),
   ((ad 26), .inl (ca 1, 320, .inl pI)),
   ((ad 27), .inl (ca 4, 8, .inr (.inr (.inr (.inr (fun i => some (ad (31 + i)))))))),
   ((ad 31), .inl (ca 0, 640, .inl (pC 0))),
   ((ad 32), .inl (ca 0, 640, .inl (pC 1))),
   ((ad 33), .inl (ca 0, 640, .inl (pC 2))),
   ((ad 34), .inl (ca 0, 640, .inl (pC 3))),
   ((ad 35), .inl (ca 0, 640, .inl (pC 4))),
   ((ad 36), .inl (ca 0, 640, .inl (pC 5))),
   ((ad 37), .inl (ca 0, 640, .inl (pC 6))),
   ((ad 38), .inl (ca 0, 640, .inl (pC 7))),
   ((ad 6), .inr (4, [.int uO, .ref (ad 28), .ref (ad 29), .ref (ad 30)])),
   ((ad 28), .inl (ca 0, 30, .inl uF)),
   ((ad 29), .inl (ca 0, 30, .inl uE)),
   ((ad 30), .inl (ca 1, 30, .inl uN)),
   ((ad 8), .inl (ca 0, 64, .inl wK))]
theorem WC_sb (ca : Nat → ClassId) (ad : Nat → Nat) (bq : Nat) (nF : Int32) (nO : Nat → Int32) (nL : Nat → Int32) (nA : Nat → Int32) (nC : Nat → Int32) (nV : Nat → Int32) (nU : Nat → Int32) (nP : Nat → Int32) (nE : Int32) (bF : Int32) (bO : Nat → Int32) (bL : Nat → Int32) (bA : Nat → Int32) (bC : Nat → Int32) (bV : Nat → Int32) (bU : Nat → Int32) (bP : Nat → Int32) (bE : Int32) (cT : Int32) (cK : Nat → Int32) (cO : Int32) (cQ : Nat → Int32) (cD : Int32) (pT : Int32) (pK : Int32) (pR : Nat → Int32) (pW : Nat → Int32) (pU : Nat → Int32) (pI : Nat → Int32) (pC : Nat → Nat → Int32) (uO : Int32) (uF : Nat → Int32) (uE : Nat → Int32) (uN : Nat → Int32) (wK : Nat → Int32) (jM : Int32) (jN : Int32) (jZ : Nat) (jB : Nat → Int32) (R : va_W) : (WC ca ad bq nF nO nL nA nC nV nU nP nE bF bO bL bA bC bV bU bP bE cT cK cO cQ cD pT pK pR pW pU pI pC uO uF uE uN wK jM jN jZ jB ++ R).Perm (WB ca (ad 7) bq jM jN jZ jB ++ (WCr ca ad nF nO nL nA nC nV nU nP nE bF bO bL bA bC bV bU bP bE cT cK cO cQ cD pT pK pR pW pU pI pC uO uF uE uN wK ++ R)) :=
  new_perm [((ad 0), .inr (7, [.ref (ad 1), .ref (ad 2), .int cT, .ref (ad 3), .int cO, .ref (ad 4), .ref (ad 5), .ref (ad 6), .int cD, .ref (ad 7), .ref (ad 8)])), ((ad 1), .inr (6, [.int nF, .ref (ad 9), .ref (ad 10), .ref (ad 11), .ref (ad 12), .ref (ad 13), .ref (ad 14), .ref (ad 15), .int nE])), ((ad 9), .inl (ca 0, 40, .inl nO)), ((ad 10), .inl (ca 0, 40, .inl nL)), ((ad 11), .inl (ca 1, 40, .inl nA)), ((ad 12), .inl (ca 0, 640, .inl nC)), ((ad 13), .inl (ca 0, 64, .inl nV)), ((ad 14), .inl (ca 0, 64, .inl nU)), ((ad 15), .inl (ca 0, 4, .inl nP)), ((ad 2), .inr (6, [.int bF, .ref (ad 16), .ref (ad 17), .ref (ad 18), .ref (ad 19), .ref (ad 20), .ref (ad 21), .ref (ad 22), .int bE])), ((ad 16), .inl (ca 0, 40, .inl bO)), ((ad 17), .inl (ca 0, 40, .inl bL)), ((ad 18), .inl (ca 1, 40, .inl bA)), ((ad 19), .inl (ca 0, 640, .inl bC)), ((ad 20), .inl (ca 0, 64, .inl bV)), ((ad 21), .inl (ca 0, 64, .inl bU)), ((ad 22), .inl (ca 0, 4, .inl bP)), ((ad 3), .inl (ca 2, 512, .inl cK)), ((ad 4), .inl (ca 0, 4, .inl cQ)), ((ad 5), .inr (5, [.int pT, .int pK, .ref (ad 23), .ref (ad 24), .ref (ad 25), .ref (ad 26), .ref (ad 27)])), ((ad 23), .inl (ca 0, 30, .inl pR)), ((ad 24), .inl (ca 0, 30, .inl pW)), ((ad 25), .inl (ca 1, 8, .inl pU)), ((ad 26), .inl (ca 1, 320, .inl pI)), ((ad 27), .inl (ca 4, 8, .inr (.inr (.inr (.inr (fun i => some (ad (31 + i)))))))), ((ad 31), .inl (ca 0, 640, .inl (pC 0))), ((ad 32), .inl (ca 0, 640, .inl (pC 1))), ((ad 33), .inl (ca 0, 640, .inl (pC 2))), ((ad 34), .inl (ca 0, 640, .inl (pC 3))), ((ad 35), .inl (ca 0, 640, .inl (pC 4))), ((ad 36), .inl (ca 0, 640, .inl (pC 5))), ((ad 37), .inl (ca 0, 640, .inl (pC 6))), ((ad 38), .inl (ca 0, 640, .inl (pC 7))), ((ad 6), .inr (4, [.int uO, .ref (ad 28), .ref (ad 29), .ref (ad 30)])), ((ad 28), .inl (ca 0, 30, .inl uF)), ((ad 29), .inl (ca 0, 30, .inl uE)), ((ad 30), .inl (ca 1, 30, .inl uN))] [((ad 7), .inr (1, [.ref bq, .int 0, .int jM, .int jN])), (bq, .inl (ca 3, jZ, .inl jB))] ([((ad 8), .inl (ca 0, 64, .inl wK))] ++ R)
section ZVR
variable {p : Program} {l : Launch} {e : Env} {Rm : Room} {s : State} {m : MethodId} {args : Array Value} {below : List Frame} {meth : Method} {c : Code} {H : Heap} {locs : List Loc} {cells slots : Nat} {Q : State → Prop}
variable {y : MethodName} {bytes cc : ByteArray} {maxL nL mc ms n index : Nat} {ret : Option FieldType} {rm : Room} {own C : String} {b ra : Nat} {As rest st : List Value} {pc : Nat} {ls : Array Slot}
variable {D : va_G} {ca : Nat → ClassId} {sl : List (String × Nat × String)} {w : va_W} {A0 : Nat → Prop}
theorem zv_r {T : Type} {f : T → va_W} (hM : Met l y (wm y bytes maxL ret) rm (PREX (.ref b :: As) D ca sl w H.size) (QRU ra f D w H.size) mc ms (va_A w H.size)) (S : CallFix p m c cc nL s args WW own) (cw : CallW Rm s args own C index y bytes maxL ret (wm y bytes maxL ret) rm mc ms n)
    (hrecv : ∃ cellB : Cell, H[b]? = some cellB ∧ cellB.vm.isStatics = false ∧ s.vm.findClass C = some cellB.cls) (hE : EE D ca sl s) (hP : va_P D vwCl w H) (hD : va_D A0 w) (hS : va_S A0 s.heap H locs) (hA : ∀ q, s.heap.size ≤ q → A0 q) (hZ : ZZ A0 s s.heap)
    (hn : As.length = n) (hsize : ls.size = nL) (hst : st = As.reverse ++ .ref b :: rest) (hW : 2 * (F0 m pc ls st).monitorRoom + (rest.map fun v => v.category).sum ≤ 8) (hdg : decode cc pc = .ok (.invokevirtual index, 3)) (hf : cells + mc ≤ Rm.cells ∧ slots + ms ≤ Rm.slots)
    (kk : ∀ (u : T) (H1 : Heap) (locs1 : List Loc), va_P D vwCl (f u) H1 → va_D A0 (f u) → va_S A0 s.heap H1 locs1 → W p l e Rm s m args below meth c H1 locs1 (cells + mc) (slots + ms) Q (F0 m (pc + 3) ls (.ref ra :: rest))) : W p l e Rm s m args below meth c H locs cells slots Q (F0 m pc ls st) :=
  va_callr (va_runV S hM cw ⟨PREX_blind, hrecv, prex_ok hE hP hD hS hA hZ⟩ rfl hn hsize hst hW hdg hf) hS (fun q _ h => vaA_sub hD hS hA q h) (vaA_sub hD hS hA) (fun u r2 t H1 locs1 ht hvm hw hB hz1 hk1 hS1 => by
    obtain ⟨rfl, hB⟩ := hB
    obtain ⟨hP1, hD1⟩ := bw_ok hD hS hA ht hB
    exact kk u H1 locs1 hP1 hD1 hS1)
end ZVR
section LINE
variable {p : Program} {l : Launch} {e : Env} {Rm : Room} {s : State} {m : MethodId} {args : Array Value} {below : List Frame} {meth : Method} {c : Code} {H : Heap} {locs : List Loc} {Q : State → Prop}
variable {cc : ByteArray} {nL index : Nat} {own : String} {rest : List Value} {pc c0 s0 : Nat} {ls : Array Slot}
variable {D : va_G} {sl : List (String × Nat × String)} {A0 : Nat → Prop}
/-- append(char): the text grows by one -/
theorem sb_apC (ca : Nat → ClassId) (aq q : Nat) (jM : Int32) (R : va_W) {n z ch : Nat} {T B : Nat → Int32} (hT : Same n T B) (hF : sb_Fit B) (hnz : n ≤ z) (hz : z ≤ 300) (hn : n + 1 ≤ 128) (hch : ch < 128) (S : CallFix p m c cc nL s args WW own) (hw1 : (Cond.methodLink own index yJ4_append_cf468) ∈ WW) (hRm : 5 + 1 ≤ Rm.frames ∧ 8 + (2 + 11) + 131 ≤ Rm.locals) (hrm : c0 + 300 ≤ Rm.cells ∧ s0 + 600 ≤ Rm.slots)
    (hE : EE D ca sl s) (hP : va_P D vwCl (WB ca aq q jM (nI n) z B ++ R) H) (hD : va_D A0 (WB ca aq q jM (nI n) z B ++ R)) (hS : va_S A0 s.heap H locs) (hA : ∀ q, s.heap.size ≤ q → A0 q) (hZ : ZZ A0 s s.heap) (hsize : ls.size = nL) (hW : (rest.map fun v => v.category).sum ≤ 8) (hdg : decode cc pc = .ok (.invokevirtual index, 3))
    (kk : ∀ (q' z' : Nat) (B' : Nat → Int32) (H1 : Heap) (locs1 : List Loc), Same (n + 1) (upd T n (nI ch)) B' → sb_Fit B' → n + 1 ≤ z' → z' ≤ 300 → va_P D vwCl (WB ca aq q' jM (nI (n + 1)) z' B' ++ R) H1 → va_D A0 (WB ca aq q' jM (nI (n + 1)) z' B' ++ R) → va_S A0 s.heap H1 locs1 → W p l e Rm s m args below meth c H1 locs1 (c0 + z') (s0 + 2 * z') Q (F0 m (pc + 3) ls (.ref aq :: rest))) : W p l e Rm s m args below meth c H locs (c0 + z) (s0 + 2 * z) Q (F0 m pc ls (.int (nI ch) :: .ref aq :: rest)) := by
  have hK := hE.1
  have k1 := cost_c (need := n + 1) (z := z)
  have k2 := cost_s (need := n + 1) (z := z)
  have k3 := cap_300 (need := n + 1) (z := z) hn hz
  have k4 := sb_cap_ge (n + 1) z
  refine zv_r (rest := rest) (m_appC l ca aq q jM R _ n z ch B (by omega) (by omega) hch hF) S (cwV 1 S.2.2.2.2 (gV hw1 q1282 q1283 q47 q1284) rfl rfl rfl (by decide +kernel) hRm) (va_recv hK hP (ci := 1) (q0 := 0) rfl rfl) hE hP hD hS hA hZ rfl hsize rfl (lv_room hW) hdg ⟨by omega, by omega⟩ (fun q' H1 locs1 hP hD hS => ?_)
  refine W.widen (k := c0 + sb_cap (n + 1) z) (n := s0 + 2 * sb_cap (n + 1) z) (by omega) (by omega) ?_
  exact kk q' _ _ H1 locs1 (same_c hT hnz) (fit_c hch hF) k4 k3 hP hD hS
/-- append(int): of a number below 100 -/
theorem sb_apI (ca : Nat → ClassId) (aq q : Nat) (jM : Int32) (R : va_W) {n z v : Nat} {T B : Nat → Int32} (hT : Same n T B) (hF : sb_Fit B) (hnz : n ≤ z) (hz : z ≤ 300) (hn : n + dgs v ≤ 128) (hv : v < 100) (S : CallFix p m c cc nL s args WW own) (hw1 : (Cond.methodLink own index yJ4_append_bf812) ∈ WW) (hRm : 5 + 1 ≤ Rm.frames ∧ 8 + (2 + 11) + 133 ≤ Rm.locals) (hrm : c0 + 300 ≤ Rm.cells ∧ s0 + 600 ≤ Rm.slots)
    (hE : EE D ca sl s) (hP : va_P D vwCl (WB ca aq q jM (nI n) z B ++ R) H) (hD : va_D A0 (WB ca aq q jM (nI n) z B ++ R)) (hS : va_S A0 s.heap H locs) (hA : ∀ q, s.heap.size ≤ q → A0 q) (hZ : ZZ A0 s s.heap) (hsize : ls.size = nL) (hW : (rest.map fun v => v.category).sum ≤ 8) (hdg : decode cc pc = .ok (.invokevirtual index, 3))
    (kk : ∀ (q' z' : Nat) (B' : Nat → Int32) (H1 : Heap) (locs1 : List Loc), Same (n + dgs v) (appI n v T) B' → sb_Fit B' → n + dgs v ≤ z' → z' ≤ 300 → va_P D vwCl (WB ca aq q' jM (nI (n + dgs v)) z' B' ++ R) H1 → va_D A0 (WB ca aq q' jM (nI (n + dgs v)) z' B' ++ R) → va_S A0 s.heap H1 locs1 → W p l e Rm s m args below meth c H1 locs1 (c0 + z') (s0 + 2 * z') Q (F0 m (pc + 3) ls (.ref aq :: rest))) : W p l e Rm s m args below meth c H locs (c0 + z) (s0 + 2 * z) Q (F0 m pc ls (.int (nI v) :: .ref aq :: rest)) := by
  have hK := hE.1
  have k1 := cost_c (need := n + dgs v) (z := z)
  have k2 := cost_s (need := n + dgs v) (z := z)
  have k3 := cap_300 (need := n + dgs v) (z := z) hn hz
  have k4 := sb_cap_ge (n + dgs v) z
  refine zv_r (rest := rest) (m_appI l ca aq q jM R _ n z v B (by omega) (by omega) hv hF) S (cwV 1 S.2.2.2.2 (gV hw1 q1159 q1160 q47 q1161) rfl rfl rfl (by decide +kernel) hRm) (va_recv hK hP (ci := 1) (q0 := 0) rfl rfl) hE hP hD hS hA hZ rfl hsize rfl (lv_room hW) hdg ⟨by omega, by omega⟩ (fun q' H1 locs1 hP hD hS => ?_)
  refine W.widen (k := c0 + sb_cap (n + dgs v) z) (n := s0 + 2 * sb_cap (n + dgs v) z) (by omega) (by omega) ?_
  exact kk q' _ _ H1 locs1 (same_I hT hnz) (fit_I hv hF) k4 k3 hP hD hS
end LINE
