theorem nAO : (Cond.arrayOver (.array .int)) ∈ NWL := NWL_mem 106 (by decide +kernel) rfl
/-! CONSTRUCTORS: cells that are made -/
def QU {S : Type} (f : S → va_W) (D : va_G) (w : va_W) (sz : Nat) : Array Value → State → Outcome → State → Prop := va_Qv (fun _ : S => True) (fun u t => BW D (f u) w sz t) (va_A w sz)
theorem va_same {D : va_G} {cl : List vw_C} {ca : Nat → ClassId} {U : State} {cA c0 : ClassId} {ty : FieldType} (hK : va_K D cl (tyL ca ++ [(cA, ty)]) U) (k : Nat) (h : (tyL ca ++ [(cA, ty)])[k]? = some (c0, ty)) : c0 = cA := by
  have h1 := (hK.2 k _ h).2
  have h2 := (hK.2 5 (cA, ty) rfl).2
  cases ty with
  | object C =>
    obtain ⟨-, -, -, -, -, e1⟩ := h1
    obtain ⟨-, -, -, -, -, e2⟩ := h2
    exact Option.some.inj (e1.symm.trans e2)
  | _ => exact Option.some.inj (Eq.trans (Eq.symm h1) h2)
theorem va_AOA_of {D : va_G} {ca : Nat → ClassId} {sl : List (String × Nat × String)} {U : State} (h : EE D ca sl U) : va_AOA .int U := h.2.1 _ nAO
theorem va_RA_find {D : va_G} {cl : List vw_C} {tys : List (ClassId × FieldType)} {U : State} (hK : va_K D cl tys U) (k : Nat) {cA : ClassId} (h : tys[k]? = some (cA, .int)) : U.vm.findClass (FieldType.array .int).toString = some cA := (hK.2 k _ h).2
theorem va_inner (c : ClassId) (k : Nat) : Jvm.Free.Multi.innerC c k (defaultValue .int) = vp_cell c (k, .inl (fun _ => 0)) := by
  rw [vp_cell_i]
  exact arrV_new c k _
theorem vp_cell_qc {c : ClassId} {n : Nat} {f g : Nat → Option Nat} (h : ∀ i, i < n → f i = g i) : vp_cell c (n, .inr (.inr (.inr (.inr f)))) = vp_cell c (n, .inr (.inr (.inr (.inr g)))) := by
  rw [vp_cell_q, vp_cell_q]
  unfold arrV
  congr 1
  apply congrArg
  funext j
  show va_rf (f j.val) = va_rf (g j.val)
  rw [h j.val j.isLt]
theorem mna_pool {f : Nat → va_E} {v : va_E} {n : Nat} {r : Nat → Nat} : va_pl ([] ++ (List.range n).map r) (vr_up f ((List.range n).map r) v) = (List.range n).map (fun i => (r i, v)) := by
  unfold va_pl
  rw [List.nil_append, List.map_map]
  apply List.map_congr_left
  intro i hi
  show (r i, vr_up f ((List.range n).map r) v (r i)) = (r i, v)
  rw [vr_up_in (List.mem_map.mpr ⟨i, hi, rfl⟩)]
theorem mna_perm {α : Type} (x r1 a b : List α) : (((x ++ r1) ++ a) ++ b).Perm ((x ++ (a ++ b)) ++ r1) := by
  have e1 : (((x ++ r1) ++ a) ++ b) = x ++ (r1 ++ (a ++ b)) := by simp [List.append_assoc]
  have e2 : ((x ++ (a ++ b)) ++ r1) = x ++ ((a ++ b) ++ r1) := by simp [List.append_assoc]
  rw [e1, e2]
  exact List.Perm.append_left x List.perm_append_comm
theorem new_perm {α : Type} (x n r : List α) : ((x ++ n) ++ r).Perm (n ++ (x ++ r)) := by
  have e2 : (n ++ (x ++ r)) = (n ++ x) ++ r := by simp [List.append_assoc]
  rw [e2]
  exact List.Perm.append_right r List.perm_append_comm
theorem mna_P {D : va_G} {cl : List vw_C} {x r1 : va_W} {H : Heap} {q : Nat} {c1 : ClassId} {n : Nat} {rf : Nat → Nat} {f : Nat → va_E} {v : va_E} (h : va_P D cl (((x ++ r1) ++ [(q, .inl (c1, n, .inr (.inr (.inr (.inr (fun i => if i < n then some (rf i) else none))))))]) ++ va_pl ([] ++ (List.range n).map rf) (vr_up f ((List.range n).map rf) v)) H) :
    va_P D cl ((x ++ ([(q, .inl (c1, n, .inr (.inr (.inr (.inr (fun i => some (rf i)))))))] ++ (List.range n).map (fun i => (rf i, v)))) ++ r1) H := by
  rw [mna_pool] at h
  have h1 : va_P D cl (((x ++ r1) ++ [(q, .inl (c1, n, .inr (.inr (.inr (.inr (fun i => some (rf i)))))))]) ++ (List.range n).map (fun i => (rf i, v))) H := by
    refine va_P_mem.mpr fun z hz => ?_
    rcases List.mem_append.mp hz with hz | hz
    · rcases List.mem_append.mp hz with hz | hz
      · exact va_P_mem.mp h z (List.mem_append_left _ (List.mem_append_left _ hz))
      · have hq := va_P_mem.mp h (q, .inl (c1, n, .inr (.inr (.inr (.inr (fun i => if i < n then some (rf i) else none)))))) (List.mem_append_left _ (List.mem_append_right _ List.mem_cons_self))
        rw [List.mem_singleton.mp hz]
        show H[q]? = some (vp_cell c1 (n, .inr (.inr (.inr (.inr (fun i => some (rf i)))))))
        rw [vp_cell_qc (g := fun i => if i < n then some (rf i) else none) (fun i hi => (if_pos hi).symm)]
        exact hq
    · exact va_P_mem.mp h z (List.mem_append_right _ hz)
  exact h1.perm (mna_perm x r1 _ _)
theorem mna_D {A : Nat → Prop} {x r1 : va_W} {q : Nat} {c1 : ClassId} {n : Nat} {rf : Nat → Nat} {f : Nat → va_E} {v : va_E} (h : va_D A (((x ++ r1) ++ [(q, .inl (c1, n, .inr (.inr (.inr (.inr (fun i => if i < n then some (rf i) else none))))))]) ++ va_pl ([] ++ (List.range n).map rf) (vr_up f ((List.range n).map rf) v))) :
    va_D A ((x ++ ([(q, .inl (c1, n, .inr (.inr (.inr (.inr (fun i => some (rf i)))))))] ++ (List.range n).map (fun i => (rf i, v)))) ++ r1) := by
  rw [mna_pool] at h
  have h1 : va_D A (((x ++ r1) ++ [(q, .inl (c1, n, .inr (.inr (.inr (.inr (fun i => some (rf i)))))))]) ++ (List.range n).map (fun i => (rf i, v))) := by
    rw [va_D_iff] at h ⊢
    refine ⟨?_, fun z hz => ?_⟩
    · have := h.1
      simpa using this
    · rcases List.mem_append.mp hz with hz | hz
      · rcases List.mem_append.mp hz with hz | hz
        · exact h.2 z (List.mem_append_left _ (List.mem_append_left _ hz))
        · rw [List.mem_singleton.mp hz]
          exact h.2 (q, .inl (c1, n, .inr (.inr (.inr (.inr (fun i => if i < n then some (rf i) else none)))))) (List.mem_append_left _ (List.mem_append_right _ List.mem_cons_self))
      · exact h.2 z (List.mem_append_right _ hz)
  exact h1.perm (mna_perm x r1 _ _)
section CTOR
variable {p : Program} {l : Launch} {e : Env} {Rm : Room} {s : State} {m : MethodId} {args : Array Value} {below : List Frame} {meth : Method} {c : Code} {H : Heap} {locs : List Loc} {cells slots : Nat} {Q : State → Prop}
variable {y : MethodName} {bytes cc : ByteArray} {maxL nL mc ms MC MS n index : Nat} {rm : Room} {own : String} {b : Nat} {As rest st : List Value} {pc : Nat} {ls : Array Slot}
variable {D : va_G} {ca : Nat → ClassId} {sl : List (String × Nat × String)} {A0 : Nat → Prop} {H0 : Heap}
theorem endu_v {S : Type} (u : S) {f : S → va_W} {w0 : va_W} {A : Nat → Prop} (hAe : va_A w0 s.heap.size = A) (hx : p.tables.exec = Jvm.exec) (hb : c.code = cc) (hr : meth.sig.returnType = none) (hlocks : meth.locks = false) (hP : va_P D vwCl (f u) H) (hD : va_D A (f u)) (hS : va_S A s.heap H locs) (hdg : decode cc pc = .ok (.return_, 1)) (hc : cells ≤ MC) (hs : slots ≤ MS) :
    W p l e Rm s m args below meth c H locs cells slots (MQ below (QU f D w0 s.heap.size) args s MC MS A) (F0 m pc ls []) := by
  subst hAe
  exact W.widen hc hs (W.vret hx hb hr (fun t ht hW => ⟨⟨u, rfl, trivial, by rw [ht]; exact hP, hD⟩, hS.F ht⟩) hS.2.2 hdg hlocks)
/-- new C(): the object lies behind the world; its constructor's cells come there too -/
theorem call_new {S : Type} {wx wn wr : va_W} {g : S → va_W} (hM : Met l y (wm y bytes maxL none) rm (PRE (.ref b :: As) D ca sl (wn ++ (wx ++ wr)) H.size) (QU (fun u => g u ++ (wx ++ wr)) D (wn ++ (wx ++ wr)) H.size) mc ms (va_A (wn ++ (wx ++ wr)) H.size)) (S0 : CallFix p m c cc nL s args WW own) (cw : CallB Rm s args own index y bytes maxL none (wm y bytes maxL none) rm mc ms n ∧ y.name = "<init>" ∧ (Cond.instanceMethod y).before args s = true)
    (hE : EE D ca sl s) (hP : va_P D vwCl ((wx ++ wn) ++ wr) H) (hD : va_D A0 ((wx ++ wn) ++ wr)) (hS : va_S A0 H0 H locs) (hA : ∀ q, H0.size ≤ q → A0 q)
    (hn : As.length = n) (hsize : ls.size = nL) (hst : st = As.reverse ++ .ref b :: rest) (hW : 2 * (F0 m pc ls st).monitorRoom + (rest.map fun v => v.category).sum ≤ 8) (hdg : decode cc pc = .ok (.invokespecial index, 3)) (hf : cells + mc ≤ Rm.cells ∧ slots + ms ≤ Rm.slots)
    (kk : ∀ (u : S) (H1 : Heap) (locs1 : List Loc), va_P D vwCl ((wx ++ g u) ++ wr) H1 → va_D A0 ((wx ++ g u) ++ wr) → va_S A0 H0 H1 locs1 → W p l e Rm s m args below meth c H1 locs1 (cells + mc) (slots + ms) Q (F0 m (pc + 3) ls rest)) : W p l e Rm s m args below meth c H locs cells slots Q (F0 m pc ls st) := by
  have hP2 := hP.perm (new_perm wx wn wr)
  have hD2 := hD.perm (new_perm wx wn wr)
  exact va_callv (va_runI S0 hM cw ⟨PRE_blind, pre_ok hE hP2 hD2⟩ rfl hn hsize hst hW hdg hf) hS (fun q _ h => vaA_sub hD2 hS hA q h) (vaA_sub hD2 hS hA) (fun u t H1 locs1 ht hvm hw hB hz1 hk1 hS1 => by
    obtain ⟨hP1, hD1⟩ := bw_ok hD2 hS hA ht hB
    exact kk u H1 locs1 (hP1.perm (new_perm wx (g u) wr).symm) (hD1.perm (new_perm wx (g u) wr).symm) hS1)
end CTOR
set_option maxHeartbeats 4000000 in
set_option maxRecDepth 100000 in
/-- Arrays.fill(int[], int), in any world -/
theorem m_fill (l : Launch) {D : va_G} {ca : Nat → ClassId} {sl : List (String × Nat × String)} {w : va_W} {k : Nat} {v : Int32} {a n : Nat} {f : Nat → Int32} {sz : Nat} (hk : w[k]? = some (a, .inl (ca 0, n, .inl f))) (hn : n ≤ 100000) :
    Met l yJ7_fill_53178 (wm yJ7_fill_53178 cJ7_fill_53178 4 none) ({ frames := 0, cells := 0, slots := 0, locals := 0 } : Room) (PRE [.ref a, .int v] D ca sl w sz) (QV D (w.set k (a, .inl (ca 0, n, .inl (fun j => if j < n then v else f j)))) w sz) 0 0 (va_A w sz) := by
  refine Met.ofW (cc := cJ7_fill_53178) (maxL := 4) (ret := none) (by decide) rfl ?_
  intro p e s m args below meth c s₁ B hml hv
  obtain ⟨rfl, rfl, hP, hE, hD0⟩ := hv
  have hx := B.exec
  have hb := B.bytes
  have hr := B.returns
  have hts := wm_ww (atoms_spec (ws := wm yJ7_fill_53178 cJ7_fill_53178 4 none) B.pre)
  have hlocks := B.notSynchronized
  have hK := hE.1
  have hD := hD0.self (sz := s.heap.size)
  generalize hAe : va_A w s.heap.size = A at hD ⊢
  have hA : ∀ q : Nat, s.heap.size ≤ q → A q := fun q h => by rw [← hAe]; exact Or.inr h
  have hS : va_S A s.heap s.heap [] := va_S.rf
  have hl := lv_entry ([.ref a, .int v]) (n := 4) (Nat.le_of_ble_eq_true rfl)
  rw [lg_entry_eq]
  generalize (lg_sl ([.ref a, .int v]) ++ List.replicate (4 - (lg_sl ([.ref a, .int v])).length) Slot.unset).toArray = ls at hl ⊢
  have hl : lv_has ls 4 [(0, .ref a), (1, .int v)] := hl
  change W p l e ({ frames := 0, cells := 0, slots := 0, locals := 0 } : Room) s m _ below meth c s.heap [] 0 0 _ _
  generalize hQm : MQ below (QV D (w.set k (a, .inl (ca 0, n, .inl (fun j => if j < n then v else f j)))) w s.heap.size) _ s 0 0 A = Qm
  generalize hae : ([.ref a, .int v] : List Value).toArray = args at hts hQm ⊢
  have hkl : k < w.length := (List.getElem?_eq_some_iff.mp hk).1
  have L5 : ∀ (t i : Nat), i + t = n → ∀ (H : Heap) (locs : List Loc) (ls : Array Slot), va_P D vwCl (w.set k (a, .inl (ca 0, n, .inl (fun j => if j < i then v else f j)))) H → va_D A (w.set k (a, .inl (ca 0, n, .inl (fun j => if j < i then v else f j)))) → va_S A s.heap H locs → lv_has ls 4 [(0, .ref a), (1, .int v), (2, .int (nI i)), (3, .int (nI n))] → W p l e ({ frames := 0, cells := 0, slots := 0, locals := 0 } : Room) s m args below meth c H locs 0 0 Qm (F0 m 5 ls []) := by
    intro t
    induction t with
    | zero =>
      intro i hi H locs ls hP hD hS hl
      have e : i = n := by omega
      subst e
      refine lv_iload_n hx hb dJ7_fill_53178_5 rfl (lv_at hl 2 rfl) ?_
      refine lv_iload_n hx hb dJ7_fill_53178_6 rfl (lv_at hl 3 rfl) ?_
      refine lv_icmp_ge (tgt := 20) hx hb dJ7_fill_53178_7 (by decide) (fun c4 => ?_) (fun c4 => absurd (nI_le (Nat.le_refl i) (by omega)) c4)
      exact end_v hAe hQm hx hb hr hlocks hP hD hS dJ7_fill_53178_20
    | succ t ih =>
      intro i hi H locs ls hP hD hS hl
      refine lv_iload_n hx hb dJ7_fill_53178_5 rfl (lv_at hl 2 rfl) ?_
      refine lv_iload_n hx hb dJ7_fill_53178_6 rfl (lv_at hl 3 rfl) ?_
      refine lv_icmp_ge (tgt := 20) hx hb dJ7_fill_53178_7 (by decide) (fun c4 => absurd c4 (nI_ge (by omega) (by omega))) (fun c4 => ?_)
      refine lv_aload_n hx hb dJ7_fill_53178_10 rfl (lv_at hl 0 rfl) ?_
      refine lv_iload_n hx hb dJ7_fill_53178_11 rfl (lv_at hl 2 rfl) ?_
      refine lv_iload_n hx hb dJ7_fill_53178_12 rfl (lv_at hl 1 rfl) ?_
      refine va_iast (D := D) hx hb hK hP hD hS k 0 (by rw [List.getElem?_set_self hkl]) rfl (vp_in_nI (by omega) (by omega)) dJ7_fill_53178_13 (fun H locs hP hD hS => ?_)
      have ef : upd (fun j => if j < i then v else f j) (nI i).toNatClampNeg v = (fun j => if j < i + 1 then v else f j) := by
        rw [nI_clamp (by omega)]
        funext j
        unfold upd
        by_cases e1 : j = i
        · rw [if_pos e1, if_pos (by omega)]
        · rw [if_neg e1]
          show (if j < i then v else f j) = if j < i + 1 then v else f j
          by_cases e2 : j < i
          · rw [if_pos e2, if_pos (by omega)]
          · rw [if_neg e2, if_neg (by omega)]
      rw [List.set_set, ef] at hP hD
      refine lv_iinc (v := nI (i + 1)) (lv' := [(2, .int (nI (i + 1))), (0, .ref a), (1, .int v), (3, .int (nI n))]) hx hb dJ7_fill_53178_14 hl (k := 2) rfl (nI_1 i) (by decide) rfl (fun ls hl => ?_)
      refine lv_goto (tgt := 5) hx hb dJ7_fill_53178_17 (by decide) ?_
      exact ih (i + 1) (by omega) _ _ _ hP hD hS (lv_sub hl [1, 2, 0, 3] rfl)
  refine lv_iconst (v := 0) hx hb dJ7_fill_53178_0 (by decide) ?_
  refine lv_istore_n (lv' := [(2, .int 0), (0, .ref a), (1, .int v)]) hx hb dJ7_fill_53178_1 rfl hl (by decide) rfl (fun ls hl => ?_)
  refine lv_aload_n hx hb dJ7_fill_53178_2 rfl (lv_at hl 1 rfl) ?_
  refine va_alen (D := D) (v := nI n) hx hb hK hP k 0 hk rfl rfl dJ7_fill_53178_3 ?_
  refine lv_istore_n (lv' := [(3, .int (nI n)), (2, .int 0), (0, .ref a), (1, .int v)]) hx hb dJ7_fill_53178_4 rfl hl (by decide) rfl (fun ls hl => ?_)
  have e0 : w.set k (a, .inl (ca 0, n, .inl (fun j => if j < 0 then v else f j))) = w := by
    have ef : (fun j => if j < 0 then v else f j) = f := by
      funext j
      rw [if_neg (Nat.not_lt_zero j)]
    rw [ef]
    obtain ⟨h1, h2⟩ := List.getElem?_eq_some_iff.mp hk
    rw [← h2]
    exact List.set_getElem_self h1
  have hl : lv_has ls 4 [(3, .int (nI n)), (2, .int (nI 0)), (0, .ref a), (1, .int v)] := hl
  exact L5 n 0 (by omega) _ _ _ (by rw [e0]; exact hP) (by rw [e0]; exact hD) hS (lv_sub hl [2, 3, 1, 0] rfl)
abbrev GS (ca : Nat → ClassId) (h0 : Nat) (u : Nat → Nat) : va_W :=
  [(h0, .inr (6, [.int 0, .ref (u 1), .ref (u 2), .ref (u 3), .ref (u 4), .ref (u 5), .ref (u 6), .ref (u 7), .int 0])),
   ((u 1), .inl (ca 0, 40, .inl (fun _ => 0))),
   ((u 2), .inl (ca 0, 40, .inl (fun _ => 0))),
   ((u 3), .inl (ca 1, 40, .inl (fun _ => 0))),
   ((u 4), .inl (ca 0, 640, .inl (fun j => if j < 640 then ((-1) : Int32) else (fun _ => 0) j))),
   ((u 5), .inl (ca 0, 64, .inl (fun _ => 0))),
   ((u 6), .inl (ca 0, 64, .inl (fun _ => 0))),
   ((u 7), .inl (ca 0, 4, .inl (fun _ => 0)))]
set_option maxHeartbeats 4000000 in
set_option maxRecDepth 100000 in
theorem c_X2_init (l : Launch) {D : va_G} {ca : Nat → ClassId} {sl : List (String × Nat × String)} (h0 : Nat) (R : va_W) (sz : Nat) : Met l yX2_init (wm yX2_init cX2_init 1 none) ({ frames := 1, cells := 7, slots := 892, locals := 23 } : Room) (PRE [.ref h0] D ca sl ([(h0, .inr (6, [.int 0, .null, .null, .null, .null, .null, .null, .null, .int 0]))] ++ R) sz) (QU (fun u => GS ca h0 u ++ R) D ([(h0, .inr (6, [.int 0, .null, .null, .null, .null, .null, .null, .null, .int 0]))] ++ R) sz) 7 892 (va_A ([(h0, .inr (6, [.int 0, .null, .null, .null, .null, .null, .null, .null, .int 0]))] ++ R) sz) := by
  refine Met.ofW (cc := cX2_init) (maxL := 1) (ret := none) (by decide) rfl ?_
  intro p e s m args below meth c s₁ B hml hv
  obtain ⟨rfl, rfl, hP, hE, hD0⟩ := hv
  have hx := B.exec
  have hb := B.bytes
  have hr := B.returns
  have hts := wm_ww (atoms_spec (ws := wm yX2_init cX2_init 1 none) B.pre)
  have hown : s.vm.findClass RX2 = some m.cls := findClass_of_methodNamed B.named
  have hlocks := B.notSynchronized
  have hin : meth.name = "<init>" := (name_of_methodNamed B.named B.method).1
  have hK := hE.1
  have hD := hD0.self (sz := s.heap.size)
  generalize hAe : va_A ([(h0, .inr (6, [.int 0, .null, .null, .null, .null, .null, .null, .null, .int 0]))] ++ R) s.heap.size = A at hD ⊢
  have hA : ∀ q : Nat, s.heap.size ≤ q → A q := fun q h => by rw [← hAe]; exact Or.inr h
  have hS : va_S A s.heap s.heap [] := va_S.rf
  have hl := lv_entry ([.ref h0]) (n := 1) (Nat.le_of_ble_eq_true rfl)
  rw [lg_entry_eq]
  generalize (lg_sl ([.ref h0]) ++ List.replicate (1 - (lg_sl ([.ref h0])).length) Slot.unset).toArray = ls at hl ⊢
  have hl : lv_has ls 1 [(0, .ref h0)] := hl
  change W p l e ({ frames := 1, cells := 7, slots := 892, locals := 23 } : Room) s m _ below meth c s.heap [] 0 0 _ _
  refine lv_aload_n hx hb dX2_init_0 rfl (lv_at hl 0 rfl) ?_
  refine W.objInit hx hb hown (hts _ q64) (hts _ q57) (hts _ q58) rfl (by rw [hml]; exact hl.1) rfl dX2_init_1 (Nat.le_of_ble_eq_true rfl) (Nat.le_of_ble_eq_true rfl) ?_
  refine W.eq (g2 := F0 m 4 ls []) rfl ?_
  refine lv_aload_n hx hb dX2_init_4 rfl (lv_at hl 0 rfl) ?_
  refine lv_iconst (v := 0) hx hb dX2_init_5 (by decide) ?_
  refine va_put (D := D) (ci := 6) (v := .int 0) (ty := .int) (C := RX2) (T := TX2) (N := 9) hx hb hts inX2 tyX2 tyX2_ok nmX2 hown hK hP hD hS 0 rfl rfl 0 (by decide) (hts _ q68) (fun _ h9 => h9) rfl (by decide +kernel) rfl rfl (Nat.le_of_ble_eq_true rfl) dX2_init_6 (fun H locs hP hD hS => ?_)
  have hP : va_P D vwCl ([(h0, .inr (6, [.int 0, .null, .null, .null, .null, .null, .null, .null, .int 0]))] ++ R) H := hP
  have hD : va_D A ([(h0, .inr (6, [.int 0, .null, .null, .null, .null, .null, .null, .null, .int 0]))] ++ R) := hD
  refine lv_aload_n hx hb dX2_init_9 rfl (lv_at hl 0 rfl) ?_
  refine lv_bipush (v := 40) hx hb dX2_init_10 (by decide) ?_
  refine va_newa (D := D) (atype := .int) (N' := 40) (a0 := (40, .inl (fun _ => 0))) hx hb (hts _ q96) rfl hK hP hD hS hA (fun _ => rfl) (by decide) rfl (Nat.le_of_ble_eq_true rfl) (Nat.le_of_ble_eq_true rfl) (Nat.le_of_ble_eq_true rfl) dX2_init_12 (fun q1 cA H hK9 hP hD hS => ?_)
  obtain rfl := va_same hK9 0 rfl
  replace hP := va_P.swap hP
  replace hD := va_D.swap hD
  have hP : va_P D vwCl ([(h0, .inr (6, [.int 0, .null, .null, .null, .null, .null, .null, .null, .int 0])), (q1, .inl (ca 0, 40, .inl (fun _ => 0)))] ++ R) H := hP
  have hD : va_D A ([(h0, .inr (6, [.int 0, .null, .null, .null, .null, .null, .null, .null, .int 0])), (q1, .inl (ca 0, 40, .inl (fun _ => 0)))] ++ R) := hD
  refine va_putF (D := D) (ci := 6) (v := .ref q1) (ty := (.array .int)) (C := RX2) (T := TX2) (N := 9) hx hb hts inX2 tyX2 tyX2_ok nmX2 hown hK hP hD hS 0 rfl rfl 1 (by decide) (hts _ q69) (fun _ h9 => h9) rfl hin rfl (by decide +kernel) rfl rfl (Nat.le_of_ble_eq_true rfl) dX2_init_14 (fun H locs hP hD hS => ?_)
  have hP : va_P D vwCl ([(h0, .inr (6, [.int 0, .ref q1, .null, .null, .null, .null, .null, .null, .int 0])), (q1, .inl (ca 0, 40, .inl (fun _ => 0)))] ++ R) H := hP
  have hD : va_D A ([(h0, .inr (6, [.int 0, .ref q1, .null, .null, .null, .null, .null, .null, .int 0])), (q1, .inl (ca 0, 40, .inl (fun _ => 0)))] ++ R) := hD
  refine lv_aload_n hx hb dX2_init_17 rfl (lv_at hl 0 rfl) ?_
  refine lv_bipush (v := 40) hx hb dX2_init_18 (by decide) ?_
  refine va_newa (D := D) (atype := .int) (N' := 40) (a0 := (40, .inl (fun _ => 0))) hx hb (hts _ q96) rfl hK hP hD hS hA (fun _ => rfl) (by decide) rfl (Nat.le_of_ble_eq_true rfl) (Nat.le_of_ble_eq_true rfl) (Nat.le_of_ble_eq_true rfl) dX2_init_20 (fun q2 cA H hK9 hP hD hS => ?_)
  obtain rfl := va_same hK9 0 rfl
  replace hP := va_P.swap hP
  replace hD := va_D.swap hD
  have hP : va_P D vwCl ([(h0, .inr (6, [.int 0, .ref q1, .null, .null, .null, .null, .null, .null, .int 0])), (q1, .inl (ca 0, 40, .inl (fun _ => 0))), (q2, .inl (ca 0, 40, .inl (fun _ => 0)))] ++ R) H := hP
  have hD : va_D A ([(h0, .inr (6, [.int 0, .ref q1, .null, .null, .null, .null, .null, .null, .int 0])), (q1, .inl (ca 0, 40, .inl (fun _ => 0))), (q2, .inl (ca 0, 40, .inl (fun _ => 0)))] ++ R) := hD
  refine va_putF (D := D) (ci := 6) (v := .ref q2) (ty := (.array .int)) (C := RX2) (T := TX2) (N := 9) hx hb hts inX2 tyX2 tyX2_ok nmX2 hown hK hP hD hS 0 rfl rfl 2 (by decide) (hts _ q70) (fun _ h9 => h9) rfl hin rfl (by decide +kernel) rfl rfl (Nat.le_of_ble_eq_true rfl) dX2_init_22 (fun H locs hP hD hS => ?_)
  have hP : va_P D vwCl ([(h0, .inr (6, [.int 0, .ref q1, .ref q2, .null, .null, .null, .null, .null, .int 0])), (q1, .inl (ca 0, 40, .inl (fun _ => 0))), (q2, .inl (ca 0, 40, .inl (fun _ => 0)))] ++ R) H := hP
  have hD : va_D A ([(h0, .inr (6, [.int 0, .ref q1, .ref q2, .null, .null, .null, .null, .null, .int 0])), (q1, .inl (ca 0, 40, .inl (fun _ => 0))), (q2, .inl (ca 0, 40, .inl (fun _ => 0)))] ++ R) := hD
  refine lv_aload_n hx hb dX2_init_25 rfl (lv_at hl 0 rfl) ?_
  refine lv_bipush (v := 40) hx hb dX2_init_26 (by decide) ?_
  refine va_newa (D := D) (atype := .boolean) (N' := 40) (a0 := (40, .inl (fun _ => 0))) hx hb (hts _ q97) rfl hK hP hD hS hA (fun _ => rfl) (by decide) rfl (Nat.le_of_ble_eq_true rfl) (Nat.le_of_ble_eq_true rfl) (Nat.le_of_ble_eq_true rfl) dX2_init_28 (fun q3 cA H hK9 hP hD hS => ?_)
  obtain rfl := va_same hK9 1 rfl
  replace hP := va_P.swap hP
  replace hD := va_D.swap hD
  have hP : va_P D vwCl ([(h0, .inr (6, [.int 0, .ref q1, .ref q2, .null, .null, .null, .null, .null, .int 0])), (q1, .inl (ca 0, 40, .inl (fun _ => 0))), (q2, .inl (ca 0, 40, .inl (fun _ => 0))), (q3, .inl (ca 1, 40, .inl (fun _ => 0)))] ++ R) H := hP
  have hD : va_D A ([(h0, .inr (6, [.int 0, .ref q1, .ref q2, .null, .null, .null, .null, .null, .int 0])), (q1, .inl (ca 0, 40, .inl (fun _ => 0))), (q2, .inl (ca 0, 40, .inl (fun _ => 0))), (q3, .inl (ca 1, 40, .inl (fun _ => 0)))] ++ R) := hD
  refine va_putF (D := D) (ci := 6) (v := .ref q3) (ty := (.array .boolean)) (C := RX2) (T := TX2) (N := 9) hx hb hts inX2 tyX2 tyX2_ok nmX2 hown hK hP hD hS 0 rfl rfl 3 (by decide) (hts _ q71) (fun _ h9 => h9) rfl hin rfl (by decide +kernel) rfl rfl (Nat.le_of_ble_eq_true rfl) dX2_init_30 (fun H locs hP hD hS => ?_)
  have hP : va_P D vwCl ([(h0, .inr (6, [.int 0, .ref q1, .ref q2, .ref q3, .null, .null, .null, .null, .int 0])), (q1, .inl (ca 0, 40, .inl (fun _ => 0))), (q2, .inl (ca 0, 40, .inl (fun _ => 0))), (q3, .inl (ca 1, 40, .inl (fun _ => 0)))] ++ R) H := hP
  have hD : va_D A ([(h0, .inr (6, [.int 0, .ref q1, .ref q2, .ref q3, .null, .null, .null, .null, .int 0])), (q1, .inl (ca 0, 40, .inl (fun _ => 0))), (q2, .inl (ca 0, 40, .inl (fun _ => 0))), (q3, .inl (ca 1, 40, .inl (fun _ => 0)))] ++ R) := hD
  refine lv_aload_n hx hb dX2_init_33 rfl (lv_at hl 0 rfl) ?_
  refine lv_sipush (v := 640) hx hb dX2_init_34 (by decide) ?_
  refine va_newa (D := D) (atype := .int) (N' := 640) (a0 := (640, .inl (fun _ => 0))) hx hb (hts _ q96) rfl hK hP hD hS hA (fun _ => rfl) (by decide) rfl (Nat.le_of_ble_eq_true rfl) (Nat.le_of_ble_eq_true rfl) (Nat.le_of_ble_eq_true rfl) dX2_init_37 (fun q4 cA H hK9 hP hD hS => ?_)
  obtain rfl := va_same hK9 0 rfl
  replace hP := va_P.swap hP
  replace hD := va_D.swap hD
  have hP : va_P D vwCl ([(h0, .inr (6, [.int 0, .ref q1, .ref q2, .ref q3, .null, .null, .null, .null, .int 0])), (q1, .inl (ca 0, 40, .inl (fun _ => 0))), (q2, .inl (ca 0, 40, .inl (fun _ => 0))), (q3, .inl (ca 1, 40, .inl (fun _ => 0))), (q4, .inl (ca 0, 640, .inl (fun _ => 0)))] ++ R) H := hP
  have hD : va_D A ([(h0, .inr (6, [.int 0, .ref q1, .ref q2, .ref q3, .null, .null, .null, .null, .int 0])), (q1, .inl (ca 0, 40, .inl (fun _ => 0))), (q2, .inl (ca 0, 40, .inl (fun _ => 0))), (q3, .inl (ca 1, 40, .inl (fun _ => 0))), (q4, .inl (ca 0, 640, .inl (fun _ => 0)))] ++ R) := hD
  refine va_putF (D := D) (ci := 6) (v := .ref q4) (ty := (.array .int)) (C := RX2) (T := TX2) (N := 9) hx hb hts inX2 tyX2 tyX2_ok nmX2 hown hK hP hD hS 0 rfl rfl 4 (by decide) (hts _ q72) (fun _ h9 => h9) rfl hin rfl (by decide +kernel) rfl rfl (Nat.le_of_ble_eq_true rfl) dX2_init_39 (fun H locs hP hD hS => ?_)
  have hP : va_P D vwCl ([(h0, .inr (6, [.int 0, .ref q1, .ref q2, .ref q3, .ref q4, .null, .null, .null, .int 0])), (q1, .inl (ca 0, 40, .inl (fun _ => 0))), (q2, .inl (ca 0, 40, .inl (fun _ => 0))), (q3, .inl (ca 1, 40, .inl (fun _ => 0))), (q4, .inl (ca 0, 640, .inl (fun _ => 0)))] ++ R) H := hP
  have hD : va_D A ([(h0, .inr (6, [.int 0, .ref q1, .ref q2, .ref q3, .ref q4, .null, .null, .null, .int 0])), (q1, .inl (ca 0, 40, .inl (fun _ => 0))), (q2, .inl (ca 0, 40, .inl (fun _ => 0))), (q3, .inl (ca 1, 40, .inl (fun _ => 0))), (q4, .inl (ca 0, 640, .inl (fun _ => 0)))] ++ R) := hD
  refine lv_aload_n hx hb dX2_init_42 rfl (lv_at hl 0 rfl) ?_
  refine va_get (D := D) (ci := 6) (v := .ref q4) (C := RX2) (T := TX2) (N := 9) hx hb hts inX2 hown hK hP 0 rfl rfl 4 (by decide) (hts _ q72) (fun _ h9 => h9) rfl dX2_init_43 ?_
  refine lv_iconst (v := (-1)) hx hb dX2_init_46 (by decide) ?_
  refine call_sv (rest := []) (m_fill l (w := [(h0, .inr (6, [.int 0, .ref q1, .ref q2, .ref q3, .ref q4, .null, .null, .null, .int 0])), (q1, .inl (ca 0, 40, .inl (fun _ => 0))), (q2, .inl (ca 0, 40, .inl (fun _ => 0))), (q3, .inl (ca 1, 40, .inl (fun _ => 0))), (q4, .inl (ca 0, 640, .inl (fun _ => 0)))] ++ R) (k := 4) (v := (-1)) (ca := ca) (sl := sl) rfl (Nat.le_of_ble_eq_true rfl)) ⟨hx, hb, hml, hown, hts⟩ (va_cwS 2 hts (gS q65 q66 q26 q67) rfl rfl rfl (by decide +kernel) ⟨Nat.le_of_ble_eq_true rfl, Nat.le_of_ble_eq_true rfl⟩) hE hP hD hS hA rfl hl.1 rfl (lv_room (Nat.le_of_ble_eq_true rfl)) dX2_init_47 ⟨Nat.le_of_ble_eq_true rfl, Nat.le_of_ble_eq_true rfl⟩ (fun H locs hP hD hS => ?_)
  have hP : va_P D vwCl ([(h0, .inr (6, [.int 0, .ref q1, .ref q2, .ref q3, .ref q4, .null, .null, .null, .int 0])), (q1, .inl (ca 0, 40, .inl (fun _ => 0))), (q2, .inl (ca 0, 40, .inl (fun _ => 0))), (q3, .inl (ca 1, 40, .inl (fun _ => 0))), (q4, .inl (ca 0, 640, .inl (fun j => if j < 640 then ((-1) : Int32) else (fun _ => 0) j)))] ++ R) H := hP
  have hD : va_D A ([(h0, .inr (6, [.int 0, .ref q1, .ref q2, .ref q3, .ref q4, .null, .null, .null, .int 0])), (q1, .inl (ca 0, 40, .inl (fun _ => 0))), (q2, .inl (ca 0, 40, .inl (fun _ => 0))), (q3, .inl (ca 1, 40, .inl (fun _ => 0))), (q4, .inl (ca 0, 640, .inl (fun j => if j < 640 then ((-1) : Int32) else (fun _ => 0) j)))] ++ R) := hD
  refine lv_aload_n hx hb dX2_init_50 rfl (lv_at hl 0 rfl) ?_
  refine lv_bipush (v := 64) hx hb dX2_init_51 (by decide) ?_
  refine va_newa (D := D) (atype := .int) (N' := 64) (a0 := (64, .inl (fun _ => 0))) hx hb (hts _ q96) rfl hK hP hD hS hA (fun _ => rfl) (by decide) rfl (Nat.le_of_ble_eq_true rfl) (Nat.le_of_ble_eq_true rfl) (Nat.le_of_ble_eq_true rfl) dX2_init_53 (fun q5 cA H hK9 hP hD hS => ?_)
  obtain rfl := va_same hK9 0 rfl
  replace hP := va_P.swap hP
  replace hD := va_D.swap hD
  have hP : va_P D vwCl ([(h0, .inr (6, [.int 0, .ref q1, .ref q2, .ref q3, .ref q4, .null, .null, .null, .int 0])), (q1, .inl (ca 0, 40, .inl (fun _ => 0))), (q2, .inl (ca 0, 40, .inl (fun _ => 0))), (q3, .inl (ca 1, 40, .inl (fun _ => 0))), (q4, .inl (ca 0, 640, .inl (fun j => if j < 640 then ((-1) : Int32) else (fun _ => 0) j))), (q5, .inl (ca 0, 64, .inl (fun _ => 0)))] ++ R) H := hP
  have hD : va_D A ([(h0, .inr (6, [.int 0, .ref q1, .ref q2, .ref q3, .ref q4, .null, .null, .null, .int 0])), (q1, .inl (ca 0, 40, .inl (fun _ => 0))), (q2, .inl (ca 0, 40, .inl (fun _ => 0))), (q3, .inl (ca 1, 40, .inl (fun _ => 0))), (q4, .inl (ca 0, 640, .inl (fun j => if j < 640 then ((-1) : Int32) else (fun _ => 0) j))), (q5, .inl (ca 0, 64, .inl (fun _ => 0)))] ++ R) := hD
  refine va_putF (D := D) (ci := 6) (v := .ref q5) (ty := (.array .int)) (C := RX2) (T := TX2) (N := 9) hx hb hts inX2 tyX2 tyX2_ok nmX2 hown hK hP hD hS 0 rfl rfl 5 (by decide) (hts _ q73) (fun _ h9 => h9) rfl hin rfl (by decide +kernel) rfl rfl (Nat.le_of_ble_eq_true rfl) dX2_init_55 (fun H locs hP hD hS => ?_)
  have hP : va_P D vwCl ([(h0, .inr (6, [.int 0, .ref q1, .ref q2, .ref q3, .ref q4, .ref q5, .null, .null, .int 0])), (q1, .inl (ca 0, 40, .inl (fun _ => 0))), (q2, .inl (ca 0, 40, .inl (fun _ => 0))), (q3, .inl (ca 1, 40, .inl (fun _ => 0))), (q4, .inl (ca 0, 640, .inl (fun j => if j < 640 then ((-1) : Int32) else (fun _ => 0) j))), (q5, .inl (ca 0, 64, .inl (fun _ => 0)))] ++ R) H := hP
  have hD : va_D A ([(h0, .inr (6, [.int 0, .ref q1, .ref q2, .ref q3, .ref q4, .ref q5, .null, .null, .int 0])), (q1, .inl (ca 0, 40, .inl (fun _ => 0))), (q2, .inl (ca 0, 40, .inl (fun _ => 0))), (q3, .inl (ca 1, 40, .inl (fun _ => 0))), (q4, .inl (ca 0, 640, .inl (fun j => if j < 640 then ((-1) : Int32) else (fun _ => 0) j))), (q5, .inl (ca 0, 64, .inl (fun _ => 0)))] ++ R) := hD
  refine lv_aload_n hx hb dX2_init_58 rfl (lv_at hl 0 rfl) ?_
  refine lv_bipush (v := 64) hx hb dX2_init_59 (by decide) ?_
  refine va_newa (D := D) (atype := .int) (N' := 64) (a0 := (64, .inl (fun _ => 0))) hx hb (hts _ q96) rfl hK hP hD hS hA (fun _ => rfl) (by decide) rfl (Nat.le_of_ble_eq_true rfl) (Nat.le_of_ble_eq_true rfl) (Nat.le_of_ble_eq_true rfl) dX2_init_61 (fun q6 cA H hK9 hP hD hS => ?_)
  obtain rfl := va_same hK9 0 rfl
  replace hP := va_P.swap hP
  replace hD := va_D.swap hD
  have hP : va_P D vwCl ([(h0, .inr (6, [.int 0, .ref q1, .ref q2, .ref q3, .ref q4, .ref q5, .null, .null, .int 0])), (q1, .inl (ca 0, 40, .inl (fun _ => 0))), (q2, .inl (ca 0, 40, .inl (fun _ => 0))), (q3, .inl (ca 1, 40, .inl (fun _ => 0))), (q4, .inl (ca 0, 640, .inl (fun j => if j < 640 then ((-1) : Int32) else (fun _ => 0) j))), (q5, .inl (ca 0, 64, .inl (fun _ => 0))), (q6, .inl (ca 0, 64, .inl (fun _ => 0)))] ++ R) H := hP
  have hD : va_D A ([(h0, .inr (6, [.int 0, .ref q1, .ref q2, .ref q3, .ref q4, .ref q5, .null, .null, .int 0])), (q1, .inl (ca 0, 40, .inl (fun _ => 0))), (q2, .inl (ca 0, 40, .inl (fun _ => 0))), (q3, .inl (ca 1, 40, .inl (fun _ => 0))), (q4, .inl (ca 0, 640, .inl (fun j => if j < 640 then ((-1) : Int32) else (fun _ => 0) j))), (q5, .inl (ca 0, 64, .inl (fun _ => 0))), (q6, .inl (ca 0, 64, .inl (fun _ => 0)))] ++ R) := hD
  refine va_putF (D := D) (ci := 6) (v := .ref q6) (ty := (.array .int)) (C := RX2) (T := TX2) (N := 9) hx hb hts inX2 tyX2 tyX2_ok nmX2 hown hK hP hD hS 0 rfl rfl 6 (by decide) (hts _ q74) (fun _ h9 => h9) rfl hin rfl (by decide +kernel) rfl rfl (Nat.le_of_ble_eq_true rfl) dX2_init_63 (fun H locs hP hD hS => ?_)
  have hP : va_P D vwCl ([(h0, .inr (6, [.int 0, .ref q1, .ref q2, .ref q3, .ref q4, .ref q5, .ref q6, .null, .int 0])), (q1, .inl (ca 0, 40, .inl (fun _ => 0))), (q2, .inl (ca 0, 40, .inl (fun _ => 0))), (q3, .inl (ca 1, 40, .inl (fun _ => 0))), (q4, .inl (ca 0, 640, .inl (fun j => if j < 640 then ((-1) : Int32) else (fun _ => 0) j))), (q5, .inl (ca 0, 64, .inl (fun _ => 0))), (q6, .inl (ca 0, 64, .inl (fun _ => 0)))] ++ R) H := hP
  have hD : va_D A ([(h0, .inr (6, [.int 0, .ref q1, .ref q2, .ref q3, .ref q4, .ref q5, .ref q6, .null, .int 0])), (q1, .inl (ca 0, 40, .inl (fun _ => 0))), (q2, .inl (ca 0, 40, .inl (fun _ => 0))), (q3, .inl (ca 1, 40, .inl (fun _ => 0))), (q4, .inl (ca 0, 640, .inl (fun j => if j < 640 then ((-1) : Int32) else (fun _ => 0) j))), (q5, .inl (ca 0, 64, .inl (fun _ => 0))), (q6, .inl (ca 0, 64, .inl (fun _ => 0)))] ++ R) := hD
  refine lv_aload_n hx hb dX2_init_66 rfl (lv_at hl 0 rfl) ?_
  refine lv_iconst (v := 4) hx hb dX2_init_67 (by decide) ?_
  refine va_newa (D := D) (atype := .int) (N' := 4) (a0 := (4, .inl (fun _ => 0))) hx hb (hts _ q96) rfl hK hP hD hS hA (fun _ => rfl) (by decide) rfl (Nat.le_of_ble_eq_true rfl) (Nat.le_of_ble_eq_true rfl) (Nat.le_of_ble_eq_true rfl) dX2_init_68 (fun q7 cA H hK9 hP hD hS => ?_)
  obtain rfl := va_same hK9 0 rfl
  replace hP := va_P.swap hP
  replace hD := va_D.swap hD
  have hP : va_P D vwCl ([(h0, .inr (6, [.int 0, .ref q1, .ref q2, .ref q3, .ref q4, .ref q5, .ref q6, .null, .int 0])), (q1, .inl (ca 0, 40, .inl (fun _ => 0))), (q2, .inl (ca 0, 40, .inl (fun _ => 0))), (q3, .inl (ca 1, 40, .inl (fun _ => 0))), (q4, .inl (ca 0, 640, .inl (fun j => if j < 640 then ((-1) : Int32) else (fun _ => 0) j))), (q5, .inl (ca 0, 64, .inl (fun _ => 0))), (q6, .inl (ca 0, 64, .inl (fun _ => 0))), (q7, .inl (ca 0, 4, .inl (fun _ => 0)))] ++ R) H := hP
  have hD : va_D A ([(h0, .inr (6, [.int 0, .ref q1, .ref q2, .ref q3, .ref q4, .ref q5, .ref q6, .null, .int 0])), (q1, .inl (ca 0, 40, .inl (fun _ => 0))), (q2, .inl (ca 0, 40, .inl (fun _ => 0))), (q3, .inl (ca 1, 40, .inl (fun _ => 0))), (q4, .inl (ca 0, 640, .inl (fun j => if j < 640 then ((-1) : Int32) else (fun _ => 0) j))), (q5, .inl (ca 0, 64, .inl (fun _ => 0))), (q6, .inl (ca 0, 64, .inl (fun _ => 0))), (q7, .inl (ca 0, 4, .inl (fun _ => 0)))] ++ R) := hD
  refine va_putF (D := D) (ci := 6) (v := .ref q7) (ty := (.array .int)) (C := RX2) (T := TX2) (N := 9) hx hb hts inX2 tyX2 tyX2_ok nmX2 hown hK hP hD hS 0 rfl rfl 7 (by decide) (hts _ q75) (fun _ h9 => h9) rfl hin rfl (by decide +kernel) rfl rfl (Nat.le_of_ble_eq_true rfl) dX2_init_70 (fun H locs hP hD hS => ?_)
  have hP : va_P D vwCl ([(h0, .inr (6, [.int 0, .ref q1, .ref q2, .ref q3, .ref q4, .ref q5, .ref q6, .ref q7, .int 0])), (q1, .inl (ca 0, 40, .inl (fun _ => 0))), (q2, .inl (ca 0, 40, .inl (fun _ => 0))), (q3, .inl (ca 1, 40, .inl (fun _ => 0))), (q4, .inl (ca 0, 640, .inl (fun j => if j < 640 then ((-1) : Int32) else (fun _ => 0) j))), (q5, .inl (ca 0, 64, .inl (fun _ => 0))), (q6, .inl (ca 0, 64, .inl (fun _ => 0))), (q7, .inl (ca 0, 4, .inl (fun _ => 0)))] ++ R) H := hP
  have hD : va_D A ([(h0, .inr (6, [.int 0, .ref q1, .ref q2, .ref q3, .ref q4, .ref q5, .ref q6, .ref q7, .int 0])), (q1, .inl (ca 0, 40, .inl (fun _ => 0))), (q2, .inl (ca 0, 40, .inl (fun _ => 0))), (q3, .inl (ca 1, 40, .inl (fun _ => 0))), (q4, .inl (ca 0, 640, .inl (fun j => if j < 640 then ((-1) : Int32) else (fun _ => 0) j))), (q5, .inl (ca 0, 64, .inl (fun _ => 0))), (q6, .inl (ca 0, 64, .inl (fun _ => 0))), (q7, .inl (ca 0, 4, .inl (fun _ => 0)))] ++ R) := hD
  refine lv_aload_n hx hb dX2_init_73 rfl (lv_at hl 0 rfl) ?_
  refine lv_iconst (v := 0) hx hb dX2_init_74 (by decide) ?_
  refine va_put (D := D) (ci := 6) (v := .int 0) (ty := .int) (C := RX2) (T := TX2) (N := 9) hx hb hts inX2 tyX2 tyX2_ok nmX2 hown hK hP hD hS 0 rfl rfl 8 (by decide) (hts _ q76) (fun _ h9 => h9) rfl (by decide +kernel) rfl rfl (Nat.le_of_ble_eq_true rfl) dX2_init_75 (fun H locs hP hD hS => ?_)
  have hP : va_P D vwCl ([(h0, .inr (6, [.int 0, .ref q1, .ref q2, .ref q3, .ref q4, .ref q5, .ref q6, .ref q7, .int 0])), (q1, .inl (ca 0, 40, .inl (fun _ => 0))), (q2, .inl (ca 0, 40, .inl (fun _ => 0))), (q3, .inl (ca 1, 40, .inl (fun _ => 0))), (q4, .inl (ca 0, 640, .inl (fun j => if j < 640 then ((-1) : Int32) else (fun _ => 0) j))), (q5, .inl (ca 0, 64, .inl (fun _ => 0))), (q6, .inl (ca 0, 64, .inl (fun _ => 0))), (q7, .inl (ca 0, 4, .inl (fun _ => 0)))] ++ R) H := hP
  have hD : va_D A ([(h0, .inr (6, [.int 0, .ref q1, .ref q2, .ref q3, .ref q4, .ref q5, .ref q6, .ref q7, .int 0])), (q1, .inl (ca 0, 40, .inl (fun _ => 0))), (q2, .inl (ca 0, 40, .inl (fun _ => 0))), (q3, .inl (ca 1, 40, .inl (fun _ => 0))), (q4, .inl (ca 0, 640, .inl (fun j => if j < 640 then ((-1) : Int32) else (fun _ => 0) j))), (q5, .inl (ca 0, 64, .inl (fun _ => 0))), (q6, .inl (ca 0, 64, .inl (fun _ => 0))), (q7, .inl (ca 0, 4, .inl (fun _ => 0)))] ++ R) := hD
  exact endu_v (fun k => ([0, q1, q2, q3, q4, q5, q6, q7] : List Nat).getD k 0) hAe hx hb hr hlocks hP hD hS dX2_init_78 (Nat.le_of_ble_eq_true rfl) (Nat.le_of_ble_eq_true rfl)
abbrev GP (ca : Nat → ClassId) (h0 : Nat) (u : Nat → Nat) : va_W :=
  [(h0, .inr (5, [.int 0, .int 0, .ref (u 1), .ref (u 2), .ref (u 3), .ref (u 4), .ref (u 5)])),
   ((u 1), .inl (ca 0, 30, .inl (fun _ => 0))),
   ((u 2), .inl (ca 0, 30, .inl (fun j => if j < 30 then ((-1) : Int32) else (fun _ => 0) j))),
   ((u 3), .inl (ca 1, 8, .inl (fun _ => 0))),
   ((u 4), .inl (ca 1, 320, .inl (fun _ => 0))),
   ((u 5), .inl (ca 4, 8, .inr (.inr (.inr (.inr (fun i => some (u (6 + i)))))))),
   ((u 6), .inl (ca 0, 640, .inl (fun _ => 0))),
   ((u 7), .inl (ca 0, 640, .inl (fun _ => 0))),
   ((u 8), .inl (ca 0, 640, .inl (fun _ => 0))),
   ((u 9), .inl (ca 0, 640, .inl (fun _ => 0))),
   ((u 10), .inl (ca 0, 640, .inl (fun _ => 0))),
   ((u 11), .inl (ca 0, 640, .inl (fun _ => 0))),
   ((u 12), .inl (ca 0, 640, .inl (fun _ => 0))),
   ((u 13), .inl (ca 0, 640, .inl (fun _ => 0)))]
set_option maxHeartbeats 4000000 in
set_option maxRecDepth 100000 in
theorem c_X1_init (l : Launch) {D : va_G} {ca : Nat → ClassId} {sl : List (String × Nat × String)} (h0 : Nat) (R : va_W) (sz : Nat) : Met l yX1_init (wm yX1_init cX1_init 1 none) ({ frames := 1, cells := 13, slots := 5516, locals := 23 } : Room) (PRE [.ref h0] D ca sl ([(h0, .inr (5, [.int 0, .int 0, .null, .null, .null, .null, .null]))] ++ R) sz) (QU (fun u => GP ca h0 u ++ R) D ([(h0, .inr (5, [.int 0, .int 0, .null, .null, .null, .null, .null]))] ++ R) sz) 13 5516 (va_A ([(h0, .inr (5, [.int 0, .int 0, .null, .null, .null, .null, .null]))] ++ R) sz) := by
  refine Met.ofW (cc := cX1_init) (maxL := 1) (ret := none) (by decide) rfl ?_
  intro p e s m args below meth c s₁ B hml hv
  obtain ⟨rfl, rfl, hP, hE, hD0⟩ := hv
  have hx := B.exec
  have hb := B.bytes
  have hr := B.returns
  have hts := wm_ww (atoms_spec (ws := wm yX1_init cX1_init 1 none) B.pre)
  have hown : s.vm.findClass RX1 = some m.cls := findClass_of_methodNamed B.named
  have hlocks := B.notSynchronized
  have hin : meth.name = "<init>" := (name_of_methodNamed B.named B.method).1
  have hK := hE.1
  have hD := hD0.self (sz := s.heap.size)
  generalize hAe : va_A ([(h0, .inr (5, [.int 0, .int 0, .null, .null, .null, .null, .null]))] ++ R) s.heap.size = A at hD ⊢
  have hA : ∀ q : Nat, s.heap.size ≤ q → A q := fun q h => by rw [← hAe]; exact Or.inr h
  have hS : va_S A s.heap s.heap [] := va_S.rf
  have hl := lv_entry ([.ref h0]) (n := 1) (Nat.le_of_ble_eq_true rfl)
  rw [lg_entry_eq]
  generalize (lg_sl ([.ref h0]) ++ List.replicate (1 - (lg_sl ([.ref h0])).length) Slot.unset).toArray = ls at hl ⊢
  have hl : lv_has ls 1 [(0, .ref h0)] := hl
  change W p l e ({ frames := 1, cells := 13, slots := 5516, locals := 23 } : Room) s m _ below meth c s.heap [] 0 0 _ _
  refine lv_aload_n hx hb dX1_init_0 rfl (lv_at hl 0 rfl) ?_
  refine W.objInit hx hb hown (hts _ q103) (hts _ q57) (hts _ q58) rfl (by rw [hml]; exact hl.1) rfl dX1_init_1 (Nat.le_of_ble_eq_true rfl) (Nat.le_of_ble_eq_true rfl) ?_
  refine W.eq (g2 := F0 m 4 ls []) rfl ?_
  refine lv_aload_n hx hb dX1_init_4 rfl (lv_at hl 0 rfl) ?_
  refine lv_iconst (v := 0) hx hb dX1_init_5 (by decide) ?_
  refine va_put (D := D) (ci := 5) (v := .int 0) (ty := .int) (C := RX1) (T := TX1) (N := 7) hx hb hts inX1 tyX1 tyX1_ok nmX1 hown hK hP hD hS 0 rfl rfl 0 (by decide) (hts _ q107) (fun _ h9 => h9) rfl (by decide +kernel) rfl rfl (Nat.le_of_ble_eq_true rfl) dX1_init_6 (fun H locs hP hD hS => ?_)
  have hP : va_P D vwCl ([(h0, .inr (5, [.int 0, .int 0, .null, .null, .null, .null, .null]))] ++ R) H := hP
  have hD : va_D A ([(h0, .inr (5, [.int 0, .int 0, .null, .null, .null, .null, .null]))] ++ R) := hD
  refine lv_aload_n hx hb dX1_init_9 rfl (lv_at hl 0 rfl) ?_
  refine lv_iconst (v := 0) hx hb dX1_init_10 (by decide) ?_
  refine va_put (D := D) (ci := 5) (v := .int 0) (ty := .int) (C := RX1) (T := TX1) (N := 7) hx hb hts inX1 tyX1 tyX1_ok nmX1 hown hK hP hD hS 0 rfl rfl 1 (by decide) (hts _ q108) (fun _ h9 => h9) rfl (by decide +kernel) rfl rfl (Nat.le_of_ble_eq_true rfl) dX1_init_11 (fun H locs hP hD hS => ?_)
  have hP : va_P D vwCl ([(h0, .inr (5, [.int 0, .int 0, .null, .null, .null, .null, .null]))] ++ R) H := hP
  have hD : va_D A ([(h0, .inr (5, [.int 0, .int 0, .null, .null, .null, .null, .null]))] ++ R) := hD
  refine lv_aload_n hx hb dX1_init_14 rfl (lv_at hl 0 rfl) ?_
  refine lv_bipush (v := 30) hx hb dX1_init_15 (by decide) ?_
  refine va_newa (D := D) (atype := .int) (N' := 30) (a0 := (30, .inl (fun _ => 0))) hx hb (hts _ q96) rfl hK hP hD hS hA (fun _ => rfl) (by decide) rfl (Nat.le_of_ble_eq_true rfl) (Nat.le_of_ble_eq_true rfl) (Nat.le_of_ble_eq_true rfl) dX1_init_17 (fun q1 cA H hK9 hP hD hS => ?_)
  obtain rfl := va_same hK9 0 rfl
  replace hP := va_P.swap hP
  replace hD := va_D.swap hD
  have hP : va_P D vwCl ([(h0, .inr (5, [.int 0, .int 0, .null, .null, .null, .null, .null])), (q1, .inl (ca 0, 30, .inl (fun _ => 0)))] ++ R) H := hP
  have hD : va_D A ([(h0, .inr (5, [.int 0, .int 0, .null, .null, .null, .null, .null])), (q1, .inl (ca 0, 30, .inl (fun _ => 0)))] ++ R) := hD
  refine va_putF (D := D) (ci := 5) (v := .ref q1) (ty := (.array .int)) (C := RX1) (T := TX1) (N := 7) hx hb hts inX1 tyX1 tyX1_ok nmX1 hown hK hP hD hS 0 rfl rfl 2 (by decide) (hts _ q109) (fun _ h9 => h9) rfl hin rfl (by decide +kernel) rfl rfl (Nat.le_of_ble_eq_true rfl) dX1_init_19 (fun H locs hP hD hS => ?_)
  have hP : va_P D vwCl ([(h0, .inr (5, [.int 0, .int 0, .ref q1, .null, .null, .null, .null])), (q1, .inl (ca 0, 30, .inl (fun _ => 0)))] ++ R) H := hP
  have hD : va_D A ([(h0, .inr (5, [.int 0, .int 0, .ref q1, .null, .null, .null, .null])), (q1, .inl (ca 0, 30, .inl (fun _ => 0)))] ++ R) := hD
  refine lv_aload_n hx hb dX1_init_22 rfl (lv_at hl 0 rfl) ?_
  refine lv_bipush (v := 30) hx hb dX1_init_23 (by decide) ?_
  refine va_newa (D := D) (atype := .int) (N' := 30) (a0 := (30, .inl (fun _ => 0))) hx hb (hts _ q96) rfl hK hP hD hS hA (fun _ => rfl) (by decide) rfl (Nat.le_of_ble_eq_true rfl) (Nat.le_of_ble_eq_true rfl) (Nat.le_of_ble_eq_true rfl) dX1_init_25 (fun q2 cA H hK9 hP hD hS => ?_)
  obtain rfl := va_same hK9 0 rfl
  replace hP := va_P.swap hP
  replace hD := va_D.swap hD
  have hP : va_P D vwCl ([(h0, .inr (5, [.int 0, .int 0, .ref q1, .null, .null, .null, .null])), (q1, .inl (ca 0, 30, .inl (fun _ => 0))), (q2, .inl (ca 0, 30, .inl (fun _ => 0)))] ++ R) H := hP
  have hD : va_D A ([(h0, .inr (5, [.int 0, .int 0, .ref q1, .null, .null, .null, .null])), (q1, .inl (ca 0, 30, .inl (fun _ => 0))), (q2, .inl (ca 0, 30, .inl (fun _ => 0)))] ++ R) := hD
  refine va_putF (D := D) (ci := 5) (v := .ref q2) (ty := (.array .int)) (C := RX1) (T := TX1) (N := 7) hx hb hts inX1 tyX1 tyX1_ok nmX1 hown hK hP hD hS 0 rfl rfl 3 (by decide) (hts _ q110) (fun _ h9 => h9) rfl hin rfl (by decide +kernel) rfl rfl (Nat.le_of_ble_eq_true rfl) dX1_init_27 (fun H locs hP hD hS => ?_)
  have hP : va_P D vwCl ([(h0, .inr (5, [.int 0, .int 0, .ref q1, .ref q2, .null, .null, .null])), (q1, .inl (ca 0, 30, .inl (fun _ => 0))), (q2, .inl (ca 0, 30, .inl (fun _ => 0)))] ++ R) H := hP
  have hD : va_D A ([(h0, .inr (5, [.int 0, .int 0, .ref q1, .ref q2, .null, .null, .null])), (q1, .inl (ca 0, 30, .inl (fun _ => 0))), (q2, .inl (ca 0, 30, .inl (fun _ => 0)))] ++ R) := hD
  refine lv_aload_n hx hb dX1_init_30 rfl (lv_at hl 0 rfl) ?_
  refine va_get (D := D) (ci := 5) (v := .ref q2) (C := RX1) (T := TX1) (N := 7) hx hb hts inX1 hown hK hP 0 rfl rfl 3 (by decide) (hts _ q110) (fun _ h9 => h9) rfl dX1_init_31 ?_
  refine lv_iconst (v := (-1)) hx hb dX1_init_34 (by decide) ?_
  refine call_sv (rest := []) (m_fill l (w := [(h0, .inr (5, [.int 0, .int 0, .ref q1, .ref q2, .null, .null, .null])), (q1, .inl (ca 0, 30, .inl (fun _ => 0))), (q2, .inl (ca 0, 30, .inl (fun _ => 0)))] ++ R) (k := 2) (v := (-1)) (ca := ca) (sl := sl) rfl (Nat.le_of_ble_eq_true rfl)) ⟨hx, hb, hml, hown, hts⟩ (va_cwS 2 hts (gS q104 q66 q26 q67) rfl rfl rfl (by decide +kernel) ⟨Nat.le_of_ble_eq_true rfl, Nat.le_of_ble_eq_true rfl⟩) hE hP hD hS hA rfl hl.1 rfl (lv_room (Nat.le_of_ble_eq_true rfl)) dX1_init_35 ⟨Nat.le_of_ble_eq_true rfl, Nat.le_of_ble_eq_true rfl⟩ (fun H locs hP hD hS => ?_)
  have hP : va_P D vwCl ([(h0, .inr (5, [.int 0, .int 0, .ref q1, .ref q2, .null, .null, .null])), (q1, .inl (ca 0, 30, .inl (fun _ => 0))), (q2, .inl (ca 0, 30, .inl (fun j => if j < 30 then ((-1) : Int32) else (fun _ => 0) j)))] ++ R) H := hP
  have hD : va_D A ([(h0, .inr (5, [.int 0, .int 0, .ref q1, .ref q2, .null, .null, .null])), (q1, .inl (ca 0, 30, .inl (fun _ => 0))), (q2, .inl (ca 0, 30, .inl (fun j => if j < 30 then ((-1) : Int32) else (fun _ => 0) j)))] ++ R) := hD
  refine lv_aload_n hx hb dX1_init_38 rfl (lv_at hl 0 rfl) ?_
  refine lv_bipush (v := 8) hx hb dX1_init_39 (by decide) ?_
  refine va_newa (D := D) (atype := .boolean) (N' := 8) (a0 := (8, .inl (fun _ => 0))) hx hb (hts _ q97) rfl hK hP hD hS hA (fun _ => rfl) (by decide) rfl (Nat.le_of_ble_eq_true rfl) (Nat.le_of_ble_eq_true rfl) (Nat.le_of_ble_eq_true rfl) dX1_init_41 (fun q3 cA H hK9 hP hD hS => ?_)
  obtain rfl := va_same hK9 1 rfl
  replace hP := va_P.swap hP
  replace hD := va_D.swap hD
  have hP : va_P D vwCl ([(h0, .inr (5, [.int 0, .int 0, .ref q1, .ref q2, .null, .null, .null])), (q1, .inl (ca 0, 30, .inl (fun _ => 0))), (q2, .inl (ca 0, 30, .inl (fun j => if j < 30 then ((-1) : Int32) else (fun _ => 0) j))), (q3, .inl (ca 1, 8, .inl (fun _ => 0)))] ++ R) H := hP
  have hD : va_D A ([(h0, .inr (5, [.int 0, .int 0, .ref q1, .ref q2, .null, .null, .null])), (q1, .inl (ca 0, 30, .inl (fun _ => 0))), (q2, .inl (ca 0, 30, .inl (fun j => if j < 30 then ((-1) : Int32) else (fun _ => 0) j))), (q3, .inl (ca 1, 8, .inl (fun _ => 0)))] ++ R) := hD
  refine va_putF (D := D) (ci := 5) (v := .ref q3) (ty := (.array .boolean)) (C := RX1) (T := TX1) (N := 7) hx hb hts inX1 tyX1 tyX1_ok nmX1 hown hK hP hD hS 0 rfl rfl 4 (by decide) (hts _ q111) (fun _ h9 => h9) rfl hin rfl (by decide +kernel) rfl rfl (Nat.le_of_ble_eq_true rfl) dX1_init_43 (fun H locs hP hD hS => ?_)
  have hP : va_P D vwCl ([(h0, .inr (5, [.int 0, .int 0, .ref q1, .ref q2, .ref q3, .null, .null])), (q1, .inl (ca 0, 30, .inl (fun _ => 0))), (q2, .inl (ca 0, 30, .inl (fun j => if j < 30 then ((-1) : Int32) else (fun _ => 0) j))), (q3, .inl (ca 1, 8, .inl (fun _ => 0)))] ++ R) H := hP
  have hD : va_D A ([(h0, .inr (5, [.int 0, .int 0, .ref q1, .ref q2, .ref q3, .null, .null])), (q1, .inl (ca 0, 30, .inl (fun _ => 0))), (q2, .inl (ca 0, 30, .inl (fun j => if j < 30 then ((-1) : Int32) else (fun _ => 0) j))), (q3, .inl (ca 1, 8, .inl (fun _ => 0)))] ++ R) := hD
  refine lv_aload_n hx hb dX1_init_46 rfl (lv_at hl 0 rfl) ?_
  refine lv_sipush (v := 320) hx hb dX1_init_47 (by decide) ?_
  refine va_newa (D := D) (atype := .boolean) (N' := 320) (a0 := (320, .inl (fun _ => 0))) hx hb (hts _ q97) rfl hK hP hD hS hA (fun _ => rfl) (by decide) rfl (Nat.le_of_ble_eq_true rfl) (Nat.le_of_ble_eq_true rfl) (Nat.le_of_ble_eq_true rfl) dX1_init_50 (fun q4 cA H hK9 hP hD hS => ?_)
  obtain rfl := va_same hK9 1 rfl
  replace hP := va_P.swap hP
  replace hD := va_D.swap hD
  have hP : va_P D vwCl ([(h0, .inr (5, [.int 0, .int 0, .ref q1, .ref q2, .ref q3, .null, .null])), (q1, .inl (ca 0, 30, .inl (fun _ => 0))), (q2, .inl (ca 0, 30, .inl (fun j => if j < 30 then ((-1) : Int32) else (fun _ => 0) j))), (q3, .inl (ca 1, 8, .inl (fun _ => 0))), (q4, .inl (ca 1, 320, .inl (fun _ => 0)))] ++ R) H := hP
  have hD : va_D A ([(h0, .inr (5, [.int 0, .int 0, .ref q1, .ref q2, .ref q3, .null, .null])), (q1, .inl (ca 0, 30, .inl (fun _ => 0))), (q2, .inl (ca 0, 30, .inl (fun j => if j < 30 then ((-1) : Int32) else (fun _ => 0) j))), (q3, .inl (ca 1, 8, .inl (fun _ => 0))), (q4, .inl (ca 1, 320, .inl (fun _ => 0)))] ++ R) := hD
  refine va_putF (D := D) (ci := 5) (v := .ref q4) (ty := (.array .boolean)) (C := RX1) (T := TX1) (N := 7) hx hb hts inX1 tyX1 tyX1_ok nmX1 hown hK hP hD hS 0 rfl rfl 5 (by decide) (hts _ q112) (fun _ h9 => h9) rfl hin rfl (by decide +kernel) rfl rfl (Nat.le_of_ble_eq_true rfl) dX1_init_52 (fun H locs hP hD hS => ?_)
  have hP : va_P D vwCl ([(h0, .inr (5, [.int 0, .int 0, .ref q1, .ref q2, .ref q3, .ref q4, .null])), (q1, .inl (ca 0, 30, .inl (fun _ => 0))), (q2, .inl (ca 0, 30, .inl (fun j => if j < 30 then ((-1) : Int32) else (fun _ => 0) j))), (q3, .inl (ca 1, 8, .inl (fun _ => 0))), (q4, .inl (ca 1, 320, .inl (fun _ => 0)))] ++ R) H := hP
  have hD : va_D A ([(h0, .inr (5, [.int 0, .int 0, .ref q1, .ref q2, .ref q3, .ref q4, .null])), (q1, .inl (ca 0, 30, .inl (fun _ => 0))), (q2, .inl (ca 0, 30, .inl (fun j => if j < 30 then ((-1) : Int32) else (fun _ => 0) j))), (q3, .inl (ca 1, 8, .inl (fun _ => 0))), (q4, .inl (ca 1, 320, .inl (fun _ => 0)))] ++ R) := hD
  refine lv_aload_n hx hb dX1_init_55 rfl (lv_at hl 0 rfl) ?_
  refine lv_bipush (v := 8) hx hb dX1_init_56 (by decide) ?_
  refine lv_sipush (v := 640) hx hb dX1_init_58 (by decide) ?_
  replace hP : va_P D vwCl (([(h0, .inr (5, [.int 0, .int 0, .ref q1, .ref q2, .ref q3, .ref q4, .null])), (q1, .inl (ca 0, 30, .inl (fun _ => 0))), (q2, .inl (ca 0, 30, .inl (fun j => if j < 30 then ((-1) : Int32) else (fun _ => 0) j))), (q3, .inl (ca 1, 8, .inl (fun _ => 0))), (q4, .inl (ca 1, 320, .inl (fun _ => 0)))] ++ R) ++ []) H := by rw [List.append_nil]; exact hP
  replace hD : va_D A (([(h0, .inr (5, [.int 0, .int 0, .ref q1, .ref q2, .ref q3, .ref q4, .null])), (q1, .inl (ca 0, 30, .inl (fun _ => 0))), (q2, .inl (ca 0, 30, .inl (fun j => if j < 30 then ((-1) : Int32) else (fun _ => 0) j))), (q3, .inl (ca 1, 8, .inl (fun _ => 0))), (q4, .inl (ca 1, 320, .inl (fun _ => 0)))] ++ R) ++ []) := by rw [List.append_nil]; exact hD
  refine va_mna (D := D) (L := []) (f := fun _ => .inr (0, [])) (ty := .int) (N' := 8) (K' := 640) (z := (640, .inl (fun _ => 0))) hx hb hown (hts _ q105) (va_AOA_of hE) (hts _ q96) (va_RA_find hK 0 rfl) hK hP hD hS hA (by decide) (by decide) rfl rfl (Nat.le_of_ble_eq_true rfl) (Nat.le_of_ble_eq_true rfl) (Nat.le_of_ble_eq_true rfl) rfl rfl (Nat.le_of_ble_eq_true rfl) (Nat.le_of_ble_eq_true rfl) (fun c9 => va_inner c9 640) dX1_init_61 (fun q9 r9 cA H hr9 _ hK9 hP hD hS => ?_)
  obtain rfl := va_same hK9 4 rfl
  replace hP := mna_P hP
  replace hD := mna_D hD
  have hP : va_P D vwCl ([(h0, .inr (5, [.int 0, .int 0, .ref q1, .ref q2, .ref q3, .ref q4, .null])), (q1, .inl (ca 0, 30, .inl (fun _ => 0))), (q2, .inl (ca 0, 30, .inl (fun j => if j < 30 then ((-1) : Int32) else (fun _ => 0) j))), (q3, .inl (ca 1, 8, .inl (fun _ => 0))), (q4, .inl (ca 1, 320, .inl (fun _ => 0))), (q9, .inl (ca 4, 8, .inr (.inr (.inr (.inr (fun i => some (r9 i))))))), ((r9 0), .inl (ca 0, 640, .inl (fun _ => 0))), ((r9 1), .inl (ca 0, 640, .inl (fun _ => 0))), ((r9 2), .inl (ca 0, 640, .inl (fun _ => 0))), ((r9 3), .inl (ca 0, 640, .inl (fun _ => 0))), ((r9 4), .inl (ca 0, 640, .inl (fun _ => 0))), ((r9 5), .inl (ca 0, 640, .inl (fun _ => 0))), ((r9 6), .inl (ca 0, 640, .inl (fun _ => 0))), ((r9 7), .inl (ca 0, 640, .inl (fun _ => 0)))] ++ R) H := hP
  have hD : va_D A ([(h0, .inr (5, [.int 0, .int 0, .ref q1, .ref q2, .ref q3, .ref q4, .null])), (q1, .inl (ca 0, 30, .inl (fun _ => 0))), (q2, .inl (ca 0, 30, .inl (fun j => if j < 30 then ((-1) : Int32) else (fun _ => 0) j))), (q3, .inl (ca 1, 8, .inl (fun _ => 0))), (q4, .inl (ca 1, 320, .inl (fun _ => 0))), (q9, .inl (ca 4, 8, .inr (.inr (.inr (.inr (fun i => some (r9 i))))))), ((r9 0), .inl (ca 0, 640, .inl (fun _ => 0))), ((r9 1), .inl (ca 0, 640, .inl (fun _ => 0))), ((r9 2), .inl (ca 0, 640, .inl (fun _ => 0))), ((r9 3), .inl (ca 0, 640, .inl (fun _ => 0))), ((r9 4), .inl (ca 0, 640, .inl (fun _ => 0))), ((r9 5), .inl (ca 0, 640, .inl (fun _ => 0))), ((r9 6), .inl (ca 0, 640, .inl (fun _ => 0))), ((r9 7), .inl (ca 0, 640, .inl (fun _ => 0)))] ++ R) := hD
  refine va_putF (D := D) (ci := 5) (v := .ref q9) (ty := (.array (.array .int))) (C := RX1) (T := TX1) (N := 7) hx hb hts inX1 tyX1 tyX1_ok nmX1 hown hK hP hD hS 0 rfl rfl 6 (by decide) (hts _ q113) (fun _ h9 => h9) rfl hin rfl (by decide +kernel) rfl rfl (Nat.le_of_ble_eq_true rfl) dX1_init_65 (fun H locs hP hD hS => ?_)
  have hP : va_P D vwCl ([(h0, .inr (5, [.int 0, .int 0, .ref q1, .ref q2, .ref q3, .ref q4, .ref q9])), (q1, .inl (ca 0, 30, .inl (fun _ => 0))), (q2, .inl (ca 0, 30, .inl (fun j => if j < 30 then ((-1) : Int32) else (fun _ => 0) j))), (q3, .inl (ca 1, 8, .inl (fun _ => 0))), (q4, .inl (ca 1, 320, .inl (fun _ => 0))), (q9, .inl (ca 4, 8, .inr (.inr (.inr (.inr (fun i => some (r9 i))))))), ((r9 0), .inl (ca 0, 640, .inl (fun _ => 0))), ((r9 1), .inl (ca 0, 640, .inl (fun _ => 0))), ((r9 2), .inl (ca 0, 640, .inl (fun _ => 0))), ((r9 3), .inl (ca 0, 640, .inl (fun _ => 0))), ((r9 4), .inl (ca 0, 640, .inl (fun _ => 0))), ((r9 5), .inl (ca 0, 640, .inl (fun _ => 0))), ((r9 6), .inl (ca 0, 640, .inl (fun _ => 0))), ((r9 7), .inl (ca 0, 640, .inl (fun _ => 0)))] ++ R) H := hP
  have hD : va_D A ([(h0, .inr (5, [.int 0, .int 0, .ref q1, .ref q2, .ref q3, .ref q4, .ref q9])), (q1, .inl (ca 0, 30, .inl (fun _ => 0))), (q2, .inl (ca 0, 30, .inl (fun j => if j < 30 then ((-1) : Int32) else (fun _ => 0) j))), (q3, .inl (ca 1, 8, .inl (fun _ => 0))), (q4, .inl (ca 1, 320, .inl (fun _ => 0))), (q9, .inl (ca 4, 8, .inr (.inr (.inr (.inr (fun i => some (r9 i))))))), ((r9 0), .inl (ca 0, 640, .inl (fun _ => 0))), ((r9 1), .inl (ca 0, 640, .inl (fun _ => 0))), ((r9 2), .inl (ca 0, 640, .inl (fun _ => 0))), ((r9 3), .inl (ca 0, 640, .inl (fun _ => 0))), ((r9 4), .inl (ca 0, 640, .inl (fun _ => 0))), ((r9 5), .inl (ca 0, 640, .inl (fun _ => 0))), ((r9 6), .inl (ca 0, 640, .inl (fun _ => 0))), ((r9 7), .inl (ca 0, 640, .inl (fun _ => 0)))] ++ R) := hD
  have e9 : (fun i => some (r9 i)) = (fun i => some ((fun k => if 6 ≤ k then r9 (k - 6) else ([0, q1, q2, q3, q4, q9] : List Nat).getD k 0) (6 + i))) := by
    funext i
    show some (r9 i) = some (if 6 ≤ 6 + i then r9 (6 + i - 6) else _)
    rw [if_pos (Nat.le_add_right 6 i), Nat.add_sub_cancel_left]
  rw [e9] at hP hD
  exact endu_v (fun k => if 6 ≤ k then r9 (k - 6) else ([0, q1, q2, q3, q4, q9] : List Nat).getD k 0) hAe hx hb hr hlocks hP hD hS dX1_init_68 (Nat.le_of_ble_eq_true rfl) (Nat.le_of_ble_eq_true rfl)
abbrev GH (ca : Nat → ClassId) (h0 : Nat) (u : Nat → Nat) : va_W :=
  [(h0, .inr (4, [.int 0, .ref (u 1), .ref (u 2), .ref (u 3)])),
   ((u 1), .inl (ca 0, 30, .inl (fun _ => 0))),
   ((u 2), .inl (ca 0, 30, .inl (fun _ => 0))),
   ((u 3), .inl (ca 1, 30, .inl (fun _ => 0)))]
set_option maxHeartbeats 4000000 in
set_option maxRecDepth 100000 in
theorem c_X0_init (l : Launch) {D : va_G} {ca : Nat → ClassId} {sl : List (String × Nat × String)} (h0 : Nat) (R : va_W) (sz : Nat) : Met l yX0_init (wm yX0_init cX0_init 1 none) ({ frames := 1, cells := 3, slots := 90, locals := 20 } : Room) (PRE [.ref h0] D ca sl ([(h0, .inr (4, [.int 0, .null, .null, .null]))] ++ R) sz) (QU (fun u => GH ca h0 u ++ R) D ([(h0, .inr (4, [.int 0, .null, .null, .null]))] ++ R) sz) 3 90 (va_A ([(h0, .inr (4, [.int 0, .null, .null, .null]))] ++ R) sz) := by
  refine Met.ofW (cc := cX0_init) (maxL := 1) (ret := none) (by decide) rfl ?_
  intro p e s m args below meth c s₁ B hml hv
  obtain ⟨rfl, rfl, hP, hE, hD0⟩ := hv
  have hx := B.exec
  have hb := B.bytes
  have hr := B.returns
  have hts := wm_ww (atoms_spec (ws := wm yX0_init cX0_init 1 none) B.pre)
  have hown : s.vm.findClass RX0 = some m.cls := findClass_of_methodNamed B.named
  have hlocks := B.notSynchronized
  have hin : meth.name = "<init>" := (name_of_methodNamed B.named B.method).1
  have hK := hE.1
  have hD := hD0.self (sz := s.heap.size)
  generalize hAe : va_A ([(h0, .inr (4, [.int 0, .null, .null, .null]))] ++ R) s.heap.size = A at hD ⊢
  have hA : ∀ q : Nat, s.heap.size ≤ q → A q := fun q h => by rw [← hAe]; exact Or.inr h
  have hS : va_S A s.heap s.heap [] := va_S.rf
  have hl := lv_entry ([.ref h0]) (n := 1) (Nat.le_of_ble_eq_true rfl)
  rw [lg_entry_eq]
  generalize (lg_sl ([.ref h0]) ++ List.replicate (1 - (lg_sl ([.ref h0])).length) Slot.unset).toArray = ls at hl ⊢
  have hl : lv_has ls 1 [(0, .ref h0)] := hl
  change W p l e ({ frames := 1, cells := 3, slots := 90, locals := 20 } : Room) s m _ below meth c s.heap [] 0 0 _ _
  refine lv_aload_n hx hb dX0_init_0 rfl (lv_at hl 0 rfl) ?_
  refine W.objInit hx hb hown (hts _ q135) (hts _ q57) (hts _ q58) rfl (by rw [hml]; exact hl.1) rfl dX0_init_1 (Nat.le_of_ble_eq_true rfl) (Nat.le_of_ble_eq_true rfl) ?_
  refine W.eq (g2 := F0 m 4 ls []) rfl ?_
  refine lv_aload_n hx hb dX0_init_4 rfl (lv_at hl 0 rfl) ?_
  refine lv_iconst (v := 0) hx hb dX0_init_5 (by decide) ?_
  refine va_put (D := D) (ci := 4) (v := .int 0) (ty := .int) (C := RX0) (T := TX0) (N := 4) hx hb hts inX0 tyX0 tyX0_ok nmX0 hown hK hP hD hS 0 rfl rfl 0 (by decide) (hts _ q136) (fun _ h9 => h9) rfl (by decide +kernel) rfl rfl (Nat.le_of_ble_eq_true rfl) dX0_init_6 (fun H locs hP hD hS => ?_)
  have hP : va_P D vwCl ([(h0, .inr (4, [.int 0, .null, .null, .null]))] ++ R) H := hP
  have hD : va_D A ([(h0, .inr (4, [.int 0, .null, .null, .null]))] ++ R) := hD
  refine lv_aload_n hx hb dX0_init_9 rfl (lv_at hl 0 rfl) ?_
  refine lv_bipush (v := 30) hx hb dX0_init_10 (by decide) ?_
  refine va_newa (D := D) (atype := .int) (N' := 30) (a0 := (30, .inl (fun _ => 0))) hx hb (hts _ q96) rfl hK hP hD hS hA (fun _ => rfl) (by decide) rfl (Nat.le_of_ble_eq_true rfl) (Nat.le_of_ble_eq_true rfl) (Nat.le_of_ble_eq_true rfl) dX0_init_12 (fun q1 cA H hK9 hP hD hS => ?_)
  obtain rfl := va_same hK9 0 rfl
  replace hP := va_P.swap hP
  replace hD := va_D.swap hD
  have hP : va_P D vwCl ([(h0, .inr (4, [.int 0, .null, .null, .null])), (q1, .inl (ca 0, 30, .inl (fun _ => 0)))] ++ R) H := hP
  have hD : va_D A ([(h0, .inr (4, [.int 0, .null, .null, .null])), (q1, .inl (ca 0, 30, .inl (fun _ => 0)))] ++ R) := hD
  refine va_putF (D := D) (ci := 4) (v := .ref q1) (ty := (.array .int)) (C := RX0) (T := TX0) (N := 4) hx hb hts inX0 tyX0 tyX0_ok nmX0 hown hK hP hD hS 0 rfl rfl 1 (by decide) (hts _ q137) (fun _ h9 => h9) rfl hin rfl (by decide +kernel) rfl rfl (Nat.le_of_ble_eq_true rfl) dX0_init_14 (fun H locs hP hD hS => ?_)
  have hP : va_P D vwCl ([(h0, .inr (4, [.int 0, .ref q1, .null, .null])), (q1, .inl (ca 0, 30, .inl (fun _ => 0)))] ++ R) H := hP
  have hD : va_D A ([(h0, .inr (4, [.int 0, .ref q1, .null, .null])), (q1, .inl (ca 0, 30, .inl (fun _ => 0)))] ++ R) := hD
  refine lv_aload_n hx hb dX0_init_17 rfl (lv_at hl 0 rfl) ?_
  refine lv_bipush (v := 30) hx hb dX0_init_18 (by decide) ?_
  refine va_newa (D := D) (atype := .int) (N' := 30) (a0 := (30, .inl (fun _ => 0))) hx hb (hts _ q96) rfl hK hP hD hS hA (fun _ => rfl) (by decide) rfl (Nat.le_of_ble_eq_true rfl) (Nat.le_of_ble_eq_true rfl) (Nat.le_of_ble_eq_true rfl) dX0_init_20 (fun q2 cA H hK9 hP hD hS => ?_)
  obtain rfl := va_same hK9 0 rfl
  replace hP := va_P.swap hP
  replace hD := va_D.swap hD
  have hP : va_P D vwCl ([(h0, .inr (4, [.int 0, .ref q1, .null, .null])), (q1, .inl (ca 0, 30, .inl (fun _ => 0))), (q2, .inl (ca 0, 30, .inl (fun _ => 0)))] ++ R) H := hP
  have hD : va_D A ([(h0, .inr (4, [.int 0, .ref q1, .null, .null])), (q1, .inl (ca 0, 30, .inl (fun _ => 0))), (q2, .inl (ca 0, 30, .inl (fun _ => 0)))] ++ R) := hD
  refine va_putF (D := D) (ci := 4) (v := .ref q2) (ty := (.array .int)) (C := RX0) (T := TX0) (N := 4) hx hb hts inX0 tyX0 tyX0_ok nmX0 hown hK hP hD hS 0 rfl rfl 2 (by decide) (hts _ q138) (fun _ h9 => h9) rfl hin rfl (by decide +kernel) rfl rfl (Nat.le_of_ble_eq_true rfl) dX0_init_22 (fun H locs hP hD hS => ?_)
  have hP : va_P D vwCl ([(h0, .inr (4, [.int 0, .ref q1, .ref q2, .null])), (q1, .inl (ca 0, 30, .inl (fun _ => 0))), (q2, .inl (ca 0, 30, .inl (fun _ => 0)))] ++ R) H := hP
  have hD : va_D A ([(h0, .inr (4, [.int 0, .ref q1, .ref q2, .null])), (q1, .inl (ca 0, 30, .inl (fun _ => 0))), (q2, .inl (ca 0, 30, .inl (fun _ => 0)))] ++ R) := hD
  refine lv_aload_n hx hb dX0_init_25 rfl (lv_at hl 0 rfl) ?_
  refine lv_bipush (v := 30) hx hb dX0_init_26 (by decide) ?_
  refine va_newa (D := D) (atype := .boolean) (N' := 30) (a0 := (30, .inl (fun _ => 0))) hx hb (hts _ q97) rfl hK hP hD hS hA (fun _ => rfl) (by decide) rfl (Nat.le_of_ble_eq_true rfl) (Nat.le_of_ble_eq_true rfl) (Nat.le_of_ble_eq_true rfl) dX0_init_28 (fun q3 cA H hK9 hP hD hS => ?_)
  obtain rfl := va_same hK9 1 rfl
  replace hP := va_P.swap hP
  replace hD := va_D.swap hD
  have hP : va_P D vwCl ([(h0, .inr (4, [.int 0, .ref q1, .ref q2, .null])), (q1, .inl (ca 0, 30, .inl (fun _ => 0))), (q2, .inl (ca 0, 30, .inl (fun _ => 0))), (q3, .inl (ca 1, 30, .inl (fun _ => 0)))] ++ R) H := hP
  have hD : va_D A ([(h0, .inr (4, [.int 0, .ref q1, .ref q2, .null])), (q1, .inl (ca 0, 30, .inl (fun _ => 0))), (q2, .inl (ca 0, 30, .inl (fun _ => 0))), (q3, .inl (ca 1, 30, .inl (fun _ => 0)))] ++ R) := hD
  refine va_putF (D := D) (ci := 4) (v := .ref q3) (ty := (.array .boolean)) (C := RX0) (T := TX0) (N := 4) hx hb hts inX0 tyX0 tyX0_ok nmX0 hown hK hP hD hS 0 rfl rfl 3 (by decide) (hts _ q139) (fun _ h9 => h9) rfl hin rfl (by decide +kernel) rfl rfl (Nat.le_of_ble_eq_true rfl) dX0_init_30 (fun H locs hP hD hS => ?_)
  have hP : va_P D vwCl ([(h0, .inr (4, [.int 0, .ref q1, .ref q2, .ref q3])), (q1, .inl (ca 0, 30, .inl (fun _ => 0))), (q2, .inl (ca 0, 30, .inl (fun _ => 0))), (q3, .inl (ca 1, 30, .inl (fun _ => 0)))] ++ R) H := hP
  have hD : va_D A ([(h0, .inr (4, [.int 0, .ref q1, .ref q2, .ref q3])), (q1, .inl (ca 0, 30, .inl (fun _ => 0))), (q2, .inl (ca 0, 30, .inl (fun _ => 0))), (q3, .inl (ca 1, 30, .inl (fun _ => 0)))] ++ R) := hD
  exact endu_v (fun k => ([0, q1, q2, q3] : List Nat).getD k 0) hAe hx hb hr hlocks hP hD hS dX0_init_33 (Nat.le_of_ble_eq_true rfl) (Nat.le_of_ble_eq_true rfl)
